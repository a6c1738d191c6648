-- decode rows: laid by gen_names.py
theorem dX6_init_0 : decode cX6_init 0 = .ok (.aload_n 0, 1) := by decide +kernel
theorem dX6_init_1 : decode cX6_init 1 = .ok (.invokespecial 1, 3) := by decide +kernel
theorem dX6_init_4 : decode cX6_init 4 = .ok (.aload_n 0, 1) := by decide +kernel
theorem dX6_init_5 : decode cX6_init 5 = .ok (.new 7, 3) := by decide +kernel
theorem dX6_init_8 : decode cX6_init 8 = .ok (.dup, 1) := by decide +kernel
theorem dX6_init_9 : decode cX6_init 9 = .ok (.invokespecial 9, 3) := by decide +kernel
theorem dX6_init_12 : decode cX6_init 12 = .ok (.putfield 10, 3) := by decide +kernel
theorem dX6_init_15 : decode cX6_init 15 = .ok (.aload_n 0, 1) := by decide +kernel
theorem dX6_init_16 : decode cX6_init 16 = .ok (.new 16, 3) := by decide +kernel
theorem dX6_init_19 : decode cX6_init 19 = .ok (.dup, 1) := by decide +kernel
theorem dX6_init_20 : decode cX6_init 20 = .ok (.invokespecial 18, 3) := by decide +kernel
theorem dX6_init_23 : decode cX6_init 23 = .ok (.putfield 19, 3) := by decide +kernel
theorem dX6_init_26 : decode cX6_init 26 = .ok (.aload_n 0, 1) := by decide +kernel
theorem dX6_init_27 : decode cX6_init 27 = .ok (.new 16, 3) := by decide +kernel
theorem dX6_init_30 : decode cX6_init 30 = .ok (.dup, 1) := by decide +kernel
theorem dX6_init_31 : decode cX6_init 31 = .ok (.invokespecial 18, 3) := by decide +kernel
theorem dX6_init_34 : decode cX6_init 34 = .ok (.putfield 23, 3) := by decide +kernel
theorem dX6_init_37 : decode cX6_init 37 = .ok (.aload_n 0, 1) := by decide +kernel
theorem dX6_init_38 : decode cX6_init 38 = .ok (.new 26, 3) := by decide +kernel
theorem dX6_init_41 : decode cX6_init 41 = .ok (.dup, 1) := by decide +kernel
theorem dX6_init_42 : decode cX6_init 42 = .ok (.invokespecial 28, 3) := by decide +kernel
theorem dX6_init_45 : decode cX6_init 45 = .ok (.putfield 29, 3) := by decide +kernel
theorem dX6_init_48 : decode cX6_init 48 = .ok (.aload_n 0, 1) := by decide +kernel
theorem dX6_init_49 : decode cX6_init 49 = .ok (.iconst 2, 1) := by decide +kernel
theorem dX6_init_50 : decode cX6_init 50 = .ok (.anewarray 16, 3) := by decide +kernel
theorem dX6_init_53 : decode cX6_init 53 = .ok (.putfield 33, 3) := by decide +kernel
theorem dX6_init_56 : decode cX6_init 56 = .ok (.iconst 0, 1) := by decide +kernel
theorem dX6_init_57 : decode cX6_init 57 = .ok (.istore_n 1, 1) := by decide +kernel
theorem dX6_init_58 : decode cX6_init 58 = .ok (.iload_n 1, 1) := by decide +kernel
theorem dX6_init_59 : decode cX6_init 59 = .ok (.iconst 2, 1) := by decide +kernel
theorem dX6_init_60 : decode cX6_init 60 = .ok (.if_icmp .ge 22, 3) := by decide +kernel
theorem dX6_init_63 : decode cX6_init 63 = .ok (.aload_n 0, 1) := by decide +kernel
theorem dX6_init_64 : decode cX6_init 64 = .ok (.getfield 33, 3) := by decide +kernel
theorem dX6_init_67 : decode cX6_init 67 = .ok (.iload_n 1, 1) := by decide +kernel
theorem dX6_init_68 : decode cX6_init 68 = .ok (.new 16, 3) := by decide +kernel
theorem dX6_init_71 : decode cX6_init 71 = .ok (.dup, 1) := by decide +kernel
theorem dX6_init_72 : decode cX6_init 72 = .ok (.invokespecial 18, 3) := by decide +kernel
theorem dX6_init_75 : decode cX6_init 75 = .ok (.aastore, 1) := by decide +kernel
theorem dX6_init_76 : decode cX6_init 76 = .ok (.iinc 1 1, 3) := by decide +kernel
theorem dX6_init_79 : decode cX6_init 79 = .ok (.goto (-21), 3) := by decide +kernel
theorem dX6_init_82 : decode cX6_init 82 = .ok (.aload_n 0, 1) := by decide +kernel
theorem dX6_init_83 : decode cX6_init 83 = .ok (.iconst 2, 1) := by decide +kernel
theorem dX6_init_84 : decode cX6_init 84 = .ok (.newarray .boolean, 2) := by decide +kernel
theorem dX6_init_86 : decode cX6_init 86 = .ok (.putfield 37, 3) := by decide +kernel
theorem dX6_init_89 : decode cX6_init 89 = .ok (.return_, 1) := by decide +kernel
theorem dX6_append_0 : decode cX6_append 0 = .ok (.iload_n 1, 1) := by decide +kernel
theorem dX6_append_1 : decode cX6_append 1 = .ok (.ifCond .lt 10, 3) := by decide +kernel
theorem dX6_append_4 : decode cX6_append 4 = .ok (.iload_n 1, 1) := by decide +kernel
theorem dX6_append_5 : decode cX6_append 5 = .ok (.sipush 255, 3) := by decide +kernel
theorem dX6_append_8 : decode cX6_append 8 = .ok (.if_icmp .le 13, 3) := by decide +kernel
theorem dX6_append_11 : decode cX6_append 11 = .ok (.new 41, 3) := by decide +kernel
theorem dX6_append_14 : decode cX6_append 14 = .ok (.dup, 1) := by decide +kernel
theorem dX6_append_15 : decode cX6_append 15 = .ok (.ldc 43, 2) := by decide +kernel
theorem dX6_append_17 : decode cX6_append 17 = .ok (.invokespecial 45, 3) := by decide +kernel
theorem dX6_append_20 : decode cX6_append 20 = .ok (.athrow, 1) := by decide +kernel
theorem dX6_append_21 : decode cX6_append 21 = .ok (.aload_n 0, 1) := by decide +kernel
theorem dX6_append_22 : decode cX6_append 22 = .ok (.getfield 10, 3) := by decide +kernel
theorem dX6_append_25 : decode cX6_append 25 = .ok (.invokevirtual 48, 3) := by decide +kernel
theorem dX6_append_28 : decode cX6_append 28 = .ok (.ifCond .eq 13, 3) := by decide +kernel
theorem dX6_append_31 : decode cX6_append 31 = .ok (.new 52, 3) := by decide +kernel
theorem dX6_append_34 : decode cX6_append 34 = .ok (.dup, 1) := by decide +kernel
theorem dX6_append_35 : decode cX6_append 35 = .ok (.ldc 54, 2) := by decide +kernel
theorem dX6_append_37 : decode cX6_append 37 = .ok (.invokespecial 56, 3) := by decide +kernel
theorem dX6_append_40 : decode cX6_append 40 = .ok (.athrow, 1) := by decide +kernel
theorem dX6_append_41 : decode cX6_append 41 = .ok (.aload_n 0, 1) := by decide +kernel
theorem dX6_append_42 : decode cX6_append 42 = .ok (.getfield 10, 3) := by decide +kernel
theorem dX6_append_45 : decode cX6_append 45 = .ok (.iload_n 1, 1) := by decide +kernel
theorem dX6_append_46 : decode cX6_append 46 = .ok (.i2c, 1) := by decide +kernel
theorem dX6_append_47 : decode cX6_append 47 = .ok (.invokevirtual 57, 3) := by decide +kernel
theorem dX6_append_50 : decode cX6_append 50 = .ok (.ireturn, 1) := by decide +kernel
theorem dX6_clearText_0 : decode cX6_clearText 0 = .ok (.aload_n 0, 1) := by decide +kernel
theorem dX6_clearText_1 : decode cX6_clearText 1 = .ok (.getfield 10, 3) := by decide +kernel
theorem dX6_clearText_4 : decode cX6_clearText 4 = .ok (.invokevirtual 61, 3) := by decide +kernel
theorem dX6_clearText_7 : decode cX6_clearText 7 = .ok (.ireturn, 1) := by decide +kernel
theorem dX6_errorPosition_0 : decode cX6_errorPosition 0 = .ok (.aload_n 0, 1) := by decide +kernel
theorem dX6_errorPosition_1 : decode cX6_errorPosition 1 = .ok (.getfield 10, 3) := by decide +kernel
theorem dX6_errorPosition_4 : decode cX6_errorPosition 4 = .ok (.iload_n 1, 1) := by decide +kernel
theorem dX6_errorPosition_5 : decode cX6_errorPosition 5 = .ok (.invokevirtual 65, 3) := by decide +kernel
theorem dX6_errorPosition_8 : decode cX6_errorPosition 8 = .ok (.ireturn, 1) := by decide +kernel
theorem dX6_about_0 : decode cX6_about 0 = .ok (.iload_n 1, 1) := by decide +kernel
theorem dX6_about_1 : decode cX6_about 1 = .ok (.ifCond .lt 9, 3) := by decide +kernel
theorem dX6_about_4 : decode cX6_about 4 = .ok (.iload_n 1, 1) := by decide +kernel
theorem dX6_about_5 : decode cX6_about 5 = .ok (.bipush 8, 2) := by decide +kernel
theorem dX6_about_7 : decode cX6_about 7 = .ok (.if_icmp .le 13, 3) := by decide +kernel
theorem dX6_about_10 : decode cX6_about 10 = .ok (.new 41, 3) := by decide +kernel
theorem dX6_about_13 : decode cX6_about 13 = .ok (.dup, 1) := by decide +kernel
theorem dX6_about_14 : decode cX6_about 14 = .ok (.ldc 69, 2) := by decide +kernel
theorem dX6_about_16 : decode cX6_about 16 = .ok (.invokespecial 45, 3) := by decide +kernel
theorem dX6_about_19 : decode cX6_about 19 = .ok (.athrow, 1) := by decide +kernel
theorem dX6_about_20 : decode cX6_about 20 = .ok (.iload_n 1, 1) := by decide +kernel
theorem dX6_about_21 : decode cX6_about 21 = .ok (.tableswitch 133 0 7 #[47, 58, 71, 84, 95, 103, 111, 122], 47) := by decide +kernel
theorem dX6_about_68 : decode cX6_about 68 = .ok (.aload_n 0, 1) := by decide +kernel
theorem dX6_about_69 : decode cX6_about 69 = .ok (.getfield 19, 3) := by decide +kernel
theorem dX6_about_72 : decode cX6_about 72 = .ok (.getfield 71, 3) := by decide +kernel
theorem dX6_about_75 : decode cX6_about 75 = .ok (.getfield 75, 3) := by decide +kernel
theorem dX6_about_78 : decode cX6_about 78 = .ok (.ireturn, 1) := by decide +kernel
theorem dX6_about_79 : decode cX6_about 79 = .ok (.aload_n 0, 1) := by decide +kernel
theorem dX6_about_80 : decode cX6_about 80 = .ok (.getfield 19, 3) := by decide +kernel
theorem dX6_about_83 : decode cX6_about 83 = .ok (.getfield 71, 3) := by decide +kernel
theorem dX6_about_86 : decode cX6_about 86 = .ok (.bipush 46, 2) := by decide +kernel
theorem dX6_about_88 : decode cX6_about 88 = .ok (.invokevirtual 81, 3) := by decide +kernel
theorem dX6_about_91 : decode cX6_about 91 = .ok (.ireturn, 1) := by decide +kernel
theorem dX6_about_92 : decode cX6_about 92 = .ok (.aload_n 0, 1) := by decide +kernel
theorem dX6_about_93 : decode cX6_about 93 = .ok (.getfield 19, 3) := by decide +kernel
theorem dX6_about_96 : decode cX6_about 96 = .ok (.getfield 71, 3) := by decide +kernel
theorem dX6_about_99 : decode cX6_about 99 = .ok (.bipush 63, 2) := by decide +kernel
theorem dX6_about_101 : decode cX6_about 101 = .ok (.invokevirtual 81, 3) := by decide +kernel
theorem dX6_about_104 : decode cX6_about 104 = .ok (.ireturn, 1) := by decide +kernel
theorem dX6_about_105 : decode cX6_about 105 = .ok (.aload_n 0, 1) := by decide +kernel
theorem dX6_about_106 : decode cX6_about 106 = .ok (.getfield 19, 3) := by decide +kernel
theorem dX6_about_109 : decode cX6_about 109 = .ok (.getfield 84, 3) := by decide +kernel
theorem dX6_about_112 : decode cX6_about 112 = .ok (.getfield 88, 3) := by decide +kernel
theorem dX6_about_115 : decode cX6_about 115 = .ok (.ireturn, 1) := by decide +kernel
theorem dX6_about_116 : decode cX6_about 116 = .ok (.aload_n 0, 1) := by decide +kernel
theorem dX6_about_117 : decode cX6_about 117 = .ok (.getfield 19, 3) := by decide +kernel
theorem dX6_about_120 : decode cX6_about 120 = .ok (.getfield 93, 3) := by decide +kernel
theorem dX6_about_123 : decode cX6_about 123 = .ok (.ireturn, 1) := by decide +kernel
theorem dX6_about_124 : decode cX6_about 124 = .ok (.aload_n 0, 1) := by decide +kernel
theorem dX6_about_125 : decode cX6_about 125 = .ok (.getfield 19, 3) := by decide +kernel
theorem dX6_about_128 : decode cX6_about 128 = .ok (.getfield 96, 3) := by decide +kernel
theorem dX6_about_131 : decode cX6_about 131 = .ok (.ireturn, 1) := by decide +kernel
theorem dX6_about_132 : decode cX6_about 132 = .ok (.aload_n 0, 1) := by decide +kernel
theorem dX6_about_133 : decode cX6_about 133 = .ok (.getfield 19, 3) := by decide +kernel
theorem dX6_about_136 : decode cX6_about 136 = .ok (.getfield 71, 3) := by decide +kernel
theorem dX6_about_139 : decode cX6_about 139 = .ok (.invokevirtual 99, 3) := by decide +kernel
theorem dX6_about_142 : decode cX6_about 142 = .ok (.ireturn, 1) := by decide +kernel
theorem dX6_about_143 : decode cX6_about 143 = .ok (.aload_n 0, 1) := by decide +kernel
theorem dX6_about_144 : decode cX6_about 144 = .ok (.getfield 19, 3) := by decide +kernel
theorem dX6_about_147 : decode cX6_about 147 = .ok (.getfield 71, 3) := by decide +kernel
theorem dX6_about_150 : decode cX6_about 150 = .ok (.invokevirtual 102, 3) := by decide +kernel
theorem dX6_about_153 : decode cX6_about 153 = .ok (.ireturn, 1) := by decide +kernel
theorem dX6_about_154 : decode cX6_about 154 = .ok (.aload_n 0, 1) := by decide +kernel
theorem dX6_about_155 : decode cX6_about 155 = .ok (.getfield 19, 3) := by decide +kernel
theorem dX6_about_158 : decode cX6_about 158 = .ok (.getfield 71, 3) := by decide +kernel
theorem dX6_about_161 : decode cX6_about 161 = .ok (.invokevirtual 105, 3) := by decide +kernel
theorem dX6_about_164 : decode cX6_about 164 = .ok (.ifCond .eq 7, 3) := by decide +kernel
theorem dX6_about_167 : decode cX6_about 167 = .ok (.iconst 1, 1) := by decide +kernel
theorem dX6_about_168 : decode cX6_about 168 = .ok (.goto 4, 3) := by decide +kernel
theorem dX6_about_171 : decode cX6_about 171 = .ok (.iconst 0, 1) := by decide +kernel
theorem dX6_about_172 : decode cX6_about 172 = .ok (.ireturn, 1) := by decide +kernel
theorem dX6_at_0 : decode cX6_at 0 = .ok (.aload_n 0, 1) := by decide +kernel
theorem dX6_at_1 : decode cX6_at 1 = .ok (.getfield 19, 3) := by decide +kernel
theorem dX6_at_4 : decode cX6_at 4 = .ok (.getfield 71, 3) := by decide +kernel
theorem dX6_at_7 : decode cX6_at 7 = .ok (.iload_n 1, 1) := by decide +kernel
theorem dX6_at_8 : decode cX6_at 8 = .ok (.invokevirtual 108, 3) := by decide +kernel
theorem dX6_at_11 : decode cX6_at 11 = .ok (.ifCond .ne 13, 3) := by decide +kernel
theorem dX6_at_14 : decode cX6_at 14 = .ok (.new 112, 3) := by decide +kernel
theorem dX6_at_17 : decode cX6_at 17 = .ok (.dup, 1) := by decide +kernel
theorem dX6_at_18 : decode cX6_at 18 = .ok (.ldc 114, 2) := by decide +kernel
theorem dX6_at_20 : decode cX6_at 20 = .ok (.invokespecial 116, 3) := by decide +kernel
theorem dX6_at_23 : decode cX6_at 23 = .ok (.athrow, 1) := by decide +kernel
theorem dX6_at_24 : decode cX6_at 24 = .ok (.aload_n 0, 1) := by decide +kernel
theorem dX6_at_25 : decode cX6_at 25 = .ok (.getfield 19, 3) := by decide +kernel
theorem dX6_at_28 : decode cX6_at 28 = .ok (.getfield 71, 3) := by decide +kernel
theorem dX6_at_31 : decode cX6_at 31 = .ok (.iload_n 1, 1) := by decide +kernel
theorem dX6_at_32 : decode cX6_at 32 = .ok (.invokevirtual 117, 3) := by decide +kernel
theorem dX6_at_35 : decode cX6_at 35 = .ok (.ireturn, 1) := by decide +kernel
theorem dX6_letter_0 : decode cX6_letter 0 = .ok (.aload_n 0, 1) := by decide +kernel
theorem dX6_letter_1 : decode cX6_letter 1 = .ok (.getfield 19, 3) := by decide +kernel
theorem dX6_letter_4 : decode cX6_letter 4 = .ok (.getfield 84, 3) := by decide +kernel
theorem dX6_letter_7 : decode cX6_letter 7 = .ok (.iload_n 1, 1) := by decide +kernel
theorem dX6_letter_8 : decode cX6_letter 8 = .ok (.invokevirtual 121, 3) := by decide +kernel
theorem dX6_letter_11 : decode cX6_letter 11 = .ok (.ifCond .ne 13, 3) := by decide +kernel
theorem dX6_letter_14 : decode cX6_letter 14 = .ok (.new 112, 3) := by decide +kernel
theorem dX6_letter_17 : decode cX6_letter 17 = .ok (.dup, 1) := by decide +kernel
theorem dX6_letter_18 : decode cX6_letter 18 = .ok (.ldc 124, 2) := by decide +kernel
theorem dX6_letter_20 : decode cX6_letter 20 = .ok (.invokespecial 116, 3) := by decide +kernel
theorem dX6_letter_23 : decode cX6_letter 23 = .ok (.athrow, 1) := by decide +kernel
theorem dX6_letter_24 : decode cX6_letter 24 = .ok (.iload_n 2, 1) := by decide +kernel
theorem dX6_letter_25 : decode cX6_letter 25 = .ok (.ifCond .ge 13, 3) := by decide +kernel
theorem dX6_letter_28 : decode cX6_letter 28 = .ok (.new 41, 3) := by decide +kernel
theorem dX6_letter_31 : decode cX6_letter 31 = .ok (.dup, 1) := by decide +kernel
theorem dX6_letter_32 : decode cX6_letter 32 = .ok (.ldc 126, 2) := by decide +kernel
theorem dX6_letter_34 : decode cX6_letter 34 = .ok (.invokespecial 45, 3) := by decide +kernel
theorem dX6_letter_37 : decode cX6_letter 37 = .ok (.athrow, 1) := by decide +kernel
theorem dX6_letter_38 : decode cX6_letter 38 = .ok (.iload_n 2, 1) := by decide +kernel
theorem dX6_letter_39 : decode cX6_letter 39 = .ok (.aload_n 0, 1) := by decide +kernel
theorem dX6_letter_40 : decode cX6_letter 40 = .ok (.getfield 19, 3) := by decide +kernel
theorem dX6_letter_43 : decode cX6_letter 43 = .ok (.getfield 84, 3) := by decide +kernel
theorem dX6_letter_46 : decode cX6_letter 46 = .ok (.iload_n 1, 1) := by decide +kernel
theorem dX6_letter_47 : decode cX6_letter 47 = .ok (.invokevirtual 128, 3) := by decide +kernel
theorem dX6_letter_50 : decode cX6_letter 50 = .ok (.if_icmp .ge 18, 3) := by decide +kernel
theorem dX6_letter_53 : decode cX6_letter 53 = .ok (.aload_n 0, 1) := by decide +kernel
theorem dX6_letter_54 : decode cX6_letter 54 = .ok (.getfield 19, 3) := by decide +kernel
theorem dX6_letter_57 : decode cX6_letter 57 = .ok (.getfield 84, 3) := by decide +kernel
theorem dX6_letter_60 : decode cX6_letter 60 = .ok (.iload_n 1, 1) := by decide +kernel
theorem dX6_letter_61 : decode cX6_letter 61 = .ok (.iload_n 2, 1) := by decide +kernel
theorem dX6_letter_62 : decode cX6_letter 62 = .ok (.invokevirtual 132, 3) := by decide +kernel
theorem dX6_letter_65 : decode cX6_letter 65 = .ok (.goto 4, 3) := by decide +kernel
theorem dX6_letter_68 : decode cX6_letter 68 = .ok (.iconst (-1), 1) := by decide +kernel
theorem dX6_letter_69 : decode cX6_letter 69 = .ok (.ireturn, 1) := by decide +kernel
theorem dX6_reading_0 : decode cX6_reading 0 = .ok (.iload_n 1, 1) := by decide +kernel
theorem dX6_reading_1 : decode cX6_reading 1 = .ok (.invokestatic 136, 3) := by decide +kernel
theorem dX6_reading_4 : decode cX6_reading 4 = .ok (.ifCond .ne 13, 3) := by decide +kernel
theorem dX6_reading_7 : decode cX6_reading 7 = .ok (.new 112, 3) := by decide +kernel
theorem dX6_reading_10 : decode cX6_reading 10 = .ok (.dup, 1) := by decide +kernel
theorem dX6_reading_11 : decode cX6_reading 11 = .ok (.ldc 139, 2) := by decide +kernel
theorem dX6_reading_13 : decode cX6_reading 13 = .ok (.invokespecial 116, 3) := by decide +kernel
theorem dX6_reading_16 : decode cX6_reading 16 = .ok (.athrow, 1) := by decide +kernel
theorem dX6_reading_17 : decode cX6_reading 17 = .ok (.iload_n 2, 1) := by decide +kernel
theorem dX6_reading_18 : decode cX6_reading 18 = .ok (.ifCond .lt 8, 3) := by decide +kernel
theorem dX6_reading_21 : decode cX6_reading 21 = .ok (.iload_n 2, 1) := by decide +kernel
theorem dX6_reading_22 : decode cX6_reading 22 = .ok (.iconst 3, 1) := by decide +kernel
theorem dX6_reading_23 : decode cX6_reading 23 = .ok (.if_icmp .le 13, 3) := by decide +kernel
theorem dX6_reading_26 : decode cX6_reading 26 = .ok (.new 41, 3) := by decide +kernel
theorem dX6_reading_29 : decode cX6_reading 29 = .ok (.dup, 1) := by decide +kernel
theorem dX6_reading_30 : decode cX6_reading 30 = .ok (.ldc 69, 2) := by decide +kernel
theorem dX6_reading_32 : decode cX6_reading 32 = .ok (.invokespecial 45, 3) := by decide +kernel
theorem dX6_reading_35 : decode cX6_reading 35 = .ok (.athrow, 1) := by decide +kernel
theorem dX6_reading_36 : decode cX6_reading 36 = .ok (.iload_n 2, 1) := by decide +kernel
theorem dX6_reading_37 : decode cX6_reading 37 = .ok (.tableswitch 57 0 2 #[27, 39, 48], 27) := by decide +kernel
theorem dX6_reading_64 : decode cX6_reading 64 = .ok (.aload_n 0, 1) := by decide +kernel
theorem dX6_reading_65 : decode cX6_reading 65 = .ok (.getfield 19, 3) := by decide +kernel
theorem dX6_reading_68 : decode cX6_reading 68 = .ok (.getfield 71, 3) := by decide +kernel
theorem dX6_reading_71 : decode cX6_reading 71 = .ok (.iload_n 1, 1) := by decide +kernel
theorem dX6_reading_72 : decode cX6_reading 72 = .ok (.invokevirtual 141, 3) := by decide +kernel
theorem dX6_reading_75 : decode cX6_reading 75 = .ok (.ireturn, 1) := by decide +kernel
theorem dX6_reading_76 : decode cX6_reading 76 = .ok (.aload_n 0, 1) := by decide +kernel
theorem dX6_reading_77 : decode cX6_reading 77 = .ok (.getfield 19, 3) := by decide +kernel
theorem dX6_reading_80 : decode cX6_reading 80 = .ok (.iload_n 1, 1) := by decide +kernel
theorem dX6_reading_81 : decode cX6_reading 81 = .ok (.invokevirtual 144, 3) := by decide +kernel
theorem dX6_reading_84 : decode cX6_reading 84 = .ok (.ireturn, 1) := by decide +kernel
theorem dX6_reading_85 : decode cX6_reading 85 = .ok (.aload_n 0, 1) := by decide +kernel
theorem dX6_reading_86 : decode cX6_reading 86 = .ok (.getfield 19, 3) := by decide +kernel
theorem dX6_reading_89 : decode cX6_reading 89 = .ok (.iload_n 1, 1) := by decide +kernel
theorem dX6_reading_90 : decode cX6_reading 90 = .ok (.invokevirtual 147, 3) := by decide +kernel
theorem dX6_reading_93 : decode cX6_reading 93 = .ok (.ireturn, 1) := by decide +kernel
theorem dX6_reading_94 : decode cX6_reading 94 = .ok (.aload_n 0, 1) := by decide +kernel
theorem dX6_reading_95 : decode cX6_reading 95 = .ok (.getfield 19, 3) := by decide +kernel
theorem dX6_reading_98 : decode cX6_reading 98 = .ok (.getfield 71, 3) := by decide +kernel
theorem dX6_reading_101 : decode cX6_reading 101 = .ok (.iload_n 1, 1) := by decide +kernel
theorem dX6_reading_102 : decode cX6_reading 102 = .ok (.invokevirtual 150, 3) := by decide +kernel
theorem dX6_reading_105 : decode cX6_reading 105 = .ok (.ireturn, 1) := by decide +kernel
theorem dX6_segment_0 : decode cX6_segment 0 = .ok (.iload_n 1, 1) := by decide +kernel
theorem dX6_segment_1 : decode cX6_segment 1 = .ok (.invokestatic 136, 3) := by decide +kernel
theorem dX6_segment_4 : decode cX6_segment 4 = .ok (.ifCond .ne 13, 3) := by decide +kernel
theorem dX6_segment_7 : decode cX6_segment 7 = .ok (.new 112, 3) := by decide +kernel
theorem dX6_segment_10 : decode cX6_segment 10 = .ok (.dup, 1) := by decide +kernel
theorem dX6_segment_11 : decode cX6_segment 11 = .ok (.ldc 139, 2) := by decide +kernel
theorem dX6_segment_13 : decode cX6_segment 13 = .ok (.invokespecial 116, 3) := by decide +kernel
theorem dX6_segment_16 : decode cX6_segment 16 = .ok (.athrow, 1) := by decide +kernel
theorem dX6_segment_17 : decode cX6_segment 17 = .ok (.aload_n 0, 1) := by decide +kernel
theorem dX6_segment_18 : decode cX6_segment 18 = .ok (.getfield 19, 3) := by decide +kernel
theorem dX6_segment_21 : decode cX6_segment 21 = .ok (.getfield 71, 3) := by decide +kernel
theorem dX6_segment_24 : decode cX6_segment 24 = .ok (.iload_n 1, 1) := by decide +kernel
theorem dX6_segment_25 : decode cX6_segment 25 = .ok (.iload_n 2, 1) := by decide +kernel
theorem dX6_segment_26 : decode cX6_segment 26 = .ok (.invokevirtual 153, 3) := by decide +kernel
theorem dX6_segment_29 : decode cX6_segment 29 = .ok (.istore 4, 2) := by decide +kernel
theorem dX6_segment_31 : decode cX6_segment 31 = .ok (.iload 4, 2) := by decide +kernel
theorem dX6_segment_33 : decode cX6_segment 33 = .ok (.iconst (-1), 1) := by decide +kernel
theorem dX6_segment_34 : decode cX6_segment 34 = .ok (.if_icmp .ne 13, 3) := by decide +kernel
theorem dX6_segment_37 : decode cX6_segment 37 = .ok (.new 112, 3) := by decide +kernel
theorem dX6_segment_40 : decode cX6_segment 40 = .ok (.dup, 1) := by decide +kernel
theorem dX6_segment_41 : decode cX6_segment 41 = .ok (.ldc 157, 2) := by decide +kernel
theorem dX6_segment_43 : decode cX6_segment 43 = .ok (.invokespecial 116, 3) := by decide +kernel
theorem dX6_segment_46 : decode cX6_segment 46 = .ok (.athrow, 1) := by decide +kernel
theorem dX6_segment_47 : decode cX6_segment 47 = .ok (.iload_n 3, 1) := by decide +kernel
theorem dX6_segment_48 : decode cX6_segment 48 = .ok (.ifCond .lt 8, 3) := by decide +kernel
theorem dX6_segment_51 : decode cX6_segment 51 = .ok (.iload_n 3, 1) := by decide +kernel
theorem dX6_segment_52 : decode cX6_segment 52 = .ok (.iconst 4, 1) := by decide +kernel
theorem dX6_segment_53 : decode cX6_segment 53 = .ok (.if_icmp .le 13, 3) := by decide +kernel
theorem dX6_segment_56 : decode cX6_segment 56 = .ok (.new 41, 3) := by decide +kernel
theorem dX6_segment_59 : decode cX6_segment 59 = .ok (.dup, 1) := by decide +kernel
theorem dX6_segment_60 : decode cX6_segment 60 = .ok (.ldc 69, 2) := by decide +kernel
theorem dX6_segment_62 : decode cX6_segment 62 = .ok (.invokespecial 45, 3) := by decide +kernel
theorem dX6_segment_65 : decode cX6_segment 65 = .ok (.athrow, 1) := by decide +kernel
theorem dX6_segment_66 : decode cX6_segment 66 = .ok (.iload_n 3, 1) := by decide +kernel
theorem dX6_segment_67 : decode cX6_segment 67 = .ok (.tableswitch 88 0 3 #[29, 32, 46, 67], 29) := by decide +kernel
theorem dX6_segment_96 : decode cX6_segment 96 = .ok (.iload 4, 2) := by decide +kernel
theorem dX6_segment_98 : decode cX6_segment 98 = .ok (.ireturn, 1) := by decide +kernel
theorem dX6_segment_99 : decode cX6_segment 99 = .ok (.aload_n 0, 1) := by decide +kernel
theorem dX6_segment_100 : decode cX6_segment 100 = .ok (.getfield 19, 3) := by decide +kernel
theorem dX6_segment_103 : decode cX6_segment 103 = .ok (.getfield 71, 3) := by decide +kernel
theorem dX6_segment_106 : decode cX6_segment 106 = .ok (.iload 4, 2) := by decide +kernel
theorem dX6_segment_108 : decode cX6_segment 108 = .ok (.iload_n 1, 1) := by decide +kernel
theorem dX6_segment_109 : decode cX6_segment 109 = .ok (.invokevirtual 159, 3) := by decide +kernel
theorem dX6_segment_112 : decode cX6_segment 112 = .ok (.ireturn, 1) := by decide +kernel
theorem dX6_segment_113 : decode cX6_segment 113 = .ok (.aload_n 0, 1) := by decide +kernel
theorem dX6_segment_114 : decode cX6_segment 114 = .ok (.getfield 19, 3) := by decide +kernel
theorem dX6_segment_117 : decode cX6_segment 117 = .ok (.getfield 84, 3) := by decide +kernel
theorem dX6_segment_120 : decode cX6_segment 120 = .ok (.aload_n 0, 1) := by decide +kernel
theorem dX6_segment_121 : decode cX6_segment 121 = .ok (.getfield 19, 3) := by decide +kernel
theorem dX6_segment_124 : decode cX6_segment 124 = .ok (.getfield 71, 3) := by decide +kernel
theorem dX6_segment_127 : decode cX6_segment 127 = .ok (.iload 4, 2) := by decide +kernel
theorem dX6_segment_129 : decode cX6_segment 129 = .ok (.iload_n 1, 1) := by decide +kernel
theorem dX6_segment_130 : decode cX6_segment 130 = .ok (.invokevirtual 162, 3) := by decide +kernel
theorem dX6_segment_133 : decode cX6_segment 133 = .ok (.ireturn, 1) := by decide +kernel
theorem dX6_segment_134 : decode cX6_segment 134 = .ok (.aload_n 0, 1) := by decide +kernel
theorem dX6_segment_135 : decode cX6_segment 135 = .ok (.getfield 19, 3) := by decide +kernel
theorem dX6_segment_138 : decode cX6_segment 138 = .ok (.getfield 84, 3) := by decide +kernel
theorem dX6_segment_141 : decode cX6_segment 141 = .ok (.aload_n 0, 1) := by decide +kernel
theorem dX6_segment_142 : decode cX6_segment 142 = .ok (.getfield 19, 3) := by decide +kernel
theorem dX6_segment_145 : decode cX6_segment 145 = .ok (.getfield 71, 3) := by decide +kernel
theorem dX6_segment_148 : decode cX6_segment 148 = .ok (.iload 4, 2) := by decide +kernel
theorem dX6_segment_150 : decode cX6_segment 150 = .ok (.iload_n 1, 1) := by decide +kernel
theorem dX6_segment_151 : decode cX6_segment 151 = .ok (.invokevirtual 166, 3) := by decide +kernel
theorem dX6_segment_154 : decode cX6_segment 154 = .ok (.ireturn, 1) := by decide +kernel
theorem dX6_segment_155 : decode cX6_segment 155 = .ok (.aload_n 0, 1) := by decide +kernel
theorem dX6_segment_156 : decode cX6_segment 156 = .ok (.getfield 19, 3) := by decide +kernel
theorem dX6_segment_159 : decode cX6_segment 159 = .ok (.getfield 71, 3) := by decide +kernel
theorem dX6_segment_162 : decode cX6_segment 162 = .ok (.iload 4, 2) := by decide +kernel
theorem dX6_segment_164 : decode cX6_segment 164 = .ok (.iload_n 1, 1) := by decide +kernel
theorem dX6_segment_165 : decode cX6_segment 165 = .ok (.invokevirtual 169, 3) := by decide +kernel
theorem dX6_segment_168 : decode cX6_segment 168 = .ok (.ireturn, 1) := by decide +kernel
theorem dX6_find_0 : decode cX6_find 0 = .ok (.aload_n 0, 1) := by decide +kernel
theorem dX6_find_1 : decode cX6_find 1 = .ok (.getfield 19, 3) := by decide +kernel
theorem dX6_find_4 : decode cX6_find 4 = .ok (.getfield 84, 3) := by decide +kernel
theorem dX6_find_7 : decode cX6_find 7 = .ok (.iload_n 1, 1) := by decide +kernel
theorem dX6_find_8 : decode cX6_find 8 = .ok (.invokevirtual 121, 3) := by decide +kernel
theorem dX6_find_11 : decode cX6_find 11 = .ok (.ifCond .eq 10, 3) := by decide +kernel
theorem dX6_find_14 : decode cX6_find 14 = .ok (.iload_n 2, 1) := by decide +kernel
theorem dX6_find_15 : decode cX6_find 15 = .ok (.invokestatic 136, 3) := by decide +kernel
theorem dX6_find_18 : decode cX6_find 18 = .ok (.ifCond .ne 13, 3) := by decide +kernel
theorem dX6_find_21 : decode cX6_find 21 = .ok (.new 112, 3) := by decide +kernel
theorem dX6_find_24 : decode cX6_find 24 = .ok (.dup, 1) := by decide +kernel
theorem dX6_find_25 : decode cX6_find 25 = .ok (.ldc 172, 2) := by decide +kernel
theorem dX6_find_27 : decode cX6_find 27 = .ok (.invokespecial 116, 3) := by decide +kernel
theorem dX6_find_30 : decode cX6_find 30 = .ok (.athrow, 1) := by decide +kernel
theorem dX6_find_31 : decode cX6_find 31 = .ok (.iload_n 3, 1) := by decide +kernel
theorem dX6_find_32 : decode cX6_find 32 = .ok (.ifCond .ge 13, 3) := by decide +kernel
theorem dX6_find_35 : decode cX6_find 35 = .ok (.new 41, 3) := by decide +kernel
theorem dX6_find_38 : decode cX6_find 38 = .ok (.dup, 1) := by decide +kernel
theorem dX6_find_39 : decode cX6_find 39 = .ok (.ldc 174, 2) := by decide +kernel
theorem dX6_find_41 : decode cX6_find 41 = .ok (.invokespecial 45, 3) := by decide +kernel
theorem dX6_find_44 : decode cX6_find 44 = .ok (.athrow, 1) := by decide +kernel
theorem dX6_find_45 : decode cX6_find 45 = .ok (.aload_n 0, 1) := by decide +kernel
theorem dX6_find_46 : decode cX6_find 46 = .ok (.getfield 19, 3) := by decide +kernel
theorem dX6_find_49 : decode cX6_find 49 = .ok (.getfield 84, 3) := by decide +kernel
theorem dX6_find_52 : decode cX6_find 52 = .ok (.iload_n 1, 1) := by decide +kernel
theorem dX6_find_53 : decode cX6_find 53 = .ok (.aload_n 0, 1) := by decide +kernel
theorem dX6_find_54 : decode cX6_find 54 = .ok (.getfield 19, 3) := by decide +kernel
theorem dX6_find_57 : decode cX6_find 57 = .ok (.getfield 71, 3) := by decide +kernel
theorem dX6_find_60 : decode cX6_find 60 = .ok (.iload_n 2, 1) := by decide +kernel
theorem dX6_find_61 : decode cX6_find 61 = .ok (.iload_n 3, 1) := by decide +kernel
theorem dX6_find_62 : decode cX6_find 62 = .ok (.invokevirtual 176, 3) := by decide +kernel
theorem dX6_find_65 : decode cX6_find 65 = .ok (.ireturn, 1) := by decide +kernel
theorem dX6_walker_0 : decode cX6_walker 0 = .ok (.aload_n 0, 1) := by decide +kernel
theorem dX6_walker_1 : decode cX6_walker 1 = .ok (.getfield 19, 3) := by decide +kernel
theorem dX6_walker_4 : decode cX6_walker 4 = .ok (.iload_n 1, 1) := by decide +kernel
theorem dX6_walker_5 : decode cX6_walker 5 = .ok (.invokevirtual 180, 3) := by decide +kernel
theorem dX6_walker_8 : decode cX6_walker 8 = .ok (.ifCond .ne 13, 3) := by decide +kernel
theorem dX6_walker_11 : decode cX6_walker 11 = .ok (.new 112, 3) := by decide +kernel
theorem dX6_walker_14 : decode cX6_walker 14 = .ok (.dup, 1) := by decide +kernel
theorem dX6_walker_15 : decode cX6_walker 15 = .ok (.ldc 183, 2) := by decide +kernel
theorem dX6_walker_17 : decode cX6_walker 17 = .ok (.invokespecial 116, 3) := by decide +kernel
theorem dX6_walker_20 : decode cX6_walker 20 = .ok (.athrow, 1) := by decide +kernel
theorem dX6_walker_21 : decode cX6_walker 21 = .ok (.iload_n 2, 1) := by decide +kernel
theorem dX6_walker_22 : decode cX6_walker 22 = .ok (.ifCond .lt 9, 3) := by decide +kernel
theorem dX6_walker_25 : decode cX6_walker 25 = .ok (.iload_n 2, 1) := by decide +kernel
theorem dX6_walker_26 : decode cX6_walker 26 = .ok (.bipush 6, 2) := by decide +kernel
theorem dX6_walker_28 : decode cX6_walker 28 = .ok (.if_icmp .le 13, 3) := by decide +kernel
theorem dX6_walker_31 : decode cX6_walker 31 = .ok (.new 41, 3) := by decide +kernel
theorem dX6_walker_34 : decode cX6_walker 34 = .ok (.dup, 1) := by decide +kernel
theorem dX6_walker_35 : decode cX6_walker 35 = .ok (.ldc 69, 2) := by decide +kernel
theorem dX6_walker_37 : decode cX6_walker 37 = .ok (.invokespecial 45, 3) := by decide +kernel
theorem dX6_walker_40 : decode cX6_walker 40 = .ok (.athrow, 1) := by decide +kernel
theorem dX6_walker_41 : decode cX6_walker 41 = .ok (.iload_n 2, 1) := by decide +kernel
theorem dX6_walker_42 : decode cX6_walker 42 = .ok (.tableswitch 113 0 5 #[38, 51, 64, 77, 90, 103], 38) := by decide +kernel
theorem dX6_walker_80 : decode cX6_walker 80 = .ok (.aload_n 0, 1) := by decide +kernel
theorem dX6_walker_81 : decode cX6_walker 81 = .ok (.getfield 19, 3) := by decide +kernel
theorem dX6_walker_84 : decode cX6_walker 84 = .ok (.getfield 185, 3) := by decide +kernel
theorem dX6_walker_87 : decode cX6_walker 87 = .ok (.iload_n 1, 1) := by decide +kernel
theorem dX6_walker_88 : decode cX6_walker 88 = .ok (.aaload, 1) := by decide +kernel
theorem dX6_walker_89 : decode cX6_walker 89 = .ok (.getfield 189, 3) := by decide +kernel
theorem dX6_walker_92 : decode cX6_walker 92 = .ok (.ireturn, 1) := by decide +kernel
theorem dX6_walker_93 : decode cX6_walker 93 = .ok (.aload_n 0, 1) := by decide +kernel
theorem dX6_walker_94 : decode cX6_walker 94 = .ok (.getfield 19, 3) := by decide +kernel
theorem dX6_walker_97 : decode cX6_walker 97 = .ok (.getfield 185, 3) := by decide +kernel
theorem dX6_walker_100 : decode cX6_walker 100 = .ok (.iload_n 1, 1) := by decide +kernel
theorem dX6_walker_101 : decode cX6_walker 101 = .ok (.aaload, 1) := by decide +kernel
theorem dX6_walker_102 : decode cX6_walker 102 = .ok (.getfield 194, 3) := by decide +kernel
theorem dX6_walker_105 : decode cX6_walker 105 = .ok (.ireturn, 1) := by decide +kernel
theorem dX6_walker_106 : decode cX6_walker 106 = .ok (.aload_n 0, 1) := by decide +kernel
theorem dX6_walker_107 : decode cX6_walker 107 = .ok (.getfield 19, 3) := by decide +kernel
theorem dX6_walker_110 : decode cX6_walker 110 = .ok (.getfield 185, 3) := by decide +kernel
theorem dX6_walker_113 : decode cX6_walker 113 = .ok (.iload_n 1, 1) := by decide +kernel
theorem dX6_walker_114 : decode cX6_walker 114 = .ok (.aaload, 1) := by decide +kernel
theorem dX6_walker_115 : decode cX6_walker 115 = .ok (.getfield 197, 3) := by decide +kernel
theorem dX6_walker_118 : decode cX6_walker 118 = .ok (.ireturn, 1) := by decide +kernel
theorem dX6_walker_119 : decode cX6_walker 119 = .ok (.aload_n 0, 1) := by decide +kernel
theorem dX6_walker_120 : decode cX6_walker 120 = .ok (.getfield 19, 3) := by decide +kernel
theorem dX6_walker_123 : decode cX6_walker 123 = .ok (.getfield 185, 3) := by decide +kernel
theorem dX6_walker_126 : decode cX6_walker 126 = .ok (.iload_n 1, 1) := by decide +kernel
theorem dX6_walker_127 : decode cX6_walker 127 = .ok (.aaload, 1) := by decide +kernel
theorem dX6_walker_128 : decode cX6_walker 128 = .ok (.getfield 200, 3) := by decide +kernel
theorem dX6_walker_131 : decode cX6_walker 131 = .ok (.ireturn, 1) := by decide +kernel
theorem dX6_walker_132 : decode cX6_walker 132 = .ok (.aload_n 0, 1) := by decide +kernel
theorem dX6_walker_133 : decode cX6_walker 133 = .ok (.getfield 19, 3) := by decide +kernel
theorem dX6_walker_136 : decode cX6_walker 136 = .ok (.getfield 185, 3) := by decide +kernel
theorem dX6_walker_139 : decode cX6_walker 139 = .ok (.iload_n 1, 1) := by decide +kernel
theorem dX6_walker_140 : decode cX6_walker 140 = .ok (.aaload, 1) := by decide +kernel
theorem dX6_walker_141 : decode cX6_walker 141 = .ok (.invokevirtual 203, 3) := by decide +kernel
theorem dX6_walker_144 : decode cX6_walker 144 = .ok (.ireturn, 1) := by decide +kernel
theorem dX6_walker_145 : decode cX6_walker 145 = .ok (.aload_n 0, 1) := by decide +kernel
theorem dX6_walker_146 : decode cX6_walker 146 = .ok (.getfield 19, 3) := by decide +kernel
theorem dX6_walker_149 : decode cX6_walker 149 = .ok (.iload_n 1, 1) := by decide +kernel
theorem dX6_walker_150 : decode cX6_walker 150 = .ok (.iconst 0, 1) := by decide +kernel
theorem dX6_walker_151 : decode cX6_walker 151 = .ok (.invokevirtual 206, 3) := by decide +kernel
theorem dX6_walker_154 : decode cX6_walker 154 = .ok (.ireturn, 1) := by decide +kernel
theorem dX6_walker_155 : decode cX6_walker 155 = .ok (.aload_n 0, 1) := by decide +kernel
theorem dX6_walker_156 : decode cX6_walker 156 = .ok (.getfield 19, 3) := by decide +kernel
theorem dX6_walker_159 : decode cX6_walker 159 = .ok (.iload_n 1, 1) := by decide +kernel
theorem dX6_walker_160 : decode cX6_walker 160 = .ok (.iconst 1, 1) := by decide +kernel
theorem dX6_walker_161 : decode cX6_walker 161 = .ok (.invokevirtual 206, 3) := by decide +kernel
theorem dX6_walker_164 : decode cX6_walker 164 = .ok (.ireturn, 1) := by decide +kernel
theorem dX6_ring_0 : decode cX6_ring 0 = .ok (.aload_n 0, 1) := by decide +kernel
theorem dX6_ring_1 : decode cX6_ring 1 = .ok (.getfield 10, 3) := by decide +kernel
theorem dX6_ring_4 : decode cX6_ring 4 = .ok (.iconst 0, 1) := by decide +kernel
theorem dX6_ring_5 : decode cX6_ring 5 = .ok (.invokevirtual 65, 3) := by decide +kernel
theorem dX6_ring_8 : decode cX6_ring 8 = .ok (.iconst (-1), 1) := by decide +kernel
theorem dX6_ring_9 : decode cX6_ring 9 = .ok (.if_icmp .eq 13, 3) := by decide +kernel
theorem dX6_ring_12 : decode cX6_ring 12 = .ok (.new 52, 3) := by decide +kernel
theorem dX6_ring_15 : decode cX6_ring 15 = .ok (.dup, 1) := by decide +kernel
theorem dX6_ring_16 : decode cX6_ring 16 = .ok (.ldc 210, 2) := by decide +kernel
theorem dX6_ring_18 : decode cX6_ring 18 = .ok (.invokespecial 56, 3) := by decide +kernel
theorem dX6_ring_21 : decode cX6_ring 21 = .ok (.athrow, 1) := by decide +kernel
theorem dX6_ring_22 : decode cX6_ring 22 = .ok (.aload_n 0, 1) := by decide +kernel
theorem dX6_ring_23 : decode cX6_ring 23 = .ok (.getfield 29, 3) := by decide +kernel
theorem dX6_ring_26 : decode cX6_ring 26 = .ok (.aload_n 0, 1) := by decide +kernel
theorem dX6_ring_27 : decode cX6_ring 27 = .ok (.getfield 19, 3) := by decide +kernel
theorem dX6_ring_30 : decode cX6_ring 30 = .ok (.invokevirtual 212, 3) := by decide +kernel
theorem dX6_ring_33 : decode cX6_ring 33 = .ok (.aload_n 0, 1) := by decide +kernel
theorem dX6_ring_34 : decode cX6_ring 34 = .ok (.getfield 19, 3) := by decide +kernel
theorem dX6_ring_37 : decode cX6_ring 37 = .ok (.aload_n 0, 1) := by decide +kernel
theorem dX6_ring_38 : decode cX6_ring 38 = .ok (.getfield 10, 3) := by decide +kernel
theorem dX6_ring_41 : decode cX6_ring 41 = .ok (.invokevirtual 216, 3) := by decide +kernel
theorem dX6_ring_44 : decode cX6_ring 44 = .ok (.aload_n 0, 1) := by decide +kernel
theorem dX6_ring_45 : decode cX6_ring 45 = .ok (.getfield 19, 3) := by decide +kernel
theorem dX6_ring_48 : decode cX6_ring 48 = .ok (.getfield 71, 3) := by decide +kernel
theorem dX6_ring_51 : decode cX6_ring 51 = .ok (.getfield 75, 3) := by decide +kernel
theorem dX6_ring_54 : decode cX6_ring 54 = .ok (.ireturn, 1) := by decide +kernel
theorem dX6_addWord_0 : decode cX6_addWord 0 = .ok (.aload_n 0, 1) := by decide +kernel
theorem dX6_addWord_1 : decode cX6_addWord 1 = .ok (.getfield 10, 3) := by decide +kernel
theorem dX6_addWord_4 : decode cX6_addWord 4 = .ok (.iconst 1, 1) := by decide +kernel
theorem dX6_addWord_5 : decode cX6_addWord 5 = .ok (.invokevirtual 65, 3) := by decide +kernel
theorem dX6_addWord_8 : decode cX6_addWord 8 = .ok (.iconst (-1), 1) := by decide +kernel
theorem dX6_addWord_9 : decode cX6_addWord 9 = .ok (.if_icmp .eq 13, 3) := by decide +kernel
theorem dX6_addWord_12 : decode cX6_addWord 12 = .ok (.new 52, 3) := by decide +kernel
theorem dX6_addWord_15 : decode cX6_addWord 15 = .ok (.dup, 1) := by decide +kernel
theorem dX6_addWord_16 : decode cX6_addWord 16 = .ok (.ldc 220, 2) := by decide +kernel
theorem dX6_addWord_18 : decode cX6_addWord 18 = .ok (.invokespecial 56, 3) := by decide +kernel
theorem dX6_addWord_21 : decode cX6_addWord 21 = .ok (.athrow, 1) := by decide +kernel
theorem dX6_addWord_22 : decode cX6_addWord 22 = .ok (.aload_n 0, 1) := by decide +kernel
theorem dX6_addWord_23 : decode cX6_addWord 23 = .ok (.getfield 19, 3) := by decide +kernel
theorem dX6_addWord_26 : decode cX6_addWord 26 = .ok (.getfield 84, 3) := by decide +kernel
theorem dX6_addWord_29 : decode cX6_addWord 29 = .ok (.invokevirtual 222, 3) := by decide +kernel
theorem dX6_addWord_32 : decode cX6_addWord 32 = .ok (.ifCond .eq 13, 3) := by decide +kernel
theorem dX6_addWord_35 : decode cX6_addWord 35 = .ok (.new 52, 3) := by decide +kernel
theorem dX6_addWord_38 : decode cX6_addWord 38 = .ok (.dup, 1) := by decide +kernel
theorem dX6_addWord_39 : decode cX6_addWord 39 = .ok (.ldc 223, 2) := by decide +kernel
theorem dX6_addWord_41 : decode cX6_addWord 41 = .ok (.invokespecial 56, 3) := by decide +kernel
theorem dX6_addWord_44 : decode cX6_addWord 44 = .ok (.athrow, 1) := by decide +kernel
theorem dX6_addWord_45 : decode cX6_addWord 45 = .ok (.aload_n 0, 1) := by decide +kernel
theorem dX6_addWord_46 : decode cX6_addWord 46 = .ok (.getfield 29, 3) := by decide +kernel
theorem dX6_addWord_49 : decode cX6_addWord 49 = .ok (.aload_n 0, 1) := by decide +kernel
theorem dX6_addWord_50 : decode cX6_addWord 50 = .ok (.getfield 19, 3) := by decide +kernel
theorem dX6_addWord_53 : decode cX6_addWord 53 = .ok (.invokevirtual 212, 3) := by decide +kernel
theorem dX6_addWord_56 : decode cX6_addWord 56 = .ok (.aload_n 0, 1) := by decide +kernel
theorem dX6_addWord_57 : decode cX6_addWord 57 = .ok (.getfield 19, 3) := by decide +kernel
theorem dX6_addWord_60 : decode cX6_addWord 60 = .ok (.getfield 84, 3) := by decide +kernel
theorem dX6_addWord_63 : decode cX6_addWord 63 = .ok (.aload_n 0, 1) := by decide +kernel
theorem dX6_addWord_64 : decode cX6_addWord 64 = .ok (.getfield 10, 3) := by decide +kernel
theorem dX6_addWord_67 : decode cX6_addWord 67 = .ok (.invokevirtual 225, 3) := by decide +kernel
theorem dX6_addWord_70 : decode cX6_addWord 70 = .ok (.ireturn, 1) := by decide +kernel
theorem dX6_removeWord_0 : decode cX6_removeWord 0 = .ok (.aload_n 0, 1) := by decide +kernel
theorem dX6_removeWord_1 : decode cX6_removeWord 1 = .ok (.getfield 19, 3) := by decide +kernel
theorem dX6_removeWord_4 : decode cX6_removeWord 4 = .ok (.getfield 84, 3) := by decide +kernel
theorem dX6_removeWord_7 : decode cX6_removeWord 7 = .ok (.iload_n 1, 1) := by decide +kernel
theorem dX6_removeWord_8 : decode cX6_removeWord 8 = .ok (.invokevirtual 121, 3) := by decide +kernel
theorem dX6_removeWord_11 : decode cX6_removeWord 11 = .ok (.ifCond .ne 13, 3) := by decide +kernel
theorem dX6_removeWord_14 : decode cX6_removeWord 14 = .ok (.new 112, 3) := by decide +kernel
theorem dX6_removeWord_17 : decode cX6_removeWord 17 = .ok (.dup, 1) := by decide +kernel
theorem dX6_removeWord_18 : decode cX6_removeWord 18 = .ok (.ldc 124, 2) := by decide +kernel
theorem dX6_removeWord_20 : decode cX6_removeWord 20 = .ok (.invokespecial 116, 3) := by decide +kernel
theorem dX6_removeWord_23 : decode cX6_removeWord 23 = .ok (.athrow, 1) := by decide +kernel
theorem dX6_removeWord_24 : decode cX6_removeWord 24 = .ok (.aload_n 0, 1) := by decide +kernel
theorem dX6_removeWord_25 : decode cX6_removeWord 25 = .ok (.getfield 29, 3) := by decide +kernel
theorem dX6_removeWord_28 : decode cX6_removeWord 28 = .ok (.aload_n 0, 1) := by decide +kernel
theorem dX6_removeWord_29 : decode cX6_removeWord 29 = .ok (.getfield 19, 3) := by decide +kernel
theorem dX6_removeWord_32 : decode cX6_removeWord 32 = .ok (.invokevirtual 212, 3) := by decide +kernel
theorem dX6_removeWord_35 : decode cX6_removeWord 35 = .ok (.aload_n 0, 1) := by decide +kernel
theorem dX6_removeWord_36 : decode cX6_removeWord 36 = .ok (.getfield 19, 3) := by decide +kernel
theorem dX6_removeWord_39 : decode cX6_removeWord 39 = .ok (.getfield 84, 3) := by decide +kernel
theorem dX6_removeWord_42 : decode cX6_removeWord 42 = .ok (.iload_n 1, 1) := by decide +kernel
theorem dX6_removeWord_43 : decode cX6_removeWord 43 = .ok (.invokevirtual 229, 3) := by decide +kernel
theorem dX6_removeWord_46 : decode cX6_removeWord 46 = .ok (.aload_n 0, 1) := by decide +kernel
theorem dX6_removeWord_47 : decode cX6_removeWord 47 = .ok (.getfield 19, 3) := by decide +kernel
theorem dX6_removeWord_50 : decode cX6_removeWord 50 = .ok (.getfield 84, 3) := by decide +kernel
theorem dX6_removeWord_53 : decode cX6_removeWord 53 = .ok (.getfield 88, 3) := by decide +kernel
theorem dX6_removeWord_56 : decode cX6_removeWord 56 = .ok (.ireturn, 1) := by decide +kernel
theorem dX6_carve_0 : decode cX6_carve 0 = .ok (.aload_n 0, 1) := by decide +kernel
theorem dX6_carve_1 : decode cX6_carve 1 = .ok (.getfield 19, 3) := by decide +kernel
theorem dX6_carve_4 : decode cX6_carve 4 = .ok (.getfield 71, 3) := by decide +kernel
theorem dX6_carve_7 : decode cX6_carve 7 = .ok (.iload_n 1, 1) := by decide +kernel
theorem dX6_carve_8 : decode cX6_carve 8 = .ok (.invokevirtual 108, 3) := by decide +kernel
theorem dX6_carve_11 : decode cX6_carve 11 = .ok (.ifCond .ne 13, 3) := by decide +kernel
theorem dX6_carve_14 : decode cX6_carve 14 = .ok (.new 112, 3) := by decide +kernel
theorem dX6_carve_17 : decode cX6_carve 17 = .ok (.dup, 1) := by decide +kernel
theorem dX6_carve_18 : decode cX6_carve 18 = .ok (.ldc 114, 2) := by decide +kernel
theorem dX6_carve_20 : decode cX6_carve 20 = .ok (.invokespecial 116, 3) := by decide +kernel
theorem dX6_carve_23 : decode cX6_carve 23 = .ok (.athrow, 1) := by decide +kernel
theorem dX6_carve_24 : decode cX6_carve 24 = .ok (.iload_n 2, 1) := by decide +kernel
theorem dX6_carve_25 : decode cX6_carve 25 = .ok (.invokestatic 233, 3) := by decide +kernel
theorem dX6_carve_28 : decode cX6_carve 28 = .ok (.ifCond .ne 13, 3) := by decide +kernel
theorem dX6_carve_31 : decode cX6_carve 31 = .ok (.new 41, 3) := by decide +kernel
theorem dX6_carve_34 : decode cX6_carve 34 = .ok (.dup, 1) := by decide +kernel
theorem dX6_carve_35 : decode cX6_carve 35 = .ok (.ldc 236, 2) := by decide +kernel
theorem dX6_carve_37 : decode cX6_carve 37 = .ok (.invokespecial 45, 3) := by decide +kernel
theorem dX6_carve_40 : decode cX6_carve 40 = .ok (.athrow, 1) := by decide +kernel
theorem dX6_carve_41 : decode cX6_carve 41 = .ok (.aload_n 0, 1) := by decide +kernel
theorem dX6_carve_42 : decode cX6_carve 42 = .ok (.getfield 19, 3) := by decide +kernel
theorem dX6_carve_45 : decode cX6_carve 45 = .ok (.getfield 71, 3) := by decide +kernel
theorem dX6_carve_48 : decode cX6_carve 48 = .ok (.iload_n 1, 1) := by decide +kernel
theorem dX6_carve_49 : decode cX6_carve 49 = .ok (.invokevirtual 117, 3) := by decide +kernel
theorem dX6_carve_52 : decode cX6_carve 52 = .ok (.istore_n 3, 1) := by decide +kernel
theorem dX6_carve_53 : decode cX6_carve 53 = .ok (.aload_n 0, 1) := by decide +kernel
theorem dX6_carve_54 : decode cX6_carve 54 = .ok (.getfield 29, 3) := by decide +kernel
theorem dX6_carve_57 : decode cX6_carve 57 = .ok (.aload_n 0, 1) := by decide +kernel
theorem dX6_carve_58 : decode cX6_carve 58 = .ok (.getfield 19, 3) := by decide +kernel
theorem dX6_carve_61 : decode cX6_carve 61 = .ok (.invokevirtual 212, 3) := by decide +kernel
theorem dX6_carve_64 : decode cX6_carve 64 = .ok (.aload_n 0, 1) := by decide +kernel
theorem dX6_carve_65 : decode cX6_carve 65 = .ok (.getfield 19, 3) := by decide +kernel
theorem dX6_carve_68 : decode cX6_carve 68 = .ok (.iload_n 1, 1) := by decide +kernel
theorem dX6_carve_69 : decode cX6_carve 69 = .ok (.iload_n 2, 1) := by decide +kernel
theorem dX6_carve_70 : decode cX6_carve 70 = .ok (.invokevirtual 238, 3) := by decide +kernel
theorem dX6_carve_73 : decode cX6_carve 73 = .ok (.pop, 1) := by decide +kernel
theorem dX6_carve_74 : decode cX6_carve 74 = .ok (.iload_n 3, 1) := by decide +kernel
theorem dX6_carve_75 : decode cX6_carve 75 = .ok (.ireturn, 1) := by decide +kernel
theorem dX6_wear_0 : decode cX6_wear 0 = .ok (.aload_n 0, 1) := by decide +kernel
theorem dX6_wear_1 : decode cX6_wear 1 = .ok (.getfield 19, 3) := by decide +kernel
theorem dX6_wear_4 : decode cX6_wear 4 = .ok (.getfield 71, 3) := by decide +kernel
theorem dX6_wear_7 : decode cX6_wear 7 = .ok (.iload_n 1, 1) := by decide +kernel
theorem dX6_wear_8 : decode cX6_wear 8 = .ok (.invokevirtual 108, 3) := by decide +kernel
theorem dX6_wear_11 : decode cX6_wear 11 = .ok (.ifCond .ne 13, 3) := by decide +kernel
theorem dX6_wear_14 : decode cX6_wear 14 = .ok (.new 112, 3) := by decide +kernel
theorem dX6_wear_17 : decode cX6_wear 17 = .ok (.dup, 1) := by decide +kernel
theorem dX6_wear_18 : decode cX6_wear 18 = .ok (.ldc 114, 2) := by decide +kernel
theorem dX6_wear_20 : decode cX6_wear 20 = .ok (.invokespecial 116, 3) := by decide +kernel
theorem dX6_wear_23 : decode cX6_wear 23 = .ok (.athrow, 1) := by decide +kernel
theorem dX6_wear_24 : decode cX6_wear 24 = .ok (.aload_n 0, 1) := by decide +kernel
theorem dX6_wear_25 : decode cX6_wear 25 = .ok (.getfield 29, 3) := by decide +kernel
theorem dX6_wear_28 : decode cX6_wear 28 = .ok (.aload_n 0, 1) := by decide +kernel
theorem dX6_wear_29 : decode cX6_wear 29 = .ok (.getfield 19, 3) := by decide +kernel
theorem dX6_wear_32 : decode cX6_wear 32 = .ok (.invokevirtual 212, 3) := by decide +kernel
theorem dX6_wear_35 : decode cX6_wear 35 = .ok (.aload_n 0, 1) := by decide +kernel
theorem dX6_wear_36 : decode cX6_wear 36 = .ok (.getfield 19, 3) := by decide +kernel
theorem dX6_wear_39 : decode cX6_wear 39 = .ok (.iload_n 1, 1) := by decide +kernel
theorem dX6_wear_40 : decode cX6_wear 40 = .ok (.invokevirtual 242, 3) := by decide +kernel
theorem dX6_wear_43 : decode cX6_wear 43 = .ok (.pop, 1) := by decide +kernel
theorem dX6_wear_44 : decode cX6_wear 44 = .ok (.aload_n 0, 1) := by decide +kernel
theorem dX6_wear_45 : decode cX6_wear 45 = .ok (.getfield 19, 3) := by decide +kernel
theorem dX6_wear_48 : decode cX6_wear 48 = .ok (.getfield 71, 3) := by decide +kernel
theorem dX6_wear_51 : decode cX6_wear 51 = .ok (.bipush 63, 2) := by decide +kernel
theorem dX6_wear_53 : decode cX6_wear 53 = .ok (.invokevirtual 81, 3) := by decide +kernel
theorem dX6_wear_56 : decode cX6_wear 56 = .ok (.ireturn, 1) := by decide +kernel
theorem dX6_insert_0 : decode cX6_insert 0 = .ok (.iload_n 1, 1) := by decide +kernel
theorem dX6_insert_1 : decode cX6_insert 1 = .ok (.ifCond .lt 17, 3) := by decide +kernel
theorem dX6_insert_4 : decode cX6_insert 4 = .ok (.iload_n 1, 1) := by decide +kernel
theorem dX6_insert_5 : decode cX6_insert 5 = .ok (.aload_n 0, 1) := by decide +kernel
theorem dX6_insert_6 : decode cX6_insert 6 = .ok (.getfield 19, 3) := by decide +kernel
theorem dX6_insert_9 : decode cX6_insert 9 = .ok (.getfield 71, 3) := by decide +kernel
theorem dX6_insert_12 : decode cX6_insert 12 = .ok (.getfield 75, 3) := by decide +kernel
theorem dX6_insert_15 : decode cX6_insert 15 = .ok (.if_icmp .le 13, 3) := by decide +kernel
theorem dX6_insert_18 : decode cX6_insert 18 = .ok (.new 112, 3) := by decide +kernel
theorem dX6_insert_21 : decode cX6_insert 21 = .ok (.dup, 1) := by decide +kernel
theorem dX6_insert_22 : decode cX6_insert 22 = .ok (.ldc 114, 2) := by decide +kernel
theorem dX6_insert_24 : decode cX6_insert 24 = .ok (.invokespecial 116, 3) := by decide +kernel
theorem dX6_insert_27 : decode cX6_insert 27 = .ok (.athrow, 1) := by decide +kernel
theorem dX6_insert_28 : decode cX6_insert 28 = .ok (.iload_n 2, 1) := by decide +kernel
theorem dX6_insert_29 : decode cX6_insert 29 = .ok (.invokestatic 233, 3) := by decide +kernel
theorem dX6_insert_32 : decode cX6_insert 32 = .ok (.ifCond .ne 13, 3) := by decide +kernel
theorem dX6_insert_35 : decode cX6_insert 35 = .ok (.new 41, 3) := by decide +kernel
theorem dX6_insert_38 : decode cX6_insert 38 = .ok (.dup, 1) := by decide +kernel
theorem dX6_insert_39 : decode cX6_insert 39 = .ok (.ldc 236, 2) := by decide +kernel
theorem dX6_insert_41 : decode cX6_insert 41 = .ok (.invokespecial 45, 3) := by decide +kernel
theorem dX6_insert_44 : decode cX6_insert 44 = .ok (.athrow, 1) := by decide +kernel
theorem dX6_insert_45 : decode cX6_insert 45 = .ok (.aload_n 0, 1) := by decide +kernel
theorem dX6_insert_46 : decode cX6_insert 46 = .ok (.getfield 19, 3) := by decide +kernel
theorem dX6_insert_49 : decode cX6_insert 49 = .ok (.getfield 71, 3) := by decide +kernel
theorem dX6_insert_52 : decode cX6_insert 52 = .ok (.invokevirtual 245, 3) := by decide +kernel
theorem dX6_insert_55 : decode cX6_insert 55 = .ok (.ifCond .eq 13, 3) := by decide +kernel
theorem dX6_insert_58 : decode cX6_insert 58 = .ok (.new 52, 3) := by decide +kernel
theorem dX6_insert_61 : decode cX6_insert 61 = .ok (.dup, 1) := by decide +kernel
theorem dX6_insert_62 : decode cX6_insert 62 = .ok (.ldc 246, 2) := by decide +kernel
theorem dX6_insert_64 : decode cX6_insert 64 = .ok (.invokespecial 56, 3) := by decide +kernel
theorem dX6_insert_67 : decode cX6_insert 67 = .ok (.athrow, 1) := by decide +kernel
theorem dX6_insert_68 : decode cX6_insert 68 = .ok (.aload_n 0, 1) := by decide +kernel
theorem dX6_insert_69 : decode cX6_insert 69 = .ok (.getfield 29, 3) := by decide +kernel
theorem dX6_insert_72 : decode cX6_insert 72 = .ok (.aload_n 0, 1) := by decide +kernel
theorem dX6_insert_73 : decode cX6_insert 73 = .ok (.getfield 19, 3) := by decide +kernel
theorem dX6_insert_76 : decode cX6_insert 76 = .ok (.invokevirtual 212, 3) := by decide +kernel
theorem dX6_insert_79 : decode cX6_insert 79 = .ok (.aload_n 0, 1) := by decide +kernel
theorem dX6_insert_80 : decode cX6_insert 80 = .ok (.getfield 19, 3) := by decide +kernel
theorem dX6_insert_83 : decode cX6_insert 83 = .ok (.iload_n 1, 1) := by decide +kernel
theorem dX6_insert_84 : decode cX6_insert 84 = .ok (.iload_n 2, 1) := by decide +kernel
theorem dX6_insert_85 : decode cX6_insert 85 = .ok (.invokevirtual 248, 3) := by decide +kernel
theorem dX6_insert_88 : decode cX6_insert 88 = .ok (.pop, 1) := by decide +kernel
theorem dX6_insert_89 : decode cX6_insert 89 = .ok (.aload_n 0, 1) := by decide +kernel
theorem dX6_insert_90 : decode cX6_insert 90 = .ok (.getfield 19, 3) := by decide +kernel
theorem dX6_insert_93 : decode cX6_insert 93 = .ok (.getfield 71, 3) := by decide +kernel
theorem dX6_insert_96 : decode cX6_insert 96 = .ok (.getfield 75, 3) := by decide +kernel
theorem dX6_insert_99 : decode cX6_insert 99 = .ok (.ireturn, 1) := by decide +kernel
theorem dX6_erase_0 : decode cX6_erase 0 = .ok (.aload_n 0, 1) := by decide +kernel
theorem dX6_erase_1 : decode cX6_erase 1 = .ok (.getfield 19, 3) := by decide +kernel
theorem dX6_erase_4 : decode cX6_erase 4 = .ok (.getfield 71, 3) := by decide +kernel
theorem dX6_erase_7 : decode cX6_erase 7 = .ok (.iload_n 1, 1) := by decide +kernel
theorem dX6_erase_8 : decode cX6_erase 8 = .ok (.invokevirtual 108, 3) := by decide +kernel
theorem dX6_erase_11 : decode cX6_erase 11 = .ok (.ifCond .ne 13, 3) := by decide +kernel
theorem dX6_erase_14 : decode cX6_erase 14 = .ok (.new 112, 3) := by decide +kernel
theorem dX6_erase_17 : decode cX6_erase 17 = .ok (.dup, 1) := by decide +kernel
theorem dX6_erase_18 : decode cX6_erase 18 = .ok (.ldc 114, 2) := by decide +kernel
theorem dX6_erase_20 : decode cX6_erase 20 = .ok (.invokespecial 116, 3) := by decide +kernel
theorem dX6_erase_23 : decode cX6_erase 23 = .ok (.athrow, 1) := by decide +kernel
theorem dX6_erase_24 : decode cX6_erase 24 = .ok (.aload_n 0, 1) := by decide +kernel
theorem dX6_erase_25 : decode cX6_erase 25 = .ok (.getfield 29, 3) := by decide +kernel
theorem dX6_erase_28 : decode cX6_erase 28 = .ok (.aload_n 0, 1) := by decide +kernel
theorem dX6_erase_29 : decode cX6_erase 29 = .ok (.getfield 19, 3) := by decide +kernel
theorem dX6_erase_32 : decode cX6_erase 32 = .ok (.invokevirtual 212, 3) := by decide +kernel
theorem dX6_erase_35 : decode cX6_erase 35 = .ok (.aload_n 0, 1) := by decide +kernel
theorem dX6_erase_36 : decode cX6_erase 36 = .ok (.getfield 19, 3) := by decide +kernel
theorem dX6_erase_39 : decode cX6_erase 39 = .ok (.iload_n 1, 1) := by decide +kernel
theorem dX6_erase_40 : decode cX6_erase 40 = .ok (.invokevirtual 251, 3) := by decide +kernel
theorem dX6_erase_43 : decode cX6_erase 43 = .ok (.pop, 1) := by decide +kernel
theorem dX6_erase_44 : decode cX6_erase 44 = .ok (.aload_n 0, 1) := by decide +kernel
theorem dX6_erase_45 : decode cX6_erase 45 = .ok (.getfield 19, 3) := by decide +kernel
theorem dX6_erase_48 : decode cX6_erase 48 = .ok (.getfield 71, 3) := by decide +kernel
theorem dX6_erase_51 : decode cX6_erase 51 = .ok (.getfield 75, 3) := by decide +kernel
theorem dX6_erase_54 : decode cX6_erase 54 = .ok (.ireturn, 1) := by decide +kernel
theorem dX6_addWalker_0 : decode cX6_addWalker 0 = .ok (.aload_n 0, 1) := by decide +kernel
theorem dX6_addWalker_1 : decode cX6_addWalker 1 = .ok (.getfield 19, 3) := by decide +kernel
theorem dX6_addWalker_4 : decode cX6_addWalker 4 = .ok (.getfield 71, 3) := by decide +kernel
theorem dX6_addWalker_7 : decode cX6_addWalker 7 = .ok (.iload_n 1, 1) := by decide +kernel
theorem dX6_addWalker_8 : decode cX6_addWalker 8 = .ok (.invokevirtual 108, 3) := by decide +kernel
theorem dX6_addWalker_11 : decode cX6_addWalker 11 = .ok (.ifCond .eq 10, 3) := by decide +kernel
theorem dX6_addWalker_14 : decode cX6_addWalker 14 = .ok (.iload_n 2, 1) := by decide +kernel
theorem dX6_addWalker_15 : decode cX6_addWalker 15 = .ok (.invokestatic 136, 3) := by decide +kernel
theorem dX6_addWalker_18 : decode cX6_addWalker 18 = .ok (.ifCond .ne 13, 3) := by decide +kernel
theorem dX6_addWalker_21 : decode cX6_addWalker 21 = .ok (.new 112, 3) := by decide +kernel
theorem dX6_addWalker_24 : decode cX6_addWalker 24 = .ok (.dup, 1) := by decide +kernel
theorem dX6_addWalker_25 : decode cX6_addWalker 25 = .ok (.ldc 254, 2) := by decide +kernel
theorem dX6_addWalker_27 : decode cX6_addWalker 27 = .ok (.invokespecial 116, 3) := by decide +kernel
theorem dX6_addWalker_30 : decode cX6_addWalker 30 = .ok (.athrow, 1) := by decide +kernel
theorem dX6_addWalker_31 : decode cX6_addWalker 31 = .ok (.iload_n 3, 1) := by decide +kernel
theorem dX6_addWalker_32 : decode cX6_addWalker 32 = .ok (.invokestatic 256, 3) := by decide +kernel
theorem dX6_addWalker_35 : decode cX6_addWalker 35 = .ok (.ifCond .eq 11, 3) := by decide +kernel
theorem dX6_addWalker_38 : decode cX6_addWalker 38 = .ok (.iload 4, 2) := by decide +kernel
theorem dX6_addWalker_40 : decode cX6_addWalker 40 = .ok (.invokestatic 259, 3) := by decide +kernel
theorem dX6_addWalker_43 : decode cX6_addWalker 43 = .ok (.ifCond .ne 14, 3) := by decide +kernel
theorem dX6_addWalker_46 : decode cX6_addWalker 46 = .ok (.new 41, 3) := by decide +kernel
theorem dX6_addWalker_49 : decode cX6_addWalker 49 = .ok (.dup, 1) := by decide +kernel
theorem dX6_addWalker_50 : decode cX6_addWalker 50 = .ok (.ldc_w 262, 3) := by decide +kernel
theorem dX6_addWalker_53 : decode cX6_addWalker 53 = .ok (.invokespecial 45, 3) := by decide +kernel
theorem dX6_addWalker_56 : decode cX6_addWalker 56 = .ok (.athrow, 1) := by decide +kernel
theorem dX6_addWalker_57 : decode cX6_addWalker 57 = .ok (.aload_n 0, 1) := by decide +kernel
theorem dX6_addWalker_58 : decode cX6_addWalker 58 = .ok (.getfield 19, 3) := by decide +kernel
theorem dX6_addWalker_61 : decode cX6_addWalker 61 = .ok (.getfield 93, 3) := by decide +kernel
theorem dX6_addWalker_64 : decode cX6_addWalker 64 = .ok (.iconst 4, 1) := by decide +kernel
theorem dX6_addWalker_65 : decode cX6_addWalker 65 = .ok (.if_icmp .lt 14, 3) := by decide +kernel
theorem dX6_addWalker_68 : decode cX6_addWalker 68 = .ok (.new 52, 3) := by decide +kernel
theorem dX6_addWalker_71 : decode cX6_addWalker 71 = .ok (.dup, 1) := by decide +kernel
theorem dX6_addWalker_72 : decode cX6_addWalker 72 = .ok (.ldc_w 264, 3) := by decide +kernel
theorem dX6_addWalker_75 : decode cX6_addWalker 75 = .ok (.invokespecial 56, 3) := by decide +kernel
theorem dX6_addWalker_78 : decode cX6_addWalker 78 = .ok (.athrow, 1) := by decide +kernel
theorem dX6_addWalker_79 : decode cX6_addWalker 79 = .ok (.aload_n 0, 1) := by decide +kernel
theorem dX6_addWalker_80 : decode cX6_addWalker 80 = .ok (.getfield 29, 3) := by decide +kernel
theorem dX6_addWalker_83 : decode cX6_addWalker 83 = .ok (.aload_n 0, 1) := by decide +kernel
theorem dX6_addWalker_84 : decode cX6_addWalker 84 = .ok (.getfield 19, 3) := by decide +kernel
theorem dX6_addWalker_87 : decode cX6_addWalker 87 = .ok (.invokevirtual 212, 3) := by decide +kernel
theorem dX6_addWalker_90 : decode cX6_addWalker 90 = .ok (.aload_n 0, 1) := by decide +kernel
theorem dX6_addWalker_91 : decode cX6_addWalker 91 = .ok (.getfield 19, 3) := by decide +kernel
theorem dX6_addWalker_94 : decode cX6_addWalker 94 = .ok (.iload_n 1, 1) := by decide +kernel
theorem dX6_addWalker_95 : decode cX6_addWalker 95 = .ok (.iload_n 2, 1) := by decide +kernel
theorem dX6_addWalker_96 : decode cX6_addWalker 96 = .ok (.iload_n 3, 1) := by decide +kernel
theorem dX6_addWalker_97 : decode cX6_addWalker 97 = .ok (.iload 4, 2) := by decide +kernel
theorem dX6_addWalker_99 : decode cX6_addWalker 99 = .ok (.invokevirtual 266, 3) := by decide +kernel
theorem dX6_addWalker_102 : decode cX6_addWalker 102 = .ok (.pop, 1) := by decide +kernel
theorem dX6_addWalker_103 : decode cX6_addWalker 103 = .ok (.aload_n 0, 1) := by decide +kernel
theorem dX6_addWalker_104 : decode cX6_addWalker 104 = .ok (.getfield 19, 3) := by decide +kernel
theorem dX6_addWalker_107 : decode cX6_addWalker 107 = .ok (.getfield 93, 3) := by decide +kernel
theorem dX6_addWalker_110 : decode cX6_addWalker 110 = .ok (.iconst 1, 1) := by decide +kernel
theorem dX6_addWalker_111 : decode cX6_addWalker 111 = .ok (.isub, 1) := by decide +kernel
theorem dX6_addWalker_112 : decode cX6_addWalker 112 = .ok (.ireturn, 1) := by decide +kernel
theorem dX6_turn_0 : decode cX6_turn 0 = .ok (.aload_n 0, 1) := by decide +kernel
theorem dX6_turn_1 : decode cX6_turn 1 = .ok (.getfield 19, 3) := by decide +kernel
theorem dX6_turn_4 : decode cX6_turn 4 = .ok (.iload_n 1, 1) := by decide +kernel
theorem dX6_turn_5 : decode cX6_turn 5 = .ok (.invokevirtual 180, 3) := by decide +kernel
theorem dX6_turn_8 : decode cX6_turn 8 = .ok (.ifCond .ne 13, 3) := by decide +kernel
theorem dX6_turn_11 : decode cX6_turn 11 = .ok (.new 112, 3) := by decide +kernel
theorem dX6_turn_14 : decode cX6_turn 14 = .ok (.dup, 1) := by decide +kernel
theorem dX6_turn_15 : decode cX6_turn 15 = .ok (.ldc 183, 2) := by decide +kernel
theorem dX6_turn_17 : decode cX6_turn 17 = .ok (.invokespecial 116, 3) := by decide +kernel
theorem dX6_turn_20 : decode cX6_turn 20 = .ok (.athrow, 1) := by decide +kernel
theorem dX6_turn_21 : decode cX6_turn 21 = .ok (.aload_n 0, 1) := by decide +kernel
theorem dX6_turn_22 : decode cX6_turn 22 = .ok (.getfield 29, 3) := by decide +kernel
theorem dX6_turn_25 : decode cX6_turn 25 = .ok (.aload_n 0, 1) := by decide +kernel
theorem dX6_turn_26 : decode cX6_turn 26 = .ok (.getfield 19, 3) := by decide +kernel
theorem dX6_turn_29 : decode cX6_turn 29 = .ok (.invokevirtual 212, 3) := by decide +kernel
theorem dX6_turn_32 : decode cX6_turn 32 = .ok (.aload_n 0, 1) := by decide +kernel
theorem dX6_turn_33 : decode cX6_turn 33 = .ok (.getfield 19, 3) := by decide +kernel
theorem dX6_turn_36 : decode cX6_turn 36 = .ok (.iload_n 1, 1) := by decide +kernel
theorem dX6_turn_37 : decode cX6_turn 37 = .ok (.invokevirtual 270, 3) := by decide +kernel
theorem dX6_turn_40 : decode cX6_turn 40 = .ok (.pop, 1) := by decide +kernel
theorem dX6_turn_41 : decode cX6_turn 41 = .ok (.aload_n 0, 1) := by decide +kernel
theorem dX6_turn_42 : decode cX6_turn 42 = .ok (.getfield 19, 3) := by decide +kernel
theorem dX6_turn_45 : decode cX6_turn 45 = .ok (.getfield 185, 3) := by decide +kernel
theorem dX6_turn_48 : decode cX6_turn 48 = .ok (.iload_n 1, 1) := by decide +kernel
theorem dX6_turn_49 : decode cX6_turn 49 = .ok (.aaload, 1) := by decide +kernel
theorem dX6_turn_50 : decode cX6_turn 50 = .ok (.invokevirtual 203, 3) := by decide +kernel
theorem dX6_turn_53 : decode cX6_turn 53 = .ok (.ireturn, 1) := by decide +kernel
theorem dX6_go_0 : decode cX6_go 0 = .ok (.iload_n 1, 1) := by decide +kernel
theorem dX6_go_1 : decode cX6_go 1 = .ok (.invokestatic 273, 3) := by decide +kernel
theorem dX6_go_4 : decode cX6_go 4 = .ok (.ifCond .ne 14, 3) := by decide +kernel
theorem dX6_go_7 : decode cX6_go 7 = .ok (.new 41, 3) := by decide +kernel
theorem dX6_go_10 : decode cX6_go 10 = .ok (.dup, 1) := by decide +kernel
theorem dX6_go_11 : decode cX6_go 11 = .ok (.ldc_w 276, 3) := by decide +kernel
theorem dX6_go_14 : decode cX6_go 14 = .ok (.invokespecial 45, 3) := by decide +kernel
theorem dX6_go_17 : decode cX6_go 17 = .ok (.athrow, 1) := by decide +kernel
theorem dX6_go_18 : decode cX6_go 18 = .ok (.aload_n 0, 1) := by decide +kernel
theorem dX6_go_19 : decode cX6_go 19 = .ok (.getfield 29, 3) := by decide +kernel
theorem dX6_go_22 : decode cX6_go 22 = .ok (.aload_n 0, 1) := by decide +kernel
theorem dX6_go_23 : decode cX6_go 23 = .ok (.getfield 19, 3) := by decide +kernel
theorem dX6_go_26 : decode cX6_go 26 = .ok (.invokevirtual 212, 3) := by decide +kernel
theorem dX6_go_29 : decode cX6_go 29 = .ok (.aload_n 0, 1) := by decide +kernel
theorem dX6_go_30 : decode cX6_go 30 = .ok (.getfield 19, 3) := by decide +kernel
theorem dX6_go_33 : decode cX6_go 33 = .ok (.iload_n 1, 1) := by decide +kernel
theorem dX6_go_34 : decode cX6_go 34 = .ok (.invokevirtual 278, 3) := by decide +kernel
theorem dX6_go_37 : decode cX6_go 37 = .ok (.pop, 1) := by decide +kernel
theorem dX6_go_38 : decode cX6_go 38 = .ok (.aload_n 0, 1) := by decide +kernel
theorem dX6_go_39 : decode cX6_go 39 = .ok (.getfield 19, 3) := by decide +kernel
theorem dX6_go_42 : decode cX6_go 42 = .ok (.invokevirtual 281, 3) := by decide +kernel
theorem dX6_go_45 : decode cX6_go 45 = .ok (.ireturn, 1) := by decide +kernel
theorem dX6_undo_0 : decode cX6_undo 0 = .ok (.aload_n 0, 1) := by decide +kernel
theorem dX6_undo_1 : decode cX6_undo 1 = .ok (.getfield 29, 3) := by decide +kernel
theorem dX6_undo_4 : decode cX6_undo 4 = .ok (.invokevirtual 284, 3) := by decide +kernel
theorem dX6_undo_7 : decode cX6_undo 7 = .ok (.ifCond .eq 14, 3) := by decide +kernel
theorem dX6_undo_10 : decode cX6_undo 10 = .ok (.new 52, 3) := by decide +kernel
theorem dX6_undo_13 : decode cX6_undo 13 = .ok (.dup, 1) := by decide +kernel
theorem dX6_undo_14 : decode cX6_undo 14 = .ok (.ldc_w 287, 3) := by decide +kernel
theorem dX6_undo_17 : decode cX6_undo 17 = .ok (.invokespecial 56, 3) := by decide +kernel
theorem dX6_undo_20 : decode cX6_undo 20 = .ok (.athrow, 1) := by decide +kernel
theorem dX6_undo_21 : decode cX6_undo 21 = .ok (.aload_n 0, 1) := by decide +kernel
theorem dX6_undo_22 : decode cX6_undo 22 = .ok (.getfield 29, 3) := by decide +kernel
theorem dX6_undo_25 : decode cX6_undo 25 = .ok (.aload_n 0, 1) := by decide +kernel
theorem dX6_undo_26 : decode cX6_undo 26 = .ok (.getfield 19, 3) := by decide +kernel
theorem dX6_undo_29 : decode cX6_undo 29 = .ok (.invokevirtual 289, 3) := by decide +kernel
theorem dX6_undo_32 : decode cX6_undo 32 = .ok (.ireturn, 1) := by decide +kernel
theorem dX6_meet_0 : decode cX6_meet 0 = .ok (.aload_n 0, 1) := by decide +kernel
theorem dX6_meet_1 : decode cX6_meet 1 = .ok (.getfield 19, 3) := by decide +kernel
theorem dX6_meet_4 : decode cX6_meet 4 = .ok (.iload_n 1, 1) := by decide +kernel
theorem dX6_meet_5 : decode cX6_meet 5 = .ok (.invokevirtual 180, 3) := by decide +kernel
theorem dX6_meet_8 : decode cX6_meet 8 = .ok (.ifCond .eq 14, 3) := by decide +kernel
theorem dX6_meet_11 : decode cX6_meet 11 = .ok (.aload_n 0, 1) := by decide +kernel
theorem dX6_meet_12 : decode cX6_meet 12 = .ok (.getfield 19, 3) := by decide +kernel
theorem dX6_meet_15 : decode cX6_meet 15 = .ok (.iload_n 2, 1) := by decide +kernel
theorem dX6_meet_16 : decode cX6_meet 16 = .ok (.invokevirtual 180, 3) := by decide +kernel
theorem dX6_meet_19 : decode cX6_meet 19 = .ok (.ifCond .ne 13, 3) := by decide +kernel
theorem dX6_meet_22 : decode cX6_meet 22 = .ok (.new 112, 3) := by decide +kernel
theorem dX6_meet_25 : decode cX6_meet 25 = .ok (.dup, 1) := by decide +kernel
theorem dX6_meet_26 : decode cX6_meet 26 = .ok (.ldc 183, 2) := by decide +kernel
theorem dX6_meet_28 : decode cX6_meet 28 = .ok (.invokespecial 116, 3) := by decide +kernel
theorem dX6_meet_31 : decode cX6_meet 31 = .ok (.athrow, 1) := by decide +kernel
theorem dX6_meet_32 : decode cX6_meet 32 = .ok (.iload_n 1, 1) := by decide +kernel
theorem dX6_meet_33 : decode cX6_meet 33 = .ok (.iload_n 2, 1) := by decide +kernel
theorem dX6_meet_34 : decode cX6_meet 34 = .ok (.if_icmp .ne 14, 3) := by decide +kernel
theorem dX6_meet_37 : decode cX6_meet 37 = .ok (.new 52, 3) := by decide +kernel
theorem dX6_meet_40 : decode cX6_meet 40 = .ok (.dup, 1) := by decide +kernel
theorem dX6_meet_41 : decode cX6_meet 41 = .ok (.ldc_w 293, 3) := by decide +kernel
theorem dX6_meet_44 : decode cX6_meet 44 = .ok (.invokespecial 56, 3) := by decide +kernel
theorem dX6_meet_47 : decode cX6_meet 47 = .ok (.athrow, 1) := by decide +kernel
theorem dX6_meet_48 : decode cX6_meet 48 = .ok (.aload_n 0, 1) := by decide +kernel
theorem dX6_meet_49 : decode cX6_meet 49 = .ok (.getfield 19, 3) := by decide +kernel
theorem dX6_meet_52 : decode cX6_meet 52 = .ok (.iload_n 1, 1) := by decide +kernel
theorem dX6_meet_53 : decode cX6_meet 53 = .ok (.iload_n 2, 1) := by decide +kernel
theorem dX6_meet_54 : decode cX6_meet 54 = .ok (.invokevirtual 295, 3) := by decide +kernel
theorem dX6_meet_57 : decode cX6_meet 57 = .ok (.ireturn, 1) := by decide +kernel
theorem dX6_seesAll_0 : decode cX6_seesAll 0 = .ok (.aload_n 0, 1) := by decide +kernel
theorem dX6_seesAll_1 : decode cX6_seesAll 1 = .ok (.getfield 19, 3) := by decide +kernel
theorem dX6_seesAll_4 : decode cX6_seesAll 4 = .ok (.iload_n 1, 1) := by decide +kernel
theorem dX6_seesAll_5 : decode cX6_seesAll 5 = .ok (.invokevirtual 180, 3) := by decide +kernel
theorem dX6_seesAll_8 : decode cX6_seesAll 8 = .ok (.ifCond .ne 13, 3) := by decide +kernel
theorem dX6_seesAll_11 : decode cX6_seesAll 11 = .ok (.new 112, 3) := by decide +kernel
theorem dX6_seesAll_14 : decode cX6_seesAll 14 = .ok (.dup, 1) := by decide +kernel
theorem dX6_seesAll_15 : decode cX6_seesAll 15 = .ok (.ldc 183, 2) := by decide +kernel
theorem dX6_seesAll_17 : decode cX6_seesAll 17 = .ok (.invokespecial 116, 3) := by decide +kernel
theorem dX6_seesAll_20 : decode cX6_seesAll 20 = .ok (.athrow, 1) := by decide +kernel
theorem dX6_seesAll_21 : decode cX6_seesAll 21 = .ok (.aload_n 0, 1) := by decide +kernel
theorem dX6_seesAll_22 : decode cX6_seesAll 22 = .ok (.getfield 19, 3) := by decide +kernel
theorem dX6_seesAll_25 : decode cX6_seesAll 25 = .ok (.getfield 185, 3) := by decide +kernel
theorem dX6_seesAll_28 : decode cX6_seesAll 28 = .ok (.iload_n 1, 1) := by decide +kernel
theorem dX6_seesAll_29 : decode cX6_seesAll 29 = .ok (.aaload, 1) := by decide +kernel
theorem dX6_seesAll_30 : decode cX6_seesAll 30 = .ok (.aload_n 0, 1) := by decide +kernel
theorem dX6_seesAll_31 : decode cX6_seesAll 31 = .ok (.getfield 19, 3) := by decide +kernel
theorem dX6_seesAll_34 : decode cX6_seesAll 34 = .ok (.getfield 71, 3) := by decide +kernel
theorem dX6_seesAll_37 : decode cX6_seesAll 37 = .ok (.invokevirtual 298, 3) := by decide +kernel
theorem dX6_seesAll_40 : decode cX6_seesAll 40 = .ok (.ireturn, 1) := by decide +kernel
theorem dX6_ifWorn_0 : decode cX6_ifWorn 0 = .ok (.aload_n 0, 1) := by decide +kernel
theorem dX6_ifWorn_1 : decode cX6_ifWorn 1 = .ok (.getfield 19, 3) := by decide +kernel
theorem dX6_ifWorn_4 : decode cX6_ifWorn 4 = .ok (.getfield 71, 3) := by decide +kernel
theorem dX6_ifWorn_7 : decode cX6_ifWorn 7 = .ok (.iload_n 1, 1) := by decide +kernel
theorem dX6_ifWorn_8 : decode cX6_ifWorn 8 = .ok (.invokevirtual 108, 3) := by decide +kernel
theorem dX6_ifWorn_11 : decode cX6_ifWorn 11 = .ok (.ifCond .eq 10, 3) := by decide +kernel
theorem dX6_ifWorn_14 : decode cX6_ifWorn 14 = .ok (.iload_n 2, 1) := by decide +kernel
theorem dX6_ifWorn_15 : decode cX6_ifWorn 15 = .ok (.invokestatic 136, 3) := by decide +kernel
theorem dX6_ifWorn_18 : decode cX6_ifWorn 18 = .ok (.ifCond .ne 13, 3) := by decide +kernel
theorem dX6_ifWorn_21 : decode cX6_ifWorn 21 = .ok (.new 112, 3) := by decide +kernel
theorem dX6_ifWorn_24 : decode cX6_ifWorn 24 = .ok (.dup, 1) := by decide +kernel
theorem dX6_ifWorn_25 : decode cX6_ifWorn 25 = .ok (.ldc 254, 2) := by decide +kernel
theorem dX6_ifWorn_27 : decode cX6_ifWorn 27 = .ok (.invokespecial 116, 3) := by decide +kernel
theorem dX6_ifWorn_30 : decode cX6_ifWorn 30 = .ok (.athrow, 1) := by decide +kernel
theorem dX6_ifWorn_31 : decode cX6_ifWorn 31 = .ok (.aload_n 0, 1) := by decide +kernel
theorem dX6_ifWorn_32 : decode cX6_ifWorn 32 = .ok (.getfield 23, 3) := by decide +kernel
theorem dX6_ifWorn_35 : decode cX6_ifWorn 35 = .ok (.aload_n 0, 1) := by decide +kernel
theorem dX6_ifWorn_36 : decode cX6_ifWorn 36 = .ok (.getfield 19, 3) := by decide +kernel
theorem dX6_ifWorn_39 : decode cX6_ifWorn 39 = .ok (.invokevirtual 302, 3) := by decide +kernel
theorem dX6_ifWorn_42 : decode cX6_ifWorn 42 = .ok (.aload_n 0, 1) := by decide +kernel
theorem dX6_ifWorn_43 : decode cX6_ifWorn 43 = .ok (.getfield 23, 3) := by decide +kernel
theorem dX6_ifWorn_46 : decode cX6_ifWorn 46 = .ok (.iload_n 1, 1) := by decide +kernel
theorem dX6_ifWorn_47 : decode cX6_ifWorn 47 = .ok (.invokevirtual 242, 3) := by decide +kernel
theorem dX6_ifWorn_50 : decode cX6_ifWorn 50 = .ok (.pop, 1) := by decide +kernel
theorem dX6_ifWorn_51 : decode cX6_ifWorn 51 = .ok (.aload_n 0, 1) := by decide +kernel
theorem dX6_ifWorn_52 : decode cX6_ifWorn 52 = .ok (.getfield 23, 3) := by decide +kernel
theorem dX6_ifWorn_55 : decode cX6_ifWorn 55 = .ok (.iload_n 2, 1) := by decide +kernel
theorem dX6_ifWorn_56 : decode cX6_ifWorn 56 = .ok (.invokevirtual 147, 3) := by decide +kernel
theorem dX6_ifWorn_59 : decode cX6_ifWorn 59 = .ok (.ireturn, 1) := by decide +kernel
theorem dX6_bestDivider_0 : decode cX6_bestDivider 0 = .ok (.iload_n 1, 1) := by decide +kernel
theorem dX6_bestDivider_1 : decode cX6_bestDivider 1 = .ok (.invokestatic 136, 3) := by decide +kernel
theorem dX6_bestDivider_4 : decode cX6_bestDivider 4 = .ok (.ifCond .ne 13, 3) := by decide +kernel
theorem dX6_bestDivider_7 : decode cX6_bestDivider 7 = .ok (.new 112, 3) := by decide +kernel
theorem dX6_bestDivider_10 : decode cX6_bestDivider 10 = .ok (.dup, 1) := by decide +kernel
theorem dX6_bestDivider_11 : decode cX6_bestDivider 11 = .ok (.ldc 139, 2) := by decide +kernel
theorem dX6_bestDivider_13 : decode cX6_bestDivider 13 = .ok (.invokespecial 116, 3) := by decide +kernel
theorem dX6_bestDivider_16 : decode cX6_bestDivider 16 = .ok (.athrow, 1) := by decide +kernel
theorem dX6_bestDivider_17 : decode cX6_bestDivider 17 = .ok (.iload_n 2, 1) := by decide +kernel
theorem dX6_bestDivider_18 : decode cX6_bestDivider 18 = .ok (.ifCond .lt 8, 3) := by decide +kernel
theorem dX6_bestDivider_21 : decode cX6_bestDivider 21 = .ok (.iload_n 2, 1) := by decide +kernel
theorem dX6_bestDivider_22 : decode cX6_bestDivider 22 = .ok (.iconst 1, 1) := by decide +kernel
theorem dX6_bestDivider_23 : decode cX6_bestDivider 23 = .ok (.if_icmp .le 13, 3) := by decide +kernel
theorem dX6_bestDivider_26 : decode cX6_bestDivider 26 = .ok (.new 41, 3) := by decide +kernel
theorem dX6_bestDivider_29 : decode cX6_bestDivider 29 = .ok (.dup, 1) := by decide +kernel
theorem dX6_bestDivider_30 : decode cX6_bestDivider 30 = .ok (.ldc 69, 2) := by decide +kernel
theorem dX6_bestDivider_32 : decode cX6_bestDivider 32 = .ok (.invokespecial 45, 3) := by decide +kernel
theorem dX6_bestDivider_35 : decode cX6_bestDivider 35 = .ok (.athrow, 1) := by decide +kernel
theorem dX6_bestDivider_36 : decode cX6_bestDivider 36 = .ok (.aload_n 0, 1) := by decide +kernel
theorem dX6_bestDivider_37 : decode cX6_bestDivider 37 = .ok (.getfield 23, 3) := by decide +kernel
theorem dX6_bestDivider_40 : decode cX6_bestDivider 40 = .ok (.aload_n 0, 1) := by decide +kernel
theorem dX6_bestDivider_41 : decode cX6_bestDivider 41 = .ok (.getfield 19, 3) := by decide +kernel
theorem dX6_bestDivider_44 : decode cX6_bestDivider 44 = .ok (.invokevirtual 302, 3) := by decide +kernel
theorem dX6_bestDivider_47 : decode cX6_bestDivider 47 = .ok (.iconst (-1), 1) := by decide +kernel
theorem dX6_bestDivider_48 : decode cX6_bestDivider 48 = .ok (.istore_n 3, 1) := by decide +kernel
theorem dX6_bestDivider_49 : decode cX6_bestDivider 49 = .ok (.iconst (-1), 1) := by decide +kernel
theorem dX6_bestDivider_50 : decode cX6_bestDivider 50 = .ok (.istore 4, 2) := by decide +kernel
theorem dX6_bestDivider_52 : decode cX6_bestDivider 52 = .ok (.iconst 0, 1) := by decide +kernel
theorem dX6_bestDivider_53 : decode cX6_bestDivider 53 = .ok (.istore 5, 2) := by decide +kernel
theorem dX6_bestDivider_55 : decode cX6_bestDivider 55 = .ok (.iload 5, 2) := by decide +kernel
theorem dX6_bestDivider_57 : decode cX6_bestDivider 57 = .ok (.aload_n 0, 1) := by decide +kernel
theorem dX6_bestDivider_58 : decode cX6_bestDivider 58 = .ok (.getfield 19, 3) := by decide +kernel
theorem dX6_bestDivider_61 : decode cX6_bestDivider 61 = .ok (.getfield 71, 3) := by decide +kernel
theorem dX6_bestDivider_64 : decode cX6_bestDivider 64 = .ok (.getfield 75, 3) := by decide +kernel
theorem dX6_bestDivider_67 : decode cX6_bestDivider 67 = .ok (.if_icmp .ge 86, 3) := by decide +kernel
theorem dX6_bestDivider_70 : decode cX6_bestDivider 70 = .ok (.aload_n 0, 1) := by decide +kernel
theorem dX6_bestDivider_71 : decode cX6_bestDivider 71 = .ok (.getfield 19, 3) := by decide +kernel
theorem dX6_bestDivider_74 : decode cX6_bestDivider 74 = .ok (.getfield 71, 3) := by decide +kernel
theorem dX6_bestDivider_77 : decode cX6_bestDivider 77 = .ok (.iload 5, 2) := by decide +kernel
theorem dX6_bestDivider_79 : decode cX6_bestDivider 79 = .ok (.invokevirtual 305, 3) := by decide +kernel
theorem dX6_bestDivider_82 : decode cX6_bestDivider 82 = .ok (.ifCond .ne 65, 3) := by decide +kernel
theorem dX6_bestDivider_85 : decode cX6_bestDivider 85 = .ok (.aload_n 0, 1) := by decide +kernel
theorem dX6_bestDivider_86 : decode cX6_bestDivider 86 = .ok (.getfield 23, 3) := by decide +kernel
theorem dX6_bestDivider_89 : decode cX6_bestDivider 89 = .ok (.getfield 71, 3) := by decide +kernel
theorem dX6_bestDivider_92 : decode cX6_bestDivider 92 = .ok (.iload 5, 2) := by decide +kernel
theorem dX6_bestDivider_94 : decode cX6_bestDivider 94 = .ok (.bipush 46, 2) := by decide +kernel
theorem dX6_bestDivider_96 : decode cX6_bestDivider 96 = .ok (.invokevirtual 308, 3) := by decide +kernel
theorem dX6_bestDivider_99 : decode cX6_bestDivider 99 = .ok (.aload_n 0, 1) := by decide +kernel
theorem dX6_bestDivider_100 : decode cX6_bestDivider 100 = .ok (.getfield 23, 3) := by decide +kernel
theorem dX6_bestDivider_103 : decode cX6_bestDivider 103 = .ok (.iload_n 1, 1) := by decide +kernel
theorem dX6_bestDivider_104 : decode cX6_bestDivider 104 = .ok (.invokevirtual 144, 3) := by decide +kernel
theorem dX6_bestDivider_107 : decode cX6_bestDivider 107 = .ok (.istore 6, 2) := by decide +kernel
theorem dX6_bestDivider_109 : decode cX6_bestDivider 109 = .ok (.aload_n 0, 1) := by decide +kernel
theorem dX6_bestDivider_110 : decode cX6_bestDivider 110 = .ok (.getfield 23, 3) := by decide +kernel
theorem dX6_bestDivider_113 : decode cX6_bestDivider 113 = .ok (.getfield 71, 3) := by decide +kernel
theorem dX6_bestDivider_116 : decode cX6_bestDivider 116 = .ok (.iload 5, 2) := by decide +kernel
theorem dX6_bestDivider_118 : decode cX6_bestDivider 118 = .ok (.aload_n 0, 1) := by decide +kernel
theorem dX6_bestDivider_119 : decode cX6_bestDivider 119 = .ok (.getfield 19, 3) := by decide +kernel
theorem dX6_bestDivider_122 : decode cX6_bestDivider 122 = .ok (.getfield 71, 3) := by decide +kernel
theorem dX6_bestDivider_125 : decode cX6_bestDivider 125 = .ok (.iload 5, 2) := by decide +kernel
theorem dX6_bestDivider_127 : decode cX6_bestDivider 127 = .ok (.invokevirtual 117, 3) := by decide +kernel
theorem dX6_bestDivider_130 : decode cX6_bestDivider 130 = .ok (.invokevirtual 308, 3) := by decide +kernel
theorem dX6_bestDivider_133 : decode cX6_bestDivider 133 = .ok (.iload 6, 2) := by decide +kernel
theorem dX6_bestDivider_135 : decode cX6_bestDivider 135 = .ok (.iload 4, 2) := by decide +kernel
theorem dX6_bestDivider_137 : decode cX6_bestDivider 137 = .ok (.if_icmp .le 10, 3) := by decide +kernel
theorem dX6_bestDivider_140 : decode cX6_bestDivider 140 = .ok (.iload 5, 2) := by decide +kernel
theorem dX6_bestDivider_142 : decode cX6_bestDivider 142 = .ok (.istore_n 3, 1) := by decide +kernel
theorem dX6_bestDivider_143 : decode cX6_bestDivider 143 = .ok (.iload 6, 2) := by decide +kernel
theorem dX6_bestDivider_145 : decode cX6_bestDivider 145 = .ok (.istore 4, 2) := by decide +kernel
theorem dX6_bestDivider_147 : decode cX6_bestDivider 147 = .ok (.iinc 5 1, 3) := by decide +kernel
theorem dX6_bestDivider_150 : decode cX6_bestDivider 150 = .ok (.goto (-95), 3) := by decide +kernel
theorem dX6_bestDivider_153 : decode cX6_bestDivider 153 = .ok (.iload_n 2, 1) := by decide +kernel
theorem dX6_bestDivider_154 : decode cX6_bestDivider 154 = .ok (.ifCond .ne 7, 3) := by decide +kernel
theorem dX6_bestDivider_157 : decode cX6_bestDivider 157 = .ok (.iload_n 3, 1) := by decide +kernel
theorem dX6_bestDivider_158 : decode cX6_bestDivider 158 = .ok (.goto 5, 3) := by decide +kernel
theorem dX6_bestDivider_161 : decode cX6_bestDivider 161 = .ok (.iload 4, 2) := by decide +kernel
theorem dX6_bestDivider_163 : decode cX6_bestDivider 163 = .ok (.ireturn, 1) := by decide +kernel
theorem dX6_bestDirection_0 : decode cX6_bestDirection 0 = .ok (.aload_n 0, 1) := by decide +kernel
theorem dX6_bestDirection_1 : decode cX6_bestDirection 1 = .ok (.getfield 19, 3) := by decide +kernel
theorem dX6_bestDirection_4 : decode cX6_bestDirection 4 = .ok (.iconst 1, 1) := by decide +kernel
theorem dX6_bestDirection_5 : decode cX6_bestDirection 5 = .ok (.invokevirtual 144, 3) := by decide +kernel
theorem dX6_bestDirection_8 : decode cX6_bestDirection 8 = .ok (.aload_n 0, 1) := by decide +kernel
theorem dX6_bestDirection_9 : decode cX6_bestDirection 9 = .ok (.getfield 19, 3) := by decide +kernel
theorem dX6_bestDirection_12 : decode cX6_bestDirection 12 = .ok (.iconst 0, 1) := by decide +kernel
theorem dX6_bestDirection_13 : decode cX6_bestDirection 13 = .ok (.invokevirtual 144, 3) := by decide +kernel
theorem dX6_bestDirection_16 : decode cX6_bestDirection 16 = .ok (.invokestatic 312, 3) := by decide +kernel
theorem dX6_bestDirection_19 : decode cX6_bestDirection 19 = .ok (.istore_n 1, 1) := by decide +kernel
theorem dX6_bestDirection_20 : decode cX6_bestDirection 20 = .ok (.aload_n 0, 1) := by decide +kernel
theorem dX6_bestDirection_21 : decode cX6_bestDirection 21 = .ok (.getfield 19, 3) := by decide +kernel
theorem dX6_bestDirection_24 : decode cX6_bestDirection 24 = .ok (.iconst 1, 1) := by decide +kernel
theorem dX6_bestDirection_25 : decode cX6_bestDirection 25 = .ok (.invokevirtual 147, 3) := by decide +kernel
theorem dX6_bestDirection_28 : decode cX6_bestDirection 28 = .ok (.aload_n 0, 1) := by decide +kernel
theorem dX6_bestDirection_29 : decode cX6_bestDirection 29 = .ok (.getfield 19, 3) := by decide +kernel
theorem dX6_bestDirection_32 : decode cX6_bestDirection 32 = .ok (.iconst 0, 1) := by decide +kernel
theorem dX6_bestDirection_33 : decode cX6_bestDirection 33 = .ok (.invokevirtual 147, 3) := by decide +kernel
theorem dX6_bestDirection_36 : decode cX6_bestDirection 36 = .ok (.invokestatic 312, 3) := by decide +kernel
theorem dX6_bestDirection_39 : decode cX6_bestDirection 39 = .ok (.istore_n 2, 1) := by decide +kernel
theorem dX6_bestDirection_40 : decode cX6_bestDirection 40 = .ok (.iload_n 1, 1) := by decide +kernel
theorem dX6_bestDirection_41 : decode cX6_bestDirection 41 = .ok (.ifCond .gt 11, 3) := by decide +kernel
theorem dX6_bestDirection_44 : decode cX6_bestDirection 44 = .ok (.iload_n 1, 1) := by decide +kernel
theorem dX6_bestDirection_45 : decode cX6_bestDirection 45 = .ok (.ifCond .ne 11, 3) := by decide +kernel
theorem dX6_bestDirection_48 : decode cX6_bestDirection 48 = .ok (.iload_n 2, 1) := by decide +kernel
theorem dX6_bestDirection_49 : decode cX6_bestDirection 49 = .ok (.ifCond .le 7, 3) := by decide +kernel
theorem dX6_bestDirection_52 : decode cX6_bestDirection 52 = .ok (.iconst 1, 1) := by decide +kernel
theorem dX6_bestDirection_53 : decode cX6_bestDirection 53 = .ok (.goto 4, 3) := by decide +kernel
theorem dX6_bestDirection_56 : decode cX6_bestDirection 56 = .ok (.iconst 0, 1) := by decide +kernel
theorem dX6_bestDirection_57 : decode cX6_bestDirection 57 = .ok (.ireturn, 1) := by decide +kernel
theorem dX6_canBe_0 : decode cX6_canBe 0 = .ok (.aload_n 0, 1) := by decide +kernel
theorem dX6_canBe_1 : decode cX6_canBe 1 = .ok (.getfield 19, 3) := by decide +kernel
theorem dX6_canBe_4 : decode cX6_canBe 4 = .ok (.getfield 71, 3) := by decide +kernel
theorem dX6_canBe_7 : decode cX6_canBe 7 = .ok (.iload_n 1, 1) := by decide +kernel
theorem dX6_canBe_8 : decode cX6_canBe 8 = .ok (.invokevirtual 108, 3) := by decide +kernel
theorem dX6_canBe_11 : decode cX6_canBe 11 = .ok (.ifCond .eq 10, 3) := by decide +kernel
theorem dX6_canBe_14 : decode cX6_canBe 14 = .ok (.iload_n 2, 1) := by decide +kernel
theorem dX6_canBe_15 : decode cX6_canBe 15 = .ok (.invokestatic 136, 3) := by decide +kernel
theorem dX6_canBe_18 : decode cX6_canBe 18 = .ok (.ifCond .ne 13, 3) := by decide +kernel
theorem dX6_canBe_21 : decode cX6_canBe 21 = .ok (.new 112, 3) := by decide +kernel
theorem dX6_canBe_24 : decode cX6_canBe 24 = .ok (.dup, 1) := by decide +kernel
theorem dX6_canBe_25 : decode cX6_canBe 25 = .ok (.ldc 254, 2) := by decide +kernel
theorem dX6_canBe_27 : decode cX6_canBe 27 = .ok (.invokespecial 116, 3) := by decide +kernel
theorem dX6_canBe_30 : decode cX6_canBe 30 = .ok (.athrow, 1) := by decide +kernel
theorem dX6_canBe_31 : decode cX6_canBe 31 = .ok (.aload_n 0, 1) := by decide +kernel
theorem dX6_canBe_32 : decode cX6_canBe 32 = .ok (.getfield 19, 3) := by decide +kernel
theorem dX6_canBe_35 : decode cX6_canBe 35 = .ok (.getfield 71, 3) := by decide +kernel
theorem dX6_canBe_38 : decode cX6_canBe 38 = .ok (.iload_n 1, 1) := by decide +kernel
theorem dX6_canBe_39 : decode cX6_canBe 39 = .ok (.iload_n 2, 1) := by decide +kernel
theorem dX6_canBe_40 : decode cX6_canBe 40 = .ok (.invokevirtual 317, 3) := by decide +kernel
theorem dX6_canBe_43 : decode cX6_canBe 43 = .ok (.istore_n 3, 1) := by decide +kernel
theorem dX6_canBe_44 : decode cX6_canBe 44 = .ok (.iload_n 3, 1) := by decide +kernel
theorem dX6_canBe_45 : decode cX6_canBe 45 = .ok (.ifCond .gt 5, 3) := by decide +kernel
theorem dX6_canBe_48 : decode cX6_canBe 48 = .ok (.iconst 0, 1) := by decide +kernel
theorem dX6_canBe_49 : decode cX6_canBe 49 = .ok (.ireturn, 1) := by decide +kernel
theorem dX6_canBe_50 : decode cX6_canBe 50 = .ok (.aload_n 0, 1) := by decide +kernel
theorem dX6_canBe_51 : decode cX6_canBe 51 = .ok (.getfield 19, 3) := by decide +kernel
theorem dX6_canBe_54 : decode cX6_canBe 54 = .ok (.getfield 71, 3) := by decide +kernel
theorem dX6_canBe_57 : decode cX6_canBe 57 = .ok (.iload_n 1, 1) := by decide +kernel
theorem dX6_canBe_58 : decode cX6_canBe 58 = .ok (.iconst 1, 1) := by decide +kernel
theorem dX6_canBe_59 : decode cX6_canBe 59 = .ok (.iload_n 2, 1) := by decide +kernel
theorem dX6_canBe_60 : decode cX6_canBe 60 = .ok (.isub, 1) := by decide +kernel
theorem dX6_canBe_61 : decode cX6_canBe 61 = .ok (.iload_n 3, 1) := by decide +kernel
theorem dX6_canBe_62 : decode cX6_canBe 62 = .ok (.invokevirtual 320, 3) := by decide +kernel
theorem dX6_canBe_65 : decode cX6_canBe 65 = .ok (.istore 4, 2) := by decide +kernel
theorem dX6_canBe_67 : decode cX6_canBe 67 = .ok (.aload_n 0, 1) := by decide +kernel
theorem dX6_canBe_68 : decode cX6_canBe 68 = .ok (.getfield 19, 3) := by decide +kernel
theorem dX6_canBe_71 : decode cX6_canBe 71 = .ok (.getfield 84, 3) := by decide +kernel
theorem dX6_canBe_74 : decode cX6_canBe 74 = .ok (.aload_n 0, 1) := by decide +kernel
theorem dX6_canBe_75 : decode cX6_canBe 75 = .ok (.getfield 19, 3) := by decide +kernel
theorem dX6_canBe_78 : decode cX6_canBe 78 = .ok (.getfield 71, 3) := by decide +kernel
theorem dX6_canBe_81 : decode cX6_canBe 81 = .ok (.iload 4, 2) := by decide +kernel
theorem dX6_canBe_83 : decode cX6_canBe 83 = .ok (.iload_n 2, 1) := by decide +kernel
theorem dX6_canBe_84 : decode cX6_canBe 84 = .ok (.iload_n 3, 1) := by decide +kernel
theorem dX6_canBe_85 : decode cX6_canBe 85 = .ok (.iconst 1, 1) := by decide +kernel
theorem dX6_canBe_86 : decode cX6_canBe 86 = .ok (.isub, 1) := by decide +kernel
theorem dX6_canBe_87 : decode cX6_canBe 87 = .ok (.invokevirtual 324, 3) := by decide +kernel
theorem dX6_canBe_90 : decode cX6_canBe 90 = .ok (.ireturn, 1) := by decide +kernel
theorem dX6_runScript_0 : decode cX6_runScript 0 = .ok (.iload_n 1, 1) := by decide +kernel
theorem dX6_runScript_1 : decode cX6_runScript 1 = .ok (.iconst 1, 1) := by decide +kernel
theorem dX6_runScript_2 : decode cX6_runScript 2 = .ok (.if_icmp .lt 8, 3) := by decide +kernel
theorem dX6_runScript_5 : decode cX6_runScript 5 = .ok (.iload_n 1, 1) := by decide +kernel
theorem dX6_runScript_6 : decode cX6_runScript 6 = .ok (.iconst 3, 1) := by decide +kernel
theorem dX6_runScript_7 : decode cX6_runScript 7 = .ok (.if_icmp .le 14, 3) := by decide +kernel
theorem dX6_runScript_10 : decode cX6_runScript 10 = .ok (.new 41, 3) := by decide +kernel
theorem dX6_runScript_13 : decode cX6_runScript 13 = .ok (.dup, 1) := by decide +kernel
theorem dX6_runScript_14 : decode cX6_runScript 14 = .ok (.ldc_w 328, 3) := by decide +kernel
theorem dX6_runScript_17 : decode cX6_runScript 17 = .ok (.invokespecial 45, 3) := by decide +kernel
theorem dX6_runScript_20 : decode cX6_runScript 20 = .ok (.athrow, 1) := by decide +kernel
theorem dX6_runScript_21 : decode cX6_runScript 21 = .ok (.lconst 1, 1) := by decide +kernel
theorem dX6_runScript_22 : decode cX6_runScript 22 = .ok (.lstore 4, 2) := by decide +kernel
theorem dX6_runScript_24 : decode cX6_runScript 24 = .ok (.iconst 0, 1) := by decide +kernel
theorem dX6_runScript_25 : decode cX6_runScript 25 = .ok (.istore 6, 2) := by decide +kernel
theorem dX6_runScript_27 : decode cX6_runScript 27 = .ok (.iload 6, 2) := by decide +kernel
theorem dX6_runScript_29 : decode cX6_runScript 29 = .ok (.iload_n 1, 1) := by decide +kernel
theorem dX6_runScript_30 : decode cX6_runScript 30 = .ok (.if_icmp .ge 17, 3) := by decide +kernel
theorem dX6_runScript_33 : decode cX6_runScript 33 = .ok (.lload 4, 2) := by decide +kernel
theorem dX6_runScript_35 : decode cX6_runScript 35 = .ok (.ldc2_w 330, 3) := by decide +kernel
theorem dX6_runScript_38 : decode cX6_runScript 38 = .ok (.lmul, 1) := by decide +kernel
theorem dX6_runScript_39 : decode cX6_runScript 39 = .ok (.lstore 4, 2) := by decide +kernel
theorem dX6_runScript_41 : decode cX6_runScript 41 = .ok (.iinc 6 1, 3) := by decide +kernel
theorem dX6_runScript_44 : decode cX6_runScript 44 = .ok (.goto (-17), 3) := by decide +kernel
theorem dX6_runScript_47 : decode cX6_runScript 47 = .ok (.lload_n 2, 1) := by decide +kernel
theorem dX6_runScript_48 : decode cX6_runScript 48 = .ok (.lconst 0, 1) := by decide +kernel
theorem dX6_runScript_49 : decode cX6_runScript 49 = .ok (.lcmp, 1) := by decide +kernel
theorem dX6_runScript_50 : decode cX6_runScript 50 = .ok (.ifCond .lt 10, 3) := by decide +kernel
theorem dX6_runScript_53 : decode cX6_runScript 53 = .ok (.lload_n 2, 1) := by decide +kernel
theorem dX6_runScript_54 : decode cX6_runScript 54 = .ok (.lload 4, 2) := by decide +kernel
theorem dX6_runScript_56 : decode cX6_runScript 56 = .ok (.lcmp, 1) := by decide +kernel
theorem dX6_runScript_57 : decode cX6_runScript 57 = .ok (.ifCond .lt 14, 3) := by decide +kernel
theorem dX6_runScript_60 : decode cX6_runScript 60 = .ok (.new 41, 3) := by decide +kernel
theorem dX6_runScript_63 : decode cX6_runScript 63 = .ok (.dup, 1) := by decide +kernel
theorem dX6_runScript_64 : decode cX6_runScript 64 = .ok (.ldc_w 332, 3) := by decide +kernel
theorem dX6_runScript_67 : decode cX6_runScript 67 = .ok (.invokespecial 45, 3) := by decide +kernel
theorem dX6_runScript_70 : decode cX6_runScript 70 = .ok (.athrow, 1) := by decide +kernel
theorem dX6_runScript_71 : decode cX6_runScript 71 = .ok (.aload_n 0, 1) := by decide +kernel
theorem dX6_runScript_72 : decode cX6_runScript 72 = .ok (.getfield 23, 3) := by decide +kernel
theorem dX6_runScript_75 : decode cX6_runScript 75 = .ok (.aload_n 0, 1) := by decide +kernel
theorem dX6_runScript_76 : decode cX6_runScript 76 = .ok (.getfield 19, 3) := by decide +kernel
theorem dX6_runScript_79 : decode cX6_runScript 79 = .ok (.invokevirtual 302, 3) := by decide +kernel
theorem dX6_runScript_82 : decode cX6_runScript 82 = .ok (.lload_n 2, 1) := by decide +kernel
theorem dX6_runScript_83 : decode cX6_runScript 83 = .ok (.lstore 6, 2) := by decide +kernel
theorem dX6_runScript_85 : decode cX6_runScript 85 = .ok (.iconst 0, 1) := by decide +kernel
theorem dX6_runScript_86 : decode cX6_runScript 86 = .ok (.istore 8, 2) := by decide +kernel
theorem dX6_runScript_88 : decode cX6_runScript 88 = .ok (.iload 8, 2) := by decide +kernel
theorem dX6_runScript_90 : decode cX6_runScript 90 = .ok (.iload_n 1, 1) := by decide +kernel
theorem dX6_runScript_91 : decode cX6_runScript 91 = .ok (.if_icmp .ge 47, 3) := by decide +kernel
theorem dX6_runScript_94 : decode cX6_runScript 94 = .ok (.lload 4, 2) := by decide +kernel
theorem dX6_runScript_96 : decode cX6_runScript 96 = .ok (.ldc2_w 330, 3) := by decide +kernel
theorem dX6_runScript_99 : decode cX6_runScript 99 = .ok (.ldiv, 1) := by decide +kernel
theorem dX6_runScript_100 : decode cX6_runScript 100 = .ok (.lconst 1, 1) := by decide +kernel
theorem dX6_runScript_101 : decode cX6_runScript 101 = .ok (.invokestatic 334, 3) := by decide +kernel
theorem dX6_runScript_104 : decode cX6_runScript 104 = .ok (.lstore 4, 2) := by decide +kernel
theorem dX6_runScript_106 : decode cX6_runScript 106 = .ok (.aload_n 0, 1) := by decide +kernel
theorem dX6_runScript_107 : decode cX6_runScript 107 = .ok (.getfield 23, 3) := by decide +kernel
theorem dX6_runScript_110 : decode cX6_runScript 110 = .ok (.lload 6, 2) := by decide +kernel
theorem dX6_runScript_112 : decode cX6_runScript 112 = .ok (.lload 4, 2) := by decide +kernel
theorem dX6_runScript_114 : decode cX6_runScript 114 = .ok (.ldiv, 1) := by decide +kernel
theorem dX6_runScript_115 : decode cX6_runScript 115 = .ok (.l2i, 1) := by decide +kernel
theorem dX6_runScript_116 : decode cX6_runScript 116 = .ok (.invokestatic 340, 3) := by decide +kernel
theorem dX6_runScript_119 : decode cX6_runScript 119 = .ok (.ifCond .ne 6, 3) := by decide +kernel
theorem dX6_runScript_122 : decode cX6_runScript 122 = .ok (.iload 8, 2) := by decide +kernel
theorem dX6_runScript_124 : decode cX6_runScript 124 = .ok (.ireturn, 1) := by decide +kernel
theorem dX6_runScript_125 : decode cX6_runScript 125 = .ok (.lload 6, 2) := by decide +kernel
theorem dX6_runScript_127 : decode cX6_runScript 127 = .ok (.lload 4, 2) := by decide +kernel
theorem dX6_runScript_129 : decode cX6_runScript 129 = .ok (.lrem, 1) := by decide +kernel
theorem dX6_runScript_130 : decode cX6_runScript 130 = .ok (.lstore 6, 2) := by decide +kernel
theorem dX6_runScript_132 : decode cX6_runScript 132 = .ok (.iinc 8 1, 3) := by decide +kernel
theorem dX6_runScript_135 : decode cX6_runScript 135 = .ok (.goto (-47), 3) := by decide +kernel
theorem dX6_runScript_138 : decode cX6_runScript 138 = .ok (.iconst (-1), 1) := by decide +kernel
theorem dX6_runScript_139 : decode cX6_runScript 139 = .ok (.ireturn, 1) := by decide +kernel
theorem dX6_simulate_0 : decode cX6_simulate 0 = .ok (.iload_n 3, 1) := by decide +kernel
theorem dX6_simulate_1 : decode cX6_simulate 1 = .ok (.iconst 1, 1) := by decide +kernel
theorem dX6_simulate_2 : decode cX6_simulate 2 = .ok (.if_icmp .lt 9, 3) := by decide +kernel
theorem dX6_simulate_5 : decode cX6_simulate 5 = .ok (.iload_n 3, 1) := by decide +kernel
theorem dX6_simulate_6 : decode cX6_simulate 6 = .ok (.bipush 60, 2) := by decide +kernel
theorem dX6_simulate_8 : decode cX6_simulate 8 = .ok (.if_icmp .le 14, 3) := by decide +kernel
theorem dX6_simulate_11 : decode cX6_simulate 11 = .ok (.new 41, 3) := by decide +kernel
theorem dX6_simulate_14 : decode cX6_simulate 14 = .ok (.dup, 1) := by decide +kernel
theorem dX6_simulate_15 : decode cX6_simulate 15 = .ok (.ldc_w 344, 3) := by decide +kernel
theorem dX6_simulate_18 : decode cX6_simulate 18 = .ok (.invokespecial 45, 3) := by decide +kernel
theorem dX6_simulate_21 : decode cX6_simulate 21 = .ok (.athrow, 1) := by decide +kernel
theorem dX6_simulate_22 : decode cX6_simulate 22 = .ok (.aload_n 0, 1) := by decide +kernel
theorem dX6_simulate_23 : decode cX6_simulate 23 = .ok (.getfield 23, 3) := by decide +kernel
theorem dX6_simulate_26 : decode cX6_simulate 26 = .ok (.aload_n 0, 1) := by decide +kernel
theorem dX6_simulate_27 : decode cX6_simulate 27 = .ok (.getfield 19, 3) := by decide +kernel
theorem dX6_simulate_30 : decode cX6_simulate 30 = .ok (.invokevirtual 302, 3) := by decide +kernel
theorem dX6_simulate_33 : decode cX6_simulate 33 = .ok (.lload_n 1, 1) := by decide +kernel
theorem dX6_simulate_34 : decode cX6_simulate 34 = .ok (.lstore 4, 2) := by decide +kernel
theorem dX6_simulate_36 : decode cX6_simulate 36 = .ok (.iconst 0, 1) := by decide +kernel
theorem dX6_simulate_37 : decode cX6_simulate 37 = .ok (.istore 6, 2) := by decide +kernel
theorem dX6_simulate_39 : decode cX6_simulate 39 = .ok (.iload 6, 2) := by decide +kernel
theorem dX6_simulate_41 : decode cX6_simulate 41 = .ok (.iload_n 3, 1) := by decide +kernel
theorem dX6_simulate_42 : decode cX6_simulate 42 = .ok (.if_icmp .ge 34, 3) := by decide +kernel
theorem dX6_simulate_45 : decode cX6_simulate 45 = .ok (.lload 4, 2) := by decide +kernel
theorem dX6_simulate_47 : decode cX6_simulate 47 = .ok (.ldc2_w 346, 3) := by decide +kernel
theorem dX6_simulate_50 : decode cX6_simulate 50 = .ok (.lmul, 1) := by decide +kernel
theorem dX6_simulate_51 : decode cX6_simulate 51 = .ok (.ldc2_w 348, 3) := by decide +kernel
theorem dX6_simulate_54 : decode cX6_simulate 54 = .ok (.ladd, 1) := by decide +kernel
theorem dX6_simulate_55 : decode cX6_simulate 55 = .ok (.lstore 4, 2) := by decide +kernel
theorem dX6_simulate_57 : decode cX6_simulate 57 = .ok (.aload_n 0, 1) := by decide +kernel
theorem dX6_simulate_58 : decode cX6_simulate 58 = .ok (.getfield 23, 3) := by decide +kernel
theorem dX6_simulate_61 : decode cX6_simulate 61 = .ok (.lload 4, 2) := by decide +kernel
theorem dX6_simulate_63 : decode cX6_simulate 63 = .ok (.bipush 33, 2) := by decide +kernel
theorem dX6_simulate_65 : decode cX6_simulate 65 = .ok (.lushr, 1) := by decide +kernel
theorem dX6_simulate_66 : decode cX6_simulate 66 = .ok (.l2i, 1) := by decide +kernel
theorem dX6_simulate_67 : decode cX6_simulate 67 = .ok (.invokestatic 350, 3) := by decide +kernel
theorem dX6_simulate_70 : decode cX6_simulate 70 = .ok (.iinc 6 1, 3) := by decide +kernel
theorem dX6_simulate_73 : decode cX6_simulate 73 = .ok (.goto (-34), 3) := by decide +kernel
theorem dX6_simulate_76 : decode cX6_simulate 76 = .ok (.sipush 10000, 3) := by decide +kernel
theorem dX6_simulate_79 : decode cX6_simulate 79 = .ok (.aload_n 0, 1) := by decide +kernel
theorem dX6_simulate_80 : decode cX6_simulate 80 = .ok (.getfield 23, 3) := by decide +kernel
theorem dX6_simulate_83 : decode cX6_simulate 83 = .ok (.iconst 0, 1) := by decide +kernel
theorem dX6_simulate_84 : decode cX6_simulate 84 = .ok (.invokevirtual 144, 3) := by decide +kernel
theorem dX6_simulate_87 : decode cX6_simulate 87 = .ok (.imul, 1) := by decide +kernel
theorem dX6_simulate_88 : decode cX6_simulate 88 = .ok (.bipush 100, 2) := by decide +kernel
theorem dX6_simulate_90 : decode cX6_simulate 90 = .ok (.aload_n 0, 1) := by decide +kernel
theorem dX6_simulate_91 : decode cX6_simulate 91 = .ok (.getfield 23, 3) := by decide +kernel
theorem dX6_simulate_94 : decode cX6_simulate 94 = .ok (.iconst 1, 1) := by decide +kernel
theorem dX6_simulate_95 : decode cX6_simulate 95 = .ok (.invokevirtual 144, 3) := by decide +kernel
theorem dX6_simulate_98 : decode cX6_simulate 98 = .ok (.imul, 1) := by decide +kernel
theorem dX6_simulate_99 : decode cX6_simulate 99 = .ok (.iadd, 1) := by decide +kernel
theorem dX6_simulate_100 : decode cX6_simulate 100 = .ok (.aload_n 0, 1) := by decide +kernel
theorem dX6_simulate_101 : decode cX6_simulate 101 = .ok (.getfield 23, 3) := by decide +kernel
theorem dX6_simulate_104 : decode cX6_simulate 104 = .ok (.invokevirtual 281, 3) := by decide +kernel
theorem dX6_simulate_107 : decode cX6_simulate 107 = .ok (.iadd, 1) := by decide +kernel
theorem dX6_simulate_108 : decode cX6_simulate 108 = .ok (.ireturn, 1) := by decide +kernel
theorem dX6_save_0 : decode cX6_save 0 = .ok (.iload_n 1, 1) := by decide +kernel
theorem dX6_save_1 : decode cX6_save 1 = .ok (.ifCond .lt 8, 3) := by decide +kernel
theorem dX6_save_4 : decode cX6_save 4 = .ok (.iload_n 1, 1) := by decide +kernel
theorem dX6_save_5 : decode cX6_save 5 = .ok (.iconst 2, 1) := by decide +kernel
theorem dX6_save_6 : decode cX6_save 6 = .ok (.if_icmp .lt 14, 3) := by decide +kernel
theorem dX6_save_9 : decode cX6_save 9 = .ok (.new 112, 3) := by decide +kernel
theorem dX6_save_12 : decode cX6_save 12 = .ok (.dup, 1) := by decide +kernel
theorem dX6_save_13 : decode cX6_save 13 = .ok (.ldc_w 354, 3) := by decide +kernel
theorem dX6_save_16 : decode cX6_save 16 = .ok (.invokespecial 116, 3) := by decide +kernel
theorem dX6_save_19 : decode cX6_save 19 = .ok (.athrow, 1) := by decide +kernel
theorem dX6_save_20 : decode cX6_save 20 = .ok (.aload_n 0, 1) := by decide +kernel
theorem dX6_save_21 : decode cX6_save 21 = .ok (.getfield 33, 3) := by decide +kernel
theorem dX6_save_24 : decode cX6_save 24 = .ok (.iload_n 1, 1) := by decide +kernel
theorem dX6_save_25 : decode cX6_save 25 = .ok (.aaload, 1) := by decide +kernel
theorem dX6_save_26 : decode cX6_save 26 = .ok (.aload_n 0, 1) := by decide +kernel
theorem dX6_save_27 : decode cX6_save 27 = .ok (.getfield 19, 3) := by decide +kernel
theorem dX6_save_30 : decode cX6_save 30 = .ok (.invokevirtual 302, 3) := by decide +kernel
theorem dX6_save_33 : decode cX6_save 33 = .ok (.aload_n 0, 1) := by decide +kernel
theorem dX6_save_34 : decode cX6_save 34 = .ok (.getfield 37, 3) := by decide +kernel
theorem dX6_save_37 : decode cX6_save 37 = .ok (.iload_n 1, 1) := by decide +kernel
theorem dX6_save_38 : decode cX6_save 38 = .ok (.iconst 1, 1) := by decide +kernel
theorem dX6_save_39 : decode cX6_save 39 = .ok (.bastore, 1) := by decide +kernel
theorem dX6_save_40 : decode cX6_save 40 = .ok (.aload_n 0, 1) := by decide +kernel
theorem dX6_save_41 : decode cX6_save 41 = .ok (.getfield 19, 3) := by decide +kernel
theorem dX6_save_44 : decode cX6_save 44 = .ok (.getfield 71, 3) := by decide +kernel
theorem dX6_save_47 : decode cX6_save 47 = .ok (.getfield 75, 3) := by decide +kernel
theorem dX6_save_50 : decode cX6_save 50 = .ok (.ireturn, 1) := by decide +kernel
theorem dX6_restore_0 : decode cX6_restore 0 = .ok (.iload_n 1, 1) := by decide +kernel
theorem dX6_restore_1 : decode cX6_restore 1 = .ok (.ifCond .lt 8, 3) := by decide +kernel
theorem dX6_restore_4 : decode cX6_restore 4 = .ok (.iload_n 1, 1) := by decide +kernel
theorem dX6_restore_5 : decode cX6_restore 5 = .ok (.iconst 2, 1) := by decide +kernel
theorem dX6_restore_6 : decode cX6_restore 6 = .ok (.if_icmp .lt 14, 3) := by decide +kernel
theorem dX6_restore_9 : decode cX6_restore 9 = .ok (.new 112, 3) := by decide +kernel
theorem dX6_restore_12 : decode cX6_restore 12 = .ok (.dup, 1) := by decide +kernel
theorem dX6_restore_13 : decode cX6_restore 13 = .ok (.ldc_w 354, 3) := by decide +kernel
theorem dX6_restore_16 : decode cX6_restore 16 = .ok (.invokespecial 116, 3) := by decide +kernel
theorem dX6_restore_19 : decode cX6_restore 19 = .ok (.athrow, 1) := by decide +kernel
theorem dX6_restore_20 : decode cX6_restore 20 = .ok (.aload_n 0, 1) := by decide +kernel
theorem dX6_restore_21 : decode cX6_restore 21 = .ok (.getfield 37, 3) := by decide +kernel
theorem dX6_restore_24 : decode cX6_restore 24 = .ok (.iload_n 1, 1) := by decide +kernel
theorem dX6_restore_25 : decode cX6_restore 25 = .ok (.baload, 1) := by decide +kernel
theorem dX6_restore_26 : decode cX6_restore 26 = .ok (.ifCond .ne 14, 3) := by decide +kernel
theorem dX6_restore_29 : decode cX6_restore 29 = .ok (.new 52, 3) := by decide +kernel
theorem dX6_restore_32 : decode cX6_restore 32 = .ok (.dup, 1) := by decide +kernel
theorem dX6_restore_33 : decode cX6_restore 33 = .ok (.ldc_w 356, 3) := by decide +kernel
theorem dX6_restore_36 : decode cX6_restore 36 = .ok (.invokespecial 56, 3) := by decide +kernel
theorem dX6_restore_39 : decode cX6_restore 39 = .ok (.athrow, 1) := by decide +kernel
theorem dX6_restore_40 : decode cX6_restore 40 = .ok (.aload_n 0, 1) := by decide +kernel
theorem dX6_restore_41 : decode cX6_restore 41 = .ok (.getfield 19, 3) := by decide +kernel
theorem dX6_restore_44 : decode cX6_restore 44 = .ok (.aload_n 0, 1) := by decide +kernel
theorem dX6_restore_45 : decode cX6_restore 45 = .ok (.getfield 33, 3) := by decide +kernel
theorem dX6_restore_48 : decode cX6_restore 48 = .ok (.iload_n 1, 1) := by decide +kernel
theorem dX6_restore_49 : decode cX6_restore 49 = .ok (.aaload, 1) := by decide +kernel
theorem dX6_restore_50 : decode cX6_restore 50 = .ok (.invokevirtual 302, 3) := by decide +kernel
theorem dX6_restore_53 : decode cX6_restore 53 = .ok (.aload_n 0, 1) := by decide +kernel
theorem dX6_restore_54 : decode cX6_restore 54 = .ok (.getfield 29, 3) := by decide +kernel
theorem dX6_restore_57 : decode cX6_restore 57 = .ok (.invokevirtual 358, 3) := by decide +kernel
theorem dX6_restore_60 : decode cX6_restore 60 = .ok (.aload_n 0, 1) := by decide +kernel
theorem dX6_restore_61 : decode cX6_restore 61 = .ok (.getfield 19, 3) := by decide +kernel
theorem dX6_restore_64 : decode cX6_restore 64 = .ok (.getfield 71, 3) := by decide +kernel
theorem dX6_restore_67 : decode cX6_restore 67 = .ok (.getfield 75, 3) := by decide +kernel
theorem dX6_restore_70 : decode cX6_restore 70 = .ok (.ireturn, 1) := by decide +kernel
theorem dX6_isDirection_0 : decode cX6_isDirection 0 = .ok (.iload_n 0, 1) := by decide +kernel
theorem dX6_isDirection_1 : decode cX6_isDirection 1 = .ok (.ifCond .eq 8, 3) := by decide +kernel
theorem dX6_isDirection_4 : decode cX6_isDirection 4 = .ok (.iload_n 0, 1) := by decide +kernel
theorem dX6_isDirection_5 : decode cX6_isDirection 5 = .ok (.iconst 1, 1) := by decide +kernel
theorem dX6_isDirection_6 : decode cX6_isDirection 6 = .ok (.if_icmp .ne 7, 3) := by decide +kernel
theorem dX6_isDirection_9 : decode cX6_isDirection 9 = .ok (.iconst 1, 1) := by decide +kernel
theorem dX6_isDirection_10 : decode cX6_isDirection 10 = .ok (.goto 4, 3) := by decide +kernel
theorem dX6_isDirection_13 : decode cX6_isDirection 13 = .ok (.iconst 0, 1) := by decide +kernel
theorem dX6_isDirection_14 : decode cX6_isDirection 14 = .ok (.ireturn, 1) := by decide +kernel
theorem dX6_isCarvable_0 : decode cX6_isCarvable 0 = .ok (.iload_n 0, 1) := by decide +kernel
theorem dX6_isCarvable_1 : decode cX6_isCarvable 1 = .ok (.ifCond .lt 13, 3) := by decide +kernel
theorem dX6_isCarvable_4 : decode cX6_isCarvable 4 = .ok (.iload_n 0, 1) := by decide +kernel
theorem dX6_isCarvable_5 : decode cX6_isCarvable 5 = .ok (.bipush 8, 2) := by decide +kernel
theorem dX6_isCarvable_7 : decode cX6_isCarvable 7 = .ok (.if_icmp .gt 7, 3) := by decide +kernel
theorem dX6_isCarvable_10 : decode cX6_isCarvable 10 = .ok (.iconst 1, 1) := by decide +kernel
theorem dX6_isCarvable_11 : decode cX6_isCarvable 11 = .ok (.goto 4, 3) := by decide +kernel
theorem dX6_isCarvable_14 : decode cX6_isCarvable 14 = .ok (.iconst 0, 1) := by decide +kernel
theorem dX6_isCarvable_15 : decode cX6_isCarvable 15 = .ok (.ireturn, 1) := by decide +kernel
theorem dX6_carvedSign_0 : decode cX6_carvedSign 0 = .ok (.iload_n 0, 1) := by decide +kernel
theorem dX6_carvedSign_1 : decode cX6_carvedSign 1 = .ok (.ifCond .ne 8, 3) := by decide +kernel
theorem dX6_carvedSign_4 : decode cX6_carvedSign 4 = .ok (.bipush 46, 2) := by decide +kernel
theorem dX6_carvedSign_6 : decode cX6_carvedSign 6 = .ok (.goto 10, 3) := by decide +kernel
theorem dX6_carvedSign_9 : decode cX6_carvedSign 9 = .ok (.bipush 97, 2) := by decide +kernel
theorem dX6_carvedSign_11 : decode cX6_carvedSign 11 = .ok (.iload_n 0, 1) := by decide +kernel
theorem dX6_carvedSign_12 : decode cX6_carvedSign 12 = .ok (.iadd, 1) := by decide +kernel
theorem dX6_carvedSign_13 : decode cX6_carvedSign 13 = .ok (.iconst 1, 1) := by decide +kernel
theorem dX6_carvedSign_14 : decode cX6_carvedSign 14 = .ok (.isub, 1) := by decide +kernel
theorem dX6_carvedSign_15 : decode cX6_carvedSign 15 = .ok (.i2c, 1) := by decide +kernel
theorem dX6_carvedSign_16 : decode cX6_carvedSign 16 = .ok (.ireturn, 1) := by decide +kernel
theorem dX6_isLetter_0 : decode cX6_isLetter 0 = .ok (.iload_n 0, 1) := by decide +kernel
theorem dX6_isLetter_1 : decode cX6_isLetter 1 = .ok (.bipush 97, 2) := by decide +kernel
theorem dX6_isLetter_3 : decode cX6_isLetter 3 = .ok (.if_icmp .lt 13, 3) := by decide +kernel
theorem dX6_isLetter_6 : decode cX6_isLetter 6 = .ok (.iload_n 0, 1) := by decide +kernel
theorem dX6_isLetter_7 : decode cX6_isLetter 7 = .ok (.bipush 104, 2) := by decide +kernel
theorem dX6_isLetter_9 : decode cX6_isLetter 9 = .ok (.if_icmp .gt 7, 3) := by decide +kernel
theorem dX6_isLetter_12 : decode cX6_isLetter 12 = .ok (.iconst 1, 1) := by decide +kernel
theorem dX6_isLetter_13 : decode cX6_isLetter 13 = .ok (.goto 4, 3) := by decide +kernel
theorem dX6_isLetter_16 : decode cX6_isLetter 16 = .ok (.iconst 0, 1) := by decide +kernel
theorem dX6_isLetter_17 : decode cX6_isLetter 17 = .ok (.ireturn, 1) := by decide +kernel
theorem dX6_isPace_0 : decode cX6_isPace 0 = .ok (.iload_n 0, 1) := by decide +kernel
theorem dX6_isPace_1 : decode cX6_isPace 1 = .ok (.iconst 1, 1) := by decide +kernel
theorem dX6_isPace_2 : decode cX6_isPace 2 = .ok (.if_icmp .lt 12, 3) := by decide +kernel
theorem dX6_isPace_5 : decode cX6_isPace 5 = .ok (.iload_n 0, 1) := by decide +kernel
theorem dX6_isPace_6 : decode cX6_isPace 6 = .ok (.iconst 3, 1) := by decide +kernel
theorem dX6_isPace_7 : decode cX6_isPace 7 = .ok (.if_icmp .gt 7, 3) := by decide +kernel
theorem dX6_isPace_10 : decode cX6_isPace 10 = .ok (.iconst 1, 1) := by decide +kernel
theorem dX6_isPace_11 : decode cX6_isPace 11 = .ok (.goto 4, 3) := by decide +kernel
theorem dX6_isPace_14 : decode cX6_isPace 14 = .ok (.iconst 0, 1) := by decide +kernel
theorem dX6_isPace_15 : decode cX6_isPace 15 = .ok (.ireturn, 1) := by decide +kernel
theorem dX6_isSight_0 : decode cX6_isSight 0 = .ok (.iload_n 0, 1) := by decide +kernel
theorem dX6_isSight_1 : decode cX6_isSight 1 = .ok (.iconst 1, 1) := by decide +kernel
theorem dX6_isSight_2 : decode cX6_isSight 2 = .ok (.if_icmp .lt 12, 3) := by decide +kernel
theorem dX6_isSight_5 : decode cX6_isSight 5 = .ok (.iload_n 0, 1) := by decide +kernel
theorem dX6_isSight_6 : decode cX6_isSight 6 = .ok (.iconst 5, 1) := by decide +kernel
theorem dX6_isSight_7 : decode cX6_isSight 7 = .ok (.if_icmp .gt 7, 3) := by decide +kernel
theorem dX6_isSight_10 : decode cX6_isSight 10 = .ok (.iconst 1, 1) := by decide +kernel
theorem dX6_isSight_11 : decode cX6_isSight 11 = .ok (.goto 4, 3) := by decide +kernel
theorem dX6_isSight_14 : decode cX6_isSight 14 = .ok (.iconst 0, 1) := by decide +kernel
theorem dX6_isSight_15 : decode cX6_isSight 15 = .ok (.ireturn, 1) := by decide +kernel
theorem dX6_isStepCount_0 : decode cX6_isStepCount 0 = .ok (.iload_n 0, 1) := by decide +kernel
theorem dX6_isStepCount_1 : decode cX6_isStepCount 1 = .ok (.iconst 1, 1) := by decide +kernel
theorem dX6_isStepCount_2 : decode cX6_isStepCount 2 = .ok (.if_icmp .lt 13, 3) := by decide +kernel
theorem dX6_isStepCount_5 : decode cX6_isStepCount 5 = .ok (.iload_n 0, 1) := by decide +kernel
theorem dX6_isStepCount_6 : decode cX6_isStepCount 6 = .ok (.bipush 50, 2) := by decide +kernel
theorem dX6_isStepCount_8 : decode cX6_isStepCount 8 = .ok (.if_icmp .gt 7, 3) := by decide +kernel
theorem dX6_isStepCount_11 : decode cX6_isStepCount 11 = .ok (.iconst 1, 1) := by decide +kernel
theorem dX6_isStepCount_12 : decode cX6_isStepCount 12 = .ok (.goto 4, 3) := by decide +kernel
theorem dX6_isStepCount_15 : decode cX6_isStepCount 15 = .ok (.iconst 0, 1) := by decide +kernel
theorem dX6_isStepCount_16 : decode cX6_isStepCount 16 = .ok (.ireturn, 1) := by decide +kernel
theorem dX6_succeeds_0 : decode cX6_succeeds 0 = .ok (.iload_n 1, 1) := by decide +kernel
theorem dX6_succeeds_1 : decode cX6_succeeds 1 = .ok (.bipush 100, 2) := by decide +kernel
theorem dX6_succeeds_3 : decode cX6_succeeds 3 = .ok (.idiv, 1) := by decide +kernel
theorem dX6_succeeds_4 : decode cX6_succeeds 4 = .ok (.bipush 10, 2) := by decide +kernel
theorem dX6_succeeds_6 : decode cX6_succeeds 6 = .ok (.irem, 1) := by decide +kernel
theorem dX6_succeeds_7 : decode cX6_succeeds 7 = .ok (.istore_n 2, 1) := by decide +kernel
theorem dX6_succeeds_8 : decode cX6_succeeds 8 = .ok (.iload_n 1, 1) := by decide +kernel
theorem dX6_succeeds_9 : decode cX6_succeeds 9 = .ok (.bipush 10, 2) := by decide +kernel
theorem dX6_succeeds_11 : decode cX6_succeeds 11 = .ok (.irem, 1) := by decide +kernel
theorem dX6_succeeds_12 : decode cX6_succeeds 12 = .ok (.istore_n 3, 1) := by decide +kernel
theorem dX6_succeeds_13 : decode cX6_succeeds 13 = .ok (.iload_n 1, 1) := by decide +kernel
theorem dX6_succeeds_14 : decode cX6_succeeds 14 = .ok (.bipush 10, 2) := by decide +kernel
theorem dX6_succeeds_16 : decode cX6_succeeds 16 = .ok (.idiv, 1) := by decide +kernel
theorem dX6_succeeds_17 : decode cX6_succeeds 17 = .ok (.bipush 100, 2) := by decide +kernel
theorem dX6_succeeds_19 : decode cX6_succeeds 19 = .ok (.irem, 1) := by decide +kernel
theorem dX6_succeeds_20 : decode cX6_succeeds 20 = .ok (.istore 4, 2) := by decide +kernel
theorem dX6_succeeds_22 : decode cX6_succeeds 22 = .ok (.iload_n 1, 1) := by decide +kernel
theorem dX6_succeeds_23 : decode cX6_succeeds 23 = .ok (.bipush 100, 2) := by decide +kernel
theorem dX6_succeeds_25 : decode cX6_succeeds 25 = .ok (.irem, 1) := by decide +kernel
theorem dX6_succeeds_26 : decode cX6_succeeds 26 = .ok (.istore 5, 2) := by decide +kernel
theorem dX6_succeeds_28 : decode cX6_succeeds 28 = .ok (.iload_n 1, 1) := by decide +kernel
theorem dX6_succeeds_29 : decode cX6_succeeds 29 = .ok (.sipush 1000, 3) := by decide +kernel
theorem dX6_succeeds_32 : decode cX6_succeeds 32 = .ok (.idiv, 1) := by decide +kernel
theorem dX6_succeeds_33 : decode cX6_succeeds 33 = .ok (.tableswitch 221 1 9 #[51, 59, 78, 86, 105, 124, 150, 173, 198], 51) := by decide +kernel
theorem dX6_succeeds_84 : decode cX6_succeeds 84 = .ok (.aload_n 0, 1) := by decide +kernel
theorem dX6_succeeds_85 : decode cX6_succeeds 85 = .ok (.iload 4, 2) := by decide +kernel
theorem dX6_succeeds_87 : decode cX6_succeeds 87 = .ok (.iload_n 3, 1) := by decide +kernel
theorem dX6_succeeds_88 : decode cX6_succeeds 88 = .ok (.invokevirtual 238, 3) := by decide +kernel
theorem dX6_succeeds_91 : decode cX6_succeeds 91 = .ok (.ireturn, 1) := by decide +kernel
theorem dX6_succeeds_92 : decode cX6_succeeds 92 = .ok (.iload_n 3, 1) := by decide +kernel
theorem dX6_succeeds_93 : decode cX6_succeeds 93 = .ok (.ifCond .ne 16, 3) := by decide +kernel
theorem dX6_succeeds_96 : decode cX6_succeeds 96 = .ok (.aload_n 0, 1) := by decide +kernel
theorem dX6_succeeds_97 : decode cX6_succeeds 97 = .ok (.iload 4, 2) := by decide +kernel
theorem dX6_succeeds_99 : decode cX6_succeeds 99 = .ok (.invokevirtual 242, 3) := by decide +kernel
theorem dX6_succeeds_102 : decode cX6_succeeds 102 = .ok (.ifCond .eq 7, 3) := by decide +kernel
theorem dX6_succeeds_105 : decode cX6_succeeds 105 = .ok (.iconst 1, 1) := by decide +kernel
theorem dX6_succeeds_106 : decode cX6_succeeds 106 = .ok (.goto 4, 3) := by decide +kernel
theorem dX6_succeeds_109 : decode cX6_succeeds 109 = .ok (.iconst 0, 1) := by decide +kernel
theorem dX6_succeeds_110 : decode cX6_succeeds 110 = .ok (.ireturn, 1) := by decide +kernel
theorem dX6_succeeds_111 : decode cX6_succeeds 111 = .ok (.aload_n 0, 1) := by decide +kernel
theorem dX6_succeeds_112 : decode cX6_succeeds 112 = .ok (.iload 4, 2) := by decide +kernel
theorem dX6_succeeds_114 : decode cX6_succeeds 114 = .ok (.iload_n 3, 1) := by decide +kernel
theorem dX6_succeeds_115 : decode cX6_succeeds 115 = .ok (.invokevirtual 248, 3) := by decide +kernel
theorem dX6_succeeds_118 : decode cX6_succeeds 118 = .ok (.ireturn, 1) := by decide +kernel
theorem dX6_succeeds_119 : decode cX6_succeeds 119 = .ok (.iload_n 3, 1) := by decide +kernel
theorem dX6_succeeds_120 : decode cX6_succeeds 120 = .ok (.ifCond .ne 16, 3) := by decide +kernel
theorem dX6_succeeds_123 : decode cX6_succeeds 123 = .ok (.aload_n 0, 1) := by decide +kernel
theorem dX6_succeeds_124 : decode cX6_succeeds 124 = .ok (.iload 4, 2) := by decide +kernel
theorem dX6_succeeds_126 : decode cX6_succeeds 126 = .ok (.invokevirtual 251, 3) := by decide +kernel
theorem dX6_succeeds_129 : decode cX6_succeeds 129 = .ok (.ifCond .eq 7, 3) := by decide +kernel
theorem dX6_succeeds_132 : decode cX6_succeeds 132 = .ok (.iconst 1, 1) := by decide +kernel
theorem dX6_succeeds_133 : decode cX6_succeeds 133 = .ok (.goto 4, 3) := by decide +kernel
theorem dX6_succeeds_136 : decode cX6_succeeds 136 = .ok (.iconst 0, 1) := by decide +kernel
theorem dX6_succeeds_137 : decode cX6_succeeds 137 = .ok (.ireturn, 1) := by decide +kernel
theorem dX6_succeeds_138 : decode cX6_succeeds 138 = .ok (.iload_n 2, 1) := by decide +kernel
theorem dX6_succeeds_139 : decode cX6_succeeds 139 = .ok (.ifCond .ne 16, 3) := by decide +kernel
theorem dX6_succeeds_142 : decode cX6_succeeds 142 = .ok (.aload_n 0, 1) := by decide +kernel
theorem dX6_succeeds_143 : decode cX6_succeeds 143 = .ok (.iload 5, 2) := by decide +kernel
theorem dX6_succeeds_145 : decode cX6_succeeds 145 = .ok (.invokevirtual 278, 3) := by decide +kernel
theorem dX6_succeeds_148 : decode cX6_succeeds 148 = .ok (.ifCond .eq 7, 3) := by decide +kernel
theorem dX6_succeeds_151 : decode cX6_succeeds 151 = .ok (.iconst 1, 1) := by decide +kernel
theorem dX6_succeeds_152 : decode cX6_succeeds 152 = .ok (.goto 4, 3) := by decide +kernel
theorem dX6_succeeds_155 : decode cX6_succeeds 155 = .ok (.iconst 0, 1) := by decide +kernel
theorem dX6_succeeds_156 : decode cX6_succeeds 156 = .ok (.ireturn, 1) := by decide +kernel
theorem dX6_succeeds_157 : decode cX6_succeeds 157 = .ok (.iload_n 2, 1) := by decide +kernel
theorem dX6_succeeds_158 : decode cX6_succeeds 158 = .ok (.invokestatic 136, 3) := by decide +kernel
theorem dX6_succeeds_161 : decode cX6_succeeds 161 = .ok (.ifCond .eq 20, 3) := by decide +kernel
theorem dX6_succeeds_164 : decode cX6_succeeds 164 = .ok (.aload_n 0, 1) := by decide +kernel
theorem dX6_succeeds_165 : decode cX6_succeeds 165 = .ok (.getfield 71, 3) := by decide +kernel
theorem dX6_succeeds_168 : decode cX6_succeeds 168 = .ok (.iload_n 2, 1) := by decide +kernel
theorem dX6_succeeds_169 : decode cX6_succeeds 169 = .ok (.invokevirtual 141, 3) := by decide +kernel
theorem dX6_succeeds_172 : decode cX6_succeeds 172 = .ok (.iload 5, 2) := by decide +kernel
theorem dX6_succeeds_174 : decode cX6_succeeds 174 = .ok (.if_icmp .lt 7, 3) := by decide +kernel
theorem dX6_succeeds_177 : decode cX6_succeeds 177 = .ok (.iconst 1, 1) := by decide +kernel
theorem dX6_succeeds_178 : decode cX6_succeeds 178 = .ok (.goto 4, 3) := by decide +kernel
theorem dX6_succeeds_181 : decode cX6_succeeds 181 = .ok (.iconst 0, 1) := by decide +kernel
theorem dX6_succeeds_182 : decode cX6_succeeds 182 = .ok (.ireturn, 1) := by decide +kernel
theorem dX6_succeeds_183 : decode cX6_succeeds 183 = .ok (.iload_n 2, 1) := by decide +kernel
theorem dX6_succeeds_184 : decode cX6_succeeds 184 = .ok (.invokestatic 136, 3) := by decide +kernel
theorem dX6_succeeds_187 : decode cX6_succeeds 187 = .ok (.ifCond .eq 17, 3) := by decide +kernel
theorem dX6_succeeds_190 : decode cX6_succeeds 190 = .ok (.aload_n 0, 1) := by decide +kernel
theorem dX6_succeeds_191 : decode cX6_succeeds 191 = .ok (.iload_n 2, 1) := by decide +kernel
theorem dX6_succeeds_192 : decode cX6_succeeds 192 = .ok (.invokevirtual 144, 3) := by decide +kernel
theorem dX6_succeeds_195 : decode cX6_succeeds 195 = .ok (.iload 5, 2) := by decide +kernel
theorem dX6_succeeds_197 : decode cX6_succeeds 197 = .ok (.if_icmp .lt 7, 3) := by decide +kernel
theorem dX6_succeeds_200 : decode cX6_succeeds 200 = .ok (.iconst 1, 1) := by decide +kernel
theorem dX6_succeeds_201 : decode cX6_succeeds 201 = .ok (.goto 4, 3) := by decide +kernel
theorem dX6_succeeds_204 : decode cX6_succeeds 204 = .ok (.iconst 0, 1) := by decide +kernel
theorem dX6_succeeds_205 : decode cX6_succeeds 205 = .ok (.ireturn, 1) := by decide +kernel
theorem dX6_succeeds_206 : decode cX6_succeeds 206 = .ok (.aload_n 0, 1) := by decide +kernel
theorem dX6_succeeds_207 : decode cX6_succeeds 207 = .ok (.iload_n 2, 1) := by decide +kernel
theorem dX6_succeeds_208 : decode cX6_succeeds 208 = .ok (.invokevirtual 180, 3) := by decide +kernel
theorem dX6_succeeds_211 : decode cX6_succeeds 211 = .ok (.ifCond .eq 18, 3) := by decide +kernel
theorem dX6_succeeds_214 : decode cX6_succeeds 214 = .ok (.aload_n 0, 1) := by decide +kernel
theorem dX6_succeeds_215 : decode cX6_succeeds 215 = .ok (.iload_n 2, 1) := by decide +kernel
theorem dX6_succeeds_216 : decode cX6_succeeds 216 = .ok (.iconst 0, 1) := by decide +kernel
theorem dX6_succeeds_217 : decode cX6_succeeds 217 = .ok (.invokevirtual 206, 3) := by decide +kernel
theorem dX6_succeeds_220 : decode cX6_succeeds 220 = .ok (.iload 5, 2) := by decide +kernel
theorem dX6_succeeds_222 : decode cX6_succeeds 222 = .ok (.if_icmp .lt 7, 3) := by decide +kernel
theorem dX6_succeeds_225 : decode cX6_succeeds 225 = .ok (.iconst 1, 1) := by decide +kernel
theorem dX6_succeeds_226 : decode cX6_succeeds 226 = .ok (.goto 4, 3) := by decide +kernel
theorem dX6_succeeds_229 : decode cX6_succeeds 229 = .ok (.iconst 0, 1) := by decide +kernel
theorem dX6_succeeds_230 : decode cX6_succeeds 230 = .ok (.ireturn, 1) := by decide +kernel
theorem dX6_succeeds_231 : decode cX6_succeeds 231 = .ok (.iload_n 2, 1) := by decide +kernel
theorem dX6_succeeds_232 : decode cX6_succeeds 232 = .ok (.invokestatic 136, 3) := by decide +kernel
theorem dX6_succeeds_235 : decode cX6_succeeds 235 = .ok (.ifCond .eq 17, 3) := by decide +kernel
theorem dX6_succeeds_238 : decode cX6_succeeds 238 = .ok (.aload_n 0, 1) := by decide +kernel
theorem dX6_succeeds_239 : decode cX6_succeeds 239 = .ok (.iload_n 2, 1) := by decide +kernel
theorem dX6_succeeds_240 : decode cX6_succeeds 240 = .ok (.invokevirtual 147, 3) := by decide +kernel
theorem dX6_succeeds_243 : decode cX6_succeeds 243 = .ok (.iload 5, 2) := by decide +kernel
theorem dX6_succeeds_245 : decode cX6_succeeds 245 = .ok (.if_icmp .lt 7, 3) := by decide +kernel
theorem dX6_succeeds_248 : decode cX6_succeeds 248 = .ok (.iconst 1, 1) := by decide +kernel
theorem dX6_succeeds_249 : decode cX6_succeeds 249 = .ok (.goto 4, 3) := by decide +kernel
theorem dX6_succeeds_252 : decode cX6_succeeds 252 = .ok (.iconst 0, 1) := by decide +kernel
theorem dX6_succeeds_253 : decode cX6_succeeds 253 = .ok (.ireturn, 1) := by decide +kernel
theorem dX6_succeeds_254 : decode cX6_succeeds 254 = .ok (.iconst 0, 1) := by decide +kernel
theorem dX6_succeeds_255 : decode cX6_succeeds 255 = .ok (.ireturn, 1) := by decide +kernel
theorem dX6_playTurn_0 : decode cX6_playTurn 0 = .ok (.iload_n 1, 1) := by decide +kernel
theorem dX6_playTurn_1 : decode cX6_playTurn 1 = .ok (.bipush 16, 2) := by decide +kernel
theorem dX6_playTurn_3 : decode cX6_playTurn 3 = .ok (.idiv, 1) := by decide +kernel
theorem dX6_playTurn_4 : decode cX6_playTurn 4 = .ok (.bipush 24, 2) := by decide +kernel
theorem dX6_playTurn_6 : decode cX6_playTurn 6 = .ok (.irem, 1) := by decide +kernel
theorem dX6_playTurn_7 : decode cX6_playTurn 7 = .ok (.istore_n 2, 1) := by decide +kernel
theorem dX6_playTurn_8 : decode cX6_playTurn 8 = .ok (.iload_n 1, 1) := by decide +kernel
theorem dX6_playTurn_9 : decode cX6_playTurn 9 = .ok (.bipush 16, 2) := by decide +kernel
theorem dX6_playTurn_11 : decode cX6_playTurn 11 = .ok (.irem, 1) := by decide +kernel
theorem dX6_playTurn_12 : decode cX6_playTurn 12 = .ok (.tableswitch 152 0 8 #[52, 52, 52, 69, 78, 78, 95, 104, 138], 52) := by decide +kernel
theorem dX6_playTurn_64 : decode cX6_playTurn 64 = .ok (.aload_n 0, 1) := by decide +kernel
theorem dX6_playTurn_65 : decode cX6_playTurn 65 = .ok (.iload_n 2, 1) := by decide +kernel
theorem dX6_playTurn_66 : decode cX6_playTurn 66 = .ok (.iload_n 1, 1) := by decide +kernel
theorem dX6_playTurn_67 : decode cX6_playTurn 67 = .ok (.sipush 512, 3) := by decide +kernel
theorem dX6_playTurn_70 : decode cX6_playTurn 70 = .ok (.idiv, 1) := by decide +kernel
theorem dX6_playTurn_71 : decode cX6_playTurn 71 = .ok (.bipush 9, 2) := by decide +kernel
theorem dX6_playTurn_73 : decode cX6_playTurn 73 = .ok (.irem, 1) := by decide +kernel
theorem dX6_playTurn_74 : decode cX6_playTurn 74 = .ok (.invokevirtual 238, 3) := by decide +kernel
theorem dX6_playTurn_77 : decode cX6_playTurn 77 = .ok (.pop, 1) := by decide +kernel
theorem dX6_playTurn_78 : decode cX6_playTurn 78 = .ok (.goto 100, 3) := by decide +kernel
theorem dX6_playTurn_81 : decode cX6_playTurn 81 = .ok (.aload_n 0, 1) := by decide +kernel
theorem dX6_playTurn_82 : decode cX6_playTurn 82 = .ok (.iload_n 2, 1) := by decide +kernel
theorem dX6_playTurn_83 : decode cX6_playTurn 83 = .ok (.invokevirtual 242, 3) := by decide +kernel
theorem dX6_playTurn_86 : decode cX6_playTurn 86 = .ok (.pop, 1) := by decide +kernel
theorem dX6_playTurn_87 : decode cX6_playTurn 87 = .ok (.goto 91, 3) := by decide +kernel
theorem dX6_playTurn_90 : decode cX6_playTurn 90 = .ok (.aload_n 0, 1) := by decide +kernel
theorem dX6_playTurn_91 : decode cX6_playTurn 91 = .ok (.iload_n 2, 1) := by decide +kernel
theorem dX6_playTurn_92 : decode cX6_playTurn 92 = .ok (.iload_n 1, 1) := by decide +kernel
theorem dX6_playTurn_93 : decode cX6_playTurn 93 = .ok (.sipush 512, 3) := by decide +kernel
theorem dX6_playTurn_96 : decode cX6_playTurn 96 = .ok (.idiv, 1) := by decide +kernel
theorem dX6_playTurn_97 : decode cX6_playTurn 97 = .ok (.bipush 9, 2) := by decide +kernel
theorem dX6_playTurn_99 : decode cX6_playTurn 99 = .ok (.irem, 1) := by decide +kernel
theorem dX6_playTurn_100 : decode cX6_playTurn 100 = .ok (.invokevirtual 248, 3) := by decide +kernel
theorem dX6_playTurn_103 : decode cX6_playTurn 103 = .ok (.pop, 1) := by decide +kernel
theorem dX6_playTurn_104 : decode cX6_playTurn 104 = .ok (.goto 74, 3) := by decide +kernel
theorem dX6_playTurn_107 : decode cX6_playTurn 107 = .ok (.aload_n 0, 1) := by decide +kernel
theorem dX6_playTurn_108 : decode cX6_playTurn 108 = .ok (.iload_n 2, 1) := by decide +kernel
theorem dX6_playTurn_109 : decode cX6_playTurn 109 = .ok (.invokevirtual 251, 3) := by decide +kernel
theorem dX6_playTurn_112 : decode cX6_playTurn 112 = .ok (.pop, 1) := by decide +kernel
theorem dX6_playTurn_113 : decode cX6_playTurn 113 = .ok (.goto 65, 3) := by decide +kernel
theorem dX6_playTurn_116 : decode cX6_playTurn 116 = .ok (.aload_n 0, 1) := by decide +kernel
theorem dX6_playTurn_117 : decode cX6_playTurn 117 = .ok (.iload_n 2, 1) := by decide +kernel
theorem dX6_playTurn_118 : decode cX6_playTurn 118 = .ok (.iload_n 1, 1) := by decide +kernel
theorem dX6_playTurn_119 : decode cX6_playTurn 119 = .ok (.sipush 512, 3) := by decide +kernel
theorem dX6_playTurn_122 : decode cX6_playTurn 122 = .ok (.idiv, 1) := by decide +kernel
theorem dX6_playTurn_123 : decode cX6_playTurn 123 = .ok (.iconst 2, 1) := by decide +kernel
theorem dX6_playTurn_124 : decode cX6_playTurn 124 = .ok (.irem, 1) := by decide +kernel
theorem dX6_playTurn_125 : decode cX6_playTurn 125 = .ok (.iconst 1, 1) := by decide +kernel
theorem dX6_playTurn_126 : decode cX6_playTurn 126 = .ok (.iload_n 1, 1) := by decide +kernel
theorem dX6_playTurn_127 : decode cX6_playTurn 127 = .ok (.sipush 1024, 3) := by decide +kernel
theorem dX6_playTurn_130 : decode cX6_playTurn 130 = .ok (.idiv, 1) := by decide +kernel
theorem dX6_playTurn_131 : decode cX6_playTurn 131 = .ok (.iconst 3, 1) := by decide +kernel
theorem dX6_playTurn_132 : decode cX6_playTurn 132 = .ok (.irem, 1) := by decide +kernel
theorem dX6_playTurn_133 : decode cX6_playTurn 133 = .ok (.iadd, 1) := by decide +kernel
theorem dX6_playTurn_134 : decode cX6_playTurn 134 = .ok (.iconst 1, 1) := by decide +kernel
theorem dX6_playTurn_135 : decode cX6_playTurn 135 = .ok (.iload_n 1, 1) := by decide +kernel
theorem dX6_playTurn_136 : decode cX6_playTurn 136 = .ok (.sipush 4096, 3) := by decide +kernel
theorem dX6_playTurn_139 : decode cX6_playTurn 139 = .ok (.idiv, 1) := by decide +kernel
theorem dX6_playTurn_140 : decode cX6_playTurn 140 = .ok (.iconst 5, 1) := by decide +kernel
theorem dX6_playTurn_141 : decode cX6_playTurn 141 = .ok (.irem, 1) := by decide +kernel
theorem dX6_playTurn_142 : decode cX6_playTurn 142 = .ok (.iadd, 1) := by decide +kernel
theorem dX6_playTurn_143 : decode cX6_playTurn 143 = .ok (.invokevirtual 266, 3) := by decide +kernel
theorem dX6_playTurn_146 : decode cX6_playTurn 146 = .ok (.pop, 1) := by decide +kernel
theorem dX6_playTurn_147 : decode cX6_playTurn 147 = .ok (.goto 31, 3) := by decide +kernel
theorem dX6_playTurn_150 : decode cX6_playTurn 150 = .ok (.aload_n 0, 1) := by decide +kernel
theorem dX6_playTurn_151 : decode cX6_playTurn 151 = .ok (.iload_n 1, 1) := by decide +kernel
theorem dX6_playTurn_152 : decode cX6_playTurn 152 = .ok (.bipush 16, 2) := by decide +kernel
theorem dX6_playTurn_154 : decode cX6_playTurn 154 = .ok (.idiv, 1) := by decide +kernel
theorem dX6_playTurn_155 : decode cX6_playTurn 155 = .ok (.iconst 4, 1) := by decide +kernel
theorem dX6_playTurn_156 : decode cX6_playTurn 156 = .ok (.irem, 1) := by decide +kernel
theorem dX6_playTurn_157 : decode cX6_playTurn 157 = .ok (.invokevirtual 270, 3) := by decide +kernel
theorem dX6_playTurn_160 : decode cX6_playTurn 160 = .ok (.pop, 1) := by decide +kernel
theorem dX6_playTurn_161 : decode cX6_playTurn 161 = .ok (.goto 17, 3) := by decide +kernel
theorem dX6_playTurn_164 : decode cX6_playTurn 164 = .ok (.aload_n 0, 1) := by decide +kernel
theorem dX6_playTurn_165 : decode cX6_playTurn 165 = .ok (.iconst 1, 1) := by decide +kernel
theorem dX6_playTurn_166 : decode cX6_playTurn 166 = .ok (.iload_n 1, 1) := by decide +kernel
theorem dX6_playTurn_167 : decode cX6_playTurn 167 = .ok (.bipush 16, 2) := by decide +kernel
theorem dX6_playTurn_169 : decode cX6_playTurn 169 = .ok (.idiv, 1) := by decide +kernel
theorem dX6_playTurn_170 : decode cX6_playTurn 170 = .ok (.bipush 9, 2) := by decide +kernel
theorem dX6_playTurn_172 : decode cX6_playTurn 172 = .ok (.irem, 1) := by decide +kernel
theorem dX6_playTurn_173 : decode cX6_playTurn 173 = .ok (.iadd, 1) := by decide +kernel
theorem dX6_playTurn_174 : decode cX6_playTurn 174 = .ok (.invokevirtual 278, 3) := by decide +kernel
theorem dX6_playTurn_177 : decode cX6_playTurn 177 = .ok (.pop, 1) := by decide +kernel
theorem dX6_playTurn_178 : decode cX6_playTurn 178 = .ok (.return_, 1) := by decide +kernel
