-- decode rows: laid by gen_names.py
theorem dX7_init_0 : decode cX7_init 0 = .ok (.aload_n 0, 1) := by decide +kernel
theorem dX7_init_1 : decode cX7_init 1 = .ok (.invokespecial 1, 3) := by decide +kernel
theorem dX7_init_4 : decode cX7_init 4 = .ok (.aload_n 0, 1) := by decide +kernel
theorem dX7_init_5 : decode cX7_init 5 = .ok (.bipush 118, 2) := by decide +kernel
theorem dX7_init_7 : decode cX7_init 7 = .ok (.newarray .int, 2) := by decide +kernel
theorem dX7_init_9 : decode cX7_init 9 = .ok (.putfield 7, 3) := by decide +kernel
theorem dX7_init_12 : decode cX7_init 12 = .ok (.aload_n 0, 1) := by decide +kernel
theorem dX7_init_13 : decode cX7_init 13 = .ok (.bipush 118, 2) := by decide +kernel
theorem dX7_init_15 : decode cX7_init 15 = .ok (.newarray .int, 2) := by decide +kernel
theorem dX7_init_17 : decode cX7_init 17 = .ok (.putfield 13, 3) := by decide +kernel
theorem dX7_init_20 : decode cX7_init 20 = .ok (.aload_n 0, 1) := by decide +kernel
theorem dX7_init_21 : decode cX7_init 21 = .ok (.sipush 1652, 3) := by decide +kernel
theorem dX7_init_24 : decode cX7_init 24 = .ok (.newarray .int, 2) := by decide +kernel
theorem dX7_init_26 : decode cX7_init 26 = .ok (.putfield 16, 3) := by decide +kernel
theorem dX7_init_29 : decode cX7_init 29 = .ok (.aload_n 0, 1) := by decide +kernel
theorem dX7_init_30 : decode cX7_init 30 = .ok (.sipush 236, 3) := by decide +kernel
theorem dX7_init_33 : decode cX7_init 33 = .ok (.newarray .int, 2) := by decide +kernel
theorem dX7_init_35 : decode cX7_init 35 = .ok (.putfield 19, 3) := by decide +kernel
theorem dX7_init_38 : decode cX7_init 38 = .ok (.aload_n 0, 1) := by decide +kernel
theorem dX7_init_39 : decode cX7_init 39 = .ok (.iconst 2, 1) := by decide +kernel
theorem dX7_init_40 : decode cX7_init 40 = .ok (.newarray .boolean, 2) := by decide +kernel
theorem dX7_init_42 : decode cX7_init 42 = .ok (.putfield 22, 3) := by decide +kernel
theorem dX7_init_45 : decode cX7_init 45 = .ok (.aload_n 0, 1) := by decide +kernel
theorem dX7_init_46 : decode cX7_init 46 = .ok (.bipush 40, 2) := by decide +kernel
theorem dX7_init_48 : decode cX7_init 48 = .ok (.newarray .char, 2) := by decide +kernel
theorem dX7_init_50 : decode cX7_init 50 = .ok (.putfield 26, 3) := by decide +kernel
theorem dX7_init_53 : decode cX7_init 53 = .ok (.aload_n 0, 1) := by decide +kernel
theorem dX7_init_54 : decode cX7_init 54 = .ok (.iconst 0, 1) := by decide +kernel
theorem dX7_init_55 : decode cX7_init 55 = .ok (.putfield 30, 3) := by decide +kernel
theorem dX7_init_58 : decode cX7_init 58 = .ok (.return_, 1) := by decide +kernel
theorem dX7_thrown_0 : decode cX7_thrown 0 = .ok (.aload_n 0, 1) := by decide +kernel
theorem dX7_thrown_1 : decode cX7_thrown 1 = .ok (.getfield 30, 3) := by decide +kernel
theorem dX7_thrown_4 : decode cX7_thrown 4 = .ok (.ireturn, 1) := by decide +kernel
theorem dX7_in_0 : decode cX7_in 0 = .ok (.iload_n 0, 1) := by decide +kernel
theorem dX7_in_1 : decode cX7_in 1 = .ok (.iload_n 1, 1) := by decide +kernel
theorem dX7_in_2 : decode cX7_in 2 = .ok (.if_icmp .lt 12, 3) := by decide +kernel
theorem dX7_in_5 : decode cX7_in 5 = .ok (.iload_n 0, 1) := by decide +kernel
theorem dX7_in_6 : decode cX7_in 6 = .ok (.iload_n 2, 1) := by decide +kernel
theorem dX7_in_7 : decode cX7_in 7 = .ok (.if_icmp .gt 7, 3) := by decide +kernel
theorem dX7_in_10 : decode cX7_in 10 = .ok (.iconst 1, 1) := by decide +kernel
theorem dX7_in_11 : decode cX7_in 11 = .ok (.goto 4, 3) := by decide +kernel
theorem dX7_in_14 : decode cX7_in 14 = .ok (.iconst 0, 1) := by decide +kernel
theorem dX7_in_15 : decode cX7_in 15 = .ok (.ireturn, 1) := by decide +kernel
theorem dX7_refuses_0 : decode cX7_refuses 0 = .ok (.aload_n 0, 1) := by decide +kernel
theorem dX7_refuses_1 : decode cX7_refuses 1 = .ok (.iload_n 1, 1) := by decide +kernel
theorem dX7_refuses_2 : decode cX7_refuses 2 = .ok (.putfield 30, 3) := by decide +kernel
theorem dX7_refuses_5 : decode cX7_refuses 5 = .ok (.iload_n 1, 1) := by decide +kernel
theorem dX7_refuses_6 : decode cX7_refuses 6 = .ok (.ifCond .le 7, 3) := by decide +kernel
theorem dX7_refuses_9 : decode cX7_refuses 9 = .ok (.iconst 1, 1) := by decide +kernel
theorem dX7_refuses_10 : decode cX7_refuses 10 = .ok (.goto 4, 3) := by decide +kernel
theorem dX7_refuses_13 : decode cX7_refuses 13 = .ok (.iconst 0, 1) := by decide +kernel
theorem dX7_refuses_14 : decode cX7_refuses 14 = .ok (.ireturn, 1) := by decide +kernel
theorem dX7_lays_0 : decode cX7_lays 0 = .ok (.iconst 0, 1) := by decide +kernel
theorem dX7_lays_1 : decode cX7_lays 1 = .ok (.istore 4, 2) := by decide +kernel
theorem dX7_lays_3 : decode cX7_lays 3 = .ok (.iload 4, 2) := by decide +kernel
theorem dX7_lays_5 : decode cX7_lays 5 = .ok (.bipush 118, 2) := by decide +kernel
theorem dX7_lays_7 : decode cX7_lays 7 = .ok (.if_icmp .ge 21, 3) := by decide +kernel
theorem dX7_lays_10 : decode cX7_lays 10 = .ok (.aload_n 2, 1) := by decide +kernel
theorem dX7_lays_11 : decode cX7_lays 11 = .ok (.iload_n 3, 1) := by decide +kernel
theorem dX7_lays_12 : decode cX7_lays 12 = .ok (.iload 4, 2) := by decide +kernel
theorem dX7_lays_14 : decode cX7_lays 14 = .ok (.iadd, 1) := by decide +kernel
theorem dX7_lays_15 : decode cX7_lays 15 = .ok (.aload_n 0, 1) := by decide +kernel
theorem dX7_lays_16 : decode cX7_lays 16 = .ok (.iload_n 1, 1) := by decide +kernel
theorem dX7_lays_17 : decode cX7_lays 17 = .ok (.iload 4, 2) := by decide +kernel
theorem dX7_lays_19 : decode cX7_lays 19 = .ok (.iadd, 1) := by decide +kernel
theorem dX7_lays_20 : decode cX7_lays 20 = .ok (.iaload, 1) := by decide +kernel
theorem dX7_lays_21 : decode cX7_lays 21 = .ok (.iastore, 1) := by decide +kernel
theorem dX7_lays_22 : decode cX7_lays 22 = .ok (.iinc 4 1, 3) := by decide +kernel
theorem dX7_lays_25 : decode cX7_lays 25 = .ok (.goto (-22), 3) := by decide +kernel
theorem dX7_lays_28 : decode cX7_lays 28 = .ok (.return_, 1) := by decide +kernel
theorem dX7_remembers_0 : decode cX7_remembers 0 = .ok (.aload_n 0, 1) := by decide +kernel
theorem dX7_remembers_1 : decode cX7_remembers 1 = .ok (.getfield 34, 3) := by decide +kernel
theorem dX7_remembers_4 : decode cX7_remembers 4 = .ok (.bipush 14, 2) := by decide +kernel
theorem dX7_remembers_6 : decode cX7_remembers 6 = .ok (.if_icmp .ne 43, 3) := by decide +kernel
theorem dX7_remembers_9 : decode cX7_remembers 9 = .ok (.iconst 0, 1) := by decide +kernel
theorem dX7_remembers_10 : decode cX7_remembers 10 = .ok (.istore_n 1, 1) := by decide +kernel
theorem dX7_remembers_11 : decode cX7_remembers 11 = .ok (.iload_n 1, 1) := by decide +kernel
theorem dX7_remembers_12 : decode cX7_remembers 12 = .ok (.sipush 1534, 3) := by decide +kernel
theorem dX7_remembers_15 : decode cX7_remembers 15 = .ok (.if_icmp .ge 24, 3) := by decide +kernel
theorem dX7_remembers_18 : decode cX7_remembers 18 = .ok (.aload_n 0, 1) := by decide +kernel
theorem dX7_remembers_19 : decode cX7_remembers 19 = .ok (.getfield 16, 3) := by decide +kernel
theorem dX7_remembers_22 : decode cX7_remembers 22 = .ok (.iload_n 1, 1) := by decide +kernel
theorem dX7_remembers_23 : decode cX7_remembers 23 = .ok (.aload_n 0, 1) := by decide +kernel
theorem dX7_remembers_24 : decode cX7_remembers 24 = .ok (.getfield 16, 3) := by decide +kernel
theorem dX7_remembers_27 : decode cX7_remembers 27 = .ok (.iload_n 1, 1) := by decide +kernel
theorem dX7_remembers_28 : decode cX7_remembers 28 = .ok (.bipush 118, 2) := by decide +kernel
theorem dX7_remembers_30 : decode cX7_remembers 30 = .ok (.iadd, 1) := by decide +kernel
theorem dX7_remembers_31 : decode cX7_remembers 31 = .ok (.iaload, 1) := by decide +kernel
theorem dX7_remembers_32 : decode cX7_remembers 32 = .ok (.iastore, 1) := by decide +kernel
theorem dX7_remembers_33 : decode cX7_remembers 33 = .ok (.iinc 1 1, 3) := by decide +kernel
theorem dX7_remembers_36 : decode cX7_remembers 36 = .ok (.goto (-25), 3) := by decide +kernel
theorem dX7_remembers_39 : decode cX7_remembers 39 = .ok (.aload_n 0, 1) := by decide +kernel
theorem dX7_remembers_40 : decode cX7_remembers 40 = .ok (.dup, 1) := by decide +kernel
theorem dX7_remembers_41 : decode cX7_remembers 41 = .ok (.getfield 34, 3) := by decide +kernel
theorem dX7_remembers_44 : decode cX7_remembers 44 = .ok (.iconst 1, 1) := by decide +kernel
theorem dX7_remembers_45 : decode cX7_remembers 45 = .ok (.isub, 1) := by decide +kernel
theorem dX7_remembers_46 : decode cX7_remembers 46 = .ok (.putfield 34, 3) := by decide +kernel
theorem dX7_remembers_49 : decode cX7_remembers 49 = .ok (.aload_n 0, 1) := by decide +kernel
theorem dX7_remembers_50 : decode cX7_remembers 50 = .ok (.getfield 7, 3) := by decide +kernel
theorem dX7_remembers_53 : decode cX7_remembers 53 = .ok (.iconst 0, 1) := by decide +kernel
theorem dX7_remembers_54 : decode cX7_remembers 54 = .ok (.aload_n 0, 1) := by decide +kernel
theorem dX7_remembers_55 : decode cX7_remembers 55 = .ok (.getfield 16, 3) := by decide +kernel
theorem dX7_remembers_58 : decode cX7_remembers 58 = .ok (.bipush 118, 2) := by decide +kernel
theorem dX7_remembers_60 : decode cX7_remembers 60 = .ok (.aload_n 0, 1) := by decide +kernel
theorem dX7_remembers_61 : decode cX7_remembers 61 = .ok (.getfield 34, 3) := by decide +kernel
theorem dX7_remembers_64 : decode cX7_remembers 64 = .ok (.imul, 1) := by decide +kernel
theorem dX7_remembers_65 : decode cX7_remembers 65 = .ok (.invokestatic 37, 3) := by decide +kernel
theorem dX7_remembers_68 : decode cX7_remembers 68 = .ok (.aload_n 0, 1) := by decide +kernel
theorem dX7_remembers_69 : decode cX7_remembers 69 = .ok (.dup, 1) := by decide +kernel
theorem dX7_remembers_70 : decode cX7_remembers 70 = .ok (.getfield 34, 3) := by decide +kernel
theorem dX7_remembers_73 : decode cX7_remembers 73 = .ok (.iconst 1, 1) := by decide +kernel
theorem dX7_remembers_74 : decode cX7_remembers 74 = .ok (.iadd, 1) := by decide +kernel
theorem dX7_remembers_75 : decode cX7_remembers 75 = .ok (.putfield 34, 3) := by decide +kernel
theorem dX7_remembers_78 : decode cX7_remembers 78 = .ok (.return_, 1) := by decide +kernel
theorem dX7_undo_0 : decode cX7_undo 0 = .ok (.aload_n 0, 1) := by decide +kernel
theorem dX7_undo_1 : decode cX7_undo 1 = .ok (.aload_n 0, 1) := by decide +kernel
theorem dX7_undo_2 : decode cX7_undo 2 = .ok (.getfield 34, 3) := by decide +kernel
theorem dX7_undo_5 : decode cX7_undo 5 = .ok (.ifCond .ne 7, 3) := by decide +kernel
theorem dX7_undo_8 : decode cX7_undo 8 = .ok (.iconst 1, 1) := by decide +kernel
theorem dX7_undo_9 : decode cX7_undo 9 = .ok (.goto 4, 3) := by decide +kernel
theorem dX7_undo_12 : decode cX7_undo 12 = .ok (.iconst 0, 1) := by decide +kernel
theorem dX7_undo_13 : decode cX7_undo 13 = .ok (.invokevirtual 41, 3) := by decide +kernel
theorem dX7_undo_16 : decode cX7_undo 16 = .ok (.ifCond .eq 5, 3) := by decide +kernel
theorem dX7_undo_19 : decode cX7_undo 19 = .ok (.iconst 0, 1) := by decide +kernel
theorem dX7_undo_20 : decode cX7_undo 20 = .ok (.ireturn, 1) := by decide +kernel
theorem dX7_undo_21 : decode cX7_undo 21 = .ok (.aload_n 0, 1) := by decide +kernel
theorem dX7_undo_22 : decode cX7_undo 22 = .ok (.dup, 1) := by decide +kernel
theorem dX7_undo_23 : decode cX7_undo 23 = .ok (.getfield 34, 3) := by decide +kernel
theorem dX7_undo_26 : decode cX7_undo 26 = .ok (.iconst 1, 1) := by decide +kernel
theorem dX7_undo_27 : decode cX7_undo 27 = .ok (.isub, 1) := by decide +kernel
theorem dX7_undo_28 : decode cX7_undo 28 = .ok (.putfield 34, 3) := by decide +kernel
theorem dX7_undo_31 : decode cX7_undo 31 = .ok (.aload_n 0, 1) := by decide +kernel
theorem dX7_undo_32 : decode cX7_undo 32 = .ok (.getfield 16, 3) := by decide +kernel
theorem dX7_undo_35 : decode cX7_undo 35 = .ok (.bipush 118, 2) := by decide +kernel
theorem dX7_undo_37 : decode cX7_undo 37 = .ok (.aload_n 0, 1) := by decide +kernel
theorem dX7_undo_38 : decode cX7_undo 38 = .ok (.getfield 34, 3) := by decide +kernel
theorem dX7_undo_41 : decode cX7_undo 41 = .ok (.imul, 1) := by decide +kernel
theorem dX7_undo_42 : decode cX7_undo 42 = .ok (.aload_n 0, 1) := by decide +kernel
theorem dX7_undo_43 : decode cX7_undo 43 = .ok (.getfield 7, 3) := by decide +kernel
theorem dX7_undo_46 : decode cX7_undo 46 = .ok (.iconst 0, 1) := by decide +kernel
theorem dX7_undo_47 : decode cX7_undo 47 = .ok (.invokestatic 37, 3) := by decide +kernel
theorem dX7_undo_50 : decode cX7_undo 50 = .ok (.aload_n 0, 1) := by decide +kernel
theorem dX7_undo_51 : decode cX7_undo 51 = .ok (.getfield 34, 3) := by decide +kernel
theorem dX7_undo_54 : decode cX7_undo 54 = .ok (.ireturn, 1) := by decide +kernel
theorem dX7_isPlace_0 : decode cX7_isPlace 0 = .ok (.iload_n 1, 1) := by decide +kernel
theorem dX7_isPlace_1 : decode cX7_isPlace 1 = .ok (.iconst 0, 1) := by decide +kernel
theorem dX7_isPlace_2 : decode cX7_isPlace 2 = .ok (.aload_n 0, 1) := by decide +kernel
theorem dX7_isPlace_3 : decode cX7_isPlace 3 = .ok (.getfield 7, 3) := by decide +kernel
theorem dX7_isPlace_6 : decode cX7_isPlace 6 = .ok (.iconst 0, 1) := by decide +kernel
theorem dX7_isPlace_7 : decode cX7_isPlace 7 = .ok (.iaload, 1) := by decide +kernel
theorem dX7_isPlace_8 : decode cX7_isPlace 8 = .ok (.iconst 1, 1) := by decide +kernel
theorem dX7_isPlace_9 : decode cX7_isPlace 9 = .ok (.isub, 1) := by decide +kernel
theorem dX7_isPlace_10 : decode cX7_isPlace 10 = .ok (.invokestatic 45, 3) := by decide +kernel
theorem dX7_isPlace_13 : decode cX7_isPlace 13 = .ok (.ireturn, 1) := by decide +kernel
theorem dX7_isWay_0 : decode cX7_isWay 0 = .ok (.iload_n 0, 1) := by decide +kernel
theorem dX7_isWay_1 : decode cX7_isWay 1 = .ok (.iconst 0, 1) := by decide +kernel
theorem dX7_isWay_2 : decode cX7_isWay 2 = .ok (.iconst 1, 1) := by decide +kernel
theorem dX7_isWay_3 : decode cX7_isWay 3 = .ok (.invokestatic 45, 3) := by decide +kernel
theorem dX7_isWay_6 : decode cX7_isWay 6 = .ok (.ireturn, 1) := by decide +kernel
theorem dX7_of_0 : decode cX7_of 0 = .ok (.aload_n 0, 1) := by decide +kernel
theorem dX7_of_1 : decode cX7_of 1 = .ok (.bipush 97, 2) := by decide +kernel
theorem dX7_of_3 : decode cX7_of 3 = .ok (.iconst 5, 1) := by decide +kernel
theorem dX7_of_4 : decode cX7_of 4 = .ok (.iload_n 1, 1) := by decide +kernel
theorem dX7_of_5 : decode cX7_of 5 = .ok (.imul, 1) := by decide +kernel
theorem dX7_of_6 : decode cX7_of 6 = .ok (.iadd, 1) := by decide +kernel
theorem dX7_of_7 : decode cX7_of 7 = .ok (.iload_n 2, 1) := by decide +kernel
theorem dX7_of_8 : decode cX7_of 8 = .ok (.iadd, 1) := by decide +kernel
theorem dX7_of_9 : decode cX7_of 9 = .ok (.iaload, 1) := by decide +kernel
theorem dX7_of_10 : decode cX7_of 10 = .ok (.ireturn, 1) := by decide +kernel
theorem dX7_off_0 : decode cX7_off 0 = .ok (.aload_n 0, 1) := by decide +kernel
theorem dX7_off_1 : decode cX7_off 1 = .ok (.iconst 0, 1) := by decide +kernel
theorem dX7_off_2 : decode cX7_off 2 = .ok (.iaload, 1) := by decide +kernel
theorem dX7_off_3 : decode cX7_off 3 = .ok (.istore 4, 2) := by decide +kernel
theorem dX7_off_5 : decode cX7_off 5 = .ok (.iload_n 3, 1) := by decide +kernel
theorem dX7_off_6 : decode cX7_off 6 = .ok (.iload 4, 2) := by decide +kernel
theorem dX7_off_8 : decode cX7_off 8 = .ok (.irem, 1) := by decide +kernel
theorem dX7_off_9 : decode cX7_off 9 = .ok (.istore 5, 2) := by decide +kernel
theorem dX7_off_11 : decode cX7_off 11 = .ok (.iload_n 2, 1) := by decide +kernel
theorem dX7_off_12 : decode cX7_off 12 = .ok (.ifCond .ne 13, 3) := by decide +kernel
theorem dX7_off_15 : decode cX7_off 15 = .ok (.iload_n 1, 1) := by decide +kernel
theorem dX7_off_16 : decode cX7_off 16 = .ok (.iload 5, 2) := by decide +kernel
theorem dX7_off_18 : decode cX7_off 18 = .ok (.iadd, 1) := by decide +kernel
theorem dX7_off_19 : decode cX7_off 19 = .ok (.iload 4, 2) := by decide +kernel
theorem dX7_off_21 : decode cX7_off 21 = .ok (.irem, 1) := by decide +kernel
theorem dX7_off_22 : decode cX7_off 22 = .ok (.goto 13, 3) := by decide +kernel
theorem dX7_off_25 : decode cX7_off 25 = .ok (.iload_n 1, 1) := by decide +kernel
theorem dX7_off_26 : decode cX7_off 26 = .ok (.iload 4, 2) := by decide +kernel
theorem dX7_off_28 : decode cX7_off 28 = .ok (.iadd, 1) := by decide +kernel
theorem dX7_off_29 : decode cX7_off 29 = .ok (.iload 5, 2) := by decide +kernel
theorem dX7_off_31 : decode cX7_off 31 = .ok (.isub, 1) := by decide +kernel
theorem dX7_off_32 : decode cX7_off 32 = .ok (.iload 4, 2) := by decide +kernel
theorem dX7_off_34 : decode cX7_off 34 = .ok (.irem, 1) := by decide +kernel
theorem dX7_off_35 : decode cX7_off 35 = .ok (.ireturn, 1) := by decide +kernel
theorem dX7_isDivider_0 : decode cX7_isDivider 0 = .ok (.aload_n 0, 1) := by decide +kernel
theorem dX7_isDivider_1 : decode cX7_isDivider 1 = .ok (.iconst 1, 1) := by decide +kernel
theorem dX7_isDivider_2 : decode cX7_isDivider 2 = .ok (.iload_n 1, 1) := by decide +kernel
theorem dX7_isDivider_3 : decode cX7_isDivider 3 = .ok (.iadd, 1) := by decide +kernel
theorem dX7_isDivider_4 : decode cX7_isDivider 4 = .ok (.iaload, 1) := by decide +kernel
theorem dX7_isDivider_5 : decode cX7_isDivider 5 = .ok (.ifCond .ne 7, 3) := by decide +kernel
theorem dX7_isDivider_8 : decode cX7_isDivider 8 = .ok (.iconst 1, 1) := by decide +kernel
theorem dX7_isDivider_9 : decode cX7_isDivider 9 = .ok (.goto 4, 3) := by decide +kernel
theorem dX7_isDivider_12 : decode cX7_isDivider 12 = .ok (.iconst 0, 1) := by decide +kernel
theorem dX7_isDivider_13 : decode cX7_isDivider 13 = .ok (.ireturn, 1) := by decide +kernel
theorem dX7_ones_0 : decode cX7_ones 0 = .ok (.iconst 0, 1) := by decide +kernel
theorem dX7_ones_1 : decode cX7_ones 1 = .ok (.istore_n 1, 1) := by decide +kernel
theorem dX7_ones_2 : decode cX7_ones 2 = .ok (.iconst 0, 1) := by decide +kernel
theorem dX7_ones_3 : decode cX7_ones 3 = .ok (.istore_n 2, 1) := by decide +kernel
theorem dX7_ones_4 : decode cX7_ones 4 = .ok (.iload_n 2, 1) := by decide +kernel
theorem dX7_ones_5 : decode cX7_ones 5 = .ok (.bipush 24, 2) := by decide +kernel
theorem dX7_ones_7 : decode cX7_ones 7 = .ok (.if_icmp .ge 17, 3) := by decide +kernel
theorem dX7_ones_10 : decode cX7_ones 10 = .ok (.iload_n 1, 1) := by decide +kernel
theorem dX7_ones_11 : decode cX7_ones 11 = .ok (.iload_n 0, 1) := by decide +kernel
theorem dX7_ones_12 : decode cX7_ones 12 = .ok (.iload_n 2, 1) := by decide +kernel
theorem dX7_ones_13 : decode cX7_ones 13 = .ok (.ishr, 1) := by decide +kernel
theorem dX7_ones_14 : decode cX7_ones 14 = .ok (.iconst 1, 1) := by decide +kernel
theorem dX7_ones_15 : decode cX7_ones 15 = .ok (.iand, 1) := by decide +kernel
theorem dX7_ones_16 : decode cX7_ones 16 = .ok (.iadd, 1) := by decide +kernel
theorem dX7_ones_17 : decode cX7_ones 17 = .ok (.istore_n 1, 1) := by decide +kernel
theorem dX7_ones_18 : decode cX7_ones 18 = .ok (.iinc 2 1, 3) := by decide +kernel
theorem dX7_ones_21 : decode cX7_ones 21 = .ok (.goto (-17), 3) := by decide +kernel
theorem dX7_ones_24 : decode cX7_ones 24 = .ok (.iload_n 1, 1) := by decide +kernel
theorem dX7_ones_25 : decode cX7_ones 25 = .ok (.ireturn, 1) := by decide +kernel
theorem dX7_longOf_0 : decode cX7_longOf 0 = .ok (.iconst 1, 1) := by decide +kernel
theorem dX7_longOf_1 : decode cX7_longOf 1 = .ok (.istore_n 3, 1) := by decide +kernel
theorem dX7_longOf_2 : decode cX7_longOf 2 = .ok (.aload_n 0, 1) := by decide +kernel
theorem dX7_longOf_3 : decode cX7_longOf 3 = .ok (.aload_n 0, 1) := by decide +kernel
theorem dX7_longOf_4 : decode cX7_longOf 4 = .ok (.iload_n 1, 1) := by decide +kernel
theorem dX7_longOf_5 : decode cX7_longOf 5 = .ok (.iload_n 2, 1) := by decide +kernel
theorem dX7_longOf_6 : decode cX7_longOf 6 = .ok (.iload_n 3, 1) := by decide +kernel
theorem dX7_longOf_7 : decode cX7_longOf 7 = .ok (.invokestatic 49, 3) := by decide +kernel
theorem dX7_longOf_10 : decode cX7_longOf 10 = .ok (.invokestatic 53, 3) := by decide +kernel
theorem dX7_longOf_13 : decode cX7_longOf 13 = .ok (.ifCond .ne 9, 3) := by decide +kernel
theorem dX7_longOf_16 : decode cX7_longOf 16 = .ok (.iinc 3 1, 3) := by decide +kernel
theorem dX7_longOf_19 : decode cX7_longOf 19 = .ok (.goto (-17), 3) := by decide +kernel
theorem dX7_longOf_22 : decode cX7_longOf 22 = .ok (.iload_n 3, 1) := by decide +kernel
theorem dX7_longOf_23 : decode cX7_longOf 23 = .ok (.iconst 1, 1) := by decide +kernel
theorem dX7_longOf_24 : decode cX7_longOf 24 = .ok (.isub, 1) := by decide +kernel
theorem dX7_longOf_25 : decode cX7_longOf 25 = .ok (.ireturn, 1) := by decide +kernel
theorem dX7_dividerOf_0 : decode cX7_dividerOf 0 = .ok (.iload_n 2, 1) := by decide +kernel
theorem dX7_dividerOf_1 : decode cX7_dividerOf 1 = .ok (.istore_n 3, 1) := by decide +kernel
theorem dX7_dividerOf_2 : decode cX7_dividerOf 2 = .ok (.iconst 0, 1) := by decide +kernel
theorem dX7_dividerOf_3 : decode cX7_dividerOf 3 = .ok (.istore 4, 2) := by decide +kernel
theorem dX7_dividerOf_5 : decode cX7_dividerOf 5 = .ok (.iload 4, 2) := by decide +kernel
theorem dX7_dividerOf_7 : decode cX7_dividerOf 7 = .ok (.aload_n 0, 1) := by decide +kernel
theorem dX7_dividerOf_8 : decode cX7_dividerOf 8 = .ok (.iconst 0, 1) := by decide +kernel
theorem dX7_dividerOf_9 : decode cX7_dividerOf 9 = .ok (.iaload, 1) := by decide +kernel
theorem dX7_dividerOf_10 : decode cX7_dividerOf 10 = .ok (.if_icmp .ge 57, 3) := by decide +kernel
theorem dX7_dividerOf_13 : decode cX7_dividerOf 13 = .ok (.iload_n 1, 1) := by decide +kernel
theorem dX7_dividerOf_14 : decode cX7_dividerOf 14 = .ok (.ifCond .ne 8, 3) := by decide +kernel
theorem dX7_dividerOf_17 : decode cX7_dividerOf 17 = .ok (.iload 4, 2) := by decide +kernel
theorem dX7_dividerOf_19 : decode cX7_dividerOf 19 = .ok (.goto 11, 3) := by decide +kernel
theorem dX7_dividerOf_22 : decode cX7_dividerOf 22 = .ok (.aload_n 0, 1) := by decide +kernel
theorem dX7_dividerOf_23 : decode cX7_dividerOf 23 = .ok (.iconst 0, 1) := by decide +kernel
theorem dX7_dividerOf_24 : decode cX7_dividerOf 24 = .ok (.iaload, 1) := by decide +kernel
theorem dX7_dividerOf_25 : decode cX7_dividerOf 25 = .ok (.iconst 1, 1) := by decide +kernel
theorem dX7_dividerOf_26 : decode cX7_dividerOf 26 = .ok (.isub, 1) := by decide +kernel
theorem dX7_dividerOf_27 : decode cX7_dividerOf 27 = .ok (.iload 4, 2) := by decide +kernel
theorem dX7_dividerOf_29 : decode cX7_dividerOf 29 = .ok (.isub, 1) := by decide +kernel
theorem dX7_dividerOf_30 : decode cX7_dividerOf 30 = .ok (.istore 5, 2) := by decide +kernel
theorem dX7_dividerOf_32 : decode cX7_dividerOf 32 = .ok (.aload_n 0, 1) := by decide +kernel
theorem dX7_dividerOf_33 : decode cX7_dividerOf 33 = .ok (.iload 5, 2) := by decide +kernel
theorem dX7_dividerOf_35 : decode cX7_dividerOf 35 = .ok (.invokestatic 53, 3) := by decide +kernel
theorem dX7_dividerOf_38 : decode cX7_dividerOf 38 = .ok (.ifCond .eq 23, 3) := by decide +kernel
theorem dX7_dividerOf_41 : decode cX7_dividerOf 41 = .ok (.aload_n 0, 1) := by decide +kernel
theorem dX7_dividerOf_42 : decode cX7_dividerOf 42 = .ok (.iload 5, 2) := by decide +kernel
theorem dX7_dividerOf_44 : decode cX7_dividerOf 44 = .ok (.iload_n 1, 1) := by decide +kernel
theorem dX7_dividerOf_45 : decode cX7_dividerOf 45 = .ok (.invokestatic 57, 3) := by decide +kernel
theorem dX7_dividerOf_48 : decode cX7_dividerOf 48 = .ok (.ifCond .le 13, 3) := by decide +kernel
theorem dX7_dividerOf_51 : decode cX7_dividerOf 51 = .ok (.iload_n 3, 1) := by decide +kernel
theorem dX7_dividerOf_52 : decode cX7_dividerOf 52 = .ok (.ifCond .ne 6, 3) := by decide +kernel
theorem dX7_dividerOf_55 : decode cX7_dividerOf 55 = .ok (.iload 5, 2) := by decide +kernel
theorem dX7_dividerOf_57 : decode cX7_dividerOf 57 = .ok (.ireturn, 1) := by decide +kernel
theorem dX7_dividerOf_58 : decode cX7_dividerOf 58 = .ok (.iinc 3 (-1), 3) := by decide +kernel
theorem dX7_dividerOf_61 : decode cX7_dividerOf 61 = .ok (.iinc 4 1, 3) := by decide +kernel
theorem dX7_dividerOf_64 : decode cX7_dividerOf 64 = .ok (.goto (-59), 3) := by decide +kernel
theorem dX7_dividerOf_67 : decode cX7_dividerOf 67 = .ok (.iconst (-1), 1) := by decide +kernel
theorem dX7_dividerOf_68 : decode cX7_dividerOf 68 = .ok (.ireturn, 1) := by decide +kernel
theorem dX7_segments_0 : decode cX7_segments 0 = .ok (.iconst 0, 1) := by decide +kernel
theorem dX7_segments_1 : decode cX7_segments 1 = .ok (.istore_n 2, 1) := by decide +kernel
theorem dX7_segments_2 : decode cX7_segments 2 = .ok (.iconst 0, 1) := by decide +kernel
theorem dX7_segments_3 : decode cX7_segments 3 = .ok (.istore_n 3, 1) := by decide +kernel
theorem dX7_segments_4 : decode cX7_segments 4 = .ok (.iload_n 3, 1) := by decide +kernel
theorem dX7_segments_5 : decode cX7_segments 5 = .ok (.aload_n 0, 1) := by decide +kernel
theorem dX7_segments_6 : decode cX7_segments 6 = .ok (.iconst 0, 1) := by decide +kernel
theorem dX7_segments_7 : decode cX7_segments 7 = .ok (.iaload, 1) := by decide +kernel
theorem dX7_segments_8 : decode cX7_segments 8 = .ok (.if_icmp .ge 34, 3) := by decide +kernel
theorem dX7_segments_11 : decode cX7_segments 11 = .ok (.iload_n 2, 1) := by decide +kernel
theorem dX7_segments_12 : decode cX7_segments 12 = .ok (.aload_n 0, 1) := by decide +kernel
theorem dX7_segments_13 : decode cX7_segments 13 = .ok (.iload_n 3, 1) := by decide +kernel
theorem dX7_segments_14 : decode cX7_segments 14 = .ok (.invokestatic 53, 3) := by decide +kernel
theorem dX7_segments_17 : decode cX7_segments 17 = .ok (.ifCond .eq 16, 3) := by decide +kernel
theorem dX7_segments_20 : decode cX7_segments 20 = .ok (.aload_n 0, 1) := by decide +kernel
theorem dX7_segments_21 : decode cX7_segments 21 = .ok (.iload_n 3, 1) := by decide +kernel
theorem dX7_segments_22 : decode cX7_segments 22 = .ok (.iload_n 1, 1) := by decide +kernel
theorem dX7_segments_23 : decode cX7_segments 23 = .ok (.invokestatic 57, 3) := by decide +kernel
theorem dX7_segments_26 : decode cX7_segments 26 = .ok (.ifCond .le 7, 3) := by decide +kernel
theorem dX7_segments_29 : decode cX7_segments 29 = .ok (.iconst 1, 1) := by decide +kernel
theorem dX7_segments_30 : decode cX7_segments 30 = .ok (.goto 4, 3) := by decide +kernel
theorem dX7_segments_33 : decode cX7_segments 33 = .ok (.iconst 0, 1) := by decide +kernel
theorem dX7_segments_34 : decode cX7_segments 34 = .ok (.iadd, 1) := by decide +kernel
theorem dX7_segments_35 : decode cX7_segments 35 = .ok (.istore_n 2, 1) := by decide +kernel
theorem dX7_segments_36 : decode cX7_segments 36 = .ok (.iinc 3 1, 3) := by decide +kernel
theorem dX7_segments_39 : decode cX7_segments 39 = .ok (.goto (-35), 3) := by decide +kernel
theorem dX7_segments_42 : decode cX7_segments 42 = .ok (.iload_n 2, 1) := by decide +kernel
theorem dX7_segments_43 : decode cX7_segments 43 = .ok (.ireturn, 1) := by decide +kernel
theorem dX7_stands_0 : decode cX7_stands 0 = .ok (.iconst 1, 1) := by decide +kernel
theorem dX7_stands_1 : decode cX7_stands 1 = .ok (.istore 4, 2) := by decide +kernel
theorem dX7_stands_3 : decode cX7_stands 3 = .ok (.iconst 0, 1) := by decide +kernel
theorem dX7_stands_4 : decode cX7_stands 4 = .ok (.istore 5, 2) := by decide +kernel
theorem dX7_stands_6 : decode cX7_stands 6 = .ok (.iload 5, 2) := by decide +kernel
theorem dX7_stands_8 : decode cX7_stands 8 = .ok (.aload_n 0, 1) := by decide +kernel
theorem dX7_stands_9 : decode cX7_stands 9 = .ok (.bipush 26, 2) := by decide +kernel
theorem dX7_stands_11 : decode cX7_stands 11 = .ok (.bipush 7, 2) := by decide +kernel
theorem dX7_stands_13 : decode cX7_stands 13 = .ok (.iload_n 1, 1) := by decide +kernel
theorem dX7_stands_14 : decode cX7_stands 14 = .ok (.imul, 1) := by decide +kernel
theorem dX7_stands_15 : decode cX7_stands 15 = .ok (.iadd, 1) := by decide +kernel
theorem dX7_stands_16 : decode cX7_stands 16 = .ok (.iaload, 1) := by decide +kernel
theorem dX7_stands_17 : decode cX7_stands 17 = .ok (.if_icmp .ge 61, 3) := by decide +kernel
theorem dX7_stands_20 : decode cX7_stands 20 = .ok (.aload_n 0, 1) := by decide +kernel
theorem dX7_stands_21 : decode cX7_stands 21 = .ok (.iconst 1, 1) := by decide +kernel
theorem dX7_stands_22 : decode cX7_stands 22 = .ok (.aload_n 0, 1) := by decide +kernel
theorem dX7_stands_23 : decode cX7_stands 23 = .ok (.iload_n 2, 1) := by decide +kernel
theorem dX7_stands_24 : decode cX7_stands 24 = .ok (.iload_n 3, 1) := by decide +kernel
theorem dX7_stands_25 : decode cX7_stands 25 = .ok (.iload 5, 2) := by decide +kernel
theorem dX7_stands_27 : decode cX7_stands 27 = .ok (.invokestatic 49, 3) := by decide +kernel
theorem dX7_stands_30 : decode cX7_stands 30 = .ok (.iadd, 1) := by decide +kernel
theorem dX7_stands_31 : decode cX7_stands 31 = .ok (.iaload, 1) := by decide +kernel
theorem dX7_stands_32 : decode cX7_stands 32 = .ok (.istore 6, 2) := by decide +kernel
theorem dX7_stands_34 : decode cX7_stands 34 = .ok (.iload 4, 2) := by decide +kernel
theorem dX7_stands_36 : decode cX7_stands 36 = .ok (.ifCond .eq 33, 3) := by decide +kernel
theorem dX7_stands_39 : decode cX7_stands 39 = .ok (.iload 6, 2) := by decide +kernel
theorem dX7_stands_41 : decode cX7_stands 41 = .ok (.bipush 9, 2) := by decide +kernel
theorem dX7_stands_43 : decode cX7_stands 43 = .ok (.if_icmp .eq 22, 3) := by decide +kernel
theorem dX7_stands_46 : decode cX7_stands 46 = .ok (.iload 6, 2) := by decide +kernel
theorem dX7_stands_48 : decode cX7_stands 48 = .ok (.aload_n 0, 1) := by decide +kernel
theorem dX7_stands_49 : decode cX7_stands 49 = .ok (.bipush 26, 2) := by decide +kernel
theorem dX7_stands_51 : decode cX7_stands 51 = .ok (.bipush 7, 2) := by decide +kernel
theorem dX7_stands_53 : decode cX7_stands 53 = .ok (.iload_n 1, 1) := by decide +kernel
theorem dX7_stands_54 : decode cX7_stands 54 = .ok (.imul, 1) := by decide +kernel
theorem dX7_stands_55 : decode cX7_stands 55 = .ok (.iadd, 1) := by decide +kernel
theorem dX7_stands_56 : decode cX7_stands 56 = .ok (.iconst 1, 1) := by decide +kernel
theorem dX7_stands_57 : decode cX7_stands 57 = .ok (.iadd, 1) := by decide +kernel
theorem dX7_stands_58 : decode cX7_stands 58 = .ok (.iload 5, 2) := by decide +kernel
theorem dX7_stands_60 : decode cX7_stands 60 = .ok (.iadd, 1) := by decide +kernel
theorem dX7_stands_61 : decode cX7_stands 61 = .ok (.iaload, 1) := by decide +kernel
theorem dX7_stands_62 : decode cX7_stands 62 = .ok (.if_icmp .ne 7, 3) := by decide +kernel
theorem dX7_stands_65 : decode cX7_stands 65 = .ok (.iconst 1, 1) := by decide +kernel
theorem dX7_stands_66 : decode cX7_stands 66 = .ok (.goto 4, 3) := by decide +kernel
theorem dX7_stands_69 : decode cX7_stands 69 = .ok (.iconst 0, 1) := by decide +kernel
theorem dX7_stands_70 : decode cX7_stands 70 = .ok (.istore 4, 2) := by decide +kernel
theorem dX7_stands_72 : decode cX7_stands 72 = .ok (.iinc 5 1, 3) := by decide +kernel
theorem dX7_stands_75 : decode cX7_stands 75 = .ok (.goto (-69), 3) := by decide +kernel
theorem dX7_stands_78 : decode cX7_stands 78 = .ok (.iload 4, 2) := by decide +kernel
theorem dX7_stands_80 : decode cX7_stands 80 = .ok (.ireturn, 1) := by decide +kernel
theorem dX7_isFit_0 : decode cX7_isFit 0 = .ok (.aload_n 0, 1) := by decide +kernel
theorem dX7_isFit_1 : decode cX7_isFit 1 = .ok (.bipush 26, 2) := by decide +kernel
theorem dX7_isFit_3 : decode cX7_isFit 3 = .ok (.bipush 7, 2) := by decide +kernel
theorem dX7_isFit_5 : decode cX7_isFit 5 = .ok (.iload_n 1, 1) := by decide +kernel
theorem dX7_isFit_6 : decode cX7_isFit 6 = .ok (.imul, 1) := by decide +kernel
theorem dX7_isFit_7 : decode cX7_isFit 7 = .ok (.iadd, 1) := by decide +kernel
theorem dX7_isFit_8 : decode cX7_isFit 8 = .ok (.iaload, 1) := by decide +kernel
theorem dX7_isFit_9 : decode cX7_isFit 9 = .ok (.aload_n 0, 1) := by decide +kernel
theorem dX7_isFit_10 : decode cX7_isFit 10 = .ok (.iload_n 2, 1) := by decide +kernel
theorem dX7_isFit_11 : decode cX7_isFit 11 = .ok (.iload_n 3, 1) := by decide +kernel
theorem dX7_isFit_12 : decode cX7_isFit 12 = .ok (.invokestatic 57, 3) := by decide +kernel
theorem dX7_isFit_15 : decode cX7_isFit 15 = .ok (.if_icmp .ne 23, 3) := by decide +kernel
theorem dX7_isFit_18 : decode cX7_isFit 18 = .ok (.aload_n 0, 1) := by decide +kernel
theorem dX7_isFit_19 : decode cX7_isFit 19 = .ok (.iload_n 1, 1) := by decide +kernel
theorem dX7_isFit_20 : decode cX7_isFit 20 = .ok (.aload_n 0, 1) := by decide +kernel
theorem dX7_isFit_21 : decode cX7_isFit 21 = .ok (.iload_n 2, 1) := by decide +kernel
theorem dX7_isFit_22 : decode cX7_isFit 22 = .ok (.iload_n 3, 1) := by decide +kernel
theorem dX7_isFit_23 : decode cX7_isFit 23 = .ok (.iconst 1, 1) := by decide +kernel
theorem dX7_isFit_24 : decode cX7_isFit 24 = .ok (.invokestatic 49, 3) := by decide +kernel
theorem dX7_isFit_27 : decode cX7_isFit 27 = .ok (.iload_n 3, 1) := by decide +kernel
theorem dX7_isFit_28 : decode cX7_isFit 28 = .ok (.invokestatic 61, 3) := by decide +kernel
theorem dX7_isFit_31 : decode cX7_isFit 31 = .ok (.ifCond .eq 7, 3) := by decide +kernel
theorem dX7_isFit_34 : decode cX7_isFit 34 = .ok (.iconst 1, 1) := by decide +kernel
theorem dX7_isFit_35 : decode cX7_isFit 35 = .ok (.goto 4, 3) := by decide +kernel
theorem dX7_isFit_38 : decode cX7_isFit 38 = .ok (.iconst 0, 1) := by decide +kernel
theorem dX7_isFit_39 : decode cX7_isFit 39 = .ok (.ireturn, 1) := by decide +kernel
theorem dX7_fits_0 : decode cX7_fits 0 = .ok (.iconst 0, 1) := by decide +kernel
theorem dX7_fits_1 : decode cX7_fits 1 = .ok (.istore_n 3, 1) := by decide +kernel
theorem dX7_fits_2 : decode cX7_fits 2 = .ok (.iconst 0, 1) := by decide +kernel
theorem dX7_fits_3 : decode cX7_fits 3 = .ok (.istore 4, 2) := by decide +kernel
theorem dX7_fits_5 : decode cX7_fits 5 = .ok (.iload 4, 2) := by decide +kernel
theorem dX7_fits_7 : decode cX7_fits 7 = .ok (.aload_n 0, 1) := by decide +kernel
theorem dX7_fits_8 : decode cX7_fits 8 = .ok (.bipush 25, 2) := by decide +kernel
theorem dX7_fits_10 : decode cX7_fits 10 = .ok (.iaload, 1) := by decide +kernel
theorem dX7_fits_11 : decode cX7_fits 11 = .ok (.if_icmp .ge 28, 3) := by decide +kernel
theorem dX7_fits_14 : decode cX7_fits 14 = .ok (.iload_n 3, 1) := by decide +kernel
theorem dX7_fits_15 : decode cX7_fits 15 = .ok (.aload_n 0, 1) := by decide +kernel
theorem dX7_fits_16 : decode cX7_fits 16 = .ok (.iload 4, 2) := by decide +kernel
theorem dX7_fits_18 : decode cX7_fits 18 = .ok (.iload_n 1, 1) := by decide +kernel
theorem dX7_fits_19 : decode cX7_fits 19 = .ok (.iload_n 2, 1) := by decide +kernel
theorem dX7_fits_20 : decode cX7_fits 20 = .ok (.invokestatic 65, 3) := by decide +kernel
theorem dX7_fits_23 : decode cX7_fits 23 = .ok (.ifCond .eq 7, 3) := by decide +kernel
theorem dX7_fits_26 : decode cX7_fits 26 = .ok (.iconst 1, 1) := by decide +kernel
theorem dX7_fits_27 : decode cX7_fits 27 = .ok (.goto 4, 3) := by decide +kernel
theorem dX7_fits_30 : decode cX7_fits 30 = .ok (.iconst 0, 1) := by decide +kernel
theorem dX7_fits_31 : decode cX7_fits 31 = .ok (.iadd, 1) := by decide +kernel
theorem dX7_fits_32 : decode cX7_fits 32 = .ok (.istore_n 3, 1) := by decide +kernel
theorem dX7_fits_33 : decode cX7_fits 33 = .ok (.iinc 4 1, 3) := by decide +kernel
theorem dX7_fits_36 : decode cX7_fits 36 = .ok (.goto (-31), 3) := by decide +kernel
theorem dX7_fits_39 : decode cX7_fits 39 = .ok (.iload_n 3, 1) := by decide +kernel
theorem dX7_fits_40 : decode cX7_fits 40 = .ok (.ireturn, 1) := by decide +kernel
theorem dX7_sense_0 : decode cX7_sense 0 = .ok (.iconst 0, 1) := by decide +kernel
theorem dX7_sense_1 : decode cX7_sense 1 = .ok (.istore_n 2, 1) := by decide +kernel
theorem dX7_sense_2 : decode cX7_sense 2 = .ok (.iconst 0, 1) := by decide +kernel
theorem dX7_sense_3 : decode cX7_sense 3 = .ok (.istore_n 3, 1) := by decide +kernel
theorem dX7_sense_4 : decode cX7_sense 4 = .ok (.iload_n 3, 1) := by decide +kernel
theorem dX7_sense_5 : decode cX7_sense 5 = .ok (.aload_n 0, 1) := by decide +kernel
theorem dX7_sense_6 : decode cX7_sense 6 = .ok (.iconst 0, 1) := by decide +kernel
theorem dX7_sense_7 : decode cX7_sense 7 = .ok (.iaload, 1) := by decide +kernel
theorem dX7_sense_8 : decode cX7_sense 8 = .ok (.if_icmp .ge 43, 3) := by decide +kernel
theorem dX7_sense_11 : decode cX7_sense 11 = .ok (.iload_n 2, 1) := by decide +kernel
theorem dX7_sense_12 : decode cX7_sense 12 = .ok (.aload_n 0, 1) := by decide +kernel
theorem dX7_sense_13 : decode cX7_sense 13 = .ok (.iload_n 3, 1) := by decide +kernel
theorem dX7_sense_14 : decode cX7_sense 14 = .ok (.invokestatic 53, 3) := by decide +kernel
theorem dX7_sense_17 : decode cX7_sense 17 = .ok (.ifCond .eq 25, 3) := by decide +kernel
theorem dX7_sense_20 : decode cX7_sense 20 = .ok (.aload_n 0, 1) := by decide +kernel
theorem dX7_sense_21 : decode cX7_sense 21 = .ok (.iload_n 3, 1) := by decide +kernel
theorem dX7_sense_22 : decode cX7_sense 22 = .ok (.iload_n 1, 1) := by decide +kernel
theorem dX7_sense_23 : decode cX7_sense 23 = .ok (.invokestatic 57, 3) := by decide +kernel
theorem dX7_sense_26 : decode cX7_sense 26 = .ok (.ifCond .le 16, 3) := by decide +kernel
theorem dX7_sense_29 : decode cX7_sense 29 = .ok (.aload_n 0, 1) := by decide +kernel
theorem dX7_sense_30 : decode cX7_sense 30 = .ok (.iload_n 3, 1) := by decide +kernel
theorem dX7_sense_31 : decode cX7_sense 31 = .ok (.iload_n 1, 1) := by decide +kernel
theorem dX7_sense_32 : decode cX7_sense 32 = .ok (.invokestatic 68, 3) := by decide +kernel
theorem dX7_sense_35 : decode cX7_sense 35 = .ok (.ifCond .le 7, 3) := by decide +kernel
theorem dX7_sense_38 : decode cX7_sense 38 = .ok (.iconst 1, 1) := by decide +kernel
theorem dX7_sense_39 : decode cX7_sense 39 = .ok (.goto 4, 3) := by decide +kernel
theorem dX7_sense_42 : decode cX7_sense 42 = .ok (.iconst 0, 1) := by decide +kernel
theorem dX7_sense_43 : decode cX7_sense 43 = .ok (.iadd, 1) := by decide +kernel
theorem dX7_sense_44 : decode cX7_sense 44 = .ok (.istore_n 2, 1) := by decide +kernel
theorem dX7_sense_45 : decode cX7_sense 45 = .ok (.iinc 3 1, 3) := by decide +kernel
theorem dX7_sense_48 : decode cX7_sense 48 = .ok (.goto (-44), 3) := by decide +kernel
theorem dX7_sense_51 : decode cX7_sense 51 = .ok (.iload_n 2, 1) := by decide +kernel
theorem dX7_sense_52 : decode cX7_sense 52 = .ok (.ireturn, 1) := by decide +kernel
theorem dX7_readings_0 : decode cX7_readings 0 = .ok (.iconst 1, 1) := by decide +kernel
theorem dX7_readings_1 : decode cX7_readings 1 = .ok (.istore_n 2, 1) := by decide +kernel
theorem dX7_readings_2 : decode cX7_readings 2 = .ok (.iconst 0, 1) := by decide +kernel
theorem dX7_readings_3 : decode cX7_readings 3 = .ok (.istore_n 3, 1) := by decide +kernel
theorem dX7_readings_4 : decode cX7_readings 4 = .ok (.iconst 0, 1) := by decide +kernel
theorem dX7_readings_5 : decode cX7_readings 5 = .ok (.istore 4, 2) := by decide +kernel
theorem dX7_readings_7 : decode cX7_readings 7 = .ok (.iload 4, 2) := by decide +kernel
theorem dX7_readings_9 : decode cX7_readings 9 = .ok (.aload_n 0, 1) := by decide +kernel
theorem dX7_readings_10 : decode cX7_readings 10 = .ok (.iconst 0, 1) := by decide +kernel
theorem dX7_readings_11 : decode cX7_readings 11 = .ok (.iaload, 1) := by decide +kernel
theorem dX7_readings_12 : decode cX7_readings 12 = .ok (.if_icmp .ge 54, 3) := by decide +kernel
theorem dX7_readings_15 : decode cX7_readings 15 = .ok (.aload_n 0, 1) := by decide +kernel
theorem dX7_readings_16 : decode cX7_readings 16 = .ok (.iload 4, 2) := by decide +kernel
theorem dX7_readings_18 : decode cX7_readings 18 = .ok (.invokestatic 53, 3) := by decide +kernel
theorem dX7_readings_21 : decode cX7_readings 21 = .ok (.ifCond .eq 39, 3) := by decide +kernel
theorem dX7_readings_24 : decode cX7_readings 24 = .ok (.aload_n 0, 1) := by decide +kernel
theorem dX7_readings_25 : decode cX7_readings 25 = .ok (.iload 4, 2) := by decide +kernel
theorem dX7_readings_27 : decode cX7_readings 27 = .ok (.iload_n 1, 1) := by decide +kernel
theorem dX7_readings_28 : decode cX7_readings 28 = .ok (.invokestatic 57, 3) := by decide +kernel
theorem dX7_readings_31 : decode cX7_readings 31 = .ok (.ifCond .le 29, 3) := by decide +kernel
theorem dX7_readings_34 : decode cX7_readings 34 = .ok (.iload_n 2, 1) := by decide +kernel
theorem dX7_readings_35 : decode cX7_readings 35 = .ok (.aload_n 0, 1) := by decide +kernel
theorem dX7_readings_36 : decode cX7_readings 36 = .ok (.iload 4, 2) := by decide +kernel
theorem dX7_readings_38 : decode cX7_readings 38 = .ok (.iload_n 1, 1) := by decide +kernel
theorem dX7_readings_39 : decode cX7_readings 39 = .ok (.invokestatic 68, 3) := by decide +kernel
theorem dX7_readings_42 : decode cX7_readings 42 = .ok (.imul, 1) := by decide +kernel
theorem dX7_readings_43 : decode cX7_readings 43 = .ok (.istore_n 2, 1) := by decide +kernel
theorem dX7_readings_44 : decode cX7_readings 44 = .ok (.iload_n 2, 1) := by decide +kernel
theorem dX7_readings_45 : decode cX7_readings 45 = .ok (.ldc 71, 2) := by decide +kernel
theorem dX7_readings_47 : decode cX7_readings 47 = .ok (.if_icmp .le 8, 3) := by decide +kernel
theorem dX7_readings_50 : decode cX7_readings 50 = .ok (.ldc 71, 2) := by decide +kernel
theorem dX7_readings_52 : decode cX7_readings 52 = .ok (.goto 4, 3) := by decide +kernel
theorem dX7_readings_55 : decode cX7_readings 55 = .ok (.iload_n 2, 1) := by decide +kernel
theorem dX7_readings_56 : decode cX7_readings 56 = .ok (.istore_n 2, 1) := by decide +kernel
theorem dX7_readings_57 : decode cX7_readings 57 = .ok (.iinc 3 1, 3) := by decide +kernel
theorem dX7_readings_60 : decode cX7_readings 60 = .ok (.iinc 4 1, 3) := by decide +kernel
theorem dX7_readings_63 : decode cX7_readings 63 = .ok (.goto (-56), 3) := by decide +kernel
theorem dX7_readings_66 : decode cX7_readings 66 = .ok (.iload_n 3, 1) := by decide +kernel
theorem dX7_readings_67 : decode cX7_readings 67 = .ok (.ifCond .ne 7, 3) := by decide +kernel
theorem dX7_readings_70 : decode cX7_readings 70 = .ok (.iconst 0, 1) := by decide +kernel
theorem dX7_readings_71 : decode cX7_readings 71 = .ok (.goto 4, 3) := by decide +kernel
theorem dX7_readings_74 : decode cX7_readings 74 = .ok (.iload_n 2, 1) := by decide +kernel
theorem dX7_readings_75 : decode cX7_readings 75 = .ok (.ireturn, 1) := by decide +kernel
theorem dX7_longest_0 : decode cX7_longest 0 = .ok (.iconst 0, 1) := by decide +kernel
theorem dX7_longest_1 : decode cX7_longest 1 = .ok (.istore_n 2, 1) := by decide +kernel
theorem dX7_longest_2 : decode cX7_longest 2 = .ok (.iconst 0, 1) := by decide +kernel
theorem dX7_longest_3 : decode cX7_longest 3 = .ok (.istore_n 3, 1) := by decide +kernel
theorem dX7_longest_4 : decode cX7_longest 4 = .ok (.iload_n 3, 1) := by decide +kernel
theorem dX7_longest_5 : decode cX7_longest 5 = .ok (.aload_n 0, 1) := by decide +kernel
theorem dX7_longest_6 : decode cX7_longest 6 = .ok (.getfield 7, 3) := by decide +kernel
theorem dX7_longest_9 : decode cX7_longest 9 = .ok (.iconst 0, 1) := by decide +kernel
theorem dX7_longest_10 : decode cX7_longest 10 = .ok (.iaload, 1) := by decide +kernel
theorem dX7_longest_11 : decode cX7_longest 11 = .ok (.if_icmp .ge 48, 3) := by decide +kernel
theorem dX7_longest_14 : decode cX7_longest 14 = .ok (.aload_n 0, 1) := by decide +kernel
theorem dX7_longest_15 : decode cX7_longest 15 = .ok (.getfield 7, 3) := by decide +kernel
theorem dX7_longest_18 : decode cX7_longest 18 = .ok (.iload_n 3, 1) := by decide +kernel
theorem dX7_longest_19 : decode cX7_longest 19 = .ok (.invokestatic 53, 3) := by decide +kernel
theorem dX7_longest_22 : decode cX7_longest 22 = .ok (.ifCond .eq 15, 3) := by decide +kernel
theorem dX7_longest_25 : decode cX7_longest 25 = .ok (.aload_n 0, 1) := by decide +kernel
theorem dX7_longest_26 : decode cX7_longest 26 = .ok (.getfield 7, 3) := by decide +kernel
theorem dX7_longest_29 : decode cX7_longest 29 = .ok (.iload_n 3, 1) := by decide +kernel
theorem dX7_longest_30 : decode cX7_longest 30 = .ok (.iload_n 1, 1) := by decide +kernel
theorem dX7_longest_31 : decode cX7_longest 31 = .ok (.invokestatic 57, 3) := by decide +kernel
theorem dX7_longest_34 : decode cX7_longest 34 = .ok (.goto 4, 3) := by decide +kernel
theorem dX7_longest_37 : decode cX7_longest 37 = .ok (.iconst 0, 1) := by decide +kernel
theorem dX7_longest_38 : decode cX7_longest 38 = .ok (.istore 4, 2) := by decide +kernel
theorem dX7_longest_40 : decode cX7_longest 40 = .ok (.iload 4, 2) := by decide +kernel
theorem dX7_longest_42 : decode cX7_longest 42 = .ok (.iload_n 2, 1) := by decide +kernel
theorem dX7_longest_43 : decode cX7_longest 43 = .ok (.if_icmp .le 8, 3) := by decide +kernel
theorem dX7_longest_46 : decode cX7_longest 46 = .ok (.iload 4, 2) := by decide +kernel
theorem dX7_longest_48 : decode cX7_longest 48 = .ok (.goto 4, 3) := by decide +kernel
theorem dX7_longest_51 : decode cX7_longest 51 = .ok (.iload_n 2, 1) := by decide +kernel
theorem dX7_longest_52 : decode cX7_longest 52 = .ok (.istore_n 2, 1) := by decide +kernel
theorem dX7_longest_53 : decode cX7_longest 53 = .ok (.iinc 3 1, 3) := by decide +kernel
theorem dX7_longest_56 : decode cX7_longest 56 = .ok (.goto (-52), 3) := by decide +kernel
theorem dX7_longest_59 : decode cX7_longest 59 = .ok (.iload_n 2, 1) := by decide +kernel
theorem dX7_longest_60 : decode cX7_longest 60 = .ok (.ireturn, 1) := by decide +kernel
theorem dX7_sees_0 : decode cX7_sees 0 = .ok (.iconst 0, 1) := by decide +kernel
theorem dX7_sees_1 : decode cX7_sees 1 = .ok (.istore_n 2, 1) := by decide +kernel
theorem dX7_sees_2 : decode cX7_sees 2 = .ok (.iload_n 2, 1) := by decide +kernel
theorem dX7_sees_3 : decode cX7_sees 3 = .ok (.aload_n 0, 1) := by decide +kernel
theorem dX7_sees_4 : decode cX7_sees 4 = .ok (.iload_n 1, 1) := by decide +kernel
theorem dX7_sees_5 : decode cX7_sees 5 = .ok (.iconst 3, 1) := by decide +kernel
theorem dX7_sees_6 : decode cX7_sees 6 = .ok (.invokestatic 72, 3) := by decide +kernel
theorem dX7_sees_9 : decode cX7_sees 9 = .ok (.if_icmp .ge 41, 3) := by decide +kernel
theorem dX7_sees_12 : decode cX7_sees 12 = .ok (.aload_n 0, 1) := by decide +kernel
theorem dX7_sees_13 : decode cX7_sees 13 = .ok (.bipush 97, 2) := by decide +kernel
theorem dX7_sees_15 : decode cX7_sees 15 = .ok (.iconst 5, 1) := by decide +kernel
theorem dX7_sees_16 : decode cX7_sees 16 = .ok (.iload_n 1, 1) := by decide +kernel
theorem dX7_sees_17 : decode cX7_sees 17 = .ok (.imul, 1) := by decide +kernel
theorem dX7_sees_18 : decode cX7_sees 18 = .ok (.iadd, 1) := by decide +kernel
theorem dX7_sees_19 : decode cX7_sees 19 = .ok (.iconst 4, 1) := by decide +kernel
theorem dX7_sees_20 : decode cX7_sees 20 = .ok (.iadd, 1) := by decide +kernel
theorem dX7_sees_21 : decode cX7_sees 21 = .ok (.dup2, 1) := by decide +kernel
theorem dX7_sees_22 : decode cX7_sees 22 = .ok (.iaload, 1) := by decide +kernel
theorem dX7_sees_23 : decode cX7_sees 23 = .ok (.iconst 1, 1) := by decide +kernel
theorem dX7_sees_24 : decode cX7_sees 24 = .ok (.aload_n 0, 1) := by decide +kernel
theorem dX7_sees_25 : decode cX7_sees 25 = .ok (.aload_n 0, 1) := by decide +kernel
theorem dX7_sees_26 : decode cX7_sees 26 = .ok (.iload_n 1, 1) := by decide +kernel
theorem dX7_sees_27 : decode cX7_sees 27 = .ok (.iconst 0, 1) := by decide +kernel
theorem dX7_sees_28 : decode cX7_sees 28 = .ok (.invokestatic 72, 3) := by decide +kernel
theorem dX7_sees_31 : decode cX7_sees 31 = .ok (.aload_n 0, 1) := by decide +kernel
theorem dX7_sees_32 : decode cX7_sees 32 = .ok (.iload_n 1, 1) := by decide +kernel
theorem dX7_sees_33 : decode cX7_sees 33 = .ok (.iconst 1, 1) := by decide +kernel
theorem dX7_sees_34 : decode cX7_sees 34 = .ok (.invokestatic 72, 3) := by decide +kernel
theorem dX7_sees_37 : decode cX7_sees 37 = .ok (.iload_n 2, 1) := by decide +kernel
theorem dX7_sees_38 : decode cX7_sees 38 = .ok (.invokestatic 49, 3) := by decide +kernel
theorem dX7_sees_41 : decode cX7_sees 41 = .ok (.ishl, 1) := by decide +kernel
theorem dX7_sees_42 : decode cX7_sees 42 = .ok (.ior, 1) := by decide +kernel
theorem dX7_sees_43 : decode cX7_sees 43 = .ok (.iastore, 1) := by decide +kernel
theorem dX7_sees_44 : decode cX7_sees 44 = .ok (.iinc 2 1, 3) := by decide +kernel
theorem dX7_sees_47 : decode cX7_sees 47 = .ok (.goto (-45), 3) := by decide +kernel
theorem dX7_sees_50 : decode cX7_sees 50 = .ok (.return_, 1) := by decide +kernel
theorem dX7_steps_0 : decode cX7_steps 0 = .ok (.aload_n 0, 1) := by decide +kernel
theorem dX7_steps_1 : decode cX7_steps 1 = .ok (.bipush 97, 2) := by decide +kernel
theorem dX7_steps_3 : decode cX7_steps 3 = .ok (.iconst 5, 1) := by decide +kernel
theorem dX7_steps_4 : decode cX7_steps 4 = .ok (.iload_n 1, 1) := by decide +kernel
theorem dX7_steps_5 : decode cX7_steps 5 = .ok (.imul, 1) := by decide +kernel
theorem dX7_steps_6 : decode cX7_steps 6 = .ok (.iadd, 1) := by decide +kernel
theorem dX7_steps_7 : decode cX7_steps 7 = .ok (.iconst 0, 1) := by decide +kernel
theorem dX7_steps_8 : decode cX7_steps 8 = .ok (.iadd, 1) := by decide +kernel
theorem dX7_steps_9 : decode cX7_steps 9 = .ok (.aload_n 0, 1) := by decide +kernel
theorem dX7_steps_10 : decode cX7_steps 10 = .ok (.aload_n 0, 1) := by decide +kernel
theorem dX7_steps_11 : decode cX7_steps 11 = .ok (.iload_n 1, 1) := by decide +kernel
theorem dX7_steps_12 : decode cX7_steps 12 = .ok (.iconst 0, 1) := by decide +kernel
theorem dX7_steps_13 : decode cX7_steps 13 = .ok (.invokestatic 72, 3) := by decide +kernel
theorem dX7_steps_16 : decode cX7_steps 16 = .ok (.aload_n 0, 1) := by decide +kernel
theorem dX7_steps_17 : decode cX7_steps 17 = .ok (.iload_n 1, 1) := by decide +kernel
theorem dX7_steps_18 : decode cX7_steps 18 = .ok (.iconst 1, 1) := by decide +kernel
theorem dX7_steps_19 : decode cX7_steps 19 = .ok (.invokestatic 72, 3) := by decide +kernel
theorem dX7_steps_22 : decode cX7_steps 22 = .ok (.aload_n 0, 1) := by decide +kernel
theorem dX7_steps_23 : decode cX7_steps 23 = .ok (.iload_n 1, 1) := by decide +kernel
theorem dX7_steps_24 : decode cX7_steps 24 = .ok (.iconst 2, 1) := by decide +kernel
theorem dX7_steps_25 : decode cX7_steps 25 = .ok (.invokestatic 72, 3) := by decide +kernel
theorem dX7_steps_28 : decode cX7_steps 28 = .ok (.invokestatic 49, 3) := by decide +kernel
theorem dX7_steps_31 : decode cX7_steps 31 = .ok (.iastore, 1) := by decide +kernel
theorem dX7_steps_32 : decode cX7_steps 32 = .ok (.aload_n 0, 1) := by decide +kernel
theorem dX7_steps_33 : decode cX7_steps 33 = .ok (.iload_n 1, 1) := by decide +kernel
theorem dX7_steps_34 : decode cX7_steps 34 = .ok (.invokestatic 75, 3) := by decide +kernel
theorem dX7_steps_37 : decode cX7_steps 37 = .ok (.return_, 1) := by decide +kernel
theorem dX7_isKnown_0 : decode cX7_isKnown 0 = .ok (.iconst 1, 1) := by decide +kernel
theorem dX7_isKnown_1 : decode cX7_isKnown 1 = .ok (.istore_n 3, 1) := by decide +kernel
theorem dX7_isKnown_2 : decode cX7_isKnown 2 = .ok (.aload_n 0, 1) := by decide +kernel
theorem dX7_isKnown_3 : decode cX7_isKnown 3 = .ok (.iload_n 2, 1) := by decide +kernel
theorem dX7_isKnown_4 : decode cX7_isKnown 4 = .ok (.aload_n 0, 1) := by decide +kernel
theorem dX7_isKnown_5 : decode cX7_isKnown 5 = .ok (.iload_n 1, 1) := by decide +kernel
theorem dX7_isKnown_6 : decode cX7_isKnown 6 = .ok (.iconst 1, 1) := by decide +kernel
theorem dX7_isKnown_7 : decode cX7_isKnown 7 = .ok (.invokestatic 72, 3) := by decide +kernel
theorem dX7_isKnown_10 : decode cX7_isKnown 10 = .ok (.invokestatic 57, 3) := by decide +kernel
theorem dX7_isKnown_13 : decode cX7_isKnown 13 = .ok (.iconst 1, 1) := by decide +kernel
theorem dX7_isKnown_14 : decode cX7_isKnown 14 = .ok (.iadd, 1) := by decide +kernel
theorem dX7_isKnown_15 : decode cX7_isKnown 15 = .ok (.istore 4, 2) := by decide +kernel
theorem dX7_isKnown_17 : decode cX7_isKnown 17 = .ok (.iconst 0, 1) := by decide +kernel
theorem dX7_isKnown_18 : decode cX7_isKnown 18 = .ok (.istore 5, 2) := by decide +kernel
theorem dX7_isKnown_20 : decode cX7_isKnown 20 = .ok (.iload 5, 2) := by decide +kernel
theorem dX7_isKnown_22 : decode cX7_isKnown 22 = .ok (.iload 4, 2) := by decide +kernel
theorem dX7_isKnown_24 : decode cX7_isKnown 24 = .ok (.if_icmp .gt 45, 3) := by decide +kernel
theorem dX7_isKnown_27 : decode cX7_isKnown 27 = .ok (.iload_n 3, 1) := by decide +kernel
theorem dX7_isKnown_28 : decode cX7_isKnown 28 = .ok (.ifCond .eq 33, 3) := by decide +kernel
theorem dX7_isKnown_31 : decode cX7_isKnown 31 = .ok (.aload_n 0, 1) := by decide +kernel
theorem dX7_isKnown_32 : decode cX7_isKnown 32 = .ok (.iload_n 1, 1) := by decide +kernel
theorem dX7_isKnown_33 : decode cX7_isKnown 33 = .ok (.iconst 4, 1) := by decide +kernel
theorem dX7_isKnown_34 : decode cX7_isKnown 34 = .ok (.invokestatic 72, 3) := by decide +kernel
theorem dX7_isKnown_37 : decode cX7_isKnown 37 = .ok (.aload_n 0, 1) := by decide +kernel
theorem dX7_isKnown_38 : decode cX7_isKnown 38 = .ok (.iload_n 2, 1) := by decide +kernel
theorem dX7_isKnown_39 : decode cX7_isKnown 39 = .ok (.aload_n 0, 1) := by decide +kernel
theorem dX7_isKnown_40 : decode cX7_isKnown 40 = .ok (.iload_n 1, 1) := by decide +kernel
theorem dX7_isKnown_41 : decode cX7_isKnown 41 = .ok (.iconst 1, 1) := by decide +kernel
theorem dX7_isKnown_42 : decode cX7_isKnown 42 = .ok (.invokestatic 72, 3) := by decide +kernel
theorem dX7_isKnown_45 : decode cX7_isKnown 45 = .ok (.iload 5, 2) := by decide +kernel
theorem dX7_isKnown_47 : decode cX7_isKnown 47 = .ok (.invokestatic 49, 3) := by decide +kernel
theorem dX7_isKnown_50 : decode cX7_isKnown 50 = .ok (.ishr, 1) := by decide +kernel
theorem dX7_isKnown_51 : decode cX7_isKnown 51 = .ok (.iconst 1, 1) := by decide +kernel
theorem dX7_isKnown_52 : decode cX7_isKnown 52 = .ok (.iand, 1) := by decide +kernel
theorem dX7_isKnown_53 : decode cX7_isKnown 53 = .ok (.iconst 1, 1) := by decide +kernel
theorem dX7_isKnown_54 : decode cX7_isKnown 54 = .ok (.if_icmp .ne 7, 3) := by decide +kernel
theorem dX7_isKnown_57 : decode cX7_isKnown 57 = .ok (.iconst 1, 1) := by decide +kernel
theorem dX7_isKnown_58 : decode cX7_isKnown 58 = .ok (.goto 4, 3) := by decide +kernel
theorem dX7_isKnown_61 : decode cX7_isKnown 61 = .ok (.iconst 0, 1) := by decide +kernel
theorem dX7_isKnown_62 : decode cX7_isKnown 62 = .ok (.istore_n 3, 1) := by decide +kernel
theorem dX7_isKnown_63 : decode cX7_isKnown 63 = .ok (.iinc 5 1, 3) := by decide +kernel
theorem dX7_isKnown_66 : decode cX7_isKnown 66 = .ok (.goto (-46), 3) := by decide +kernel
theorem dX7_isKnown_69 : decode cX7_isKnown 69 = .ok (.iload_n 3, 1) := by decide +kernel
theorem dX7_isKnown_70 : decode cX7_isKnown 70 = .ok (.ifCond .eq 13, 3) := by decide +kernel
theorem dX7_isKnown_73 : decode cX7_isKnown 73 = .ok (.iload 4, 2) := by decide +kernel
theorem dX7_isKnown_75 : decode cX7_isKnown 75 = .ok (.iconst 1, 1) := by decide +kernel
theorem dX7_isKnown_76 : decode cX7_isKnown 76 = .ok (.if_icmp .le 7, 3) := by decide +kernel
theorem dX7_isKnown_79 : decode cX7_isKnown 79 = .ok (.iconst 1, 1) := by decide +kernel
theorem dX7_isKnown_80 : decode cX7_isKnown 80 = .ok (.goto 4, 3) := by decide +kernel
theorem dX7_isKnown_83 : decode cX7_isKnown 83 = .ok (.iconst 0, 1) := by decide +kernel
theorem dX7_isKnown_84 : decode cX7_isKnown 84 = .ok (.ireturn, 1) := by decide +kernel
theorem dX7_known_0 : decode cX7_known 0 = .ok (.iconst 0, 1) := by decide +kernel
theorem dX7_known_1 : decode cX7_known 1 = .ok (.istore_n 3, 1) := by decide +kernel
theorem dX7_known_2 : decode cX7_known 2 = .ok (.iconst 0, 1) := by decide +kernel
theorem dX7_known_3 : decode cX7_known 3 = .ok (.istore 4, 2) := by decide +kernel
theorem dX7_known_5 : decode cX7_known 5 = .ok (.iload 4, 2) := by decide +kernel
theorem dX7_known_7 : decode cX7_known 7 = .ok (.aload_n 0, 1) := by decide +kernel
theorem dX7_known_8 : decode cX7_known 8 = .ok (.iconst 0, 1) := by decide +kernel
theorem dX7_known_9 : decode cX7_known 9 = .ok (.iaload, 1) := by decide +kernel
theorem dX7_known_10 : decode cX7_known 10 = .ok (.if_icmp .ge 55, 3) := by decide +kernel
theorem dX7_known_13 : decode cX7_known 13 = .ok (.iload_n 3, 1) := by decide +kernel
theorem dX7_known_14 : decode cX7_known 14 = .ok (.aload_n 0, 1) := by decide +kernel
theorem dX7_known_15 : decode cX7_known 15 = .ok (.iload 4, 2) := by decide +kernel
theorem dX7_known_17 : decode cX7_known 17 = .ok (.invokestatic 53, 3) := by decide +kernel
theorem dX7_known_20 : decode cX7_known 20 = .ok (.ifCond .eq 36, 3) := by decide +kernel
theorem dX7_known_23 : decode cX7_known 23 = .ok (.aload_n 0, 1) := by decide +kernel
theorem dX7_known_24 : decode cX7_known 24 = .ok (.iload_n 1, 1) := by decide +kernel
theorem dX7_known_25 : decode cX7_known 25 = .ok (.iload 4, 2) := by decide +kernel
theorem dX7_known_27 : decode cX7_known 27 = .ok (.invokestatic 79, 3) := by decide +kernel
theorem dX7_known_30 : decode cX7_known 30 = .ok (.ifCond .eq 26, 3) := by decide +kernel
theorem dX7_known_33 : decode cX7_known 33 = .ok (.iload_n 2, 1) := by decide +kernel
theorem dX7_known_34 : decode cX7_known 34 = .ok (.ifCond .eq 18, 3) := by decide +kernel
theorem dX7_known_37 : decode cX7_known 37 = .ok (.aload_n 0, 1) := by decide +kernel
theorem dX7_known_38 : decode cX7_known 38 = .ok (.iload 4, 2) := by decide +kernel
theorem dX7_known_40 : decode cX7_known 40 = .ok (.aload_n 0, 1) := by decide +kernel
theorem dX7_known_41 : decode cX7_known 41 = .ok (.iload_n 1, 1) := by decide +kernel
theorem dX7_known_42 : decode cX7_known 42 = .ok (.iconst 1, 1) := by decide +kernel
theorem dX7_known_43 : decode cX7_known 43 = .ok (.invokestatic 72, 3) := by decide +kernel
theorem dX7_known_46 : decode cX7_known 46 = .ok (.invokestatic 68, 3) := by decide +kernel
theorem dX7_known_49 : decode cX7_known 49 = .ok (.ifCond .le 7, 3) := by decide +kernel
theorem dX7_known_52 : decode cX7_known 52 = .ok (.iconst 1, 1) := by decide +kernel
theorem dX7_known_53 : decode cX7_known 53 = .ok (.goto 4, 3) := by decide +kernel
theorem dX7_known_56 : decode cX7_known 56 = .ok (.iconst 0, 1) := by decide +kernel
theorem dX7_known_57 : decode cX7_known 57 = .ok (.iadd, 1) := by decide +kernel
theorem dX7_known_58 : decode cX7_known 58 = .ok (.istore_n 3, 1) := by decide +kernel
theorem dX7_known_59 : decode cX7_known 59 = .ok (.iinc 4 1, 3) := by decide +kernel
theorem dX7_known_62 : decode cX7_known 62 = .ok (.goto (-57), 3) := by decide +kernel
theorem dX7_known_65 : decode cX7_known 65 = .ok (.iload_n 3, 1) := by decide +kernel
theorem dX7_known_66 : decode cX7_known 66 = .ok (.ireturn, 1) := by decide +kernel
theorem dX7_knownByAll_0 : decode cX7_knownByAll 0 = .ok (.iconst 0, 1) := by decide +kernel
theorem dX7_knownByAll_1 : decode cX7_knownByAll 1 = .ok (.istore_n 1, 1) := by decide +kernel
theorem dX7_knownByAll_2 : decode cX7_knownByAll 2 = .ok (.iconst 0, 1) := by decide +kernel
theorem dX7_knownByAll_3 : decode cX7_knownByAll 3 = .ok (.istore_n 2, 1) := by decide +kernel
theorem dX7_knownByAll_4 : decode cX7_knownByAll 4 = .ok (.iload_n 2, 1) := by decide +kernel
theorem dX7_knownByAll_5 : decode cX7_knownByAll 5 = .ok (.aload_n 0, 1) := by decide +kernel
theorem dX7_knownByAll_6 : decode cX7_knownByAll 6 = .ok (.bipush 96, 2) := by decide +kernel
theorem dX7_knownByAll_8 : decode cX7_knownByAll 8 = .ok (.iaload, 1) := by decide +kernel
theorem dX7_knownByAll_9 : decode cX7_knownByAll 9 = .ok (.if_icmp .ge 18, 3) := by decide +kernel
theorem dX7_knownByAll_12 : decode cX7_knownByAll 12 = .ok (.iload_n 1, 1) := by decide +kernel
theorem dX7_knownByAll_13 : decode cX7_knownByAll 13 = .ok (.aload_n 0, 1) := by decide +kernel
theorem dX7_knownByAll_14 : decode cX7_knownByAll 14 = .ok (.iload_n 2, 1) := by decide +kernel
theorem dX7_knownByAll_15 : decode cX7_knownByAll 15 = .ok (.iconst 0, 1) := by decide +kernel
theorem dX7_knownByAll_16 : decode cX7_knownByAll 16 = .ok (.invokestatic 83, 3) := by decide +kernel
theorem dX7_knownByAll_19 : decode cX7_knownByAll 19 = .ok (.iadd, 1) := by decide +kernel
theorem dX7_knownByAll_20 : decode cX7_knownByAll 20 = .ok (.istore_n 1, 1) := by decide +kernel
theorem dX7_knownByAll_21 : decode cX7_knownByAll 21 = .ok (.iinc 2 1, 3) := by decide +kernel
theorem dX7_knownByAll_24 : decode cX7_knownByAll 24 = .ok (.goto (-20), 3) := by decide +kernel
theorem dX7_knownByAll_27 : decode cX7_knownByAll 27 = .ok (.iload_n 1, 1) := by decide +kernel
theorem dX7_knownByAll_28 : decode cX7_knownByAll 28 = .ok (.ireturn, 1) := by decide +kernel
theorem dX7_goes_0 : decode cX7_goes 0 = .ok (.iconst 0, 1) := by decide +kernel
theorem dX7_goes_1 : decode cX7_goes 1 = .ok (.istore_n 2, 1) := by decide +kernel
theorem dX7_goes_2 : decode cX7_goes 2 = .ok (.iload_n 2, 1) := by decide +kernel
theorem dX7_goes_3 : decode cX7_goes 3 = .ok (.iload_n 1, 1) := by decide +kernel
theorem dX7_goes_4 : decode cX7_goes 4 = .ok (.if_icmp .ge 30, 3) := by decide +kernel
theorem dX7_goes_7 : decode cX7_goes 7 = .ok (.iconst 0, 1) := by decide +kernel
theorem dX7_goes_8 : decode cX7_goes 8 = .ok (.istore_n 3, 1) := by decide +kernel
theorem dX7_goes_9 : decode cX7_goes 9 = .ok (.iload_n 3, 1) := by decide +kernel
theorem dX7_goes_10 : decode cX7_goes 10 = .ok (.aload_n 0, 1) := by decide +kernel
theorem dX7_goes_11 : decode cX7_goes 11 = .ok (.bipush 96, 2) := by decide +kernel
theorem dX7_goes_13 : decode cX7_goes 13 = .ok (.iaload, 1) := by decide +kernel
theorem dX7_goes_14 : decode cX7_goes 14 = .ok (.if_icmp .ge 14, 3) := by decide +kernel
theorem dX7_goes_17 : decode cX7_goes 17 = .ok (.aload_n 0, 1) := by decide +kernel
theorem dX7_goes_18 : decode cX7_goes 18 = .ok (.iload_n 3, 1) := by decide +kernel
theorem dX7_goes_19 : decode cX7_goes 19 = .ok (.invokestatic 87, 3) := by decide +kernel
theorem dX7_goes_22 : decode cX7_goes 22 = .ok (.iinc 3 1, 3) := by decide +kernel
theorem dX7_goes_25 : decode cX7_goes 25 = .ok (.goto (-16), 3) := by decide +kernel
theorem dX7_goes_28 : decode cX7_goes 28 = .ok (.iinc 2 1, 3) := by decide +kernel
theorem dX7_goes_31 : decode cX7_goes 31 = .ok (.goto (-29), 3) := by decide +kernel
theorem dX7_goes_34 : decode cX7_goes 34 = .ok (.aload_n 0, 1) := by decide +kernel
theorem dX7_goes_35 : decode cX7_goes 35 = .ok (.bipush 117, 2) := by decide +kernel
theorem dX7_goes_37 : decode cX7_goes 37 = .ok (.dup2, 1) := by decide +kernel
theorem dX7_goes_38 : decode cX7_goes 38 = .ok (.iaload, 1) := by decide +kernel
theorem dX7_goes_39 : decode cX7_goes 39 = .ok (.iload_n 1, 1) := by decide +kernel
theorem dX7_goes_40 : decode cX7_goes 40 = .ok (.iadd, 1) := by decide +kernel
theorem dX7_goes_41 : decode cX7_goes 41 = .ok (.iastore, 1) := by decide +kernel
theorem dX7_goes_42 : decode cX7_goes 42 = .ok (.aload_n 0, 1) := by decide +kernel
theorem dX7_goes_43 : decode cX7_goes 43 = .ok (.invokestatic 90, 3) := by decide +kernel
theorem dX7_goes_46 : decode cX7_goes 46 = .ok (.ireturn, 1) := by decide +kernel
theorem dX7_sendsAway_0 : decode cX7_sendsAway 0 = .ok (.bipush 96, 2) := by decide +kernel
theorem dX7_sendsAway_2 : decode cX7_sendsAway 2 = .ok (.istore_n 1, 1) := by decide +kernel
theorem dX7_sendsAway_3 : decode cX7_sendsAway 3 = .ok (.iload_n 1, 1) := by decide +kernel
theorem dX7_sendsAway_4 : decode cX7_sendsAway 4 = .ok (.bipush 117, 2) := by decide +kernel
theorem dX7_sendsAway_6 : decode cX7_sendsAway 6 = .ok (.if_icmp .ge 13, 3) := by decide +kernel
theorem dX7_sendsAway_9 : decode cX7_sendsAway 9 = .ok (.aload_n 0, 1) := by decide +kernel
theorem dX7_sendsAway_10 : decode cX7_sendsAway 10 = .ok (.iload_n 1, 1) := by decide +kernel
theorem dX7_sendsAway_11 : decode cX7_sendsAway 11 = .ok (.iconst 0, 1) := by decide +kernel
theorem dX7_sendsAway_12 : decode cX7_sendsAway 12 = .ok (.iastore, 1) := by decide +kernel
theorem dX7_sendsAway_13 : decode cX7_sendsAway 13 = .ok (.iinc 1 1, 3) := by decide +kernel
theorem dX7_sendsAway_16 : decode cX7_sendsAway 16 = .ok (.goto (-13), 3) := by decide +kernel
theorem dX7_sendsAway_19 : decode cX7_sendsAway 19 = .ok (.return_, 1) := by decide +kernel
theorem dX7_canPlace_0 : decode cX7_canPlace 0 = .ok (.iload_n 1, 1) := by decide +kernel
theorem dX7_canPlace_1 : decode cX7_canPlace 1 = .ok (.iconst 0, 1) := by decide +kernel
theorem dX7_canPlace_2 : decode cX7_canPlace 2 = .ok (.aload_n 0, 1) := by decide +kernel
theorem dX7_canPlace_3 : decode cX7_canPlace 3 = .ok (.iconst 0, 1) := by decide +kernel
theorem dX7_canPlace_4 : decode cX7_canPlace 4 = .ok (.iaload, 1) := by decide +kernel
theorem dX7_canPlace_5 : decode cX7_canPlace 5 = .ok (.iconst 1, 1) := by decide +kernel
theorem dX7_canPlace_6 : decode cX7_canPlace 6 = .ok (.isub, 1) := by decide +kernel
theorem dX7_canPlace_7 : decode cX7_canPlace 7 = .ok (.invokestatic 45, 3) := by decide +kernel
theorem dX7_canPlace_10 : decode cX7_canPlace 10 = .ok (.ireturn, 1) := by decide +kernel
theorem dX7_isSign_0 : decode cX7_isSign 0 = .ok (.iload_n 0, 1) := by decide +kernel
theorem dX7_isSign_1 : decode cX7_isSign 1 = .ok (.iconst 0, 1) := by decide +kernel
theorem dX7_isSign_2 : decode cX7_isSign 2 = .ok (.bipush 8, 2) := by decide +kernel
theorem dX7_isSign_4 : decode cX7_isSign 4 = .ok (.invokestatic 45, 3) := by decide +kernel
theorem dX7_isSign_7 : decode cX7_isSign 7 = .ok (.ireturn, 1) := by decide +kernel
theorem dX7_carves_0 : decode cX7_carves 0 = .ok (.aload_n 0, 1) := by decide +kernel
theorem dX7_carves_1 : decode cX7_carves 1 = .ok (.iconst 1, 1) := by decide +kernel
theorem dX7_carves_2 : decode cX7_carves 2 = .ok (.iload_n 1, 1) := by decide +kernel
theorem dX7_carves_3 : decode cX7_carves 3 = .ok (.iadd, 1) := by decide +kernel
theorem dX7_carves_4 : decode cX7_carves 4 = .ok (.iaload, 1) := by decide +kernel
theorem dX7_carves_5 : decode cX7_carves 5 = .ok (.istore_n 3, 1) := by decide +kernel
theorem dX7_carves_6 : decode cX7_carves 6 = .ok (.aload_n 0, 1) := by decide +kernel
theorem dX7_carves_7 : decode cX7_carves 7 = .ok (.iconst 1, 1) := by decide +kernel
theorem dX7_carves_8 : decode cX7_carves 8 = .ok (.iload_n 1, 1) := by decide +kernel
theorem dX7_carves_9 : decode cX7_carves 9 = .ok (.iadd, 1) := by decide +kernel
theorem dX7_carves_10 : decode cX7_carves 10 = .ok (.iload_n 2, 1) := by decide +kernel
theorem dX7_carves_11 : decode cX7_carves 11 = .ok (.iastore, 1) := by decide +kernel
theorem dX7_carves_12 : decode cX7_carves 12 = .ok (.iload_n 3, 1) := by decide +kernel
theorem dX7_carves_13 : decode cX7_carves 13 = .ok (.ireturn, 1) := by decide +kernel
theorem dX7_worn_0 : decode cX7_worn 0 = .ok (.iconst 0, 1) := by decide +kernel
theorem dX7_worn_1 : decode cX7_worn 1 = .ok (.istore_n 1, 1) := by decide +kernel
theorem dX7_worn_2 : decode cX7_worn 2 = .ok (.iconst 0, 1) := by decide +kernel
theorem dX7_worn_3 : decode cX7_worn 3 = .ok (.istore_n 2, 1) := by decide +kernel
theorem dX7_worn_4 : decode cX7_worn 4 = .ok (.iload_n 2, 1) := by decide +kernel
theorem dX7_worn_5 : decode cX7_worn 5 = .ok (.aload_n 0, 1) := by decide +kernel
theorem dX7_worn_6 : decode cX7_worn 6 = .ok (.iconst 0, 1) := by decide +kernel
theorem dX7_worn_7 : decode cX7_worn 7 = .ok (.iaload, 1) := by decide +kernel
theorem dX7_worn_8 : decode cX7_worn 8 = .ok (.if_icmp .ge 27, 3) := by decide +kernel
theorem dX7_worn_11 : decode cX7_worn 11 = .ok (.iload_n 1, 1) := by decide +kernel
theorem dX7_worn_12 : decode cX7_worn 12 = .ok (.aload_n 0, 1) := by decide +kernel
theorem dX7_worn_13 : decode cX7_worn 13 = .ok (.iconst 1, 1) := by decide +kernel
theorem dX7_worn_14 : decode cX7_worn 14 = .ok (.iload_n 2, 1) := by decide +kernel
theorem dX7_worn_15 : decode cX7_worn 15 = .ok (.iadd, 1) := by decide +kernel
theorem dX7_worn_16 : decode cX7_worn 16 = .ok (.iaload, 1) := by decide +kernel
theorem dX7_worn_17 : decode cX7_worn 17 = .ok (.bipush 9, 2) := by decide +kernel
theorem dX7_worn_19 : decode cX7_worn 19 = .ok (.if_icmp .ne 7, 3) := by decide +kernel
theorem dX7_worn_22 : decode cX7_worn 22 = .ok (.iconst 1, 1) := by decide +kernel
theorem dX7_worn_23 : decode cX7_worn 23 = .ok (.goto 4, 3) := by decide +kernel
theorem dX7_worn_26 : decode cX7_worn 26 = .ok (.iconst 0, 1) := by decide +kernel
theorem dX7_worn_27 : decode cX7_worn 27 = .ok (.iadd, 1) := by decide +kernel
theorem dX7_worn_28 : decode cX7_worn 28 = .ok (.istore_n 1, 1) := by decide +kernel
theorem dX7_worn_29 : decode cX7_worn 29 = .ok (.iinc 2 1, 3) := by decide +kernel
theorem dX7_worn_32 : decode cX7_worn 32 = .ok (.goto (-28), 3) := by decide +kernel
theorem dX7_worn_35 : decode cX7_worn 35 = .ok (.iload_n 1, 1) := by decide +kernel
theorem dX7_worn_36 : decode cX7_worn 36 = .ok (.ireturn, 1) := by decide +kernel
theorem dX7_wears_0 : decode cX7_wears 0 = .ok (.aload_n 0, 1) := by decide +kernel
theorem dX7_wears_1 : decode cX7_wears 1 = .ok (.iconst 1, 1) := by decide +kernel
theorem dX7_wears_2 : decode cX7_wears 2 = .ok (.iload_n 1, 1) := by decide +kernel
theorem dX7_wears_3 : decode cX7_wears 3 = .ok (.iadd, 1) := by decide +kernel
theorem dX7_wears_4 : decode cX7_wears 4 = .ok (.aload_n 0, 1) := by decide +kernel
theorem dX7_wears_5 : decode cX7_wears 5 = .ok (.iconst 1, 1) := by decide +kernel
theorem dX7_wears_6 : decode cX7_wears 6 = .ok (.iload_n 1, 1) := by decide +kernel
theorem dX7_wears_7 : decode cX7_wears 7 = .ok (.iadd, 1) := by decide +kernel
theorem dX7_wears_8 : decode cX7_wears 8 = .ok (.iaload, 1) := by decide +kernel
theorem dX7_wears_9 : decode cX7_wears 9 = .ok (.ifCond .ne 7, 3) := by decide +kernel
theorem dX7_wears_12 : decode cX7_wears 12 = .ok (.iconst 0, 1) := by decide +kernel
theorem dX7_wears_13 : decode cX7_wears 13 = .ok (.goto 5, 3) := by decide +kernel
theorem dX7_wears_16 : decode cX7_wears 16 = .ok (.bipush 9, 2) := by decide +kernel
theorem dX7_wears_18 : decode cX7_wears 18 = .ok (.iastore, 1) := by decide +kernel
theorem dX7_wears_19 : decode cX7_wears 19 = .ok (.aload_n 0, 1) := by decide +kernel
theorem dX7_wears_20 : decode cX7_wears 20 = .ok (.invokestatic 94, 3) := by decide +kernel
theorem dX7_wears_23 : decode cX7_wears 23 = .ok (.ireturn, 1) := by decide +kernel
theorem dX7_inserts_0 : decode cX7_inserts 0 = .ok (.aload_n 0, 1) := by decide +kernel
theorem dX7_inserts_1 : decode cX7_inserts 1 = .ok (.iconst 0, 1) := by decide +kernel
theorem dX7_inserts_2 : decode cX7_inserts 2 = .ok (.iaload, 1) := by decide +kernel
theorem dX7_inserts_3 : decode cX7_inserts 3 = .ok (.istore_n 3, 1) := by decide +kernel
theorem dX7_inserts_4 : decode cX7_inserts 4 = .ok (.iload_n 3, 1) := by decide +kernel
theorem dX7_inserts_5 : decode cX7_inserts 5 = .ok (.iload_n 1, 1) := by decide +kernel
theorem dX7_inserts_6 : decode cX7_inserts 6 = .ok (.if_icmp .le 21, 3) := by decide +kernel
theorem dX7_inserts_9 : decode cX7_inserts 9 = .ok (.aload_n 0, 1) := by decide +kernel
theorem dX7_inserts_10 : decode cX7_inserts 10 = .ok (.iconst 1, 1) := by decide +kernel
theorem dX7_inserts_11 : decode cX7_inserts 11 = .ok (.iload_n 3, 1) := by decide +kernel
theorem dX7_inserts_12 : decode cX7_inserts 12 = .ok (.iadd, 1) := by decide +kernel
theorem dX7_inserts_13 : decode cX7_inserts 13 = .ok (.aload_n 0, 1) := by decide +kernel
theorem dX7_inserts_14 : decode cX7_inserts 14 = .ok (.iconst 1, 1) := by decide +kernel
theorem dX7_inserts_15 : decode cX7_inserts 15 = .ok (.iload_n 3, 1) := by decide +kernel
theorem dX7_inserts_16 : decode cX7_inserts 16 = .ok (.iadd, 1) := by decide +kernel
theorem dX7_inserts_17 : decode cX7_inserts 17 = .ok (.iconst 1, 1) := by decide +kernel
theorem dX7_inserts_18 : decode cX7_inserts 18 = .ok (.isub, 1) := by decide +kernel
theorem dX7_inserts_19 : decode cX7_inserts 19 = .ok (.iaload, 1) := by decide +kernel
theorem dX7_inserts_20 : decode cX7_inserts 20 = .ok (.iastore, 1) := by decide +kernel
theorem dX7_inserts_21 : decode cX7_inserts 21 = .ok (.iinc 3 (-1), 3) := by decide +kernel
theorem dX7_inserts_24 : decode cX7_inserts 24 = .ok (.goto (-20), 3) := by decide +kernel
theorem dX7_inserts_27 : decode cX7_inserts 27 = .ok (.aload_n 0, 1) := by decide +kernel
theorem dX7_inserts_28 : decode cX7_inserts 28 = .ok (.iconst 1, 1) := by decide +kernel
theorem dX7_inserts_29 : decode cX7_inserts 29 = .ok (.iload_n 1, 1) := by decide +kernel
theorem dX7_inserts_30 : decode cX7_inserts 30 = .ok (.iadd, 1) := by decide +kernel
theorem dX7_inserts_31 : decode cX7_inserts 31 = .ok (.iload_n 2, 1) := by decide +kernel
theorem dX7_inserts_32 : decode cX7_inserts 32 = .ok (.iastore, 1) := by decide +kernel
theorem dX7_inserts_33 : decode cX7_inserts 33 = .ok (.aload_n 0, 1) := by decide +kernel
theorem dX7_inserts_34 : decode cX7_inserts 34 = .ok (.iconst 0, 1) := by decide +kernel
theorem dX7_inserts_35 : decode cX7_inserts 35 = .ok (.dup2, 1) := by decide +kernel
theorem dX7_inserts_36 : decode cX7_inserts 36 = .ok (.iaload, 1) := by decide +kernel
theorem dX7_inserts_37 : decode cX7_inserts 37 = .ok (.iconst 1, 1) := by decide +kernel
theorem dX7_inserts_38 : decode cX7_inserts 38 = .ok (.iadd, 1) := by decide +kernel
theorem dX7_inserts_39 : decode cX7_inserts 39 = .ok (.iastore, 1) := by decide +kernel
theorem dX7_inserts_40 : decode cX7_inserts 40 = .ok (.aload_n 0, 1) := by decide +kernel
theorem dX7_inserts_41 : decode cX7_inserts 41 = .ok (.invokestatic 97, 3) := by decide +kernel
theorem dX7_inserts_44 : decode cX7_inserts 44 = .ok (.aload_n 0, 1) := by decide +kernel
theorem dX7_inserts_45 : decode cX7_inserts 45 = .ok (.iconst 0, 1) := by decide +kernel
theorem dX7_inserts_46 : decode cX7_inserts 46 = .ok (.iaload, 1) := by decide +kernel
theorem dX7_inserts_47 : decode cX7_inserts 47 = .ok (.ireturn, 1) := by decide +kernel
theorem dX7_erases_0 : decode cX7_erases 0 = .ok (.aload_n 0, 1) := by decide +kernel
theorem dX7_erases_1 : decode cX7_erases 1 = .ok (.iconst 0, 1) := by decide +kernel
theorem dX7_erases_2 : decode cX7_erases 2 = .ok (.dup2, 1) := by decide +kernel
theorem dX7_erases_3 : decode cX7_erases 3 = .ok (.iaload, 1) := by decide +kernel
theorem dX7_erases_4 : decode cX7_erases 4 = .ok (.iconst 1, 1) := by decide +kernel
theorem dX7_erases_5 : decode cX7_erases 5 = .ok (.isub, 1) := by decide +kernel
theorem dX7_erases_6 : decode cX7_erases 6 = .ok (.iastore, 1) := by decide +kernel
theorem dX7_erases_7 : decode cX7_erases 7 = .ok (.iload_n 1, 1) := by decide +kernel
theorem dX7_erases_8 : decode cX7_erases 8 = .ok (.istore_n 2, 1) := by decide +kernel
theorem dX7_erases_9 : decode cX7_erases 9 = .ok (.iload_n 2, 1) := by decide +kernel
theorem dX7_erases_10 : decode cX7_erases 10 = .ok (.aload_n 0, 1) := by decide +kernel
theorem dX7_erases_11 : decode cX7_erases 11 = .ok (.iconst 0, 1) := by decide +kernel
theorem dX7_erases_12 : decode cX7_erases 12 = .ok (.iaload, 1) := by decide +kernel
theorem dX7_erases_13 : decode cX7_erases 13 = .ok (.if_icmp .ge 21, 3) := by decide +kernel
theorem dX7_erases_16 : decode cX7_erases 16 = .ok (.aload_n 0, 1) := by decide +kernel
theorem dX7_erases_17 : decode cX7_erases 17 = .ok (.iconst 1, 1) := by decide +kernel
theorem dX7_erases_18 : decode cX7_erases 18 = .ok (.iload_n 2, 1) := by decide +kernel
theorem dX7_erases_19 : decode cX7_erases 19 = .ok (.iadd, 1) := by decide +kernel
theorem dX7_erases_20 : decode cX7_erases 20 = .ok (.aload_n 0, 1) := by decide +kernel
theorem dX7_erases_21 : decode cX7_erases 21 = .ok (.iconst 1, 1) := by decide +kernel
theorem dX7_erases_22 : decode cX7_erases 22 = .ok (.iload_n 2, 1) := by decide +kernel
theorem dX7_erases_23 : decode cX7_erases 23 = .ok (.iadd, 1) := by decide +kernel
theorem dX7_erases_24 : decode cX7_erases 24 = .ok (.iconst 1, 1) := by decide +kernel
theorem dX7_erases_25 : decode cX7_erases 25 = .ok (.iadd, 1) := by decide +kernel
theorem dX7_erases_26 : decode cX7_erases 26 = .ok (.iaload, 1) := by decide +kernel
theorem dX7_erases_27 : decode cX7_erases 27 = .ok (.iastore, 1) := by decide +kernel
theorem dX7_erases_28 : decode cX7_erases 28 = .ok (.iinc 2 1, 3) := by decide +kernel
theorem dX7_erases_31 : decode cX7_erases 31 = .ok (.goto (-22), 3) := by decide +kernel
theorem dX7_erases_34 : decode cX7_erases 34 = .ok (.aload_n 0, 1) := by decide +kernel
theorem dX7_erases_35 : decode cX7_erases 35 = .ok (.iconst 1, 1) := by decide +kernel
theorem dX7_erases_36 : decode cX7_erases 36 = .ok (.aload_n 0, 1) := by decide +kernel
theorem dX7_erases_37 : decode cX7_erases 37 = .ok (.iconst 0, 1) := by decide +kernel
theorem dX7_erases_38 : decode cX7_erases 38 = .ok (.iaload, 1) := by decide +kernel
theorem dX7_erases_39 : decode cX7_erases 39 = .ok (.iadd, 1) := by decide +kernel
theorem dX7_erases_40 : decode cX7_erases 40 = .ok (.iconst 0, 1) := by decide +kernel
theorem dX7_erases_41 : decode cX7_erases 41 = .ok (.iastore, 1) := by decide +kernel
theorem dX7_erases_42 : decode cX7_erases 42 = .ok (.aload_n 0, 1) := by decide +kernel
theorem dX7_erases_43 : decode cX7_erases 43 = .ok (.invokestatic 97, 3) := by decide +kernel
theorem dX7_erases_46 : decode cX7_erases 46 = .ok (.aload_n 0, 1) := by decide +kernel
theorem dX7_erases_47 : decode cX7_erases 47 = .ok (.iconst 0, 1) := by decide +kernel
theorem dX7_erases_48 : decode cX7_erases 48 = .ok (.iaload, 1) := by decide +kernel
theorem dX7_erases_49 : decode cX7_erases 49 = .ok (.ireturn, 1) := by decide +kernel
theorem dX7_comes_0 : decode cX7_comes 0 = .ok (.aload_n 0, 1) := by decide +kernel
theorem dX7_comes_1 : decode cX7_comes 1 = .ok (.bipush 96, 2) := by decide +kernel
theorem dX7_comes_3 : decode cX7_comes 3 = .ok (.iaload, 1) := by decide +kernel
theorem dX7_comes_4 : decode cX7_comes 4 = .ok (.istore 5, 2) := by decide +kernel
theorem dX7_comes_6 : decode cX7_comes 6 = .ok (.bipush 97, 2) := by decide +kernel
theorem dX7_comes_8 : decode cX7_comes 8 = .ok (.iconst 5, 1) := by decide +kernel
theorem dX7_comes_9 : decode cX7_comes 9 = .ok (.iload 5, 2) := by decide +kernel
theorem dX7_comes_11 : decode cX7_comes 11 = .ok (.imul, 1) := by decide +kernel
theorem dX7_comes_12 : decode cX7_comes 12 = .ok (.iadd, 1) := by decide +kernel
theorem dX7_comes_13 : decode cX7_comes 13 = .ok (.istore 6, 2) := by decide +kernel
theorem dX7_comes_15 : decode cX7_comes 15 = .ok (.aload_n 0, 1) := by decide +kernel
theorem dX7_comes_16 : decode cX7_comes 16 = .ok (.iload 6, 2) := by decide +kernel
theorem dX7_comes_18 : decode cX7_comes 18 = .ok (.iconst 0, 1) := by decide +kernel
theorem dX7_comes_19 : decode cX7_comes 19 = .ok (.iadd, 1) := by decide +kernel
theorem dX7_comes_20 : decode cX7_comes 20 = .ok (.iload_n 1, 1) := by decide +kernel
theorem dX7_comes_21 : decode cX7_comes 21 = .ok (.iastore, 1) := by decide +kernel
theorem dX7_comes_22 : decode cX7_comes 22 = .ok (.aload_n 0, 1) := by decide +kernel
theorem dX7_comes_23 : decode cX7_comes 23 = .ok (.iload 6, 2) := by decide +kernel
theorem dX7_comes_25 : decode cX7_comes 25 = .ok (.iconst 1, 1) := by decide +kernel
theorem dX7_comes_26 : decode cX7_comes 26 = .ok (.iadd, 1) := by decide +kernel
theorem dX7_comes_27 : decode cX7_comes 27 = .ok (.iload_n 2, 1) := by decide +kernel
theorem dX7_comes_28 : decode cX7_comes 28 = .ok (.iastore, 1) := by decide +kernel
theorem dX7_comes_29 : decode cX7_comes 29 = .ok (.aload_n 0, 1) := by decide +kernel
theorem dX7_comes_30 : decode cX7_comes 30 = .ok (.iload 6, 2) := by decide +kernel
theorem dX7_comes_32 : decode cX7_comes 32 = .ok (.iconst 2, 1) := by decide +kernel
theorem dX7_comes_33 : decode cX7_comes 33 = .ok (.iadd, 1) := by decide +kernel
theorem dX7_comes_34 : decode cX7_comes 34 = .ok (.iload_n 3, 1) := by decide +kernel
theorem dX7_comes_35 : decode cX7_comes 35 = .ok (.iastore, 1) := by decide +kernel
theorem dX7_comes_36 : decode cX7_comes 36 = .ok (.aload_n 0, 1) := by decide +kernel
theorem dX7_comes_37 : decode cX7_comes 37 = .ok (.iload 6, 2) := by decide +kernel
theorem dX7_comes_39 : decode cX7_comes 39 = .ok (.iconst 3, 1) := by decide +kernel
theorem dX7_comes_40 : decode cX7_comes 40 = .ok (.iadd, 1) := by decide +kernel
theorem dX7_comes_41 : decode cX7_comes 41 = .ok (.iload 4, 2) := by decide +kernel
theorem dX7_comes_43 : decode cX7_comes 43 = .ok (.iastore, 1) := by decide +kernel
theorem dX7_comes_44 : decode cX7_comes 44 = .ok (.aload_n 0, 1) := by decide +kernel
theorem dX7_comes_45 : decode cX7_comes 45 = .ok (.iload 6, 2) := by decide +kernel
theorem dX7_comes_47 : decode cX7_comes 47 = .ok (.iconst 4, 1) := by decide +kernel
theorem dX7_comes_48 : decode cX7_comes 48 = .ok (.iadd, 1) := by decide +kernel
theorem dX7_comes_49 : decode cX7_comes 49 = .ok (.iconst 0, 1) := by decide +kernel
theorem dX7_comes_50 : decode cX7_comes 50 = .ok (.iastore, 1) := by decide +kernel
theorem dX7_comes_51 : decode cX7_comes 51 = .ok (.aload_n 0, 1) := by decide +kernel
theorem dX7_comes_52 : decode cX7_comes 52 = .ok (.bipush 96, 2) := by decide +kernel
theorem dX7_comes_54 : decode cX7_comes 54 = .ok (.dup2, 1) := by decide +kernel
theorem dX7_comes_55 : decode cX7_comes 55 = .ok (.iaload, 1) := by decide +kernel
theorem dX7_comes_56 : decode cX7_comes 56 = .ok (.iconst 1, 1) := by decide +kernel
theorem dX7_comes_57 : decode cX7_comes 57 = .ok (.iadd, 1) := by decide +kernel
theorem dX7_comes_58 : decode cX7_comes 58 = .ok (.iastore, 1) := by decide +kernel
theorem dX7_comes_59 : decode cX7_comes 59 = .ok (.aload_n 0, 1) := by decide +kernel
theorem dX7_comes_60 : decode cX7_comes 60 = .ok (.iload 5, 2) := by decide +kernel
theorem dX7_comes_62 : decode cX7_comes 62 = .ok (.invokestatic 75, 3) := by decide +kernel
theorem dX7_comes_65 : decode cX7_comes 65 = .ok (.iload 5, 2) := by decide +kernel
theorem dX7_comes_67 : decode cX7_comes 67 = .ok (.ireturn, 1) := by decide +kernel
theorem dX7_turns_0 : decode cX7_turns 0 = .ok (.aload_n 0, 1) := by decide +kernel
theorem dX7_turns_1 : decode cX7_turns 1 = .ok (.bipush 97, 2) := by decide +kernel
theorem dX7_turns_3 : decode cX7_turns 3 = .ok (.iconst 5, 1) := by decide +kernel
theorem dX7_turns_4 : decode cX7_turns 4 = .ok (.iload_n 1, 1) := by decide +kernel
theorem dX7_turns_5 : decode cX7_turns 5 = .ok (.imul, 1) := by decide +kernel
theorem dX7_turns_6 : decode cX7_turns 6 = .ok (.iadd, 1) := by decide +kernel
theorem dX7_turns_7 : decode cX7_turns 7 = .ok (.iconst 1, 1) := by decide +kernel
theorem dX7_turns_8 : decode cX7_turns 8 = .ok (.iadd, 1) := by decide +kernel
theorem dX7_turns_9 : decode cX7_turns 9 = .ok (.dup2, 1) := by decide +kernel
theorem dX7_turns_10 : decode cX7_turns 10 = .ok (.iaload, 1) := by decide +kernel
theorem dX7_turns_11 : decode cX7_turns 11 = .ok (.iconst 1, 1) := by decide +kernel
theorem dX7_turns_12 : decode cX7_turns 12 = .ok (.ixor, 1) := by decide +kernel
theorem dX7_turns_13 : decode cX7_turns 13 = .ok (.iastore, 1) := by decide +kernel
theorem dX7_turns_14 : decode cX7_turns 14 = .ok (.aload_n 0, 1) := by decide +kernel
theorem dX7_turns_15 : decode cX7_turns 15 = .ok (.iload_n 1, 1) := by decide +kernel
theorem dX7_turns_16 : decode cX7_turns 16 = .ok (.invokestatic 75, 3) := by decide +kernel
theorem dX7_turns_19 : decode cX7_turns 19 = .ok (.aload_n 0, 1) := by decide +kernel
theorem dX7_turns_20 : decode cX7_turns 20 = .ok (.iload_n 1, 1) := by decide +kernel
theorem dX7_turns_21 : decode cX7_turns 21 = .ok (.iconst 4, 1) := by decide +kernel
theorem dX7_turns_22 : decode cX7_turns 22 = .ok (.invokestatic 72, 3) := by decide +kernel
theorem dX7_turns_25 : decode cX7_turns 25 = .ok (.invokestatic 101, 3) := by decide +kernel
theorem dX7_turns_28 : decode cX7_turns 28 = .ok (.ireturn, 1) := by decide +kernel
theorem dX7_append_0 : decode cX7_append 0 = .ok (.aload_n 0, 1) := by decide +kernel
theorem dX7_append_1 : decode cX7_append 1 = .ok (.iload_n 1, 1) := by decide +kernel
theorem dX7_append_2 : decode cX7_append 2 = .ok (.iconst 0, 1) := by decide +kernel
theorem dX7_append_3 : decode cX7_append 3 = .ok (.sipush 255, 3) := by decide +kernel
theorem dX7_append_6 : decode cX7_append 6 = .ok (.invokestatic 45, 3) := by decide +kernel
theorem dX7_append_9 : decode cX7_append 9 = .ok (.ifCond .ne 7, 3) := by decide +kernel
theorem dX7_append_12 : decode cX7_append 12 = .ok (.iconst 1, 1) := by decide +kernel
theorem dX7_append_13 : decode cX7_append 13 = .ok (.goto 17, 3) := by decide +kernel
theorem dX7_append_16 : decode cX7_append 16 = .ok (.aload_n 0, 1) := by decide +kernel
theorem dX7_append_17 : decode cX7_append 17 = .ok (.getfield 105, 3) := by decide +kernel
theorem dX7_append_20 : decode cX7_append 20 = .ok (.bipush 40, 2) := by decide +kernel
theorem dX7_append_22 : decode cX7_append 22 = .ok (.if_icmp .ne 7, 3) := by decide +kernel
theorem dX7_append_25 : decode cX7_append 25 = .ok (.iconst 2, 1) := by decide +kernel
theorem dX7_append_26 : decode cX7_append 26 = .ok (.goto 4, 3) := by decide +kernel
theorem dX7_append_29 : decode cX7_append 29 = .ok (.iconst 0, 1) := by decide +kernel
theorem dX7_append_30 : decode cX7_append 30 = .ok (.invokevirtual 41, 3) := by decide +kernel
theorem dX7_append_33 : decode cX7_append 33 = .ok (.ifCond .eq 5, 3) := by decide +kernel
theorem dX7_append_36 : decode cX7_append 36 = .ok (.iconst 0, 1) := by decide +kernel
theorem dX7_append_37 : decode cX7_append 37 = .ok (.ireturn, 1) := by decide +kernel
theorem dX7_append_38 : decode cX7_append 38 = .ok (.aload_n 0, 1) := by decide +kernel
theorem dX7_append_39 : decode cX7_append 39 = .ok (.getfield 26, 3) := by decide +kernel
theorem dX7_append_42 : decode cX7_append 42 = .ok (.aload_n 0, 1) := by decide +kernel
theorem dX7_append_43 : decode cX7_append 43 = .ok (.getfield 105, 3) := by decide +kernel
theorem dX7_append_46 : decode cX7_append 46 = .ok (.iload_n 1, 1) := by decide +kernel
theorem dX7_append_47 : decode cX7_append 47 = .ok (.i2c, 1) := by decide +kernel
theorem dX7_append_48 : decode cX7_append 48 = .ok (.castore, 1) := by decide +kernel
theorem dX7_append_49 : decode cX7_append 49 = .ok (.aload_n 0, 1) := by decide +kernel
theorem dX7_append_50 : decode cX7_append 50 = .ok (.dup, 1) := by decide +kernel
theorem dX7_append_51 : decode cX7_append 51 = .ok (.getfield 105, 3) := by decide +kernel
theorem dX7_append_54 : decode cX7_append 54 = .ok (.iconst 1, 1) := by decide +kernel
theorem dX7_append_55 : decode cX7_append 55 = .ok (.iadd, 1) := by decide +kernel
theorem dX7_append_56 : decode cX7_append 56 = .ok (.putfield 105, 3) := by decide +kernel
theorem dX7_append_59 : decode cX7_append 59 = .ok (.aload_n 0, 1) := by decide +kernel
theorem dX7_append_60 : decode cX7_append 60 = .ok (.getfield 105, 3) := by decide +kernel
theorem dX7_append_63 : decode cX7_append 63 = .ok (.ireturn, 1) := by decide +kernel
theorem dX7_clearText_0 : decode cX7_clearText 0 = .ok (.aload_n 0, 1) := by decide +kernel
theorem dX7_clearText_1 : decode cX7_clearText 1 = .ok (.iconst 0, 1) := by decide +kernel
theorem dX7_clearText_2 : decode cX7_clearText 2 = .ok (.putfield 30, 3) := by decide +kernel
theorem dX7_clearText_5 : decode cX7_clearText 5 = .ok (.aload_n 0, 1) := by decide +kernel
theorem dX7_clearText_6 : decode cX7_clearText 6 = .ok (.getfield 105, 3) := by decide +kernel
theorem dX7_clearText_9 : decode cX7_clearText 9 = .ok (.istore_n 1, 1) := by decide +kernel
theorem dX7_clearText_10 : decode cX7_clearText 10 = .ok (.aload_n 0, 1) := by decide +kernel
theorem dX7_clearText_11 : decode cX7_clearText 11 = .ok (.iconst 0, 1) := by decide +kernel
theorem dX7_clearText_12 : decode cX7_clearText 12 = .ok (.putfield 105, 3) := by decide +kernel
theorem dX7_clearText_15 : decode cX7_clearText 15 = .ok (.iload_n 1, 1) := by decide +kernel
theorem dX7_clearText_16 : decode cX7_clearText 16 = .ok (.ireturn, 1) := by decide +kernel
theorem dX7_error_0 : decode cX7_error 0 = .ok (.iconst 0, 1) := by decide +kernel
theorem dX7_error_1 : decode cX7_error 1 = .ok (.istore_n 2, 1) := by decide +kernel
theorem dX7_error_2 : decode cX7_error 2 = .ok (.iload_n 1, 1) := by decide +kernel
theorem dX7_error_3 : decode cX7_error 3 = .ok (.ifCond .eq 8, 3) := by decide +kernel
theorem dX7_error_6 : decode cX7_error 6 = .ok (.bipush 6, 2) := by decide +kernel
theorem dX7_error_8 : decode cX7_error 8 = .ok (.goto 5, 3) := by decide +kernel
theorem dX7_error_11 : decode cX7_error 11 = .ok (.bipush 24, 2) := by decide +kernel
theorem dX7_error_13 : decode cX7_error 13 = .ok (.istore_n 3, 1) := by decide +kernel
theorem dX7_error_14 : decode cX7_error 14 = .ok (.iload_n 2, 1) := by decide +kernel
theorem dX7_error_15 : decode cX7_error 15 = .ok (.aload_n 0, 1) := by decide +kernel
theorem dX7_error_16 : decode cX7_error 16 = .ok (.getfield 105, 3) := by decide +kernel
theorem dX7_error_19 : decode cX7_error 19 = .ok (.if_icmp .ge 56, 3) := by decide +kernel
theorem dX7_error_22 : decode cX7_error 22 = .ok (.iload_n 2, 1) := by decide +kernel
theorem dX7_error_23 : decode cX7_error 23 = .ok (.iload_n 3, 1) := by decide +kernel
theorem dX7_error_24 : decode cX7_error 24 = .ok (.if_icmp .ge 51, 3) := by decide +kernel
theorem dX7_error_27 : decode cX7_error 27 = .ok (.aload_n 0, 1) := by decide +kernel
theorem dX7_error_28 : decode cX7_error 28 = .ok (.getfield 26, 3) := by decide +kernel
theorem dX7_error_31 : decode cX7_error 31 = .ok (.iload_n 2, 1) := by decide +kernel
theorem dX7_error_32 : decode cX7_error 32 = .ok (.caload, 1) := by decide +kernel
theorem dX7_error_33 : decode cX7_error 33 = .ok (.bipush 97, 2) := by decide +kernel
theorem dX7_error_35 : decode cX7_error 35 = .ok (.bipush 104, 2) := by decide +kernel
theorem dX7_error_37 : decode cX7_error 37 = .ok (.invokestatic 45, 3) := by decide +kernel
theorem dX7_error_40 : decode cX7_error 40 = .ok (.ifCond .ne 29, 3) := by decide +kernel
theorem dX7_error_43 : decode cX7_error 43 = .ok (.iload_n 1, 1) := by decide +kernel
theorem dX7_error_44 : decode cX7_error 44 = .ok (.ifCond .ne 31, 3) := by decide +kernel
theorem dX7_error_47 : decode cX7_error 47 = .ok (.aload_n 0, 1) := by decide +kernel
theorem dX7_error_48 : decode cX7_error 48 = .ok (.getfield 26, 3) := by decide +kernel
theorem dX7_error_51 : decode cX7_error 51 = .ok (.iload_n 2, 1) := by decide +kernel
theorem dX7_error_52 : decode cX7_error 52 = .ok (.caload, 1) := by decide +kernel
theorem dX7_error_53 : decode cX7_error 53 = .ok (.bipush 46, 2) := by decide +kernel
theorem dX7_error_55 : decode cX7_error 55 = .ok (.if_icmp .eq 14, 3) := by decide +kernel
theorem dX7_error_58 : decode cX7_error 58 = .ok (.aload_n 0, 1) := by decide +kernel
theorem dX7_error_59 : decode cX7_error 59 = .ok (.getfield 26, 3) := by decide +kernel
theorem dX7_error_62 : decode cX7_error 62 = .ok (.iload_n 2, 1) := by decide +kernel
theorem dX7_error_63 : decode cX7_error 63 = .ok (.caload, 1) := by decide +kernel
theorem dX7_error_64 : decode cX7_error 64 = .ok (.bipush 63, 2) := by decide +kernel
theorem dX7_error_66 : decode cX7_error 66 = .ok (.if_icmp .ne 9, 3) := by decide +kernel
theorem dX7_error_69 : decode cX7_error 69 = .ok (.iinc 2 1, 3) := by decide +kernel
theorem dX7_error_72 : decode cX7_error 72 = .ok (.goto (-58), 3) := by decide +kernel
theorem dX7_error_75 : decode cX7_error 75 = .ok (.iload_n 2, 1) := by decide +kernel
theorem dX7_error_76 : decode cX7_error 76 = .ok (.aload_n 0, 1) := by decide +kernel
theorem dX7_error_77 : decode cX7_error 77 = .ok (.getfield 105, 3) := by decide +kernel
theorem dX7_error_80 : decode cX7_error 80 = .ok (.if_icmp .ne 14, 3) := by decide +kernel
theorem dX7_error_83 : decode cX7_error 83 = .ok (.aload_n 0, 1) := by decide +kernel
theorem dX7_error_84 : decode cX7_error 84 = .ok (.getfield 105, 3) := by decide +kernel
theorem dX7_error_87 : decode cX7_error 87 = .ok (.ifCond .le 7, 3) := by decide +kernel
theorem dX7_error_90 : decode cX7_error 90 = .ok (.iconst (-1), 1) := by decide +kernel
theorem dX7_error_91 : decode cX7_error 91 = .ok (.goto 4, 3) := by decide +kernel
theorem dX7_error_94 : decode cX7_error 94 = .ok (.iload_n 2, 1) := by decide +kernel
theorem dX7_error_95 : decode cX7_error 95 = .ok (.ireturn, 1) := by decide +kernel
theorem dX7_errorPosition_0 : decode cX7_errorPosition 0 = .ok (.aload_n 0, 1) := by decide +kernel
theorem dX7_errorPosition_1 : decode cX7_errorPosition 1 = .ok (.iconst 0, 1) := by decide +kernel
theorem dX7_errorPosition_2 : decode cX7_errorPosition 2 = .ok (.putfield 30, 3) := by decide +kernel
theorem dX7_errorPosition_5 : decode cX7_errorPosition 5 = .ok (.aload_n 0, 1) := by decide +kernel
theorem dX7_errorPosition_6 : decode cX7_errorPosition 6 = .ok (.iload_n 1, 1) := by decide +kernel
theorem dX7_errorPosition_7 : decode cX7_errorPosition 7 = .ok (.invokevirtual 108, 3) := by decide +kernel
theorem dX7_errorPosition_10 : decode cX7_errorPosition 10 = .ok (.ireturn, 1) := by decide +kernel
theorem dX7_signOf_0 : decode cX7_signOf 0 = .ok (.aload_n 0, 1) := by decide +kernel
theorem dX7_signOf_1 : decode cX7_signOf 1 = .ok (.getfield 26, 3) := by decide +kernel
theorem dX7_signOf_4 : decode cX7_signOf 4 = .ok (.iload_n 1, 1) := by decide +kernel
theorem dX7_signOf_5 : decode cX7_signOf 5 = .ok (.caload, 1) := by decide +kernel
theorem dX7_signOf_6 : decode cX7_signOf 6 = .ok (.bipush 46, 2) := by decide +kernel
theorem dX7_signOf_8 : decode cX7_signOf 8 = .ok (.if_icmp .ne 7, 3) := by decide +kernel
theorem dX7_signOf_11 : decode cX7_signOf 11 = .ok (.iconst 0, 1) := by decide +kernel
theorem dX7_signOf_12 : decode cX7_signOf 12 = .ok (.goto 30, 3) := by decide +kernel
theorem dX7_signOf_15 : decode cX7_signOf 15 = .ok (.aload_n 0, 1) := by decide +kernel
theorem dX7_signOf_16 : decode cX7_signOf 16 = .ok (.getfield 26, 3) := by decide +kernel
theorem dX7_signOf_19 : decode cX7_signOf 19 = .ok (.iload_n 1, 1) := by decide +kernel
theorem dX7_signOf_20 : decode cX7_signOf 20 = .ok (.caload, 1) := by decide +kernel
theorem dX7_signOf_21 : decode cX7_signOf 21 = .ok (.bipush 63, 2) := by decide +kernel
theorem dX7_signOf_23 : decode cX7_signOf 23 = .ok (.if_icmp .ne 8, 3) := by decide +kernel
theorem dX7_signOf_26 : decode cX7_signOf 26 = .ok (.bipush 9, 2) := by decide +kernel
theorem dX7_signOf_28 : decode cX7_signOf 28 = .ok (.goto 14, 3) := by decide +kernel
theorem dX7_signOf_31 : decode cX7_signOf 31 = .ok (.aload_n 0, 1) := by decide +kernel
theorem dX7_signOf_32 : decode cX7_signOf 32 = .ok (.getfield 26, 3) := by decide +kernel
theorem dX7_signOf_35 : decode cX7_signOf 35 = .ok (.iload_n 1, 1) := by decide +kernel
theorem dX7_signOf_36 : decode cX7_signOf 36 = .ok (.caload, 1) := by decide +kernel
theorem dX7_signOf_37 : decode cX7_signOf 37 = .ok (.bipush 97, 2) := by decide +kernel
theorem dX7_signOf_39 : decode cX7_signOf 39 = .ok (.isub, 1) := by decide +kernel
theorem dX7_signOf_40 : decode cX7_signOf 40 = .ok (.iconst 1, 1) := by decide +kernel
theorem dX7_signOf_41 : decode cX7_signOf 41 = .ok (.iadd, 1) := by decide +kernel
theorem dX7_signOf_42 : decode cX7_signOf 42 = .ok (.ireturn, 1) := by decide +kernel
theorem dX7_codeOf_0 : decode cX7_codeOf 0 = .ok (.iload_n 0, 1) := by decide +kernel
theorem dX7_codeOf_1 : decode cX7_codeOf 1 = .ok (.ifCond .ne 8, 3) := by decide +kernel
theorem dX7_codeOf_4 : decode cX7_codeOf 4 = .ok (.bipush 46, 2) := by decide +kernel
theorem dX7_codeOf_6 : decode cX7_codeOf 6 = .ok (.goto 20, 3) := by decide +kernel
theorem dX7_codeOf_9 : decode cX7_codeOf 9 = .ok (.iload_n 0, 1) := by decide +kernel
theorem dX7_codeOf_10 : decode cX7_codeOf 10 = .ok (.bipush 9, 2) := by decide +kernel
theorem dX7_codeOf_12 : decode cX7_codeOf 12 = .ok (.if_icmp .ne 8, 3) := by decide +kernel
theorem dX7_codeOf_15 : decode cX7_codeOf 15 = .ok (.bipush 63, 2) := by decide +kernel
theorem dX7_codeOf_17 : decode cX7_codeOf 17 = .ok (.goto 9, 3) := by decide +kernel
theorem dX7_codeOf_20 : decode cX7_codeOf 20 = .ok (.bipush 97, 2) := by decide +kernel
theorem dX7_codeOf_22 : decode cX7_codeOf 22 = .ok (.iload_n 0, 1) := by decide +kernel
theorem dX7_codeOf_23 : decode cX7_codeOf 23 = .ok (.iadd, 1) := by decide +kernel
theorem dX7_codeOf_24 : decode cX7_codeOf 24 = .ok (.iconst 1, 1) := by decide +kernel
theorem dX7_codeOf_25 : decode cX7_codeOf 25 = .ok (.isub, 1) := by decide +kernel
theorem dX7_codeOf_26 : decode cX7_codeOf 26 = .ok (.ireturn, 1) := by decide +kernel
theorem dX7_rankAt_0 : decode cX7_rankAt 0 = .ok (.aload_n 0, 1) := by decide +kernel
theorem dX7_rankAt_1 : decode cX7_rankAt 1 = .ok (.getfield 7, 3) := by decide +kernel
theorem dX7_rankAt_4 : decode cX7_rankAt 4 = .ok (.iconst 1, 1) := by decide +kernel
theorem dX7_rankAt_5 : decode cX7_rankAt 5 = .ok (.iload_n 1, 1) := by decide +kernel
theorem dX7_rankAt_6 : decode cX7_rankAt 6 = .ok (.iadd, 1) := by decide +kernel
theorem dX7_rankAt_7 : decode cX7_rankAt 7 = .ok (.iaload, 1) := by decide +kernel
theorem dX7_rankAt_8 : decode cX7_rankAt 8 = .ok (.istore_n 2, 1) := by decide +kernel
theorem dX7_rankAt_9 : decode cX7_rankAt 9 = .ok (.iload_n 2, 1) := by decide +kernel
theorem dX7_rankAt_10 : decode cX7_rankAt 10 = .ok (.ifCond .ne 7, 3) := by decide +kernel
theorem dX7_rankAt_13 : decode cX7_rankAt 13 = .ok (.iconst 0, 1) := by decide +kernel
theorem dX7_rankAt_14 : decode cX7_rankAt 14 = .ok (.goto 16, 3) := by decide +kernel
theorem dX7_rankAt_17 : decode cX7_rankAt 17 = .ok (.iload_n 2, 1) := by decide +kernel
theorem dX7_rankAt_18 : decode cX7_rankAt 18 = .ok (.bipush 9, 2) := by decide +kernel
theorem dX7_rankAt_20 : decode cX7_rankAt 20 = .ok (.if_icmp .ne 7, 3) := by decide +kernel
theorem dX7_rankAt_23 : decode cX7_rankAt 23 = .ok (.iconst 1, 1) := by decide +kernel
theorem dX7_rankAt_24 : decode cX7_rankAt 24 = .ok (.goto 6, 3) := by decide +kernel
theorem dX7_rankAt_27 : decode cX7_rankAt 27 = .ok (.iload_n 2, 1) := by decide +kernel
theorem dX7_rankAt_28 : decode cX7_rankAt 28 = .ok (.iconst 1, 1) := by decide +kernel
theorem dX7_rankAt_29 : decode cX7_rankAt 29 = .ok (.iadd, 1) := by decide +kernel
theorem dX7_rankAt_30 : decode cX7_rankAt 30 = .ok (.ireturn, 1) := by decide +kernel
theorem dX7_less_0 : decode cX7_less 0 = .ok (.iconst 0, 1) := by decide +kernel
theorem dX7_less_1 : decode cX7_less 1 = .ok (.istore_n 3, 1) := by decide +kernel
theorem dX7_less_2 : decode cX7_less 2 = .ok (.iload_n 3, 1) := by decide +kernel
theorem dX7_less_3 : decode cX7_less 3 = .ok (.aload_n 0, 1) := by decide +kernel
theorem dX7_less_4 : decode cX7_less 4 = .ok (.getfield 7, 3) := by decide +kernel
theorem dX7_less_7 : decode cX7_less 7 = .ok (.iconst 0, 1) := by decide +kernel
theorem dX7_less_8 : decode cX7_less 8 = .ok (.iaload, 1) := by decide +kernel
theorem dX7_less_9 : decode cX7_less 9 = .ok (.if_icmp .ge 48, 3) := by decide +kernel
theorem dX7_less_12 : decode cX7_less 12 = .ok (.aload_n 0, 1) := by decide +kernel
theorem dX7_less_13 : decode cX7_less 13 = .ok (.aload_n 0, 1) := by decide +kernel
theorem dX7_less_14 : decode cX7_less 14 = .ok (.getfield 7, 3) := by decide +kernel
theorem dX7_less_17 : decode cX7_less 17 = .ok (.iload_n 1, 1) := by decide +kernel
theorem dX7_less_18 : decode cX7_less 18 = .ok (.iconst 0, 1) := by decide +kernel
theorem dX7_less_19 : decode cX7_less 19 = .ok (.iload_n 3, 1) := by decide +kernel
theorem dX7_less_20 : decode cX7_less 20 = .ok (.invokestatic 49, 3) := by decide +kernel
theorem dX7_less_23 : decode cX7_less 23 = .ok (.invokevirtual 112, 3) := by decide +kernel
theorem dX7_less_26 : decode cX7_less 26 = .ok (.aload_n 0, 1) := by decide +kernel
theorem dX7_less_27 : decode cX7_less 27 = .ok (.aload_n 0, 1) := by decide +kernel
theorem dX7_less_28 : decode cX7_less 28 = .ok (.getfield 7, 3) := by decide +kernel
theorem dX7_less_31 : decode cX7_less 31 = .ok (.iload_n 2, 1) := by decide +kernel
theorem dX7_less_32 : decode cX7_less 32 = .ok (.iconst 0, 1) := by decide +kernel
theorem dX7_less_33 : decode cX7_less 33 = .ok (.iload_n 3, 1) := by decide +kernel
theorem dX7_less_34 : decode cX7_less 34 = .ok (.invokestatic 49, 3) := by decide +kernel
theorem dX7_less_37 : decode cX7_less 37 = .ok (.invokevirtual 112, 3) := by decide +kernel
theorem dX7_less_40 : decode cX7_less 40 = .ok (.isub, 1) := by decide +kernel
theorem dX7_less_41 : decode cX7_less 41 = .ok (.istore 4, 2) := by decide +kernel
theorem dX7_less_43 : decode cX7_less 43 = .ok (.iload 4, 2) := by decide +kernel
theorem dX7_less_45 : decode cX7_less 45 = .ok (.ifCond .eq 6, 3) := by decide +kernel
theorem dX7_less_48 : decode cX7_less 48 = .ok (.iload 4, 2) := by decide +kernel
theorem dX7_less_50 : decode cX7_less 50 = .ok (.ireturn, 1) := by decide +kernel
theorem dX7_less_51 : decode cX7_less 51 = .ok (.iinc 3 1, 3) := by decide +kernel
theorem dX7_less_54 : decode cX7_less 54 = .ok (.goto (-52), 3) := by decide +kernel
theorem dX7_less_57 : decode cX7_less 57 = .ok (.iconst 0, 1) := by decide +kernel
theorem dX7_less_58 : decode cX7_less 58 = .ok (.ireturn, 1) := by decide +kernel
theorem dX7_beginning_0 : decode cX7_beginning 0 = .ok (.aload_n 0, 1) := by decide +kernel
theorem dX7_beginning_1 : decode cX7_beginning 1 = .ok (.getfield 7, 3) := by decide +kernel
theorem dX7_beginning_4 : decode cX7_beginning 4 = .ok (.iconst 0, 1) := by decide +kernel
theorem dX7_beginning_5 : decode cX7_beginning 5 = .ok (.iaload, 1) := by decide +kernel
theorem dX7_beginning_6 : decode cX7_beginning 6 = .ok (.ifCond .ne 7, 3) := by decide +kernel
theorem dX7_beginning_9 : decode cX7_beginning 9 = .ok (.iconst (-1), 1) := by decide +kernel
theorem dX7_beginning_10 : decode cX7_beginning 10 = .ok (.goto 4, 3) := by decide +kernel
theorem dX7_beginning_13 : decode cX7_beginning 13 = .ok (.iconst 0, 1) := by decide +kernel
theorem dX7_beginning_14 : decode cX7_beginning 14 = .ok (.istore_n 1, 1) := by decide +kernel
theorem dX7_beginning_15 : decode cX7_beginning 15 = .ok (.iconst 1, 1) := by decide +kernel
theorem dX7_beginning_16 : decode cX7_beginning 16 = .ok (.istore_n 2, 1) := by decide +kernel
theorem dX7_beginning_17 : decode cX7_beginning 17 = .ok (.iload_n 2, 1) := by decide +kernel
theorem dX7_beginning_18 : decode cX7_beginning 18 = .ok (.aload_n 0, 1) := by decide +kernel
theorem dX7_beginning_19 : decode cX7_beginning 19 = .ok (.getfield 7, 3) := by decide +kernel
theorem dX7_beginning_22 : decode cX7_beginning 22 = .ok (.iconst 0, 1) := by decide +kernel
theorem dX7_beginning_23 : decode cX7_beginning 23 = .ok (.iaload, 1) := by decide +kernel
theorem dX7_beginning_24 : decode cX7_beginning 24 = .ok (.if_icmp .ge 24, 3) := by decide +kernel
theorem dX7_beginning_27 : decode cX7_beginning 27 = .ok (.aload_n 0, 1) := by decide +kernel
theorem dX7_beginning_28 : decode cX7_beginning 28 = .ok (.iload_n 2, 1) := by decide +kernel
theorem dX7_beginning_29 : decode cX7_beginning 29 = .ok (.iload_n 1, 1) := by decide +kernel
theorem dX7_beginning_30 : decode cX7_beginning 30 = .ok (.invokevirtual 115, 3) := by decide +kernel
theorem dX7_beginning_33 : decode cX7_beginning 33 = .ok (.ifCond .ge 7, 3) := by decide +kernel
theorem dX7_beginning_36 : decode cX7_beginning 36 = .ok (.iload_n 2, 1) := by decide +kernel
theorem dX7_beginning_37 : decode cX7_beginning 37 = .ok (.goto 4, 3) := by decide +kernel
theorem dX7_beginning_40 : decode cX7_beginning 40 = .ok (.iload_n 1, 1) := by decide +kernel
theorem dX7_beginning_41 : decode cX7_beginning 41 = .ok (.istore_n 1, 1) := by decide +kernel
theorem dX7_beginning_42 : decode cX7_beginning 42 = .ok (.iinc 2 1, 3) := by decide +kernel
theorem dX7_beginning_45 : decode cX7_beginning 45 = .ok (.goto (-28), 3) := by decide +kernel
theorem dX7_beginning_48 : decode cX7_beginning 48 = .ok (.iload_n 1, 1) := by decide +kernel
theorem dX7_beginning_49 : decode cX7_beginning 49 = .ok (.ireturn, 1) := by decide +kernel
theorem dX7_period_0 : decode cX7_period 0 = .ok (.aload_n 0, 1) := by decide +kernel
theorem dX7_period_1 : decode cX7_period 1 = .ok (.getfield 7, 3) := by decide +kernel
theorem dX7_period_4 : decode cX7_period 4 = .ok (.iconst 0, 1) := by decide +kernel
theorem dX7_period_5 : decode cX7_period 5 = .ok (.iaload, 1) := by decide +kernel
theorem dX7_period_6 : decode cX7_period 6 = .ok (.ifCond .ne 7, 3) := by decide +kernel
theorem dX7_period_9 : decode cX7_period 9 = .ok (.iconst 0, 1) := by decide +kernel
theorem dX7_period_10 : decode cX7_period 10 = .ok (.goto 4, 3) := by decide +kernel
theorem dX7_period_13 : decode cX7_period 13 = .ok (.iconst 1, 1) := by decide +kernel
theorem dX7_period_14 : decode cX7_period 14 = .ok (.istore_n 1, 1) := by decide +kernel
theorem dX7_period_15 : decode cX7_period 15 = .ok (.iload_n 1, 1) := by decide +kernel
theorem dX7_period_16 : decode cX7_period 16 = .ok (.ifCond .le 28, 3) := by decide +kernel
theorem dX7_period_19 : decode cX7_period 19 = .ok (.iload_n 1, 1) := by decide +kernel
theorem dX7_period_20 : decode cX7_period 20 = .ok (.aload_n 0, 1) := by decide +kernel
theorem dX7_period_21 : decode cX7_period 21 = .ok (.getfield 7, 3) := by decide +kernel
theorem dX7_period_24 : decode cX7_period 24 = .ok (.iconst 0, 1) := by decide +kernel
theorem dX7_period_25 : decode cX7_period 25 = .ok (.iaload, 1) := by decide +kernel
theorem dX7_period_26 : decode cX7_period 26 = .ok (.if_icmp .ge 18, 3) := by decide +kernel
theorem dX7_period_29 : decode cX7_period 29 = .ok (.aload_n 0, 1) := by decide +kernel
theorem dX7_period_30 : decode cX7_period 30 = .ok (.iconst 0, 1) := by decide +kernel
theorem dX7_period_31 : decode cX7_period 31 = .ok (.iload_n 1, 1) := by decide +kernel
theorem dX7_period_32 : decode cX7_period 32 = .ok (.invokevirtual 115, 3) := by decide +kernel
theorem dX7_period_35 : decode cX7_period 35 = .ok (.ifCond .eq 9, 3) := by decide +kernel
theorem dX7_period_38 : decode cX7_period 38 = .ok (.iinc 1 1, 3) := by decide +kernel
theorem dX7_period_41 : decode cX7_period 41 = .ok (.goto (-26), 3) := by decide +kernel
theorem dX7_period_44 : decode cX7_period 44 = .ok (.iload_n 1, 1) := by decide +kernel
theorem dX7_period_45 : decode cX7_period 45 = .ok (.ireturn, 1) := by decide +kernel
theorem dX7_isMirrored_0 : decode cX7_isMirrored 0 = .ok (.iconst 1, 1) := by decide +kernel
theorem dX7_isMirrored_1 : decode cX7_isMirrored 1 = .ok (.istore_n 2, 1) := by decide +kernel
theorem dX7_isMirrored_2 : decode cX7_isMirrored 2 = .ok (.iconst 0, 1) := by decide +kernel
theorem dX7_isMirrored_3 : decode cX7_isMirrored 3 = .ok (.istore_n 3, 1) := by decide +kernel
theorem dX7_isMirrored_4 : decode cX7_isMirrored 4 = .ok (.iload_n 3, 1) := by decide +kernel
theorem dX7_isMirrored_5 : decode cX7_isMirrored 5 = .ok (.aload_n 0, 1) := by decide +kernel
theorem dX7_isMirrored_6 : decode cX7_isMirrored 6 = .ok (.getfield 7, 3) := by decide +kernel
theorem dX7_isMirrored_9 : decode cX7_isMirrored 9 = .ok (.iconst 0, 1) := by decide +kernel
theorem dX7_isMirrored_10 : decode cX7_isMirrored 10 = .ok (.iaload, 1) := by decide +kernel
theorem dX7_isMirrored_11 : decode cX7_isMirrored 11 = .ok (.if_icmp .ge 47, 3) := by decide +kernel
theorem dX7_isMirrored_14 : decode cX7_isMirrored 14 = .ok (.iload_n 2, 1) := by decide +kernel
theorem dX7_isMirrored_15 : decode cX7_isMirrored 15 = .ok (.ifCond .eq 35, 3) := by decide +kernel
theorem dX7_isMirrored_18 : decode cX7_isMirrored 18 = .ok (.aload_n 0, 1) := by decide +kernel
theorem dX7_isMirrored_19 : decode cX7_isMirrored 19 = .ok (.getfield 7, 3) := by decide +kernel
theorem dX7_isMirrored_22 : decode cX7_isMirrored 22 = .ok (.iconst 1, 1) := by decide +kernel
theorem dX7_isMirrored_23 : decode cX7_isMirrored 23 = .ok (.iload_n 3, 1) := by decide +kernel
theorem dX7_isMirrored_24 : decode cX7_isMirrored 24 = .ok (.iadd, 1) := by decide +kernel
theorem dX7_isMirrored_25 : decode cX7_isMirrored 25 = .ok (.iaload, 1) := by decide +kernel
theorem dX7_isMirrored_26 : decode cX7_isMirrored 26 = .ok (.aload_n 0, 1) := by decide +kernel
theorem dX7_isMirrored_27 : decode cX7_isMirrored 27 = .ok (.getfield 7, 3) := by decide +kernel
theorem dX7_isMirrored_30 : decode cX7_isMirrored 30 = .ok (.iconst 1, 1) := by decide +kernel
theorem dX7_isMirrored_31 : decode cX7_isMirrored 31 = .ok (.aload_n 0, 1) := by decide +kernel
theorem dX7_isMirrored_32 : decode cX7_isMirrored 32 = .ok (.getfield 7, 3) := by decide +kernel
theorem dX7_isMirrored_35 : decode cX7_isMirrored 35 = .ok (.iload_n 1, 1) := by decide +kernel
theorem dX7_isMirrored_36 : decode cX7_isMirrored 36 = .ok (.iconst 1, 1) := by decide +kernel
theorem dX7_isMirrored_37 : decode cX7_isMirrored 37 = .ok (.iload_n 3, 1) := by decide +kernel
theorem dX7_isMirrored_38 : decode cX7_isMirrored 38 = .ok (.invokestatic 49, 3) := by decide +kernel
theorem dX7_isMirrored_41 : decode cX7_isMirrored 41 = .ok (.iadd, 1) := by decide +kernel
theorem dX7_isMirrored_42 : decode cX7_isMirrored 42 = .ok (.iaload, 1) := by decide +kernel
theorem dX7_isMirrored_43 : decode cX7_isMirrored 43 = .ok (.if_icmp .ne 7, 3) := by decide +kernel
theorem dX7_isMirrored_46 : decode cX7_isMirrored 46 = .ok (.iconst 1, 1) := by decide +kernel
theorem dX7_isMirrored_47 : decode cX7_isMirrored 47 = .ok (.goto 4, 3) := by decide +kernel
theorem dX7_isMirrored_50 : decode cX7_isMirrored 50 = .ok (.iconst 0, 1) := by decide +kernel
theorem dX7_isMirrored_51 : decode cX7_isMirrored 51 = .ok (.istore_n 2, 1) := by decide +kernel
theorem dX7_isMirrored_52 : decode cX7_isMirrored 52 = .ok (.iinc 3 1, 3) := by decide +kernel
theorem dX7_isMirrored_55 : decode cX7_isMirrored 55 = .ok (.goto (-51), 3) := by decide +kernel
theorem dX7_isMirrored_58 : decode cX7_isMirrored 58 = .ok (.iload_n 2, 1) := by decide +kernel
theorem dX7_isMirrored_59 : decode cX7_isMirrored 59 = .ok (.ireturn, 1) := by decide +kernel
theorem dX7_mirrors_0 : decode cX7_mirrors 0 = .ok (.aload_n 0, 1) := by decide +kernel
theorem dX7_mirrors_1 : decode cX7_mirrors 1 = .ok (.getfield 7, 3) := by decide +kernel
theorem dX7_mirrors_4 : decode cX7_mirrors 4 = .ok (.iconst 0, 1) := by decide +kernel
theorem dX7_mirrors_5 : decode cX7_mirrors 5 = .ok (.iaload, 1) := by decide +kernel
theorem dX7_mirrors_6 : decode cX7_mirrors 6 = .ok (.ifCond .ne 7, 3) := by decide +kernel
theorem dX7_mirrors_9 : decode cX7_mirrors 9 = .ok (.iconst 1, 1) := by decide +kernel
theorem dX7_mirrors_10 : decode cX7_mirrors 10 = .ok (.goto 4, 3) := by decide +kernel
theorem dX7_mirrors_13 : decode cX7_mirrors 13 = .ok (.iconst 0, 1) := by decide +kernel
theorem dX7_mirrors_14 : decode cX7_mirrors 14 = .ok (.istore_n 1, 1) := by decide +kernel
theorem dX7_mirrors_15 : decode cX7_mirrors 15 = .ok (.iconst 0, 1) := by decide +kernel
theorem dX7_mirrors_16 : decode cX7_mirrors 16 = .ok (.istore_n 2, 1) := by decide +kernel
theorem dX7_mirrors_17 : decode cX7_mirrors 17 = .ok (.iload_n 2, 1) := by decide +kernel
theorem dX7_mirrors_18 : decode cX7_mirrors 18 = .ok (.aload_n 0, 1) := by decide +kernel
theorem dX7_mirrors_19 : decode cX7_mirrors 19 = .ok (.getfield 7, 3) := by decide +kernel
theorem dX7_mirrors_22 : decode cX7_mirrors 22 = .ok (.iconst 0, 1) := by decide +kernel
theorem dX7_mirrors_23 : decode cX7_mirrors 23 = .ok (.iaload, 1) := by decide +kernel
theorem dX7_mirrors_24 : decode cX7_mirrors 24 = .ok (.if_icmp .ge 27, 3) := by decide +kernel
theorem dX7_mirrors_27 : decode cX7_mirrors 27 = .ok (.iload_n 1, 1) := by decide +kernel
theorem dX7_mirrors_28 : decode cX7_mirrors 28 = .ok (.ifCond .ne 11, 3) := by decide +kernel
theorem dX7_mirrors_31 : decode cX7_mirrors 31 = .ok (.aload_n 0, 1) := by decide +kernel
theorem dX7_mirrors_32 : decode cX7_mirrors 32 = .ok (.iload_n 2, 1) := by decide +kernel
theorem dX7_mirrors_33 : decode cX7_mirrors 33 = .ok (.invokevirtual 119, 3) := by decide +kernel
theorem dX7_mirrors_36 : decode cX7_mirrors 36 = .ok (.ifCond .eq 7, 3) := by decide +kernel
theorem dX7_mirrors_39 : decode cX7_mirrors 39 = .ok (.iconst 1, 1) := by decide +kernel
theorem dX7_mirrors_40 : decode cX7_mirrors 40 = .ok (.goto 4, 3) := by decide +kernel
theorem dX7_mirrors_43 : decode cX7_mirrors 43 = .ok (.iconst 0, 1) := by decide +kernel
theorem dX7_mirrors_44 : decode cX7_mirrors 44 = .ok (.istore_n 1, 1) := by decide +kernel
theorem dX7_mirrors_45 : decode cX7_mirrors 45 = .ok (.iinc 2 1, 3) := by decide +kernel
theorem dX7_mirrors_48 : decode cX7_mirrors 48 = .ok (.goto (-31), 3) := by decide +kernel
theorem dX7_mirrors_51 : decode cX7_mirrors 51 = .ok (.iload_n 1, 1) := by decide +kernel
theorem dX7_mirrors_52 : decode cX7_mirrors 52 = .ok (.ifCond .eq 7, 3) := by decide +kernel
theorem dX7_mirrors_55 : decode cX7_mirrors 55 = .ok (.iconst 1, 1) := by decide +kernel
theorem dX7_mirrors_56 : decode cX7_mirrors 56 = .ok (.goto 4, 3) := by decide +kernel
theorem dX7_mirrors_59 : decode cX7_mirrors 59 = .ok (.iconst 0, 1) := by decide +kernel
theorem dX7_mirrors_60 : decode cX7_mirrors 60 = .ok (.ireturn, 1) := by decide +kernel
theorem dX7_dividers_0 : decode cX7_dividers 0 = .ok (.iconst 0, 1) := by decide +kernel
theorem dX7_dividers_1 : decode cX7_dividers 1 = .ok (.istore_n 1, 1) := by decide +kernel
theorem dX7_dividers_2 : decode cX7_dividers 2 = .ok (.iconst 0, 1) := by decide +kernel
theorem dX7_dividers_3 : decode cX7_dividers 3 = .ok (.istore_n 2, 1) := by decide +kernel
theorem dX7_dividers_4 : decode cX7_dividers 4 = .ok (.iload_n 2, 1) := by decide +kernel
theorem dX7_dividers_5 : decode cX7_dividers 5 = .ok (.aload_n 0, 1) := by decide +kernel
theorem dX7_dividers_6 : decode cX7_dividers 6 = .ok (.getfield 7, 3) := by decide +kernel
theorem dX7_dividers_9 : decode cX7_dividers 9 = .ok (.iconst 0, 1) := by decide +kernel
theorem dX7_dividers_10 : decode cX7_dividers 10 = .ok (.iaload, 1) := by decide +kernel
theorem dX7_dividers_11 : decode cX7_dividers 11 = .ok (.if_icmp .ge 28, 3) := by decide +kernel
theorem dX7_dividers_14 : decode cX7_dividers 14 = .ok (.iload_n 1, 1) := by decide +kernel
theorem dX7_dividers_15 : decode cX7_dividers 15 = .ok (.aload_n 0, 1) := by decide +kernel
theorem dX7_dividers_16 : decode cX7_dividers 16 = .ok (.getfield 7, 3) := by decide +kernel
theorem dX7_dividers_19 : decode cX7_dividers 19 = .ok (.iload_n 2, 1) := by decide +kernel
theorem dX7_dividers_20 : decode cX7_dividers 20 = .ok (.invokestatic 53, 3) := by decide +kernel
theorem dX7_dividers_23 : decode cX7_dividers 23 = .ok (.ifCond .eq 7, 3) := by decide +kernel
theorem dX7_dividers_26 : decode cX7_dividers 26 = .ok (.iconst 1, 1) := by decide +kernel
theorem dX7_dividers_27 : decode cX7_dividers 27 = .ok (.goto 4, 3) := by decide +kernel
theorem dX7_dividers_30 : decode cX7_dividers 30 = .ok (.iconst 0, 1) := by decide +kernel
theorem dX7_dividers_31 : decode cX7_dividers 31 = .ok (.iadd, 1) := by decide +kernel
theorem dX7_dividers_32 : decode cX7_dividers 32 = .ok (.istore_n 1, 1) := by decide +kernel
theorem dX7_dividers_33 : decode cX7_dividers 33 = .ok (.iinc 2 1, 3) := by decide +kernel
theorem dX7_dividers_36 : decode cX7_dividers 36 = .ok (.goto (-32), 3) := by decide +kernel
theorem dX7_dividers_39 : decode cX7_dividers 39 = .ok (.iload_n 1, 1) := by decide +kernel
theorem dX7_dividers_40 : decode cX7_dividers 40 = .ok (.ireturn, 1) := by decide +kernel
theorem dX7_abouts_0 : decode cX7_abouts 0 = .ok (.iload_n 1, 1) := by decide +kernel
theorem dX7_abouts_1 : decode cX7_abouts 1 = .ok (.tableswitch 101 0 7 #[47, 54, 59, 67, 75, 83, 91, 96], 47) := by decide +kernel
theorem dX7_abouts_48 : decode cX7_abouts 48 = .ok (.aload_n 0, 1) := by decide +kernel
theorem dX7_abouts_49 : decode cX7_abouts 49 = .ok (.getfield 7, 3) := by decide +kernel
theorem dX7_abouts_52 : decode cX7_abouts 52 = .ok (.iconst 0, 1) := by decide +kernel
theorem dX7_abouts_53 : decode cX7_abouts 53 = .ok (.iaload, 1) := by decide +kernel
theorem dX7_abouts_54 : decode cX7_abouts 54 = .ok (.ireturn, 1) := by decide +kernel
theorem dX7_abouts_55 : decode cX7_abouts 55 = .ok (.aload_n 0, 1) := by decide +kernel
theorem dX7_abouts_56 : decode cX7_abouts 56 = .ok (.invokevirtual 122, 3) := by decide +kernel
theorem dX7_abouts_59 : decode cX7_abouts 59 = .ok (.ireturn, 1) := by decide +kernel
theorem dX7_abouts_60 : decode cX7_abouts 60 = .ok (.aload_n 0, 1) := by decide +kernel
theorem dX7_abouts_61 : decode cX7_abouts 61 = .ok (.getfield 7, 3) := by decide +kernel
theorem dX7_abouts_64 : decode cX7_abouts 64 = .ok (.invokestatic 94, 3) := by decide +kernel
theorem dX7_abouts_67 : decode cX7_abouts 67 = .ok (.ireturn, 1) := by decide +kernel
theorem dX7_abouts_68 : decode cX7_abouts 68 = .ok (.aload_n 0, 1) := by decide +kernel
theorem dX7_abouts_69 : decode cX7_abouts 69 = .ok (.getfield 7, 3) := by decide +kernel
theorem dX7_abouts_72 : decode cX7_abouts 72 = .ok (.bipush 25, 2) := by decide +kernel
theorem dX7_abouts_74 : decode cX7_abouts 74 = .ok (.iaload, 1) := by decide +kernel
theorem dX7_abouts_75 : decode cX7_abouts 75 = .ok (.ireturn, 1) := by decide +kernel
theorem dX7_abouts_76 : decode cX7_abouts 76 = .ok (.aload_n 0, 1) := by decide +kernel
theorem dX7_abouts_77 : decode cX7_abouts 77 = .ok (.getfield 7, 3) := by decide +kernel
theorem dX7_abouts_80 : decode cX7_abouts 80 = .ok (.bipush 96, 2) := by decide +kernel
theorem dX7_abouts_82 : decode cX7_abouts 82 = .ok (.iaload, 1) := by decide +kernel
theorem dX7_abouts_83 : decode cX7_abouts 83 = .ok (.ireturn, 1) := by decide +kernel
theorem dX7_abouts_84 : decode cX7_abouts 84 = .ok (.aload_n 0, 1) := by decide +kernel
theorem dX7_abouts_85 : decode cX7_abouts 85 = .ok (.getfield 7, 3) := by decide +kernel
theorem dX7_abouts_88 : decode cX7_abouts 88 = .ok (.bipush 117, 2) := by decide +kernel
theorem dX7_abouts_90 : decode cX7_abouts 90 = .ok (.iaload, 1) := by decide +kernel
theorem dX7_abouts_91 : decode cX7_abouts 91 = .ok (.ireturn, 1) := by decide +kernel
theorem dX7_abouts_92 : decode cX7_abouts 92 = .ok (.aload_n 0, 1) := by decide +kernel
theorem dX7_abouts_93 : decode cX7_abouts 93 = .ok (.invokevirtual 126, 3) := by decide +kernel
theorem dX7_abouts_96 : decode cX7_abouts 96 = .ok (.ireturn, 1) := by decide +kernel
theorem dX7_abouts_97 : decode cX7_abouts 97 = .ok (.aload_n 0, 1) := by decide +kernel
theorem dX7_abouts_98 : decode cX7_abouts 98 = .ok (.invokevirtual 129, 3) := by decide +kernel
theorem dX7_abouts_101 : decode cX7_abouts 101 = .ok (.ireturn, 1) := by decide +kernel
theorem dX7_abouts_102 : decode cX7_abouts 102 = .ok (.aload_n 0, 1) := by decide +kernel
theorem dX7_abouts_103 : decode cX7_abouts 103 = .ok (.invokevirtual 132, 3) := by decide +kernel
theorem dX7_abouts_106 : decode cX7_abouts 106 = .ok (.ireturn, 1) := by decide +kernel
theorem dX7_about_0 : decode cX7_about 0 = .ok (.aload_n 0, 1) := by decide +kernel
theorem dX7_about_1 : decode cX7_about 1 = .ok (.iload_n 1, 1) := by decide +kernel
theorem dX7_about_2 : decode cX7_about 2 = .ok (.iconst 0, 1) := by decide +kernel
theorem dX7_about_3 : decode cX7_about 3 = .ok (.bipush 8, 2) := by decide +kernel
theorem dX7_about_5 : decode cX7_about 5 = .ok (.invokestatic 45, 3) := by decide +kernel
theorem dX7_about_8 : decode cX7_about 8 = .ok (.ifCond .eq 7, 3) := by decide +kernel
theorem dX7_about_11 : decode cX7_about 11 = .ok (.iconst 0, 1) := by decide +kernel
theorem dX7_about_12 : decode cX7_about 12 = .ok (.goto 4, 3) := by decide +kernel
theorem dX7_about_15 : decode cX7_about 15 = .ok (.iconst 1, 1) := by decide +kernel
theorem dX7_about_16 : decode cX7_about 16 = .ok (.invokevirtual 41, 3) := by decide +kernel
theorem dX7_about_19 : decode cX7_about 19 = .ok (.ifCond .eq 7, 3) := by decide +kernel
theorem dX7_about_22 : decode cX7_about 22 = .ok (.iconst 0, 1) := by decide +kernel
theorem dX7_about_23 : decode cX7_about 23 = .ok (.goto 8, 3) := by decide +kernel
theorem dX7_about_26 : decode cX7_about 26 = .ok (.aload_n 0, 1) := by decide +kernel
theorem dX7_about_27 : decode cX7_about 27 = .ok (.iload_n 1, 1) := by decide +kernel
theorem dX7_about_28 : decode cX7_about 28 = .ok (.invokevirtual 135, 3) := by decide +kernel
theorem dX7_about_31 : decode cX7_about 31 = .ok (.ireturn, 1) := by decide +kernel
theorem dX7_at_0 : decode cX7_at 0 = .ok (.aload_n 0, 1) := by decide +kernel
theorem dX7_at_1 : decode cX7_at 1 = .ok (.aload_n 0, 1) := by decide +kernel
theorem dX7_at_2 : decode cX7_at 2 = .ok (.iload_n 1, 1) := by decide +kernel
theorem dX7_at_3 : decode cX7_at 3 = .ok (.invokevirtual 138, 3) := by decide +kernel
theorem dX7_at_6 : decode cX7_at 6 = .ok (.ifCond .eq 7, 3) := by decide +kernel
theorem dX7_at_9 : decode cX7_at 9 = .ok (.iconst 0, 1) := by decide +kernel
theorem dX7_at_10 : decode cX7_at 10 = .ok (.goto 4, 3) := by decide +kernel
theorem dX7_at_13 : decode cX7_at 13 = .ok (.iconst 1, 1) := by decide +kernel
theorem dX7_at_14 : decode cX7_at 14 = .ok (.invokevirtual 41, 3) := by decide +kernel
theorem dX7_at_17 : decode cX7_at 17 = .ok (.ifCond .eq 7, 3) := by decide +kernel
theorem dX7_at_20 : decode cX7_at 20 = .ok (.iconst 0, 1) := by decide +kernel
theorem dX7_at_21 : decode cX7_at 21 = .ok (.goto 14, 3) := by decide +kernel
theorem dX7_at_24 : decode cX7_at 24 = .ok (.aload_n 0, 1) := by decide +kernel
theorem dX7_at_25 : decode cX7_at 25 = .ok (.getfield 7, 3) := by decide +kernel
theorem dX7_at_28 : decode cX7_at 28 = .ok (.iconst 1, 1) := by decide +kernel
theorem dX7_at_29 : decode cX7_at 29 = .ok (.iload_n 1, 1) := by decide +kernel
theorem dX7_at_30 : decode cX7_at 30 = .ok (.iadd, 1) := by decide +kernel
theorem dX7_at_31 : decode cX7_at 31 = .ok (.iaload, 1) := by decide +kernel
theorem dX7_at_32 : decode cX7_at 32 = .ok (.invokestatic 141, 3) := by decide +kernel
theorem dX7_at_35 : decode cX7_at 35 = .ok (.ireturn, 1) := by decide +kernel
theorem dX7_isWord_0 : decode cX7_isWord 0 = .ok (.iload_n 1, 1) := by decide +kernel
theorem dX7_isWord_1 : decode cX7_isWord 1 = .ok (.iconst 0, 1) := by decide +kernel
theorem dX7_isWord_2 : decode cX7_isWord 2 = .ok (.aload_n 0, 1) := by decide +kernel
theorem dX7_isWord_3 : decode cX7_isWord 3 = .ok (.getfield 7, 3) := by decide +kernel
theorem dX7_isWord_6 : decode cX7_isWord 6 = .ok (.bipush 25, 2) := by decide +kernel
theorem dX7_isWord_8 : decode cX7_isWord 8 = .ok (.iaload, 1) := by decide +kernel
theorem dX7_isWord_9 : decode cX7_isWord 9 = .ok (.iconst 1, 1) := by decide +kernel
theorem dX7_isWord_10 : decode cX7_isWord 10 = .ok (.isub, 1) := by decide +kernel
theorem dX7_isWord_11 : decode cX7_isWord 11 = .ok (.invokestatic 45, 3) := by decide +kernel
theorem dX7_isWord_14 : decode cX7_isWord 14 = .ok (.ireturn, 1) := by decide +kernel
theorem dX7_letter_0 : decode cX7_letter 0 = .ok (.aload_n 0, 1) := by decide +kernel
theorem dX7_letter_1 : decode cX7_letter 1 = .ok (.aload_n 0, 1) := by decide +kernel
theorem dX7_letter_2 : decode cX7_letter 2 = .ok (.iload_n 1, 1) := by decide +kernel
theorem dX7_letter_3 : decode cX7_letter 3 = .ok (.invokevirtual 144, 3) := by decide +kernel
theorem dX7_letter_6 : decode cX7_letter 6 = .ok (.ifCond .ne 7, 3) := by decide +kernel
theorem dX7_letter_9 : decode cX7_letter 9 = .ok (.iconst 1, 1) := by decide +kernel
theorem dX7_letter_10 : decode cX7_letter 10 = .ok (.goto 12, 3) := by decide +kernel
theorem dX7_letter_13 : decode cX7_letter 13 = .ok (.iload_n 2, 1) := by decide +kernel
theorem dX7_letter_14 : decode cX7_letter 14 = .ok (.ifCond .ge 7, 3) := by decide +kernel
theorem dX7_letter_17 : decode cX7_letter 17 = .ok (.iconst 2, 1) := by decide +kernel
theorem dX7_letter_18 : decode cX7_letter 18 = .ok (.goto 4, 3) := by decide +kernel
theorem dX7_letter_21 : decode cX7_letter 21 = .ok (.iconst 0, 1) := by decide +kernel
theorem dX7_letter_22 : decode cX7_letter 22 = .ok (.invokevirtual 41, 3) := by decide +kernel
theorem dX7_letter_25 : decode cX7_letter 25 = .ok (.ifCond .eq 5, 3) := by decide +kernel
theorem dX7_letter_28 : decode cX7_letter 28 = .ok (.iconst 0, 1) := by decide +kernel
theorem dX7_letter_29 : decode cX7_letter 29 = .ok (.ireturn, 1) := by decide +kernel
theorem dX7_letter_30 : decode cX7_letter 30 = .ok (.iload_n 2, 1) := by decide +kernel
theorem dX7_letter_31 : decode cX7_letter 31 = .ok (.aload_n 0, 1) := by decide +kernel
theorem dX7_letter_32 : decode cX7_letter 32 = .ok (.getfield 7, 3) := by decide +kernel
theorem dX7_letter_35 : decode cX7_letter 35 = .ok (.bipush 26, 2) := by decide +kernel
theorem dX7_letter_37 : decode cX7_letter 37 = .ok (.bipush 7, 2) := by decide +kernel
theorem dX7_letter_39 : decode cX7_letter 39 = .ok (.iload_n 1, 1) := by decide +kernel
theorem dX7_letter_40 : decode cX7_letter 40 = .ok (.imul, 1) := by decide +kernel
theorem dX7_letter_41 : decode cX7_letter 41 = .ok (.iadd, 1) := by decide +kernel
theorem dX7_letter_42 : decode cX7_letter 42 = .ok (.iaload, 1) := by decide +kernel
theorem dX7_letter_43 : decode cX7_letter 43 = .ok (.if_icmp .ge 25, 3) := by decide +kernel
theorem dX7_letter_46 : decode cX7_letter 46 = .ok (.aload_n 0, 1) := by decide +kernel
theorem dX7_letter_47 : decode cX7_letter 47 = .ok (.getfield 7, 3) := by decide +kernel
theorem dX7_letter_50 : decode cX7_letter 50 = .ok (.bipush 26, 2) := by decide +kernel
theorem dX7_letter_52 : decode cX7_letter 52 = .ok (.bipush 7, 2) := by decide +kernel
theorem dX7_letter_54 : decode cX7_letter 54 = .ok (.iload_n 1, 1) := by decide +kernel
theorem dX7_letter_55 : decode cX7_letter 55 = .ok (.imul, 1) := by decide +kernel
theorem dX7_letter_56 : decode cX7_letter 56 = .ok (.iadd, 1) := by decide +kernel
theorem dX7_letter_57 : decode cX7_letter 57 = .ok (.iconst 1, 1) := by decide +kernel
theorem dX7_letter_58 : decode cX7_letter 58 = .ok (.iadd, 1) := by decide +kernel
theorem dX7_letter_59 : decode cX7_letter 59 = .ok (.iload_n 2, 1) := by decide +kernel
theorem dX7_letter_60 : decode cX7_letter 60 = .ok (.iadd, 1) := by decide +kernel
theorem dX7_letter_61 : decode cX7_letter 61 = .ok (.iaload, 1) := by decide +kernel
theorem dX7_letter_62 : decode cX7_letter 62 = .ok (.invokestatic 141, 3) := by decide +kernel
theorem dX7_letter_65 : decode cX7_letter 65 = .ok (.goto 4, 3) := by decide +kernel
theorem dX7_letter_68 : decode cX7_letter 68 = .ok (.iconst (-1), 1) := by decide +kernel
theorem dX7_letter_69 : decode cX7_letter 69 = .ok (.ireturn, 1) := by decide +kernel
theorem dX7_ofReading_0 : decode cX7_ofReading 0 = .ok (.iload_n 2, 1) := by decide +kernel
theorem dX7_ofReading_1 : decode cX7_ofReading 1 = .ok (.ifCond .ne 14, 3) := by decide +kernel
theorem dX7_ofReading_4 : decode cX7_ofReading 4 = .ok (.aload_n 0, 1) := by decide +kernel
theorem dX7_ofReading_5 : decode cX7_ofReading 5 = .ok (.getfield 7, 3) := by decide +kernel
theorem dX7_ofReading_8 : decode cX7_ofReading 8 = .ok (.iload_n 1, 1) := by decide +kernel
theorem dX7_ofReading_9 : decode cX7_ofReading 9 = .ok (.invokestatic 147, 3) := by decide +kernel
theorem dX7_ofReading_12 : decode cX7_ofReading 12 = .ok (.goto 40, 3) := by decide +kernel
theorem dX7_ofReading_15 : decode cX7_ofReading 15 = .ok (.iload_n 2, 1) := by decide +kernel
theorem dX7_ofReading_16 : decode cX7_ofReading 16 = .ok (.iconst 1, 1) := by decide +kernel
theorem dX7_ofReading_17 : decode cX7_ofReading 17 = .ok (.if_icmp .ne 14, 3) := by decide +kernel
theorem dX7_ofReading_20 : decode cX7_ofReading 20 = .ok (.aload_n 0, 1) := by decide +kernel
theorem dX7_ofReading_21 : decode cX7_ofReading 21 = .ok (.getfield 7, 3) := by decide +kernel
theorem dX7_ofReading_24 : decode cX7_ofReading 24 = .ok (.iload_n 1, 1) := by decide +kernel
theorem dX7_ofReading_25 : decode cX7_ofReading 25 = .ok (.invokestatic 151, 3) := by decide +kernel
theorem dX7_ofReading_28 : decode cX7_ofReading 28 = .ok (.goto 24, 3) := by decide +kernel
theorem dX7_ofReading_31 : decode cX7_ofReading 31 = .ok (.iload_n 2, 1) := by decide +kernel
theorem dX7_ofReading_32 : decode cX7_ofReading 32 = .ok (.iconst 2, 1) := by decide +kernel
theorem dX7_ofReading_33 : decode cX7_ofReading 33 = .ok (.if_icmp .ne 14, 3) := by decide +kernel
theorem dX7_ofReading_36 : decode cX7_ofReading 36 = .ok (.aload_n 0, 1) := by decide +kernel
theorem dX7_ofReading_37 : decode cX7_ofReading 37 = .ok (.getfield 7, 3) := by decide +kernel
theorem dX7_ofReading_40 : decode cX7_ofReading 40 = .ok (.iload_n 1, 1) := by decide +kernel
theorem dX7_ofReading_41 : decode cX7_ofReading 41 = .ok (.invokestatic 154, 3) := by decide +kernel
theorem dX7_ofReading_44 : decode cX7_ofReading 44 = .ok (.goto 8, 3) := by decide +kernel
theorem dX7_ofReading_47 : decode cX7_ofReading 47 = .ok (.aload_n 0, 1) := by decide +kernel
theorem dX7_ofReading_48 : decode cX7_ofReading 48 = .ok (.iload_n 1, 1) := by decide +kernel
theorem dX7_ofReading_49 : decode cX7_ofReading 49 = .ok (.invokevirtual 157, 3) := by decide +kernel
theorem dX7_ofReading_52 : decode cX7_ofReading 52 = .ok (.ireturn, 1) := by decide +kernel
theorem dX7_reading_0 : decode cX7_reading 0 = .ok (.aload_n 0, 1) := by decide +kernel
theorem dX7_reading_1 : decode cX7_reading 1 = .ok (.iload_n 1, 1) := by decide +kernel
theorem dX7_reading_2 : decode cX7_reading 2 = .ok (.invokestatic 160, 3) := by decide +kernel
theorem dX7_reading_5 : decode cX7_reading 5 = .ok (.ifCond .ne 7, 3) := by decide +kernel
theorem dX7_reading_8 : decode cX7_reading 8 = .ok (.iconst 1, 1) := by decide +kernel
theorem dX7_reading_9 : decode cX7_reading 9 = .ok (.goto 17, 3) := by decide +kernel
theorem dX7_reading_12 : decode cX7_reading 12 = .ok (.iload_n 2, 1) := by decide +kernel
theorem dX7_reading_13 : decode cX7_reading 13 = .ok (.iconst 0, 1) := by decide +kernel
theorem dX7_reading_14 : decode cX7_reading 14 = .ok (.iconst 3, 1) := by decide +kernel
theorem dX7_reading_15 : decode cX7_reading 15 = .ok (.invokestatic 45, 3) := by decide +kernel
theorem dX7_reading_18 : decode cX7_reading 18 = .ok (.ifCond .eq 7, 3) := by decide +kernel
theorem dX7_reading_21 : decode cX7_reading 21 = .ok (.iconst 0, 1) := by decide +kernel
theorem dX7_reading_22 : decode cX7_reading 22 = .ok (.goto 4, 3) := by decide +kernel
theorem dX7_reading_25 : decode cX7_reading 25 = .ok (.iconst 2, 1) := by decide +kernel
theorem dX7_reading_26 : decode cX7_reading 26 = .ok (.invokevirtual 41, 3) := by decide +kernel
theorem dX7_reading_29 : decode cX7_reading 29 = .ok (.ifCond .eq 7, 3) := by decide +kernel
theorem dX7_reading_32 : decode cX7_reading 32 = .ok (.iconst 0, 1) := by decide +kernel
theorem dX7_reading_33 : decode cX7_reading 33 = .ok (.goto 9, 3) := by decide +kernel
theorem dX7_reading_36 : decode cX7_reading 36 = .ok (.aload_n 0, 1) := by decide +kernel
theorem dX7_reading_37 : decode cX7_reading 37 = .ok (.iload_n 1, 1) := by decide +kernel
theorem dX7_reading_38 : decode cX7_reading 38 = .ok (.iload_n 2, 1) := by decide +kernel
theorem dX7_reading_39 : decode cX7_reading 39 = .ok (.invokevirtual 163, 3) := by decide +kernel
theorem dX7_reading_42 : decode cX7_reading 42 = .ok (.ireturn, 1) := by decide +kernel
theorem dX7_lowestFit_0 : decode cX7_lowestFit 0 = .ok (.iconst 0, 1) := by decide +kernel
theorem dX7_lowestFit_1 : decode cX7_lowestFit 1 = .ok (.istore_n 3, 1) := by decide +kernel
theorem dX7_lowestFit_2 : decode cX7_lowestFit 2 = .ok (.iload_n 3, 1) := by decide +kernel
theorem dX7_lowestFit_3 : decode cX7_lowestFit 3 = .ok (.aload_n 0, 1) := by decide +kernel
theorem dX7_lowestFit_4 : decode cX7_lowestFit 4 = .ok (.getfield 7, 3) := by decide +kernel
theorem dX7_lowestFit_7 : decode cX7_lowestFit 7 = .ok (.bipush 25, 2) := by decide +kernel
theorem dX7_lowestFit_9 : decode cX7_lowestFit 9 = .ok (.iaload, 1) := by decide +kernel
theorem dX7_lowestFit_10 : decode cX7_lowestFit 10 = .ok (.if_icmp .ge 24, 3) := by decide +kernel
theorem dX7_lowestFit_13 : decode cX7_lowestFit 13 = .ok (.aload_n 0, 1) := by decide +kernel
theorem dX7_lowestFit_14 : decode cX7_lowestFit 14 = .ok (.getfield 7, 3) := by decide +kernel
theorem dX7_lowestFit_17 : decode cX7_lowestFit 17 = .ok (.iload_n 3, 1) := by decide +kernel
theorem dX7_lowestFit_18 : decode cX7_lowestFit 18 = .ok (.iload_n 1, 1) := by decide +kernel
theorem dX7_lowestFit_19 : decode cX7_lowestFit 19 = .ok (.iload_n 2, 1) := by decide +kernel
theorem dX7_lowestFit_20 : decode cX7_lowestFit 20 = .ok (.invokestatic 65, 3) := by decide +kernel
theorem dX7_lowestFit_23 : decode cX7_lowestFit 23 = .ok (.ifCond .eq 5, 3) := by decide +kernel
theorem dX7_lowestFit_26 : decode cX7_lowestFit 26 = .ok (.iload_n 3, 1) := by decide +kernel
theorem dX7_lowestFit_27 : decode cX7_lowestFit 27 = .ok (.ireturn, 1) := by decide +kernel
theorem dX7_lowestFit_28 : decode cX7_lowestFit 28 = .ok (.iinc 3 1, 3) := by decide +kernel
theorem dX7_lowestFit_31 : decode cX7_lowestFit 31 = .ok (.goto (-29), 3) := by decide +kernel
theorem dX7_lowestFit_34 : decode cX7_lowestFit 34 = .ok (.iconst (-1), 1) := by decide +kernel
theorem dX7_lowestFit_35 : decode cX7_lowestFit 35 = .ok (.ireturn, 1) := by decide +kernel
theorem dX7_wornIn_0 : decode cX7_wornIn 0 = .ok (.iconst 0, 1) := by decide +kernel
theorem dX7_wornIn_1 : decode cX7_wornIn 1 = .ok (.istore_n 3, 1) := by decide +kernel
theorem dX7_wornIn_2 : decode cX7_wornIn 2 = .ok (.iconst 1, 1) := by decide +kernel
theorem dX7_wornIn_3 : decode cX7_wornIn 3 = .ok (.istore 4, 2) := by decide +kernel
theorem dX7_wornIn_5 : decode cX7_wornIn 5 = .ok (.iload 4, 2) := by decide +kernel
theorem dX7_wornIn_7 : decode cX7_wornIn 7 = .ok (.aload_n 0, 1) := by decide +kernel
theorem dX7_wornIn_8 : decode cX7_wornIn 8 = .ok (.getfield 7, 3) := by decide +kernel
theorem dX7_wornIn_11 : decode cX7_wornIn 11 = .ok (.iload_n 1, 1) := by decide +kernel
theorem dX7_wornIn_12 : decode cX7_wornIn 12 = .ok (.iload_n 2, 1) := by decide +kernel
theorem dX7_wornIn_13 : decode cX7_wornIn 13 = .ok (.invokestatic 57, 3) := by decide +kernel
theorem dX7_wornIn_16 : decode cX7_wornIn 16 = .ok (.if_icmp .gt 40, 3) := by decide +kernel
theorem dX7_wornIn_19 : decode cX7_wornIn 19 = .ok (.iload_n 3, 1) := by decide +kernel
theorem dX7_wornIn_20 : decode cX7_wornIn 20 = .ok (.aload_n 0, 1) := by decide +kernel
theorem dX7_wornIn_21 : decode cX7_wornIn 21 = .ok (.getfield 7, 3) := by decide +kernel
theorem dX7_wornIn_24 : decode cX7_wornIn 24 = .ok (.iconst 1, 1) := by decide +kernel
theorem dX7_wornIn_25 : decode cX7_wornIn 25 = .ok (.aload_n 0, 1) := by decide +kernel
theorem dX7_wornIn_26 : decode cX7_wornIn 26 = .ok (.getfield 7, 3) := by decide +kernel
theorem dX7_wornIn_29 : decode cX7_wornIn 29 = .ok (.iload_n 1, 1) := by decide +kernel
theorem dX7_wornIn_30 : decode cX7_wornIn 30 = .ok (.iload_n 2, 1) := by decide +kernel
theorem dX7_wornIn_31 : decode cX7_wornIn 31 = .ok (.iload 4, 2) := by decide +kernel
theorem dX7_wornIn_33 : decode cX7_wornIn 33 = .ok (.invokestatic 49, 3) := by decide +kernel
theorem dX7_wornIn_36 : decode cX7_wornIn 36 = .ok (.iadd, 1) := by decide +kernel
theorem dX7_wornIn_37 : decode cX7_wornIn 37 = .ok (.iaload, 1) := by decide +kernel
theorem dX7_wornIn_38 : decode cX7_wornIn 38 = .ok (.bipush 9, 2) := by decide +kernel
theorem dX7_wornIn_40 : decode cX7_wornIn 40 = .ok (.if_icmp .ne 7, 3) := by decide +kernel
theorem dX7_wornIn_43 : decode cX7_wornIn 43 = .ok (.iconst 1, 1) := by decide +kernel
theorem dX7_wornIn_44 : decode cX7_wornIn 44 = .ok (.goto 4, 3) := by decide +kernel
theorem dX7_wornIn_47 : decode cX7_wornIn 47 = .ok (.iconst 0, 1) := by decide +kernel
theorem dX7_wornIn_48 : decode cX7_wornIn 48 = .ok (.iadd, 1) := by decide +kernel
theorem dX7_wornIn_49 : decode cX7_wornIn 49 = .ok (.istore_n 3, 1) := by decide +kernel
theorem dX7_wornIn_50 : decode cX7_wornIn 50 = .ok (.iinc 4 1, 3) := by decide +kernel
theorem dX7_wornIn_53 : decode cX7_wornIn 53 = .ok (.goto (-48), 3) := by decide +kernel
theorem dX7_wornIn_56 : decode cX7_wornIn 56 = .ok (.iload_n 3, 1) := by decide +kernel
theorem dX7_wornIn_57 : decode cX7_wornIn 57 = .ok (.ireturn, 1) := by decide +kernel
theorem dX7_ofSegment_0 : decode cX7_ofSegment 0 = .ok (.iload_n 3, 1) := by decide +kernel
theorem dX7_ofSegment_1 : decode cX7_ofSegment 1 = .ok (.tableswitch 60 0 3 #[31, 33, 43, 53], 31) := by decide +kernel
theorem dX7_ofSegment_32 : decode cX7_ofSegment 32 = .ok (.iload_n 1, 1) := by decide +kernel
theorem dX7_ofSegment_33 : decode cX7_ofSegment 33 = .ok (.ireturn, 1) := by decide +kernel
theorem dX7_ofSegment_34 : decode cX7_ofSegment 34 = .ok (.aload_n 0, 1) := by decide +kernel
theorem dX7_ofSegment_35 : decode cX7_ofSegment 35 = .ok (.getfield 7, 3) := by decide +kernel
theorem dX7_ofSegment_38 : decode cX7_ofSegment 38 = .ok (.iload_n 1, 1) := by decide +kernel
theorem dX7_ofSegment_39 : decode cX7_ofSegment 39 = .ok (.iload_n 2, 1) := by decide +kernel
theorem dX7_ofSegment_40 : decode cX7_ofSegment 40 = .ok (.invokestatic 57, 3) := by decide +kernel
theorem dX7_ofSegment_43 : decode cX7_ofSegment 43 = .ok (.ireturn, 1) := by decide +kernel
theorem dX7_ofSegment_44 : decode cX7_ofSegment 44 = .ok (.aload_n 0, 1) := by decide +kernel
theorem dX7_ofSegment_45 : decode cX7_ofSegment 45 = .ok (.getfield 7, 3) := by decide +kernel
theorem dX7_ofSegment_48 : decode cX7_ofSegment 48 = .ok (.iload_n 1, 1) := by decide +kernel
theorem dX7_ofSegment_49 : decode cX7_ofSegment 49 = .ok (.iload_n 2, 1) := by decide +kernel
theorem dX7_ofSegment_50 : decode cX7_ofSegment 50 = .ok (.invokestatic 68, 3) := by decide +kernel
theorem dX7_ofSegment_53 : decode cX7_ofSegment 53 = .ok (.ireturn, 1) := by decide +kernel
theorem dX7_ofSegment_54 : decode cX7_ofSegment 54 = .ok (.aload_n 0, 1) := by decide +kernel
theorem dX7_ofSegment_55 : decode cX7_ofSegment 55 = .ok (.iload_n 1, 1) := by decide +kernel
theorem dX7_ofSegment_56 : decode cX7_ofSegment 56 = .ok (.iload_n 2, 1) := by decide +kernel
theorem dX7_ofSegment_57 : decode cX7_ofSegment 57 = .ok (.invokevirtual 166, 3) := by decide +kernel
theorem dX7_ofSegment_60 : decode cX7_ofSegment 60 = .ok (.ireturn, 1) := by decide +kernel
theorem dX7_ofSegment_61 : decode cX7_ofSegment 61 = .ok (.aload_n 0, 1) := by decide +kernel
theorem dX7_ofSegment_62 : decode cX7_ofSegment 62 = .ok (.iload_n 1, 1) := by decide +kernel
theorem dX7_ofSegment_63 : decode cX7_ofSegment 63 = .ok (.iload_n 2, 1) := by decide +kernel
theorem dX7_ofSegment_64 : decode cX7_ofSegment 64 = .ok (.invokevirtual 169, 3) := by decide +kernel
theorem dX7_ofSegment_67 : decode cX7_ofSegment 67 = .ok (.ireturn, 1) := by decide +kernel
theorem dX7_segment_0 : decode cX7_segment 0 = .ok (.iload_n 1, 1) := by decide +kernel
theorem dX7_segment_1 : decode cX7_segment 1 = .ok (.invokestatic 160, 3) := by decide +kernel
theorem dX7_segment_4 : decode cX7_segment 4 = .ok (.ifCond .eq 25, 3) := by decide +kernel
theorem dX7_segment_7 : decode cX7_segment 7 = .ok (.iload_n 2, 1) := by decide +kernel
theorem dX7_segment_8 : decode cX7_segment 8 = .ok (.iconst 0, 1) := by decide +kernel
theorem dX7_segment_9 : decode cX7_segment 9 = .ok (.aload_n 0, 1) := by decide +kernel
theorem dX7_segment_10 : decode cX7_segment 10 = .ok (.getfield 7, 3) := by decide +kernel
theorem dX7_segment_13 : decode cX7_segment 13 = .ok (.iload_n 1, 1) := by decide +kernel
theorem dX7_segment_14 : decode cX7_segment 14 = .ok (.invokestatic 147, 3) := by decide +kernel
theorem dX7_segment_17 : decode cX7_segment 17 = .ok (.iconst 1, 1) := by decide +kernel
theorem dX7_segment_18 : decode cX7_segment 18 = .ok (.isub, 1) := by decide +kernel
theorem dX7_segment_19 : decode cX7_segment 19 = .ok (.invokestatic 45, 3) := by decide +kernel
theorem dX7_segment_22 : decode cX7_segment 22 = .ok (.ifCond .eq 7, 3) := by decide +kernel
theorem dX7_segment_25 : decode cX7_segment 25 = .ok (.iconst 1, 1) := by decide +kernel
theorem dX7_segment_26 : decode cX7_segment 26 = .ok (.goto 4, 3) := by decide +kernel
theorem dX7_segment_29 : decode cX7_segment 29 = .ok (.iconst 0, 1) := by decide +kernel
theorem dX7_segment_30 : decode cX7_segment 30 = .ok (.istore 4, 2) := by decide +kernel
theorem dX7_segment_32 : decode cX7_segment 32 = .ok (.aload_n 0, 1) := by decide +kernel
theorem dX7_segment_33 : decode cX7_segment 33 = .ok (.iload 4, 2) := by decide +kernel
theorem dX7_segment_35 : decode cX7_segment 35 = .ok (.ifCond .ne 7, 3) := by decide +kernel
theorem dX7_segment_38 : decode cX7_segment 38 = .ok (.iconst 1, 1) := by decide +kernel
theorem dX7_segment_39 : decode cX7_segment 39 = .ok (.goto 17, 3) := by decide +kernel
theorem dX7_segment_42 : decode cX7_segment 42 = .ok (.iload_n 3, 1) := by decide +kernel
theorem dX7_segment_43 : decode cX7_segment 43 = .ok (.iconst 0, 1) := by decide +kernel
theorem dX7_segment_44 : decode cX7_segment 44 = .ok (.iconst 4, 1) := by decide +kernel
theorem dX7_segment_45 : decode cX7_segment 45 = .ok (.invokestatic 45, 3) := by decide +kernel
theorem dX7_segment_48 : decode cX7_segment 48 = .ok (.ifCond .eq 7, 3) := by decide +kernel
theorem dX7_segment_51 : decode cX7_segment 51 = .ok (.iconst 0, 1) := by decide +kernel
theorem dX7_segment_52 : decode cX7_segment 52 = .ok (.goto 4, 3) := by decide +kernel
theorem dX7_segment_55 : decode cX7_segment 55 = .ok (.iconst 2, 1) := by decide +kernel
theorem dX7_segment_56 : decode cX7_segment 56 = .ok (.invokevirtual 41, 3) := by decide +kernel
theorem dX7_segment_59 : decode cX7_segment 59 = .ok (.ifCond .eq 7, 3) := by decide +kernel
theorem dX7_segment_62 : decode cX7_segment 62 = .ok (.iconst 0, 1) := by decide +kernel
theorem dX7_segment_63 : decode cX7_segment 63 = .ok (.goto 18, 3) := by decide +kernel
theorem dX7_segment_66 : decode cX7_segment 66 = .ok (.aload_n 0, 1) := by decide +kernel
theorem dX7_segment_67 : decode cX7_segment 67 = .ok (.aload_n 0, 1) := by decide +kernel
theorem dX7_segment_68 : decode cX7_segment 68 = .ok (.getfield 7, 3) := by decide +kernel
theorem dX7_segment_71 : decode cX7_segment 71 = .ok (.iload_n 1, 1) := by decide +kernel
theorem dX7_segment_72 : decode cX7_segment 72 = .ok (.iload_n 2, 1) := by decide +kernel
theorem dX7_segment_73 : decode cX7_segment 73 = .ok (.invokestatic 172, 3) := by decide +kernel
theorem dX7_segment_76 : decode cX7_segment 76 = .ok (.iload_n 1, 1) := by decide +kernel
theorem dX7_segment_77 : decode cX7_segment 77 = .ok (.iload_n 3, 1) := by decide +kernel
theorem dX7_segment_78 : decode cX7_segment 78 = .ok (.invokevirtual 175, 3) := by decide +kernel
theorem dX7_segment_81 : decode cX7_segment 81 = .ok (.ireturn, 1) := by decide +kernel
theorem dX7_found_0 : decode cX7_found 0 = .ok (.iload_n 3, 1) := by decide +kernel
theorem dX7_found_1 : decode cX7_found 1 = .ok (.istore 4, 2) := by decide +kernel
theorem dX7_found_3 : decode cX7_found 3 = .ok (.iconst 0, 1) := by decide +kernel
theorem dX7_found_4 : decode cX7_found 4 = .ok (.istore 5, 2) := by decide +kernel
theorem dX7_found_6 : decode cX7_found 6 = .ok (.iload 5, 2) := by decide +kernel
theorem dX7_found_8 : decode cX7_found 8 = .ok (.aload_n 0, 1) := by decide +kernel
theorem dX7_found_9 : decode cX7_found 9 = .ok (.getfield 7, 3) := by decide +kernel
theorem dX7_found_12 : decode cX7_found 12 = .ok (.iconst 0, 1) := by decide +kernel
theorem dX7_found_13 : decode cX7_found 13 = .ok (.iaload, 1) := by decide +kernel
theorem dX7_found_14 : decode cX7_found 14 = .ok (.if_icmp .ge 55, 3) := by decide +kernel
theorem dX7_found_17 : decode cX7_found 17 = .ok (.aload_n 0, 1) := by decide +kernel
theorem dX7_found_18 : decode cX7_found 18 = .ok (.getfield 7, 3) := by decide +kernel
theorem dX7_found_21 : decode cX7_found 21 = .ok (.bipush 26, 2) := by decide +kernel
theorem dX7_found_23 : decode cX7_found 23 = .ok (.bipush 7, 2) := by decide +kernel
theorem dX7_found_25 : decode cX7_found 25 = .ok (.iload_n 1, 1) := by decide +kernel
theorem dX7_found_26 : decode cX7_found 26 = .ok (.imul, 1) := by decide +kernel
theorem dX7_found_27 : decode cX7_found 27 = .ok (.iadd, 1) := by decide +kernel
theorem dX7_found_28 : decode cX7_found 28 = .ok (.iaload, 1) := by decide +kernel
theorem dX7_found_29 : decode cX7_found 29 = .ok (.aload_n 0, 1) := by decide +kernel
theorem dX7_found_30 : decode cX7_found 30 = .ok (.getfield 7, 3) := by decide +kernel
theorem dX7_found_33 : decode cX7_found 33 = .ok (.iconst 0, 1) := by decide +kernel
theorem dX7_found_34 : decode cX7_found 34 = .ok (.iaload, 1) := by decide +kernel
theorem dX7_found_35 : decode cX7_found 35 = .ok (.if_icmp .gt 34, 3) := by decide +kernel
theorem dX7_found_38 : decode cX7_found 38 = .ok (.aload_n 0, 1) := by decide +kernel
theorem dX7_found_39 : decode cX7_found 39 = .ok (.getfield 7, 3) := by decide +kernel
theorem dX7_found_42 : decode cX7_found 42 = .ok (.iload_n 1, 1) := by decide +kernel
theorem dX7_found_43 : decode cX7_found 43 = .ok (.iload 5, 2) := by decide +kernel
theorem dX7_found_45 : decode cX7_found 45 = .ok (.iload_n 2, 1) := by decide +kernel
theorem dX7_found_46 : decode cX7_found 46 = .ok (.invokestatic 61, 3) := by decide +kernel
theorem dX7_found_49 : decode cX7_found 49 = .ok (.ifCond .eq 14, 3) := by decide +kernel
theorem dX7_found_52 : decode cX7_found 52 = .ok (.iload 4, 2) := by decide +kernel
theorem dX7_found_54 : decode cX7_found 54 = .ok (.ifCond .ne 6, 3) := by decide +kernel
theorem dX7_found_57 : decode cX7_found 57 = .ok (.iload 5, 2) := by decide +kernel
theorem dX7_found_59 : decode cX7_found 59 = .ok (.ireturn, 1) := by decide +kernel
theorem dX7_found_60 : decode cX7_found 60 = .ok (.iinc 4 (-1), 3) := by decide +kernel
theorem dX7_found_63 : decode cX7_found 63 = .ok (.iinc 5 1, 3) := by decide +kernel
theorem dX7_found_66 : decode cX7_found 66 = .ok (.goto (-60), 3) := by decide +kernel
theorem dX7_found_69 : decode cX7_found 69 = .ok (.iconst (-1), 1) := by decide +kernel
theorem dX7_found_70 : decode cX7_found 70 = .ok (.ireturn, 1) := by decide +kernel
theorem dX7_find_0 : decode cX7_find 0 = .ok (.aload_n 0, 1) := by decide +kernel
theorem dX7_find_1 : decode cX7_find 1 = .ok (.aload_n 0, 1) := by decide +kernel
theorem dX7_find_2 : decode cX7_find 2 = .ok (.iload_n 1, 1) := by decide +kernel
theorem dX7_find_3 : decode cX7_find 3 = .ok (.invokevirtual 144, 3) := by decide +kernel
theorem dX7_find_6 : decode cX7_find 6 = .ok (.ifCond .eq 10, 3) := by decide +kernel
theorem dX7_find_9 : decode cX7_find 9 = .ok (.iload_n 2, 1) := by decide +kernel
theorem dX7_find_10 : decode cX7_find 10 = .ok (.invokestatic 160, 3) := by decide +kernel
theorem dX7_find_13 : decode cX7_find 13 = .ok (.ifCond .ne 7, 3) := by decide +kernel
theorem dX7_find_16 : decode cX7_find 16 = .ok (.iconst 1, 1) := by decide +kernel
theorem dX7_find_17 : decode cX7_find 17 = .ok (.goto 12, 3) := by decide +kernel
theorem dX7_find_20 : decode cX7_find 20 = .ok (.iload_n 3, 1) := by decide +kernel
theorem dX7_find_21 : decode cX7_find 21 = .ok (.ifCond .ge 7, 3) := by decide +kernel
theorem dX7_find_24 : decode cX7_find 24 = .ok (.iconst 2, 1) := by decide +kernel
theorem dX7_find_25 : decode cX7_find 25 = .ok (.goto 4, 3) := by decide +kernel
theorem dX7_find_28 : decode cX7_find 28 = .ok (.iconst 0, 1) := by decide +kernel
theorem dX7_find_29 : decode cX7_find 29 = .ok (.invokevirtual 41, 3) := by decide +kernel
theorem dX7_find_32 : decode cX7_find 32 = .ok (.ifCond .eq 7, 3) := by decide +kernel
theorem dX7_find_35 : decode cX7_find 35 = .ok (.iconst 0, 1) := by decide +kernel
theorem dX7_find_36 : decode cX7_find 36 = .ok (.goto 10, 3) := by decide +kernel
theorem dX7_find_39 : decode cX7_find 39 = .ok (.aload_n 0, 1) := by decide +kernel
theorem dX7_find_40 : decode cX7_find 40 = .ok (.iload_n 1, 1) := by decide +kernel
theorem dX7_find_41 : decode cX7_find 41 = .ok (.iload_n 2, 1) := by decide +kernel
theorem dX7_find_42 : decode cX7_find 42 = .ok (.iload_n 3, 1) := by decide +kernel
theorem dX7_find_43 : decode cX7_find 43 = .ok (.invokevirtual 179, 3) := by decide +kernel
theorem dX7_find_46 : decode cX7_find 46 = .ok (.ireturn, 1) := by decide +kernel
theorem dX7_isWalker_0 : decode cX7_isWalker 0 = .ok (.iload_n 1, 1) := by decide +kernel
theorem dX7_isWalker_1 : decode cX7_isWalker 1 = .ok (.iconst 0, 1) := by decide +kernel
theorem dX7_isWalker_2 : decode cX7_isWalker 2 = .ok (.aload_n 0, 1) := by decide +kernel
theorem dX7_isWalker_3 : decode cX7_isWalker 3 = .ok (.getfield 7, 3) := by decide +kernel
theorem dX7_isWalker_6 : decode cX7_isWalker 6 = .ok (.bipush 96, 2) := by decide +kernel
theorem dX7_isWalker_8 : decode cX7_isWalker 8 = .ok (.iaload, 1) := by decide +kernel
theorem dX7_isWalker_9 : decode cX7_isWalker 9 = .ok (.iconst 1, 1) := by decide +kernel
theorem dX7_isWalker_10 : decode cX7_isWalker 10 = .ok (.isub, 1) := by decide +kernel
theorem dX7_isWalker_11 : decode cX7_isWalker 11 = .ok (.invokestatic 45, 3) := by decide +kernel
theorem dX7_isWalker_14 : decode cX7_isWalker 14 = .ok (.ireturn, 1) := by decide +kernel
theorem dX7_ofWalker_0 : decode cX7_ofWalker 0 = .ok (.iload_n 2, 1) := by decide +kernel
theorem dX7_ofWalker_1 : decode cX7_ofWalker 1 = .ok (.iconst 4, 1) := by decide +kernel
theorem dX7_ofWalker_2 : decode cX7_ofWalker 2 = .ok (.if_icmp .ge 15, 3) := by decide +kernel
theorem dX7_ofWalker_5 : decode cX7_ofWalker 5 = .ok (.aload_n 0, 1) := by decide +kernel
theorem dX7_ofWalker_6 : decode cX7_ofWalker 6 = .ok (.getfield 7, 3) := by decide +kernel
theorem dX7_ofWalker_9 : decode cX7_ofWalker 9 = .ok (.iload_n 1, 1) := by decide +kernel
theorem dX7_ofWalker_10 : decode cX7_ofWalker 10 = .ok (.iload_n 2, 1) := by decide +kernel
theorem dX7_ofWalker_11 : decode cX7_ofWalker 11 = .ok (.invokestatic 72, 3) := by decide +kernel
theorem dX7_ofWalker_14 : decode cX7_ofWalker 14 = .ok (.goto 42, 3) := by decide +kernel
theorem dX7_ofWalker_17 : decode cX7_ofWalker 17 = .ok (.iload_n 2, 1) := by decide +kernel
theorem dX7_ofWalker_18 : decode cX7_ofWalker 18 = .ok (.iconst 4, 1) := by decide +kernel
theorem dX7_ofWalker_19 : decode cX7_ofWalker 19 = .ok (.if_icmp .ne 18, 3) := by decide +kernel
theorem dX7_ofWalker_22 : decode cX7_ofWalker 22 = .ok (.aload_n 0, 1) := by decide +kernel
theorem dX7_ofWalker_23 : decode cX7_ofWalker 23 = .ok (.getfield 7, 3) := by decide +kernel
theorem dX7_ofWalker_26 : decode cX7_ofWalker 26 = .ok (.iload_n 1, 1) := by decide +kernel
theorem dX7_ofWalker_27 : decode cX7_ofWalker 27 = .ok (.iconst 4, 1) := by decide +kernel
theorem dX7_ofWalker_28 : decode cX7_ofWalker 28 = .ok (.invokestatic 72, 3) := by decide +kernel
theorem dX7_ofWalker_31 : decode cX7_ofWalker 31 = .ok (.invokestatic 101, 3) := by decide +kernel
theorem dX7_ofWalker_34 : decode cX7_ofWalker 34 = .ok (.goto 22, 3) := by decide +kernel
theorem dX7_ofWalker_37 : decode cX7_ofWalker 37 = .ok (.aload_n 0, 1) := by decide +kernel
theorem dX7_ofWalker_38 : decode cX7_ofWalker 38 = .ok (.getfield 7, 3) := by decide +kernel
theorem dX7_ofWalker_41 : decode cX7_ofWalker 41 = .ok (.iload_n 1, 1) := by decide +kernel
theorem dX7_ofWalker_42 : decode cX7_ofWalker 42 = .ok (.iload_n 2, 1) := by decide +kernel
theorem dX7_ofWalker_43 : decode cX7_ofWalker 43 = .ok (.bipush 6, 2) := by decide +kernel
theorem dX7_ofWalker_45 : decode cX7_ofWalker 45 = .ok (.if_icmp .ne 7, 3) := by decide +kernel
theorem dX7_ofWalker_48 : decode cX7_ofWalker 48 = .ok (.iconst 1, 1) := by decide +kernel
theorem dX7_ofWalker_49 : decode cX7_ofWalker 49 = .ok (.goto 4, 3) := by decide +kernel
theorem dX7_ofWalker_52 : decode cX7_ofWalker 52 = .ok (.iconst 0, 1) := by decide +kernel
theorem dX7_ofWalker_53 : decode cX7_ofWalker 53 = .ok (.invokestatic 83, 3) := by decide +kernel
theorem dX7_ofWalker_56 : decode cX7_ofWalker 56 = .ok (.ireturn, 1) := by decide +kernel
theorem dX7_walker_0 : decode cX7_walker 0 = .ok (.aload_n 0, 1) := by decide +kernel
theorem dX7_walker_1 : decode cX7_walker 1 = .ok (.aload_n 0, 1) := by decide +kernel
theorem dX7_walker_2 : decode cX7_walker 2 = .ok (.iload_n 1, 1) := by decide +kernel
theorem dX7_walker_3 : decode cX7_walker 3 = .ok (.invokevirtual 182, 3) := by decide +kernel
theorem dX7_walker_6 : decode cX7_walker 6 = .ok (.ifCond .ne 7, 3) := by decide +kernel
theorem dX7_walker_9 : decode cX7_walker 9 = .ok (.iconst 1, 1) := by decide +kernel
theorem dX7_walker_10 : decode cX7_walker 10 = .ok (.goto 18, 3) := by decide +kernel
theorem dX7_walker_13 : decode cX7_walker 13 = .ok (.iload_n 2, 1) := by decide +kernel
theorem dX7_walker_14 : decode cX7_walker 14 = .ok (.iconst 0, 1) := by decide +kernel
theorem dX7_walker_15 : decode cX7_walker 15 = .ok (.bipush 6, 2) := by decide +kernel
theorem dX7_walker_17 : decode cX7_walker 17 = .ok (.invokestatic 45, 3) := by decide +kernel
theorem dX7_walker_20 : decode cX7_walker 20 = .ok (.ifCond .eq 7, 3) := by decide +kernel
theorem dX7_walker_23 : decode cX7_walker 23 = .ok (.iconst 0, 1) := by decide +kernel
theorem dX7_walker_24 : decode cX7_walker 24 = .ok (.goto 4, 3) := by decide +kernel
theorem dX7_walker_27 : decode cX7_walker 27 = .ok (.iconst 2, 1) := by decide +kernel
theorem dX7_walker_28 : decode cX7_walker 28 = .ok (.invokevirtual 41, 3) := by decide +kernel
theorem dX7_walker_31 : decode cX7_walker 31 = .ok (.ifCond .eq 7, 3) := by decide +kernel
theorem dX7_walker_34 : decode cX7_walker 34 = .ok (.iconst 0, 1) := by decide +kernel
theorem dX7_walker_35 : decode cX7_walker 35 = .ok (.goto 9, 3) := by decide +kernel
theorem dX7_walker_38 : decode cX7_walker 38 = .ok (.aload_n 0, 1) := by decide +kernel
theorem dX7_walker_39 : decode cX7_walker 39 = .ok (.iload_n 1, 1) := by decide +kernel
theorem dX7_walker_40 : decode cX7_walker 40 = .ok (.iload_n 2, 1) := by decide +kernel
theorem dX7_walker_41 : decode cX7_walker 41 = .ok (.invokevirtual 185, 3) := by decide +kernel
theorem dX7_walker_44 : decode cX7_walker 44 = .ok (.ireturn, 1) := by decide +kernel
theorem dX7_ring_0 : decode cX7_ring 0 = .ok (.aload_n 0, 1) := by decide +kernel
theorem dX7_ring_1 : decode cX7_ring 1 = .ok (.aload_n 0, 1) := by decide +kernel
theorem dX7_ring_2 : decode cX7_ring 2 = .ok (.iconst 0, 1) := by decide +kernel
theorem dX7_ring_3 : decode cX7_ring 3 = .ok (.invokevirtual 108, 3) := by decide +kernel
theorem dX7_ring_6 : decode cX7_ring 6 = .ok (.iconst (-1), 1) := by decide +kernel
theorem dX7_ring_7 : decode cX7_ring 7 = .ok (.if_icmp .ne 7, 3) := by decide +kernel
theorem dX7_ring_10 : decode cX7_ring 10 = .ok (.iconst 0, 1) := by decide +kernel
theorem dX7_ring_11 : decode cX7_ring 11 = .ok (.goto 4, 3) := by decide +kernel
theorem dX7_ring_14 : decode cX7_ring 14 = .ok (.iconst 1, 1) := by decide +kernel
theorem dX7_ring_15 : decode cX7_ring 15 = .ok (.invokevirtual 41, 3) := by decide +kernel
theorem dX7_ring_18 : decode cX7_ring 18 = .ok (.ifCond .eq 5, 3) := by decide +kernel
theorem dX7_ring_21 : decode cX7_ring 21 = .ok (.iconst 0, 1) := by decide +kernel
theorem dX7_ring_22 : decode cX7_ring 22 = .ok (.ireturn, 1) := by decide +kernel
theorem dX7_ring_23 : decode cX7_ring 23 = .ok (.aload_n 0, 1) := by decide +kernel
theorem dX7_ring_24 : decode cX7_ring 24 = .ok (.invokevirtual 188, 3) := by decide +kernel
theorem dX7_ring_27 : decode cX7_ring 27 = .ok (.iconst 0, 1) := by decide +kernel
theorem dX7_ring_28 : decode cX7_ring 28 = .ok (.istore_n 1, 1) := by decide +kernel
theorem dX7_ring_29 : decode cX7_ring 29 = .ok (.iload_n 1, 1) := by decide +kernel
theorem dX7_ring_30 : decode cX7_ring 30 = .ok (.bipush 24, 2) := by decide +kernel
theorem dX7_ring_32 : decode cX7_ring 32 = .ok (.if_icmp .ge 34, 3) := by decide +kernel
theorem dX7_ring_35 : decode cX7_ring 35 = .ok (.aload_n 0, 1) := by decide +kernel
theorem dX7_ring_36 : decode cX7_ring 36 = .ok (.getfield 7, 3) := by decide +kernel
theorem dX7_ring_39 : decode cX7_ring 39 = .ok (.iconst 1, 1) := by decide +kernel
theorem dX7_ring_40 : decode cX7_ring 40 = .ok (.iload_n 1, 1) := by decide +kernel
theorem dX7_ring_41 : decode cX7_ring 41 = .ok (.iadd, 1) := by decide +kernel
theorem dX7_ring_42 : decode cX7_ring 42 = .ok (.iload_n 1, 1) := by decide +kernel
theorem dX7_ring_43 : decode cX7_ring 43 = .ok (.aload_n 0, 1) := by decide +kernel
theorem dX7_ring_44 : decode cX7_ring 44 = .ok (.getfield 105, 3) := by decide +kernel
theorem dX7_ring_47 : decode cX7_ring 47 = .ok (.if_icmp .ge 11, 3) := by decide +kernel
theorem dX7_ring_50 : decode cX7_ring 50 = .ok (.aload_n 0, 1) := by decide +kernel
theorem dX7_ring_51 : decode cX7_ring 51 = .ok (.iload_n 1, 1) := by decide +kernel
theorem dX7_ring_52 : decode cX7_ring 52 = .ok (.invokevirtual 191, 3) := by decide +kernel
theorem dX7_ring_55 : decode cX7_ring 55 = .ok (.goto 4, 3) := by decide +kernel
theorem dX7_ring_58 : decode cX7_ring 58 = .ok (.iconst 0, 1) := by decide +kernel
theorem dX7_ring_59 : decode cX7_ring 59 = .ok (.iastore, 1) := by decide +kernel
theorem dX7_ring_60 : decode cX7_ring 60 = .ok (.iinc 1 1, 3) := by decide +kernel
theorem dX7_ring_63 : decode cX7_ring 63 = .ok (.goto (-34), 3) := by decide +kernel
theorem dX7_ring_66 : decode cX7_ring 66 = .ok (.aload_n 0, 1) := by decide +kernel
theorem dX7_ring_67 : decode cX7_ring 67 = .ok (.getfield 7, 3) := by decide +kernel
theorem dX7_ring_70 : decode cX7_ring 70 = .ok (.iconst 0, 1) := by decide +kernel
theorem dX7_ring_71 : decode cX7_ring 71 = .ok (.aload_n 0, 1) := by decide +kernel
theorem dX7_ring_72 : decode cX7_ring 72 = .ok (.getfield 105, 3) := by decide +kernel
theorem dX7_ring_75 : decode cX7_ring 75 = .ok (.iastore, 1) := by decide +kernel
theorem dX7_ring_76 : decode cX7_ring 76 = .ok (.aload_n 0, 1) := by decide +kernel
theorem dX7_ring_77 : decode cX7_ring 77 = .ok (.getfield 7, 3) := by decide +kernel
theorem dX7_ring_80 : decode cX7_ring 80 = .ok (.invokestatic 97, 3) := by decide +kernel
theorem dX7_ring_83 : decode cX7_ring 83 = .ok (.aload_n 0, 1) := by decide +kernel
theorem dX7_ring_84 : decode cX7_ring 84 = .ok (.getfield 105, 3) := by decide +kernel
theorem dX7_ring_87 : decode cX7_ring 87 = .ok (.ireturn, 1) := by decide +kernel
theorem dX7_addWord_0 : decode cX7_addWord 0 = .ok (.aload_n 0, 1) := by decide +kernel
theorem dX7_addWord_1 : decode cX7_addWord 1 = .ok (.aload_n 0, 1) := by decide +kernel
theorem dX7_addWord_2 : decode cX7_addWord 2 = .ok (.iconst 1, 1) := by decide +kernel
theorem dX7_addWord_3 : decode cX7_addWord 3 = .ok (.invokevirtual 108, 3) := by decide +kernel
theorem dX7_addWord_6 : decode cX7_addWord 6 = .ok (.iconst (-1), 1) := by decide +kernel
theorem dX7_addWord_7 : decode cX7_addWord 7 = .ok (.if_icmp .ne 19, 3) := by decide +kernel
theorem dX7_addWord_10 : decode cX7_addWord 10 = .ok (.aload_n 0, 1) := by decide +kernel
theorem dX7_addWord_11 : decode cX7_addWord 11 = .ok (.getfield 7, 3) := by decide +kernel
theorem dX7_addWord_14 : decode cX7_addWord 14 = .ok (.bipush 25, 2) := by decide +kernel
theorem dX7_addWord_16 : decode cX7_addWord 16 = .ok (.iaload, 1) := by decide +kernel
theorem dX7_addWord_17 : decode cX7_addWord 17 = .ok (.bipush 10, 2) := by decide +kernel
theorem dX7_addWord_19 : decode cX7_addWord 19 = .ok (.if_icmp .ge 7, 3) := by decide +kernel
theorem dX7_addWord_22 : decode cX7_addWord 22 = .ok (.iconst 0, 1) := by decide +kernel
theorem dX7_addWord_23 : decode cX7_addWord 23 = .ok (.goto 4, 3) := by decide +kernel
theorem dX7_addWord_26 : decode cX7_addWord 26 = .ok (.iconst 1, 1) := by decide +kernel
theorem dX7_addWord_27 : decode cX7_addWord 27 = .ok (.invokevirtual 41, 3) := by decide +kernel
theorem dX7_addWord_30 : decode cX7_addWord 30 = .ok (.ifCond .eq 5, 3) := by decide +kernel
theorem dX7_addWord_33 : decode cX7_addWord 33 = .ok (.iconst 0, 1) := by decide +kernel
theorem dX7_addWord_34 : decode cX7_addWord 34 = .ok (.ireturn, 1) := by decide +kernel
theorem dX7_addWord_35 : decode cX7_addWord 35 = .ok (.aload_n 0, 1) := by decide +kernel
theorem dX7_addWord_36 : decode cX7_addWord 36 = .ok (.invokevirtual 188, 3) := by decide +kernel
theorem dX7_addWord_39 : decode cX7_addWord 39 = .ok (.bipush 26, 2) := by decide +kernel
theorem dX7_addWord_41 : decode cX7_addWord 41 = .ok (.bipush 7, 2) := by decide +kernel
theorem dX7_addWord_43 : decode cX7_addWord 43 = .ok (.aload_n 0, 1) := by decide +kernel
theorem dX7_addWord_44 : decode cX7_addWord 44 = .ok (.getfield 7, 3) := by decide +kernel
theorem dX7_addWord_47 : decode cX7_addWord 47 = .ok (.bipush 25, 2) := by decide +kernel
theorem dX7_addWord_49 : decode cX7_addWord 49 = .ok (.iaload, 1) := by decide +kernel
theorem dX7_addWord_50 : decode cX7_addWord 50 = .ok (.imul, 1) := by decide +kernel
theorem dX7_addWord_51 : decode cX7_addWord 51 = .ok (.iadd, 1) := by decide +kernel
theorem dX7_addWord_52 : decode cX7_addWord 52 = .ok (.istore_n 1, 1) := by decide +kernel
theorem dX7_addWord_53 : decode cX7_addWord 53 = .ok (.aload_n 0, 1) := by decide +kernel
theorem dX7_addWord_54 : decode cX7_addWord 54 = .ok (.getfield 7, 3) := by decide +kernel
theorem dX7_addWord_57 : decode cX7_addWord 57 = .ok (.iload_n 1, 1) := by decide +kernel
theorem dX7_addWord_58 : decode cX7_addWord 58 = .ok (.aload_n 0, 1) := by decide +kernel
theorem dX7_addWord_59 : decode cX7_addWord 59 = .ok (.getfield 105, 3) := by decide +kernel
theorem dX7_addWord_62 : decode cX7_addWord 62 = .ok (.iastore, 1) := by decide +kernel
theorem dX7_addWord_63 : decode cX7_addWord 63 = .ok (.iconst 0, 1) := by decide +kernel
theorem dX7_addWord_64 : decode cX7_addWord 64 = .ok (.istore_n 2, 1) := by decide +kernel
theorem dX7_addWord_65 : decode cX7_addWord 65 = .ok (.iload_n 2, 1) := by decide +kernel
theorem dX7_addWord_66 : decode cX7_addWord 66 = .ok (.bipush 6, 2) := by decide +kernel
theorem dX7_addWord_68 : decode cX7_addWord 68 = .ok (.if_icmp .ge 36, 3) := by decide +kernel
theorem dX7_addWord_71 : decode cX7_addWord 71 = .ok (.aload_n 0, 1) := by decide +kernel
theorem dX7_addWord_72 : decode cX7_addWord 72 = .ok (.getfield 7, 3) := by decide +kernel
theorem dX7_addWord_75 : decode cX7_addWord 75 = .ok (.iload_n 1, 1) := by decide +kernel
theorem dX7_addWord_76 : decode cX7_addWord 76 = .ok (.iconst 1, 1) := by decide +kernel
theorem dX7_addWord_77 : decode cX7_addWord 77 = .ok (.iadd, 1) := by decide +kernel
theorem dX7_addWord_78 : decode cX7_addWord 78 = .ok (.iload_n 2, 1) := by decide +kernel
theorem dX7_addWord_79 : decode cX7_addWord 79 = .ok (.iadd, 1) := by decide +kernel
theorem dX7_addWord_80 : decode cX7_addWord 80 = .ok (.iload_n 2, 1) := by decide +kernel
theorem dX7_addWord_81 : decode cX7_addWord 81 = .ok (.aload_n 0, 1) := by decide +kernel
theorem dX7_addWord_82 : decode cX7_addWord 82 = .ok (.getfield 105, 3) := by decide +kernel
theorem dX7_addWord_85 : decode cX7_addWord 85 = .ok (.if_icmp .ge 11, 3) := by decide +kernel
theorem dX7_addWord_88 : decode cX7_addWord 88 = .ok (.aload_n 0, 1) := by decide +kernel
theorem dX7_addWord_89 : decode cX7_addWord 89 = .ok (.iload_n 2, 1) := by decide +kernel
theorem dX7_addWord_90 : decode cX7_addWord 90 = .ok (.invokevirtual 191, 3) := by decide +kernel
theorem dX7_addWord_93 : decode cX7_addWord 93 = .ok (.goto 4, 3) := by decide +kernel
theorem dX7_addWord_96 : decode cX7_addWord 96 = .ok (.iconst 0, 1) := by decide +kernel
theorem dX7_addWord_97 : decode cX7_addWord 97 = .ok (.iastore, 1) := by decide +kernel
theorem dX7_addWord_98 : decode cX7_addWord 98 = .ok (.iinc 2 1, 3) := by decide +kernel
theorem dX7_addWord_101 : decode cX7_addWord 101 = .ok (.goto (-36), 3) := by decide +kernel
theorem dX7_addWord_104 : decode cX7_addWord 104 = .ok (.aload_n 0, 1) := by decide +kernel
theorem dX7_addWord_105 : decode cX7_addWord 105 = .ok (.getfield 7, 3) := by decide +kernel
theorem dX7_addWord_108 : decode cX7_addWord 108 = .ok (.bipush 25, 2) := by decide +kernel
theorem dX7_addWord_110 : decode cX7_addWord 110 = .ok (.dup2, 1) := by decide +kernel
theorem dX7_addWord_111 : decode cX7_addWord 111 = .ok (.iaload, 1) := by decide +kernel
theorem dX7_addWord_112 : decode cX7_addWord 112 = .ok (.iconst 1, 1) := by decide +kernel
theorem dX7_addWord_113 : decode cX7_addWord 113 = .ok (.iadd, 1) := by decide +kernel
theorem dX7_addWord_114 : decode cX7_addWord 114 = .ok (.iastore, 1) := by decide +kernel
theorem dX7_addWord_115 : decode cX7_addWord 115 = .ok (.aload_n 0, 1) := by decide +kernel
theorem dX7_addWord_116 : decode cX7_addWord 116 = .ok (.getfield 7, 3) := by decide +kernel
theorem dX7_addWord_119 : decode cX7_addWord 119 = .ok (.bipush 25, 2) := by decide +kernel
theorem dX7_addWord_121 : decode cX7_addWord 121 = .ok (.iaload, 1) := by decide +kernel
theorem dX7_addWord_122 : decode cX7_addWord 122 = .ok (.iconst 1, 1) := by decide +kernel
theorem dX7_addWord_123 : decode cX7_addWord 123 = .ok (.isub, 1) := by decide +kernel
theorem dX7_addWord_124 : decode cX7_addWord 124 = .ok (.ireturn, 1) := by decide +kernel
theorem dX7_removeWord_0 : decode cX7_removeWord 0 = .ok (.aload_n 0, 1) := by decide +kernel
theorem dX7_removeWord_1 : decode cX7_removeWord 1 = .ok (.aload_n 0, 1) := by decide +kernel
theorem dX7_removeWord_2 : decode cX7_removeWord 2 = .ok (.iload_n 1, 1) := by decide +kernel
theorem dX7_removeWord_3 : decode cX7_removeWord 3 = .ok (.invokevirtual 144, 3) := by decide +kernel
theorem dX7_removeWord_6 : decode cX7_removeWord 6 = .ok (.ifCond .eq 7, 3) := by decide +kernel
theorem dX7_removeWord_9 : decode cX7_removeWord 9 = .ok (.iconst 0, 1) := by decide +kernel
theorem dX7_removeWord_10 : decode cX7_removeWord 10 = .ok (.goto 4, 3) := by decide +kernel
theorem dX7_removeWord_13 : decode cX7_removeWord 13 = .ok (.iconst 1, 1) := by decide +kernel
theorem dX7_removeWord_14 : decode cX7_removeWord 14 = .ok (.invokevirtual 41, 3) := by decide +kernel
theorem dX7_removeWord_17 : decode cX7_removeWord 17 = .ok (.ifCond .eq 5, 3) := by decide +kernel
theorem dX7_removeWord_20 : decode cX7_removeWord 20 = .ok (.iconst 0, 1) := by decide +kernel
theorem dX7_removeWord_21 : decode cX7_removeWord 21 = .ok (.ireturn, 1) := by decide +kernel
theorem dX7_removeWord_22 : decode cX7_removeWord 22 = .ok (.aload_n 0, 1) := by decide +kernel
theorem dX7_removeWord_23 : decode cX7_removeWord 23 = .ok (.invokevirtual 188, 3) := by decide +kernel
theorem dX7_removeWord_26 : decode cX7_removeWord 26 = .ok (.aload_n 0, 1) := by decide +kernel
theorem dX7_removeWord_27 : decode cX7_removeWord 27 = .ok (.getfield 7, 3) := by decide +kernel
theorem dX7_removeWord_30 : decode cX7_removeWord 30 = .ok (.bipush 25, 2) := by decide +kernel
theorem dX7_removeWord_32 : decode cX7_removeWord 32 = .ok (.dup2, 1) := by decide +kernel
theorem dX7_removeWord_33 : decode cX7_removeWord 33 = .ok (.iaload, 1) := by decide +kernel
theorem dX7_removeWord_34 : decode cX7_removeWord 34 = .ok (.iconst 1, 1) := by decide +kernel
theorem dX7_removeWord_35 : decode cX7_removeWord 35 = .ok (.isub, 1) := by decide +kernel
theorem dX7_removeWord_36 : decode cX7_removeWord 36 = .ok (.iastore, 1) := by decide +kernel
theorem dX7_removeWord_37 : decode cX7_removeWord 37 = .ok (.bipush 7, 2) := by decide +kernel
theorem dX7_removeWord_39 : decode cX7_removeWord 39 = .ok (.iload_n 1, 1) := by decide +kernel
theorem dX7_removeWord_40 : decode cX7_removeWord 40 = .ok (.imul, 1) := by decide +kernel
theorem dX7_removeWord_41 : decode cX7_removeWord 41 = .ok (.istore_n 2, 1) := by decide +kernel
theorem dX7_removeWord_42 : decode cX7_removeWord 42 = .ok (.iload_n 2, 1) := by decide +kernel
theorem dX7_removeWord_43 : decode cX7_removeWord 43 = .ok (.bipush 7, 2) := by decide +kernel
theorem dX7_removeWord_45 : decode cX7_removeWord 45 = .ok (.aload_n 0, 1) := by decide +kernel
theorem dX7_removeWord_46 : decode cX7_removeWord 46 = .ok (.getfield 7, 3) := by decide +kernel
theorem dX7_removeWord_49 : decode cX7_removeWord 49 = .ok (.bipush 25, 2) := by decide +kernel
theorem dX7_removeWord_51 : decode cX7_removeWord 51 = .ok (.iaload, 1) := by decide +kernel
theorem dX7_removeWord_52 : decode cX7_removeWord 52 = .ok (.imul, 1) := by decide +kernel
theorem dX7_removeWord_53 : decode cX7_removeWord 53 = .ok (.if_icmp .ge 30, 3) := by decide +kernel
theorem dX7_removeWord_56 : decode cX7_removeWord 56 = .ok (.aload_n 0, 1) := by decide +kernel
theorem dX7_removeWord_57 : decode cX7_removeWord 57 = .ok (.getfield 7, 3) := by decide +kernel
theorem dX7_removeWord_60 : decode cX7_removeWord 60 = .ok (.bipush 26, 2) := by decide +kernel
theorem dX7_removeWord_62 : decode cX7_removeWord 62 = .ok (.iload_n 2, 1) := by decide +kernel
theorem dX7_removeWord_63 : decode cX7_removeWord 63 = .ok (.iadd, 1) := by decide +kernel
theorem dX7_removeWord_64 : decode cX7_removeWord 64 = .ok (.aload_n 0, 1) := by decide +kernel
theorem dX7_removeWord_65 : decode cX7_removeWord 65 = .ok (.getfield 7, 3) := by decide +kernel
theorem dX7_removeWord_68 : decode cX7_removeWord 68 = .ok (.bipush 26, 2) := by decide +kernel
theorem dX7_removeWord_70 : decode cX7_removeWord 70 = .ok (.iload_n 2, 1) := by decide +kernel
theorem dX7_removeWord_71 : decode cX7_removeWord 71 = .ok (.iadd, 1) := by decide +kernel
theorem dX7_removeWord_72 : decode cX7_removeWord 72 = .ok (.bipush 7, 2) := by decide +kernel
theorem dX7_removeWord_74 : decode cX7_removeWord 74 = .ok (.iadd, 1) := by decide +kernel
theorem dX7_removeWord_75 : decode cX7_removeWord 75 = .ok (.iaload, 1) := by decide +kernel
theorem dX7_removeWord_76 : decode cX7_removeWord 76 = .ok (.iastore, 1) := by decide +kernel
theorem dX7_removeWord_77 : decode cX7_removeWord 77 = .ok (.iinc 2 1, 3) := by decide +kernel
theorem dX7_removeWord_80 : decode cX7_removeWord 80 = .ok (.goto (-38), 3) := by decide +kernel
theorem dX7_removeWord_83 : decode cX7_removeWord 83 = .ok (.aload_n 0, 1) := by decide +kernel
theorem dX7_removeWord_84 : decode cX7_removeWord 84 = .ok (.getfield 7, 3) := by decide +kernel
theorem dX7_removeWord_87 : decode cX7_removeWord 87 = .ok (.bipush 25, 2) := by decide +kernel
theorem dX7_removeWord_89 : decode cX7_removeWord 89 = .ok (.iaload, 1) := by decide +kernel
theorem dX7_removeWord_90 : decode cX7_removeWord 90 = .ok (.ireturn, 1) := by decide +kernel
theorem dX7_carve_0 : decode cX7_carve 0 = .ok (.aload_n 0, 1) := by decide +kernel
theorem dX7_carve_1 : decode cX7_carve 1 = .ok (.aload_n 0, 1) := by decide +kernel
theorem dX7_carve_2 : decode cX7_carve 2 = .ok (.iload_n 1, 1) := by decide +kernel
theorem dX7_carve_3 : decode cX7_carve 3 = .ok (.invokevirtual 138, 3) := by decide +kernel
theorem dX7_carve_6 : decode cX7_carve 6 = .ok (.ifCond .ne 7, 3) := by decide +kernel
theorem dX7_carve_9 : decode cX7_carve 9 = .ok (.iconst 1, 1) := by decide +kernel
theorem dX7_carve_10 : decode cX7_carve 10 = .ok (.goto 15, 3) := by decide +kernel
theorem dX7_carve_13 : decode cX7_carve 13 = .ok (.iload_n 2, 1) := by decide +kernel
theorem dX7_carve_14 : decode cX7_carve 14 = .ok (.invokestatic 194, 3) := by decide +kernel
theorem dX7_carve_17 : decode cX7_carve 17 = .ok (.ifCond .eq 7, 3) := by decide +kernel
theorem dX7_carve_20 : decode cX7_carve 20 = .ok (.iconst 0, 1) := by decide +kernel
theorem dX7_carve_21 : decode cX7_carve 21 = .ok (.goto 4, 3) := by decide +kernel
theorem dX7_carve_24 : decode cX7_carve 24 = .ok (.iconst 2, 1) := by decide +kernel
theorem dX7_carve_25 : decode cX7_carve 25 = .ok (.invokevirtual 41, 3) := by decide +kernel
theorem dX7_carve_28 : decode cX7_carve 28 = .ok (.ifCond .eq 5, 3) := by decide +kernel
theorem dX7_carve_31 : decode cX7_carve 31 = .ok (.iconst 0, 1) := by decide +kernel
theorem dX7_carve_32 : decode cX7_carve 32 = .ok (.ireturn, 1) := by decide +kernel
theorem dX7_carve_33 : decode cX7_carve 33 = .ok (.aload_n 0, 1) := by decide +kernel
theorem dX7_carve_34 : decode cX7_carve 34 = .ok (.invokevirtual 188, 3) := by decide +kernel
theorem dX7_carve_37 : decode cX7_carve 37 = .ok (.aload_n 0, 1) := by decide +kernel
theorem dX7_carve_38 : decode cX7_carve 38 = .ok (.getfield 7, 3) := by decide +kernel
theorem dX7_carve_41 : decode cX7_carve 41 = .ok (.iload_n 1, 1) := by decide +kernel
theorem dX7_carve_42 : decode cX7_carve 42 = .ok (.iload_n 2, 1) := by decide +kernel
theorem dX7_carve_43 : decode cX7_carve 43 = .ok (.invokestatic 197, 3) := by decide +kernel
theorem dX7_carve_46 : decode cX7_carve 46 = .ok (.invokestatic 141, 3) := by decide +kernel
theorem dX7_carve_49 : decode cX7_carve 49 = .ok (.ireturn, 1) := by decide +kernel
theorem dX7_wear_0 : decode cX7_wear 0 = .ok (.aload_n 0, 1) := by decide +kernel
theorem dX7_wear_1 : decode cX7_wear 1 = .ok (.aload_n 0, 1) := by decide +kernel
theorem dX7_wear_2 : decode cX7_wear 2 = .ok (.iload_n 1, 1) := by decide +kernel
theorem dX7_wear_3 : decode cX7_wear 3 = .ok (.invokevirtual 138, 3) := by decide +kernel
theorem dX7_wear_6 : decode cX7_wear 6 = .ok (.ifCond .eq 7, 3) := by decide +kernel
theorem dX7_wear_9 : decode cX7_wear 9 = .ok (.iconst 0, 1) := by decide +kernel
theorem dX7_wear_10 : decode cX7_wear 10 = .ok (.goto 4, 3) := by decide +kernel
theorem dX7_wear_13 : decode cX7_wear 13 = .ok (.iconst 1, 1) := by decide +kernel
theorem dX7_wear_14 : decode cX7_wear 14 = .ok (.invokevirtual 41, 3) := by decide +kernel
theorem dX7_wear_17 : decode cX7_wear 17 = .ok (.ifCond .eq 5, 3) := by decide +kernel
theorem dX7_wear_20 : decode cX7_wear 20 = .ok (.iconst 0, 1) := by decide +kernel
theorem dX7_wear_21 : decode cX7_wear 21 = .ok (.ireturn, 1) := by decide +kernel
theorem dX7_wear_22 : decode cX7_wear 22 = .ok (.aload_n 0, 1) := by decide +kernel
theorem dX7_wear_23 : decode cX7_wear 23 = .ok (.invokevirtual 188, 3) := by decide +kernel
theorem dX7_wear_26 : decode cX7_wear 26 = .ok (.aload_n 0, 1) := by decide +kernel
theorem dX7_wear_27 : decode cX7_wear 27 = .ok (.getfield 7, 3) := by decide +kernel
theorem dX7_wear_30 : decode cX7_wear 30 = .ok (.iload_n 1, 1) := by decide +kernel
theorem dX7_wear_31 : decode cX7_wear 31 = .ok (.invokestatic 200, 3) := by decide +kernel
theorem dX7_wear_34 : decode cX7_wear 34 = .ok (.ireturn, 1) := by decide +kernel
theorem dX7_insert_0 : decode cX7_insert 0 = .ok (.aload_n 0, 1) := by decide +kernel
theorem dX7_insert_1 : decode cX7_insert 1 = .ok (.iload_n 1, 1) := by decide +kernel
theorem dX7_insert_2 : decode cX7_insert 2 = .ok (.iconst 0, 1) := by decide +kernel
theorem dX7_insert_3 : decode cX7_insert 3 = .ok (.aload_n 0, 1) := by decide +kernel
theorem dX7_insert_4 : decode cX7_insert 4 = .ok (.getfield 7, 3) := by decide +kernel
theorem dX7_insert_7 : decode cX7_insert 7 = .ok (.iconst 0, 1) := by decide +kernel
theorem dX7_insert_8 : decode cX7_insert 8 = .ok (.iaload, 1) := by decide +kernel
theorem dX7_insert_9 : decode cX7_insert 9 = .ok (.invokestatic 45, 3) := by decide +kernel
theorem dX7_insert_12 : decode cX7_insert 12 = .ok (.ifCond .ne 7, 3) := by decide +kernel
theorem dX7_insert_15 : decode cX7_insert 15 = .ok (.iconst 1, 1) := by decide +kernel
theorem dX7_insert_16 : decode cX7_insert 16 = .ok (.goto 30, 3) := by decide +kernel
theorem dX7_insert_19 : decode cX7_insert 19 = .ok (.iload_n 2, 1) := by decide +kernel
theorem dX7_insert_20 : decode cX7_insert 20 = .ok (.invokestatic 194, 3) := by decide +kernel
theorem dX7_insert_23 : decode cX7_insert 23 = .ok (.ifCond .ne 7, 3) := by decide +kernel
theorem dX7_insert_26 : decode cX7_insert 26 = .ok (.iconst 2, 1) := by decide +kernel
theorem dX7_insert_27 : decode cX7_insert 27 = .ok (.goto 19, 3) := by decide +kernel
theorem dX7_insert_30 : decode cX7_insert 30 = .ok (.aload_n 0, 1) := by decide +kernel
theorem dX7_insert_31 : decode cX7_insert 31 = .ok (.getfield 7, 3) := by decide +kernel
theorem dX7_insert_34 : decode cX7_insert 34 = .ok (.iconst 0, 1) := by decide +kernel
theorem dX7_insert_35 : decode cX7_insert 35 = .ok (.iaload, 1) := by decide +kernel
theorem dX7_insert_36 : decode cX7_insert 36 = .ok (.bipush 24, 2) := by decide +kernel
theorem dX7_insert_38 : decode cX7_insert 38 = .ok (.if_icmp .ne 7, 3) := by decide +kernel
theorem dX7_insert_41 : decode cX7_insert 41 = .ok (.iconst 3, 1) := by decide +kernel
theorem dX7_insert_42 : decode cX7_insert 42 = .ok (.goto 4, 3) := by decide +kernel
theorem dX7_insert_45 : decode cX7_insert 45 = .ok (.iconst 0, 1) := by decide +kernel
theorem dX7_insert_46 : decode cX7_insert 46 = .ok (.invokevirtual 41, 3) := by decide +kernel
theorem dX7_insert_49 : decode cX7_insert 49 = .ok (.ifCond .eq 5, 3) := by decide +kernel
theorem dX7_insert_52 : decode cX7_insert 52 = .ok (.iconst 0, 1) := by decide +kernel
theorem dX7_insert_53 : decode cX7_insert 53 = .ok (.ireturn, 1) := by decide +kernel
theorem dX7_insert_54 : decode cX7_insert 54 = .ok (.aload_n 0, 1) := by decide +kernel
theorem dX7_insert_55 : decode cX7_insert 55 = .ok (.invokevirtual 188, 3) := by decide +kernel
theorem dX7_insert_58 : decode cX7_insert 58 = .ok (.aload_n 0, 1) := by decide +kernel
theorem dX7_insert_59 : decode cX7_insert 59 = .ok (.getfield 7, 3) := by decide +kernel
theorem dX7_insert_62 : decode cX7_insert 62 = .ok (.iload_n 1, 1) := by decide +kernel
theorem dX7_insert_63 : decode cX7_insert 63 = .ok (.iload_n 2, 1) := by decide +kernel
theorem dX7_insert_64 : decode cX7_insert 64 = .ok (.invokestatic 203, 3) := by decide +kernel
theorem dX7_insert_67 : decode cX7_insert 67 = .ok (.ireturn, 1) := by decide +kernel
theorem dX7_erase_0 : decode cX7_erase 0 = .ok (.aload_n 0, 1) := by decide +kernel
theorem dX7_erase_1 : decode cX7_erase 1 = .ok (.aload_n 0, 1) := by decide +kernel
theorem dX7_erase_2 : decode cX7_erase 2 = .ok (.iload_n 1, 1) := by decide +kernel
theorem dX7_erase_3 : decode cX7_erase 3 = .ok (.invokevirtual 138, 3) := by decide +kernel
theorem dX7_erase_6 : decode cX7_erase 6 = .ok (.ifCond .eq 7, 3) := by decide +kernel
theorem dX7_erase_9 : decode cX7_erase 9 = .ok (.iconst 0, 1) := by decide +kernel
theorem dX7_erase_10 : decode cX7_erase 10 = .ok (.goto 4, 3) := by decide +kernel
theorem dX7_erase_13 : decode cX7_erase 13 = .ok (.iconst 1, 1) := by decide +kernel
theorem dX7_erase_14 : decode cX7_erase 14 = .ok (.invokevirtual 41, 3) := by decide +kernel
theorem dX7_erase_17 : decode cX7_erase 17 = .ok (.ifCond .eq 5, 3) := by decide +kernel
theorem dX7_erase_20 : decode cX7_erase 20 = .ok (.iconst 0, 1) := by decide +kernel
theorem dX7_erase_21 : decode cX7_erase 21 = .ok (.ireturn, 1) := by decide +kernel
theorem dX7_erase_22 : decode cX7_erase 22 = .ok (.aload_n 0, 1) := by decide +kernel
theorem dX7_erase_23 : decode cX7_erase 23 = .ok (.invokevirtual 188, 3) := by decide +kernel
theorem dX7_erase_26 : decode cX7_erase 26 = .ok (.aload_n 0, 1) := by decide +kernel
theorem dX7_erase_27 : decode cX7_erase 27 = .ok (.getfield 7, 3) := by decide +kernel
theorem dX7_erase_30 : decode cX7_erase 30 = .ok (.iload_n 1, 1) := by decide +kernel
theorem dX7_erase_31 : decode cX7_erase 31 = .ok (.invokestatic 206, 3) := by decide +kernel
theorem dX7_erase_34 : decode cX7_erase 34 = .ok (.ireturn, 1) := by decide +kernel
theorem dX7_addWalker_0 : decode cX7_addWalker 0 = .ok (.iload_n 3, 1) := by decide +kernel
theorem dX7_addWalker_1 : decode cX7_addWalker 1 = .ok (.iconst 1, 1) := by decide +kernel
theorem dX7_addWalker_2 : decode cX7_addWalker 2 = .ok (.iconst 3, 1) := by decide +kernel
theorem dX7_addWalker_3 : decode cX7_addWalker 3 = .ok (.invokestatic 45, 3) := by decide +kernel
theorem dX7_addWalker_6 : decode cX7_addWalker 6 = .ok (.ifCond .eq 17, 3) := by decide +kernel
theorem dX7_addWalker_9 : decode cX7_addWalker 9 = .ok (.iload 4, 2) := by decide +kernel
theorem dX7_addWalker_11 : decode cX7_addWalker 11 = .ok (.iconst 1, 1) := by decide +kernel
theorem dX7_addWalker_12 : decode cX7_addWalker 12 = .ok (.iconst 5, 1) := by decide +kernel
theorem dX7_addWalker_13 : decode cX7_addWalker 13 = .ok (.invokestatic 45, 3) := by decide +kernel
theorem dX7_addWalker_16 : decode cX7_addWalker 16 = .ok (.ifCond .eq 7, 3) := by decide +kernel
theorem dX7_addWalker_19 : decode cX7_addWalker 19 = .ok (.iconst 1, 1) := by decide +kernel
theorem dX7_addWalker_20 : decode cX7_addWalker 20 = .ok (.goto 4, 3) := by decide +kernel
theorem dX7_addWalker_23 : decode cX7_addWalker 23 = .ok (.iconst 0, 1) := by decide +kernel
theorem dX7_addWalker_24 : decode cX7_addWalker 24 = .ok (.istore 5, 2) := by decide +kernel
theorem dX7_addWalker_26 : decode cX7_addWalker 26 = .ok (.aload_n 0, 1) := by decide +kernel
theorem dX7_addWalker_27 : decode cX7_addWalker 27 = .ok (.aload_n 0, 1) := by decide +kernel
theorem dX7_addWalker_28 : decode cX7_addWalker 28 = .ok (.iload_n 1, 1) := by decide +kernel
theorem dX7_addWalker_29 : decode cX7_addWalker 29 = .ok (.invokevirtual 138, 3) := by decide +kernel
theorem dX7_addWalker_32 : decode cX7_addWalker 32 = .ok (.ifCond .eq 10, 3) := by decide +kernel
theorem dX7_addWalker_35 : decode cX7_addWalker 35 = .ok (.iload_n 2, 1) := by decide +kernel
theorem dX7_addWalker_36 : decode cX7_addWalker 36 = .ok (.invokestatic 160, 3) := by decide +kernel
theorem dX7_addWalker_39 : decode cX7_addWalker 39 = .ok (.ifCond .ne 7, 3) := by decide +kernel
theorem dX7_addWalker_42 : decode cX7_addWalker 42 = .ok (.iconst 1, 1) := by decide +kernel
theorem dX7_addWalker_43 : decode cX7_addWalker 43 = .ok (.goto 28, 3) := by decide +kernel
theorem dX7_addWalker_46 : decode cX7_addWalker 46 = .ok (.iload 5, 2) := by decide +kernel
theorem dX7_addWalker_48 : decode cX7_addWalker 48 = .ok (.ifCond .ne 7, 3) := by decide +kernel
theorem dX7_addWalker_51 : decode cX7_addWalker 51 = .ok (.iconst 2, 1) := by decide +kernel
theorem dX7_addWalker_52 : decode cX7_addWalker 52 = .ok (.goto 19, 3) := by decide +kernel
theorem dX7_addWalker_55 : decode cX7_addWalker 55 = .ok (.aload_n 0, 1) := by decide +kernel
theorem dX7_addWalker_56 : decode cX7_addWalker 56 = .ok (.getfield 7, 3) := by decide +kernel
theorem dX7_addWalker_59 : decode cX7_addWalker 59 = .ok (.bipush 96, 2) := by decide +kernel
theorem dX7_addWalker_61 : decode cX7_addWalker 61 = .ok (.iaload, 1) := by decide +kernel
theorem dX7_addWalker_62 : decode cX7_addWalker 62 = .ok (.iconst 4, 1) := by decide +kernel
theorem dX7_addWalker_63 : decode cX7_addWalker 63 = .ok (.if_icmp .ne 7, 3) := by decide +kernel
theorem dX7_addWalker_66 : decode cX7_addWalker 66 = .ok (.iconst 3, 1) := by decide +kernel
theorem dX7_addWalker_67 : decode cX7_addWalker 67 = .ok (.goto 4, 3) := by decide +kernel
theorem dX7_addWalker_70 : decode cX7_addWalker 70 = .ok (.iconst 0, 1) := by decide +kernel
theorem dX7_addWalker_71 : decode cX7_addWalker 71 = .ok (.invokevirtual 41, 3) := by decide +kernel
theorem dX7_addWalker_74 : decode cX7_addWalker 74 = .ok (.ifCond .eq 5, 3) := by decide +kernel
theorem dX7_addWalker_77 : decode cX7_addWalker 77 = .ok (.iconst 0, 1) := by decide +kernel
theorem dX7_addWalker_78 : decode cX7_addWalker 78 = .ok (.ireturn, 1) := by decide +kernel
theorem dX7_addWalker_79 : decode cX7_addWalker 79 = .ok (.aload_n 0, 1) := by decide +kernel
theorem dX7_addWalker_80 : decode cX7_addWalker 80 = .ok (.invokevirtual 188, 3) := by decide +kernel
theorem dX7_addWalker_83 : decode cX7_addWalker 83 = .ok (.aload_n 0, 1) := by decide +kernel
theorem dX7_addWalker_84 : decode cX7_addWalker 84 = .ok (.getfield 7, 3) := by decide +kernel
theorem dX7_addWalker_87 : decode cX7_addWalker 87 = .ok (.iload_n 1, 1) := by decide +kernel
theorem dX7_addWalker_88 : decode cX7_addWalker 88 = .ok (.iload_n 2, 1) := by decide +kernel
theorem dX7_addWalker_89 : decode cX7_addWalker 89 = .ok (.iload_n 3, 1) := by decide +kernel
theorem dX7_addWalker_90 : decode cX7_addWalker 90 = .ok (.iload 4, 2) := by decide +kernel
theorem dX7_addWalker_92 : decode cX7_addWalker 92 = .ok (.invokestatic 209, 3) := by decide +kernel
theorem dX7_addWalker_95 : decode cX7_addWalker 95 = .ok (.ireturn, 1) := by decide +kernel
theorem dX7_turn_0 : decode cX7_turn 0 = .ok (.aload_n 0, 1) := by decide +kernel
theorem dX7_turn_1 : decode cX7_turn 1 = .ok (.aload_n 0, 1) := by decide +kernel
theorem dX7_turn_2 : decode cX7_turn 2 = .ok (.iload_n 1, 1) := by decide +kernel
theorem dX7_turn_3 : decode cX7_turn 3 = .ok (.invokevirtual 182, 3) := by decide +kernel
theorem dX7_turn_6 : decode cX7_turn 6 = .ok (.ifCond .eq 7, 3) := by decide +kernel
theorem dX7_turn_9 : decode cX7_turn 9 = .ok (.iconst 0, 1) := by decide +kernel
theorem dX7_turn_10 : decode cX7_turn 10 = .ok (.goto 4, 3) := by decide +kernel
theorem dX7_turn_13 : decode cX7_turn 13 = .ok (.iconst 1, 1) := by decide +kernel
theorem dX7_turn_14 : decode cX7_turn 14 = .ok (.invokevirtual 41, 3) := by decide +kernel
theorem dX7_turn_17 : decode cX7_turn 17 = .ok (.ifCond .eq 5, 3) := by decide +kernel
theorem dX7_turn_20 : decode cX7_turn 20 = .ok (.iconst 0, 1) := by decide +kernel
theorem dX7_turn_21 : decode cX7_turn 21 = .ok (.ireturn, 1) := by decide +kernel
theorem dX7_turn_22 : decode cX7_turn 22 = .ok (.aload_n 0, 1) := by decide +kernel
theorem dX7_turn_23 : decode cX7_turn 23 = .ok (.invokevirtual 188, 3) := by decide +kernel
theorem dX7_turn_26 : decode cX7_turn 26 = .ok (.aload_n 0, 1) := by decide +kernel
theorem dX7_turn_27 : decode cX7_turn 27 = .ok (.getfield 7, 3) := by decide +kernel
theorem dX7_turn_30 : decode cX7_turn 30 = .ok (.iload_n 1, 1) := by decide +kernel
theorem dX7_turn_31 : decode cX7_turn 31 = .ok (.invokestatic 213, 3) := by decide +kernel
theorem dX7_turn_34 : decode cX7_turn 34 = .ok (.ireturn, 1) := by decide +kernel
theorem dX7_go_0 : decode cX7_go 0 = .ok (.aload_n 0, 1) := by decide +kernel
theorem dX7_go_1 : decode cX7_go 1 = .ok (.iload_n 1, 1) := by decide +kernel
theorem dX7_go_2 : decode cX7_go 2 = .ok (.iconst 1, 1) := by decide +kernel
theorem dX7_go_3 : decode cX7_go 3 = .ok (.bipush 50, 2) := by decide +kernel
theorem dX7_go_5 : decode cX7_go 5 = .ok (.invokestatic 45, 3) := by decide +kernel
theorem dX7_go_8 : decode cX7_go 8 = .ok (.ifCond .eq 7, 3) := by decide +kernel
theorem dX7_go_11 : decode cX7_go 11 = .ok (.iconst 0, 1) := by decide +kernel
theorem dX7_go_12 : decode cX7_go 12 = .ok (.goto 4, 3) := by decide +kernel
theorem dX7_go_15 : decode cX7_go 15 = .ok (.iconst 1, 1) := by decide +kernel
theorem dX7_go_16 : decode cX7_go 16 = .ok (.invokevirtual 41, 3) := by decide +kernel
theorem dX7_go_19 : decode cX7_go 19 = .ok (.ifCond .eq 5, 3) := by decide +kernel
theorem dX7_go_22 : decode cX7_go 22 = .ok (.iconst 0, 1) := by decide +kernel
theorem dX7_go_23 : decode cX7_go 23 = .ok (.ireturn, 1) := by decide +kernel
theorem dX7_go_24 : decode cX7_go 24 = .ok (.aload_n 0, 1) := by decide +kernel
theorem dX7_go_25 : decode cX7_go 25 = .ok (.invokevirtual 188, 3) := by decide +kernel
theorem dX7_go_28 : decode cX7_go 28 = .ok (.aload_n 0, 1) := by decide +kernel
theorem dX7_go_29 : decode cX7_go 29 = .ok (.getfield 7, 3) := by decide +kernel
theorem dX7_go_32 : decode cX7_go 32 = .ok (.iload_n 1, 1) := by decide +kernel
theorem dX7_go_33 : decode cX7_go 33 = .ok (.invokestatic 216, 3) := by decide +kernel
theorem dX7_go_36 : decode cX7_go 36 = .ok (.ireturn, 1) := by decide +kernel
theorem dX7_meets_0 : decode cX7_meets 0 = .ok (.aload_n 0, 1) := by decide +kernel
theorem dX7_meets_1 : decode cX7_meets 1 = .ok (.getfield 7, 3) := by decide +kernel
theorem dX7_meets_4 : decode cX7_meets 4 = .ok (.iconst 0, 1) := by decide +kernel
theorem dX7_meets_5 : decode cX7_meets 5 = .ok (.aload_n 0, 1) := by decide +kernel
theorem dX7_meets_6 : decode cX7_meets 6 = .ok (.getfield 13, 3) := by decide +kernel
theorem dX7_meets_9 : decode cX7_meets 9 = .ok (.iconst 0, 1) := by decide +kernel
theorem dX7_meets_10 : decode cX7_meets 10 = .ok (.invokestatic 37, 3) := by decide +kernel
theorem dX7_meets_13 : decode cX7_meets 13 = .ok (.iconst 0, 1) := by decide +kernel
theorem dX7_meets_14 : decode cX7_meets 14 = .ok (.istore_n 3, 1) := by decide +kernel
theorem dX7_meets_15 : decode cX7_meets 15 = .ok (.iload_n 3, 1) := by decide +kernel
theorem dX7_meets_16 : decode cX7_meets 16 = .ok (.bipush 24, 2) := by decide +kernel
theorem dX7_meets_18 : decode cX7_meets 18 = .ok (.if_icmp .gt 48, 3) := by decide +kernel
theorem dX7_meets_21 : decode cX7_meets 21 = .ok (.aload_n 0, 1) := by decide +kernel
theorem dX7_meets_22 : decode cX7_meets 22 = .ok (.getfield 13, 3) := by decide +kernel
theorem dX7_meets_25 : decode cX7_meets 25 = .ok (.iload_n 1, 1) := by decide +kernel
theorem dX7_meets_26 : decode cX7_meets 26 = .ok (.iconst 0, 1) := by decide +kernel
theorem dX7_meets_27 : decode cX7_meets 27 = .ok (.invokestatic 72, 3) := by decide +kernel
theorem dX7_meets_30 : decode cX7_meets 30 = .ok (.aload_n 0, 1) := by decide +kernel
theorem dX7_meets_31 : decode cX7_meets 31 = .ok (.getfield 13, 3) := by decide +kernel
theorem dX7_meets_34 : decode cX7_meets 34 = .ok (.iload_n 2, 1) := by decide +kernel
theorem dX7_meets_35 : decode cX7_meets 35 = .ok (.iconst 0, 1) := by decide +kernel
theorem dX7_meets_36 : decode cX7_meets 36 = .ok (.invokestatic 72, 3) := by decide +kernel
theorem dX7_meets_39 : decode cX7_meets 39 = .ok (.if_icmp .ne 5, 3) := by decide +kernel
theorem dX7_meets_42 : decode cX7_meets 42 = .ok (.iload_n 3, 1) := by decide +kernel
theorem dX7_meets_43 : decode cX7_meets 43 = .ok (.ireturn, 1) := by decide +kernel
theorem dX7_meets_44 : decode cX7_meets 44 = .ok (.aload_n 0, 1) := by decide +kernel
theorem dX7_meets_45 : decode cX7_meets 45 = .ok (.getfield 13, 3) := by decide +kernel
theorem dX7_meets_48 : decode cX7_meets 48 = .ok (.iload_n 1, 1) := by decide +kernel
theorem dX7_meets_49 : decode cX7_meets 49 = .ok (.invokestatic 87, 3) := by decide +kernel
theorem dX7_meets_52 : decode cX7_meets 52 = .ok (.aload_n 0, 1) := by decide +kernel
theorem dX7_meets_53 : decode cX7_meets 53 = .ok (.getfield 13, 3) := by decide +kernel
theorem dX7_meets_56 : decode cX7_meets 56 = .ok (.iload_n 2, 1) := by decide +kernel
theorem dX7_meets_57 : decode cX7_meets 57 = .ok (.invokestatic 87, 3) := by decide +kernel
theorem dX7_meets_60 : decode cX7_meets 60 = .ok (.iinc 3 1, 3) := by decide +kernel
theorem dX7_meets_63 : decode cX7_meets 63 = .ok (.goto (-48), 3) := by decide +kernel
theorem dX7_meets_66 : decode cX7_meets 66 = .ok (.iconst (-1), 1) := by decide +kernel
theorem dX7_meets_67 : decode cX7_meets 67 = .ok (.ireturn, 1) := by decide +kernel
theorem dX7_meet_0 : decode cX7_meet 0 = .ok (.aload_n 0, 1) := by decide +kernel
theorem dX7_meet_1 : decode cX7_meet 1 = .ok (.aload_n 0, 1) := by decide +kernel
theorem dX7_meet_2 : decode cX7_meet 2 = .ok (.iload_n 1, 1) := by decide +kernel
theorem dX7_meet_3 : decode cX7_meet 3 = .ok (.invokevirtual 182, 3) := by decide +kernel
theorem dX7_meet_6 : decode cX7_meet 6 = .ok (.ifCond .eq 11, 3) := by decide +kernel
theorem dX7_meet_9 : decode cX7_meet 9 = .ok (.aload_n 0, 1) := by decide +kernel
theorem dX7_meet_10 : decode cX7_meet 10 = .ok (.iload_n 2, 1) := by decide +kernel
theorem dX7_meet_11 : decode cX7_meet 11 = .ok (.invokevirtual 182, 3) := by decide +kernel
theorem dX7_meet_14 : decode cX7_meet 14 = .ok (.ifCond .ne 7, 3) := by decide +kernel
theorem dX7_meet_17 : decode cX7_meet 17 = .ok (.iconst 1, 1) := by decide +kernel
theorem dX7_meet_18 : decode cX7_meet 18 = .ok (.goto 13, 3) := by decide +kernel
theorem dX7_meet_21 : decode cX7_meet 21 = .ok (.iload_n 1, 1) := by decide +kernel
theorem dX7_meet_22 : decode cX7_meet 22 = .ok (.iload_n 2, 1) := by decide +kernel
theorem dX7_meet_23 : decode cX7_meet 23 = .ok (.if_icmp .ne 7, 3) := by decide +kernel
theorem dX7_meet_26 : decode cX7_meet 26 = .ok (.iconst 2, 1) := by decide +kernel
theorem dX7_meet_27 : decode cX7_meet 27 = .ok (.goto 4, 3) := by decide +kernel
theorem dX7_meet_30 : decode cX7_meet 30 = .ok (.iconst 0, 1) := by decide +kernel
theorem dX7_meet_31 : decode cX7_meet 31 = .ok (.invokevirtual 41, 3) := by decide +kernel
theorem dX7_meet_34 : decode cX7_meet 34 = .ok (.ifCond .eq 7, 3) := by decide +kernel
theorem dX7_meet_37 : decode cX7_meet 37 = .ok (.iconst 0, 1) := by decide +kernel
theorem dX7_meet_38 : decode cX7_meet 38 = .ok (.goto 9, 3) := by decide +kernel
theorem dX7_meet_41 : decode cX7_meet 41 = .ok (.aload_n 0, 1) := by decide +kernel
theorem dX7_meet_42 : decode cX7_meet 42 = .ok (.iload_n 1, 1) := by decide +kernel
theorem dX7_meet_43 : decode cX7_meet 43 = .ok (.iload_n 2, 1) := by decide +kernel
theorem dX7_meet_44 : decode cX7_meet 44 = .ok (.invokevirtual 219, 3) := by decide +kernel
theorem dX7_meet_47 : decode cX7_meet 47 = .ok (.ireturn, 1) := by decide +kernel
theorem dX7_seesIn_0 : decode cX7_seesIn 0 = .ok (.aload_n 0, 1) := by decide +kernel
theorem dX7_seesIn_1 : decode cX7_seesIn 1 = .ok (.getfield 7, 3) := by decide +kernel
theorem dX7_seesIn_4 : decode cX7_seesIn 4 = .ok (.iconst 0, 1) := by decide +kernel
theorem dX7_seesIn_5 : decode cX7_seesIn 5 = .ok (.aload_n 0, 1) := by decide +kernel
theorem dX7_seesIn_6 : decode cX7_seesIn 6 = .ok (.getfield 13, 3) := by decide +kernel
theorem dX7_seesIn_9 : decode cX7_seesIn 9 = .ok (.iconst 0, 1) := by decide +kernel
theorem dX7_seesIn_10 : decode cX7_seesIn 10 = .ok (.invokestatic 37, 3) := by decide +kernel
theorem dX7_seesIn_13 : decode cX7_seesIn 13 = .ok (.iconst 0, 1) := by decide +kernel
theorem dX7_seesIn_14 : decode cX7_seesIn 14 = .ok (.istore_n 2, 1) := by decide +kernel
theorem dX7_seesIn_15 : decode cX7_seesIn 15 = .ok (.iload_n 2, 1) := by decide +kernel
theorem dX7_seesIn_16 : decode cX7_seesIn 16 = .ok (.bipush 24, 2) := by decide +kernel
theorem dX7_seesIn_18 : decode cX7_seesIn 18 = .ok (.if_icmp .gt 40, 3) := by decide +kernel
theorem dX7_seesIn_21 : decode cX7_seesIn 21 = .ok (.aload_n 0, 1) := by decide +kernel
theorem dX7_seesIn_22 : decode cX7_seesIn 22 = .ok (.getfield 13, 3) := by decide +kernel
theorem dX7_seesIn_25 : decode cX7_seesIn 25 = .ok (.iload_n 1, 1) := by decide +kernel
theorem dX7_seesIn_26 : decode cX7_seesIn 26 = .ok (.iconst 4, 1) := by decide +kernel
theorem dX7_seesIn_27 : decode cX7_seesIn 27 = .ok (.invokestatic 72, 3) := by decide +kernel
theorem dX7_seesIn_30 : decode cX7_seesIn 30 = .ok (.invokestatic 101, 3) := by decide +kernel
theorem dX7_seesIn_33 : decode cX7_seesIn 33 = .ok (.aload_n 0, 1) := by decide +kernel
theorem dX7_seesIn_34 : decode cX7_seesIn 34 = .ok (.getfield 13, 3) := by decide +kernel
theorem dX7_seesIn_37 : decode cX7_seesIn 37 = .ok (.iconst 0, 1) := by decide +kernel
theorem dX7_seesIn_38 : decode cX7_seesIn 38 = .ok (.iaload, 1) := by decide +kernel
theorem dX7_seesIn_39 : decode cX7_seesIn 39 = .ok (.if_icmp .ne 5, 3) := by decide +kernel
theorem dX7_seesIn_42 : decode cX7_seesIn 42 = .ok (.iload_n 2, 1) := by decide +kernel
theorem dX7_seesIn_43 : decode cX7_seesIn 43 = .ok (.ireturn, 1) := by decide +kernel
theorem dX7_seesIn_44 : decode cX7_seesIn 44 = .ok (.aload_n 0, 1) := by decide +kernel
theorem dX7_seesIn_45 : decode cX7_seesIn 45 = .ok (.getfield 13, 3) := by decide +kernel
theorem dX7_seesIn_48 : decode cX7_seesIn 48 = .ok (.iload_n 1, 1) := by decide +kernel
theorem dX7_seesIn_49 : decode cX7_seesIn 49 = .ok (.invokestatic 87, 3) := by decide +kernel
theorem dX7_seesIn_52 : decode cX7_seesIn 52 = .ok (.iinc 2 1, 3) := by decide +kernel
theorem dX7_seesIn_55 : decode cX7_seesIn 55 = .ok (.goto (-40), 3) := by decide +kernel
theorem dX7_seesIn_58 : decode cX7_seesIn 58 = .ok (.iconst (-1), 1) := by decide +kernel
theorem dX7_seesIn_59 : decode cX7_seesIn 59 = .ok (.ireturn, 1) := by decide +kernel
theorem dX7_seesAll_0 : decode cX7_seesAll 0 = .ok (.aload_n 0, 1) := by decide +kernel
theorem dX7_seesAll_1 : decode cX7_seesAll 1 = .ok (.aload_n 0, 1) := by decide +kernel
theorem dX7_seesAll_2 : decode cX7_seesAll 2 = .ok (.iload_n 1, 1) := by decide +kernel
theorem dX7_seesAll_3 : decode cX7_seesAll 3 = .ok (.invokevirtual 182, 3) := by decide +kernel
theorem dX7_seesAll_6 : decode cX7_seesAll 6 = .ok (.ifCond .eq 7, 3) := by decide +kernel
theorem dX7_seesAll_9 : decode cX7_seesAll 9 = .ok (.iconst 0, 1) := by decide +kernel
theorem dX7_seesAll_10 : decode cX7_seesAll 10 = .ok (.goto 4, 3) := by decide +kernel
theorem dX7_seesAll_13 : decode cX7_seesAll 13 = .ok (.iconst 1, 1) := by decide +kernel
theorem dX7_seesAll_14 : decode cX7_seesAll 14 = .ok (.invokevirtual 41, 3) := by decide +kernel
theorem dX7_seesAll_17 : decode cX7_seesAll 17 = .ok (.ifCond .eq 7, 3) := by decide +kernel
theorem dX7_seesAll_20 : decode cX7_seesAll 20 = .ok (.iconst 0, 1) := by decide +kernel
theorem dX7_seesAll_21 : decode cX7_seesAll 21 = .ok (.goto 8, 3) := by decide +kernel
theorem dX7_seesAll_24 : decode cX7_seesAll 24 = .ok (.aload_n 0, 1) := by decide +kernel
theorem dX7_seesAll_25 : decode cX7_seesAll 25 = .ok (.iload_n 1, 1) := by decide +kernel
theorem dX7_seesAll_26 : decode cX7_seesAll 26 = .ok (.invokevirtual 222, 3) := by decide +kernel
theorem dX7_seesAll_29 : decode cX7_seesAll 29 = .ok (.ireturn, 1) := by decide +kernel
theorem dX7_wornReadings_0 : decode cX7_wornReadings 0 = .ok (.aload_n 0, 1) := by decide +kernel
theorem dX7_wornReadings_1 : decode cX7_wornReadings 1 = .ok (.getfield 7, 3) := by decide +kernel
theorem dX7_wornReadings_4 : decode cX7_wornReadings 4 = .ok (.iconst 0, 1) := by decide +kernel
theorem dX7_wornReadings_5 : decode cX7_wornReadings 5 = .ok (.aload_n 0, 1) := by decide +kernel
theorem dX7_wornReadings_6 : decode cX7_wornReadings 6 = .ok (.getfield 13, 3) := by decide +kernel
theorem dX7_wornReadings_9 : decode cX7_wornReadings 9 = .ok (.iconst 0, 1) := by decide +kernel
theorem dX7_wornReadings_10 : decode cX7_wornReadings 10 = .ok (.invokestatic 37, 3) := by decide +kernel
theorem dX7_wornReadings_13 : decode cX7_wornReadings 13 = .ok (.aload_n 0, 1) := by decide +kernel
theorem dX7_wornReadings_14 : decode cX7_wornReadings 14 = .ok (.getfield 13, 3) := by decide +kernel
theorem dX7_wornReadings_17 : decode cX7_wornReadings 17 = .ok (.iload_n 1, 1) := by decide +kernel
theorem dX7_wornReadings_18 : decode cX7_wornReadings 18 = .ok (.invokestatic 200, 3) := by decide +kernel
theorem dX7_wornReadings_21 : decode cX7_wornReadings 21 = .ok (.istore_n 3, 1) := by decide +kernel
theorem dX7_wornReadings_22 : decode cX7_wornReadings 22 = .ok (.iload_n 3, 1) := by decide +kernel
theorem dX7_wornReadings_23 : decode cX7_wornReadings 23 = .ok (.ifCond .ge 7, 3) := by decide +kernel
theorem dX7_wornReadings_26 : decode cX7_wornReadings 26 = .ok (.iconst 0, 1) := by decide +kernel
theorem dX7_wornReadings_27 : decode cX7_wornReadings 27 = .ok (.goto 11, 3) := by decide +kernel
theorem dX7_wornReadings_30 : decode cX7_wornReadings 30 = .ok (.aload_n 0, 1) := by decide +kernel
theorem dX7_wornReadings_31 : decode cX7_wornReadings 31 = .ok (.getfield 13, 3) := by decide +kernel
theorem dX7_wornReadings_34 : decode cX7_wornReadings 34 = .ok (.iload_n 2, 1) := by decide +kernel
theorem dX7_wornReadings_35 : decode cX7_wornReadings 35 = .ok (.invokestatic 154, 3) := by decide +kernel
theorem dX7_wornReadings_38 : decode cX7_wornReadings 38 = .ok (.ireturn, 1) := by decide +kernel
theorem dX7_ifWorn_0 : decode cX7_ifWorn 0 = .ok (.aload_n 0, 1) := by decide +kernel
theorem dX7_ifWorn_1 : decode cX7_ifWorn 1 = .ok (.aload_n 0, 1) := by decide +kernel
theorem dX7_ifWorn_2 : decode cX7_ifWorn 2 = .ok (.iload_n 1, 1) := by decide +kernel
theorem dX7_ifWorn_3 : decode cX7_ifWorn 3 = .ok (.invokevirtual 138, 3) := by decide +kernel
theorem dX7_ifWorn_6 : decode cX7_ifWorn 6 = .ok (.ifCond .eq 14, 3) := by decide +kernel
theorem dX7_ifWorn_9 : decode cX7_ifWorn 9 = .ok (.iload_n 2, 1) := by decide +kernel
theorem dX7_ifWorn_10 : decode cX7_ifWorn 10 = .ok (.invokestatic 160, 3) := by decide +kernel
theorem dX7_ifWorn_13 : decode cX7_ifWorn 13 = .ok (.ifCond .eq 7, 3) := by decide +kernel
theorem dX7_ifWorn_16 : decode cX7_ifWorn 16 = .ok (.iconst 0, 1) := by decide +kernel
theorem dX7_ifWorn_17 : decode cX7_ifWorn 17 = .ok (.goto 4, 3) := by decide +kernel
theorem dX7_ifWorn_20 : decode cX7_ifWorn 20 = .ok (.iconst 1, 1) := by decide +kernel
theorem dX7_ifWorn_21 : decode cX7_ifWorn 21 = .ok (.invokevirtual 41, 3) := by decide +kernel
theorem dX7_ifWorn_24 : decode cX7_ifWorn 24 = .ok (.ifCond .eq 7, 3) := by decide +kernel
theorem dX7_ifWorn_27 : decode cX7_ifWorn 27 = .ok (.iconst 0, 1) := by decide +kernel
theorem dX7_ifWorn_28 : decode cX7_ifWorn 28 = .ok (.goto 9, 3) := by decide +kernel
theorem dX7_ifWorn_31 : decode cX7_ifWorn 31 = .ok (.aload_n 0, 1) := by decide +kernel
theorem dX7_ifWorn_32 : decode cX7_ifWorn 32 = .ok (.iload_n 1, 1) := by decide +kernel
theorem dX7_ifWorn_33 : decode cX7_ifWorn 33 = .ok (.iload_n 2, 1) := by decide +kernel
theorem dX7_ifWorn_34 : decode cX7_ifWorn 34 = .ok (.invokevirtual 225, 3) := by decide +kernel
theorem dX7_ifWorn_37 : decode cX7_ifWorn 37 = .ok (.ireturn, 1) := by decide +kernel
theorem dX7_divides_0 : decode cX7_divides 0 = .ok (.aload_n 0, 1) := by decide +kernel
theorem dX7_divides_1 : decode cX7_divides 1 = .ok (.getfield 7, 3) := by decide +kernel
theorem dX7_divides_4 : decode cX7_divides 4 = .ok (.iconst 0, 1) := by decide +kernel
theorem dX7_divides_5 : decode cX7_divides 5 = .ok (.aload_n 0, 1) := by decide +kernel
theorem dX7_divides_6 : decode cX7_divides 6 = .ok (.getfield 13, 3) := by decide +kernel
theorem dX7_divides_9 : decode cX7_divides 9 = .ok (.iconst 0, 1) := by decide +kernel
theorem dX7_divides_10 : decode cX7_divides 10 = .ok (.invokestatic 37, 3) := by decide +kernel
theorem dX7_divides_13 : decode cX7_divides 13 = .ok (.iconst (-1), 1) := by decide +kernel
theorem dX7_divides_14 : decode cX7_divides 14 = .ok (.istore_n 3, 1) := by decide +kernel
theorem dX7_divides_15 : decode cX7_divides 15 = .ok (.iconst (-1), 1) := by decide +kernel
theorem dX7_divides_16 : decode cX7_divides 16 = .ok (.istore 4, 2) := by decide +kernel
theorem dX7_divides_18 : decode cX7_divides 18 = .ok (.iconst 0, 1) := by decide +kernel
theorem dX7_divides_19 : decode cX7_divides 19 = .ok (.istore 5, 2) := by decide +kernel
theorem dX7_divides_21 : decode cX7_divides 21 = .ok (.iload 5, 2) := by decide +kernel
theorem dX7_divides_23 : decode cX7_divides 23 = .ok (.aload_n 0, 1) := by decide +kernel
theorem dX7_divides_24 : decode cX7_divides 24 = .ok (.getfield 7, 3) := by decide +kernel
theorem dX7_divides_27 : decode cX7_divides 27 = .ok (.iconst 0, 1) := by decide +kernel
theorem dX7_divides_28 : decode cX7_divides 28 = .ok (.iaload, 1) := by decide +kernel
theorem dX7_divides_29 : decode cX7_divides 29 = .ok (.if_icmp .ge 84, 3) := by decide +kernel
theorem dX7_divides_32 : decode cX7_divides 32 = .ok (.aload_n 0, 1) := by decide +kernel
theorem dX7_divides_33 : decode cX7_divides 33 = .ok (.getfield 7, 3) := by decide +kernel
theorem dX7_divides_36 : decode cX7_divides 36 = .ok (.iload 5, 2) := by decide +kernel
theorem dX7_divides_38 : decode cX7_divides 38 = .ok (.invokestatic 53, 3) := by decide +kernel
theorem dX7_divides_41 : decode cX7_divides 41 = .ok (.ifCond .ne 66, 3) := by decide +kernel
theorem dX7_divides_44 : decode cX7_divides 44 = .ok (.aload_n 0, 1) := by decide +kernel
theorem dX7_divides_45 : decode cX7_divides 45 = .ok (.getfield 13, 3) := by decide +kernel
theorem dX7_divides_48 : decode cX7_divides 48 = .ok (.iload 5, 2) := by decide +kernel
theorem dX7_divides_50 : decode cX7_divides 50 = .ok (.iconst 0, 1) := by decide +kernel
theorem dX7_divides_51 : decode cX7_divides 51 = .ok (.invokestatic 197, 3) := by decide +kernel
theorem dX7_divides_54 : decode cX7_divides 54 = .ok (.istore 6, 2) := by decide +kernel
theorem dX7_divides_56 : decode cX7_divides 56 = .ok (.aload_n 0, 1) := by decide +kernel
theorem dX7_divides_57 : decode cX7_divides 57 = .ok (.getfield 13, 3) := by decide +kernel
theorem dX7_divides_60 : decode cX7_divides 60 = .ok (.iload_n 1, 1) := by decide +kernel
theorem dX7_divides_61 : decode cX7_divides 61 = .ok (.invokestatic 151, 3) := by decide +kernel
theorem dX7_divides_64 : decode cX7_divides 64 = .ok (.istore 7, 2) := by decide +kernel
theorem dX7_divides_66 : decode cX7_divides 66 = .ok (.iload 7, 2) := by decide +kernel
theorem dX7_divides_68 : decode cX7_divides 68 = .ok (.iload 4, 2) := by decide +kernel
theorem dX7_divides_70 : decode cX7_divides 70 = .ok (.if_icmp .le 8, 3) := by decide +kernel
theorem dX7_divides_73 : decode cX7_divides 73 = .ok (.iload 5, 2) := by decide +kernel
theorem dX7_divides_75 : decode cX7_divides 75 = .ok (.goto 4, 3) := by decide +kernel
theorem dX7_divides_78 : decode cX7_divides 78 = .ok (.iload_n 3, 1) := by decide +kernel
theorem dX7_divides_79 : decode cX7_divides 79 = .ok (.istore_n 3, 1) := by decide +kernel
theorem dX7_divides_80 : decode cX7_divides 80 = .ok (.iload 7, 2) := by decide +kernel
theorem dX7_divides_82 : decode cX7_divides 82 = .ok (.iload 4, 2) := by decide +kernel
theorem dX7_divides_84 : decode cX7_divides 84 = .ok (.if_icmp .le 8, 3) := by decide +kernel
theorem dX7_divides_87 : decode cX7_divides 87 = .ok (.iload 7, 2) := by decide +kernel
theorem dX7_divides_89 : decode cX7_divides 89 = .ok (.goto 5, 3) := by decide +kernel
theorem dX7_divides_92 : decode cX7_divides 92 = .ok (.iload 4, 2) := by decide +kernel
theorem dX7_divides_94 : decode cX7_divides 94 = .ok (.istore 4, 2) := by decide +kernel
theorem dX7_divides_96 : decode cX7_divides 96 = .ok (.aload_n 0, 1) := by decide +kernel
theorem dX7_divides_97 : decode cX7_divides 97 = .ok (.getfield 13, 3) := by decide +kernel
theorem dX7_divides_100 : decode cX7_divides 100 = .ok (.iconst 1, 1) := by decide +kernel
theorem dX7_divides_101 : decode cX7_divides 101 = .ok (.iload 5, 2) := by decide +kernel
theorem dX7_divides_103 : decode cX7_divides 103 = .ok (.iadd, 1) := by decide +kernel
theorem dX7_divides_104 : decode cX7_divides 104 = .ok (.iload 6, 2) := by decide +kernel
theorem dX7_divides_106 : decode cX7_divides 106 = .ok (.iastore, 1) := by decide +kernel
theorem dX7_divides_107 : decode cX7_divides 107 = .ok (.iinc 5 1, 3) := by decide +kernel
theorem dX7_divides_110 : decode cX7_divides 110 = .ok (.goto (-89), 3) := by decide +kernel
theorem dX7_divides_113 : decode cX7_divides 113 = .ok (.iload_n 2, 1) := by decide +kernel
theorem dX7_divides_114 : decode cX7_divides 114 = .ok (.ifCond .ne 7, 3) := by decide +kernel
theorem dX7_divides_117 : decode cX7_divides 117 = .ok (.iload_n 3, 1) := by decide +kernel
theorem dX7_divides_118 : decode cX7_divides 118 = .ok (.goto 5, 3) := by decide +kernel
theorem dX7_divides_121 : decode cX7_divides 121 = .ok (.iload 4, 2) := by decide +kernel
theorem dX7_divides_123 : decode cX7_divides 123 = .ok (.ireturn, 1) := by decide +kernel
theorem dX7_bestDivider_0 : decode cX7_bestDivider 0 = .ok (.aload_n 0, 1) := by decide +kernel
theorem dX7_bestDivider_1 : decode cX7_bestDivider 1 = .ok (.iload_n 1, 1) := by decide +kernel
theorem dX7_bestDivider_2 : decode cX7_bestDivider 2 = .ok (.invokestatic 160, 3) := by decide +kernel
theorem dX7_bestDivider_5 : decode cX7_bestDivider 5 = .ok (.ifCond .ne 7, 3) := by decide +kernel
theorem dX7_bestDivider_8 : decode cX7_bestDivider 8 = .ok (.iconst 1, 1) := by decide +kernel
theorem dX7_bestDivider_9 : decode cX7_bestDivider 9 = .ok (.goto 17, 3) := by decide +kernel
theorem dX7_bestDivider_12 : decode cX7_bestDivider 12 = .ok (.iload_n 2, 1) := by decide +kernel
theorem dX7_bestDivider_13 : decode cX7_bestDivider 13 = .ok (.iconst 0, 1) := by decide +kernel
theorem dX7_bestDivider_14 : decode cX7_bestDivider 14 = .ok (.iconst 1, 1) := by decide +kernel
theorem dX7_bestDivider_15 : decode cX7_bestDivider 15 = .ok (.invokestatic 45, 3) := by decide +kernel
theorem dX7_bestDivider_18 : decode cX7_bestDivider 18 = .ok (.ifCond .eq 7, 3) := by decide +kernel
theorem dX7_bestDivider_21 : decode cX7_bestDivider 21 = .ok (.iconst 0, 1) := by decide +kernel
theorem dX7_bestDivider_22 : decode cX7_bestDivider 22 = .ok (.goto 4, 3) := by decide +kernel
theorem dX7_bestDivider_25 : decode cX7_bestDivider 25 = .ok (.iconst 2, 1) := by decide +kernel
theorem dX7_bestDivider_26 : decode cX7_bestDivider 26 = .ok (.invokevirtual 41, 3) := by decide +kernel
theorem dX7_bestDivider_29 : decode cX7_bestDivider 29 = .ok (.ifCond .eq 7, 3) := by decide +kernel
theorem dX7_bestDivider_32 : decode cX7_bestDivider 32 = .ok (.iconst 0, 1) := by decide +kernel
theorem dX7_bestDivider_33 : decode cX7_bestDivider 33 = .ok (.goto 9, 3) := by decide +kernel
theorem dX7_bestDivider_36 : decode cX7_bestDivider 36 = .ok (.aload_n 0, 1) := by decide +kernel
theorem dX7_bestDivider_37 : decode cX7_bestDivider 37 = .ok (.iload_n 1, 1) := by decide +kernel
theorem dX7_bestDivider_38 : decode cX7_bestDivider 38 = .ok (.iload_n 2, 1) := by decide +kernel
theorem dX7_bestDivider_39 : decode cX7_bestDivider 39 = .ok (.invokevirtual 228, 3) := by decide +kernel
theorem dX7_bestDivider_42 : decode cX7_bestDivider 42 = .ok (.ireturn, 1) := by decide +kernel
theorem dX7_bestDirection_0 : decode cX7_bestDirection 0 = .ok (.aload_n 0, 1) := by decide +kernel
theorem dX7_bestDirection_1 : decode cX7_bestDirection 1 = .ok (.iconst 0, 1) := by decide +kernel
theorem dX7_bestDirection_2 : decode cX7_bestDirection 2 = .ok (.putfield 30, 3) := by decide +kernel
theorem dX7_bestDirection_5 : decode cX7_bestDirection 5 = .ok (.aload_n 0, 1) := by decide +kernel
theorem dX7_bestDirection_6 : decode cX7_bestDirection 6 = .ok (.getfield 7, 3) := by decide +kernel
theorem dX7_bestDirection_9 : decode cX7_bestDirection 9 = .ok (.iconst 1, 1) := by decide +kernel
theorem dX7_bestDirection_10 : decode cX7_bestDirection 10 = .ok (.invokestatic 151, 3) := by decide +kernel
theorem dX7_bestDirection_13 : decode cX7_bestDirection 13 = .ok (.aload_n 0, 1) := by decide +kernel
theorem dX7_bestDirection_14 : decode cX7_bestDirection 14 = .ok (.getfield 7, 3) := by decide +kernel
theorem dX7_bestDirection_17 : decode cX7_bestDirection 17 = .ok (.iconst 0, 1) := by decide +kernel
theorem dX7_bestDirection_18 : decode cX7_bestDirection 18 = .ok (.invokestatic 151, 3) := by decide +kernel
theorem dX7_bestDirection_21 : decode cX7_bestDirection 21 = .ok (.isub, 1) := by decide +kernel
theorem dX7_bestDirection_22 : decode cX7_bestDirection 22 = .ok (.istore_n 1, 1) := by decide +kernel
theorem dX7_bestDirection_23 : decode cX7_bestDirection 23 = .ok (.iload_n 1, 1) := by decide +kernel
theorem dX7_bestDirection_24 : decode cX7_bestDirection 24 = .ok (.ifCond .ne 23, 3) := by decide +kernel
theorem dX7_bestDirection_27 : decode cX7_bestDirection 27 = .ok (.aload_n 0, 1) := by decide +kernel
theorem dX7_bestDirection_28 : decode cX7_bestDirection 28 = .ok (.getfield 7, 3) := by decide +kernel
theorem dX7_bestDirection_31 : decode cX7_bestDirection 31 = .ok (.iconst 1, 1) := by decide +kernel
theorem dX7_bestDirection_32 : decode cX7_bestDirection 32 = .ok (.invokestatic 154, 3) := by decide +kernel
theorem dX7_bestDirection_35 : decode cX7_bestDirection 35 = .ok (.aload_n 0, 1) := by decide +kernel
theorem dX7_bestDirection_36 : decode cX7_bestDirection 36 = .ok (.getfield 7, 3) := by decide +kernel
theorem dX7_bestDirection_39 : decode cX7_bestDirection 39 = .ok (.iconst 0, 1) := by decide +kernel
theorem dX7_bestDirection_40 : decode cX7_bestDirection 40 = .ok (.invokestatic 154, 3) := by decide +kernel
theorem dX7_bestDirection_43 : decode cX7_bestDirection 43 = .ok (.isub, 1) := by decide +kernel
theorem dX7_bestDirection_44 : decode cX7_bestDirection 44 = .ok (.goto 4, 3) := by decide +kernel
theorem dX7_bestDirection_47 : decode cX7_bestDirection 47 = .ok (.iload_n 1, 1) := by decide +kernel
theorem dX7_bestDirection_48 : decode cX7_bestDirection 48 = .ok (.istore_n 1, 1) := by decide +kernel
theorem dX7_bestDirection_49 : decode cX7_bestDirection 49 = .ok (.iload_n 1, 1) := by decide +kernel
theorem dX7_bestDirection_50 : decode cX7_bestDirection 50 = .ok (.ifCond .le 7, 3) := by decide +kernel
theorem dX7_bestDirection_53 : decode cX7_bestDirection 53 = .ok (.iconst 1, 1) := by decide +kernel
theorem dX7_bestDirection_54 : decode cX7_bestDirection 54 = .ok (.goto 4, 3) := by decide +kernel
theorem dX7_bestDirection_57 : decode cX7_bestDirection 57 = .ok (.iconst 0, 1) := by decide +kernel
theorem dX7_bestDirection_58 : decode cX7_bestDirection 58 = .ok (.ireturn, 1) := by decide +kernel
theorem dX7_letters_0 : decode cX7_letters 0 = .ok (.iconst 0, 1) := by decide +kernel
theorem dX7_letters_1 : decode cX7_letters 1 = .ok (.istore_n 3, 1) := by decide +kernel
theorem dX7_letters_2 : decode cX7_letters 2 = .ok (.iload_n 3, 1) := by decide +kernel
theorem dX7_letters_3 : decode cX7_letters 3 = .ok (.aload_n 0, 1) := by decide +kernel
theorem dX7_letters_4 : decode cX7_letters 4 = .ok (.getfield 7, 3) := by decide +kernel
theorem dX7_letters_7 : decode cX7_letters 7 = .ok (.iconst 0, 1) := by decide +kernel
theorem dX7_letters_8 : decode cX7_letters 8 = .ok (.iaload, 1) := by decide +kernel
theorem dX7_letters_9 : decode cX7_letters 9 = .ok (.if_icmp .ge 31, 3) := by decide +kernel
theorem dX7_letters_12 : decode cX7_letters 12 = .ok (.aload_n 0, 1) := by decide +kernel
theorem dX7_letters_13 : decode cX7_letters 13 = .ok (.getfield 7, 3) := by decide +kernel
theorem dX7_letters_16 : decode cX7_letters 16 = .ok (.aload_n 0, 1) := by decide +kernel
theorem dX7_letters_17 : decode cX7_letters 17 = .ok (.getfield 7, 3) := by decide +kernel
theorem dX7_letters_20 : decode cX7_letters 20 = .ok (.iload_n 1, 1) := by decide +kernel
theorem dX7_letters_21 : decode cX7_letters 21 = .ok (.iconst 1, 1) := by decide +kernel
theorem dX7_letters_22 : decode cX7_letters 22 = .ok (.iload_n 2, 1) := by decide +kernel
theorem dX7_letters_23 : decode cX7_letters 23 = .ok (.isub, 1) := by decide +kernel
theorem dX7_letters_24 : decode cX7_letters 24 = .ok (.iload_n 3, 1) := by decide +kernel
theorem dX7_letters_25 : decode cX7_letters 25 = .ok (.invokestatic 49, 3) := by decide +kernel
theorem dX7_letters_28 : decode cX7_letters 28 = .ok (.invokestatic 53, 3) := by decide +kernel
theorem dX7_letters_31 : decode cX7_letters 31 = .ok (.ifCond .ne 9, 3) := by decide +kernel
theorem dX7_letters_34 : decode cX7_letters 34 = .ok (.iinc 3 1, 3) := by decide +kernel
theorem dX7_letters_37 : decode cX7_letters 37 = .ok (.goto (-35), 3) := by decide +kernel
theorem dX7_letters_40 : decode cX7_letters 40 = .ok (.iconst 0, 1) := by decide +kernel
theorem dX7_letters_41 : decode cX7_letters 41 = .ok (.istore 4, 2) := by decide +kernel
theorem dX7_letters_43 : decode cX7_letters 43 = .ok (.iload_n 3, 1) := by decide +kernel
theorem dX7_letters_44 : decode cX7_letters 44 = .ok (.ifCond .le 91, 3) := by decide +kernel
theorem dX7_letters_47 : decode cX7_letters 47 = .ok (.iload_n 3, 1) := by decide +kernel
theorem dX7_letters_48 : decode cX7_letters 48 = .ok (.aload_n 0, 1) := by decide +kernel
theorem dX7_letters_49 : decode cX7_letters 49 = .ok (.getfield 7, 3) := by decide +kernel
theorem dX7_letters_52 : decode cX7_letters 52 = .ok (.iconst 0, 1) := by decide +kernel
theorem dX7_letters_53 : decode cX7_letters 53 = .ok (.iaload, 1) := by decide +kernel
theorem dX7_letters_54 : decode cX7_letters 54 = .ok (.if_icmp .ge 81, 3) := by decide +kernel
theorem dX7_letters_57 : decode cX7_letters 57 = .ok (.aload_n 0, 1) := by decide +kernel
theorem dX7_letters_58 : decode cX7_letters 58 = .ok (.getfield 7, 3) := by decide +kernel
theorem dX7_letters_61 : decode cX7_letters 61 = .ok (.iload_n 1, 1) := by decide +kernel
theorem dX7_letters_62 : decode cX7_letters 62 = .ok (.iconst 1, 1) := by decide +kernel
theorem dX7_letters_63 : decode cX7_letters 63 = .ok (.iload_n 2, 1) := by decide +kernel
theorem dX7_letters_64 : decode cX7_letters 64 = .ok (.isub, 1) := by decide +kernel
theorem dX7_letters_65 : decode cX7_letters 65 = .ok (.iload_n 3, 1) := by decide +kernel
theorem dX7_letters_66 : decode cX7_letters 66 = .ok (.invokestatic 49, 3) := by decide +kernel
theorem dX7_letters_69 : decode cX7_letters 69 = .ok (.istore 5, 2) := by decide +kernel
theorem dX7_letters_71 : decode cX7_letters 71 = .ok (.iconst 0, 1) := by decide +kernel
theorem dX7_letters_72 : decode cX7_letters 72 = .ok (.istore 6, 2) := by decide +kernel
theorem dX7_letters_74 : decode cX7_letters 74 = .ok (.iload 6, 2) := by decide +kernel
theorem dX7_letters_76 : decode cX7_letters 76 = .ok (.aload_n 0, 1) := by decide +kernel
theorem dX7_letters_77 : decode cX7_letters 77 = .ok (.getfield 7, 3) := by decide +kernel
theorem dX7_letters_80 : decode cX7_letters 80 = .ok (.bipush 25, 2) := by decide +kernel
theorem dX7_letters_82 : decode cX7_letters 82 = .ok (.iaload, 1) := by decide +kernel
theorem dX7_letters_83 : decode cX7_letters 83 = .ok (.if_icmp .ge 52, 3) := by decide +kernel
theorem dX7_letters_86 : decode cX7_letters 86 = .ok (.iload 4, 2) := by decide +kernel
theorem dX7_letters_88 : decode cX7_letters 88 = .ok (.aload_n 0, 1) := by decide +kernel
theorem dX7_letters_89 : decode cX7_letters 89 = .ok (.getfield 7, 3) := by decide +kernel
theorem dX7_letters_92 : decode cX7_letters 92 = .ok (.iload 6, 2) := by decide +kernel
theorem dX7_letters_94 : decode cX7_letters 94 = .ok (.iload 5, 2) := by decide +kernel
theorem dX7_letters_96 : decode cX7_letters 96 = .ok (.iload_n 2, 1) := by decide +kernel
theorem dX7_letters_97 : decode cX7_letters 97 = .ok (.invokestatic 65, 3) := by decide +kernel
theorem dX7_letters_100 : decode cX7_letters 100 = .ok (.ifCond .eq 25, 3) := by decide +kernel
theorem dX7_letters_103 : decode cX7_letters 103 = .ok (.iconst 1, 1) := by decide +kernel
theorem dX7_letters_104 : decode cX7_letters 104 = .ok (.aload_n 0, 1) := by decide +kernel
theorem dX7_letters_105 : decode cX7_letters 105 = .ok (.getfield 7, 3) := by decide +kernel
theorem dX7_letters_108 : decode cX7_letters 108 = .ok (.bipush 26, 2) := by decide +kernel
theorem dX7_letters_110 : decode cX7_letters 110 = .ok (.bipush 7, 2) := by decide +kernel
theorem dX7_letters_112 : decode cX7_letters 112 = .ok (.iload 6, 2) := by decide +kernel
theorem dX7_letters_114 : decode cX7_letters 114 = .ok (.imul, 1) := by decide +kernel
theorem dX7_letters_115 : decode cX7_letters 115 = .ok (.iadd, 1) := by decide +kernel
theorem dX7_letters_116 : decode cX7_letters 116 = .ok (.iload_n 3, 1) := by decide +kernel
theorem dX7_letters_117 : decode cX7_letters 117 = .ok (.iadd, 1) := by decide +kernel
theorem dX7_letters_118 : decode cX7_letters 118 = .ok (.iaload, 1) := by decide +kernel
theorem dX7_letters_119 : decode cX7_letters 119 = .ok (.iconst 1, 1) := by decide +kernel
theorem dX7_letters_120 : decode cX7_letters 120 = .ok (.isub, 1) := by decide +kernel
theorem dX7_letters_121 : decode cX7_letters 121 = .ok (.ishl, 1) := by decide +kernel
theorem dX7_letters_122 : decode cX7_letters 122 = .ok (.goto 4, 3) := by decide +kernel
theorem dX7_letters_125 : decode cX7_letters 125 = .ok (.iconst 0, 1) := by decide +kernel
theorem dX7_letters_126 : decode cX7_letters 126 = .ok (.ior, 1) := by decide +kernel
theorem dX7_letters_127 : decode cX7_letters 127 = .ok (.istore 4, 2) := by decide +kernel
theorem dX7_letters_129 : decode cX7_letters 129 = .ok (.iinc 6 1, 3) := by decide +kernel
theorem dX7_letters_132 : decode cX7_letters 132 = .ok (.goto (-58), 3) := by decide +kernel
theorem dX7_letters_135 : decode cX7_letters 135 = .ok (.iload 4, 2) := by decide +kernel
theorem dX7_letters_137 : decode cX7_letters 137 = .ok (.ireturn, 1) := by decide +kernel
theorem dX7_canBe_0 : decode cX7_canBe 0 = .ok (.aload_n 0, 1) := by decide +kernel
theorem dX7_canBe_1 : decode cX7_canBe 1 = .ok (.aload_n 0, 1) := by decide +kernel
theorem dX7_canBe_2 : decode cX7_canBe 2 = .ok (.iload_n 1, 1) := by decide +kernel
theorem dX7_canBe_3 : decode cX7_canBe 3 = .ok (.invokevirtual 138, 3) := by decide +kernel
theorem dX7_canBe_6 : decode cX7_canBe 6 = .ok (.ifCond .eq 14, 3) := by decide +kernel
theorem dX7_canBe_9 : decode cX7_canBe 9 = .ok (.iload_n 2, 1) := by decide +kernel
theorem dX7_canBe_10 : decode cX7_canBe 10 = .ok (.invokestatic 160, 3) := by decide +kernel
theorem dX7_canBe_13 : decode cX7_canBe 13 = .ok (.ifCond .eq 7, 3) := by decide +kernel
theorem dX7_canBe_16 : decode cX7_canBe 16 = .ok (.iconst 0, 1) := by decide +kernel
theorem dX7_canBe_17 : decode cX7_canBe 17 = .ok (.goto 4, 3) := by decide +kernel
theorem dX7_canBe_20 : decode cX7_canBe 20 = .ok (.iconst 1, 1) := by decide +kernel
theorem dX7_canBe_21 : decode cX7_canBe 21 = .ok (.invokevirtual 41, 3) := by decide +kernel
theorem dX7_canBe_24 : decode cX7_canBe 24 = .ok (.ifCond .eq 7, 3) := by decide +kernel
theorem dX7_canBe_27 : decode cX7_canBe 27 = .ok (.iconst 0, 1) := by decide +kernel
theorem dX7_canBe_28 : decode cX7_canBe 28 = .ok (.goto 9, 3) := by decide +kernel
theorem dX7_canBe_31 : decode cX7_canBe 31 = .ok (.aload_n 0, 1) := by decide +kernel
theorem dX7_canBe_32 : decode cX7_canBe 32 = .ok (.iload_n 1, 1) := by decide +kernel
theorem dX7_canBe_33 : decode cX7_canBe 33 = .ok (.iload_n 2, 1) := by decide +kernel
theorem dX7_canBe_34 : decode cX7_canBe 34 = .ok (.invokevirtual 231, 3) := by decide +kernel
theorem dX7_canBe_37 : decode cX7_canBe 37 = .ok (.ireturn, 1) := by decide +kernel
theorem dX7_triesAct_0 : decode cX7_triesAct 0 = .ok (.iconst 0, 1) := by decide +kernel
theorem dX7_triesAct_1 : decode cX7_triesAct 1 = .ok (.istore 4, 2) := by decide +kernel
theorem dX7_triesAct_3 : decode cX7_triesAct 3 = .ok (.iconst 0, 1) := by decide +kernel
theorem dX7_triesAct_4 : decode cX7_triesAct 4 = .ok (.istore 5, 2) := by decide +kernel
theorem dX7_triesAct_6 : decode cX7_triesAct 6 = .ok (.iload_n 1, 1) := by decide +kernel
theorem dX7_triesAct_7 : decode cX7_triesAct 7 = .ok (.tableswitch 179 1 3 #[25, 73, 117], 25) := by decide +kernel
theorem dX7_triesAct_32 : decode cX7_triesAct 32 = .ok (.aload_n 0, 1) := by decide +kernel
theorem dX7_triesAct_33 : decode cX7_triesAct 33 = .ok (.getfield 13, 3) := by decide +kernel
theorem dX7_triesAct_36 : decode cX7_triesAct 36 = .ok (.iload_n 2, 1) := by decide +kernel
theorem dX7_triesAct_37 : decode cX7_triesAct 37 = .ok (.invokestatic 234, 3) := by decide +kernel
theorem dX7_triesAct_40 : decode cX7_triesAct 40 = .ok (.ifCond .eq 14, 3) := by decide +kernel
theorem dX7_triesAct_43 : decode cX7_triesAct 43 = .ok (.iload_n 3, 1) := by decide +kernel
theorem dX7_triesAct_44 : decode cX7_triesAct 44 = .ok (.invokestatic 194, 3) := by decide +kernel
theorem dX7_triesAct_47 : decode cX7_triesAct 47 = .ok (.ifCond .eq 7, 3) := by decide +kernel
theorem dX7_triesAct_50 : decode cX7_triesAct 50 = .ok (.iconst 1, 1) := by decide +kernel
theorem dX7_triesAct_51 : decode cX7_triesAct 51 = .ok (.goto 4, 3) := by decide +kernel
theorem dX7_triesAct_54 : decode cX7_triesAct 54 = .ok (.iconst 0, 1) := by decide +kernel
theorem dX7_triesAct_55 : decode cX7_triesAct 55 = .ok (.istore 5, 2) := by decide +kernel
theorem dX7_triesAct_57 : decode cX7_triesAct 57 = .ok (.iload 5, 2) := by decide +kernel
theorem dX7_triesAct_59 : decode cX7_triesAct 59 = .ok (.ifCond .eq 15, 3) := by decide +kernel
theorem dX7_triesAct_62 : decode cX7_triesAct 62 = .ok (.aload_n 0, 1) := by decide +kernel
theorem dX7_triesAct_63 : decode cX7_triesAct 63 = .ok (.getfield 13, 3) := by decide +kernel
theorem dX7_triesAct_66 : decode cX7_triesAct 66 = .ok (.iload_n 2, 1) := by decide +kernel
theorem dX7_triesAct_67 : decode cX7_triesAct 67 = .ok (.iload_n 3, 1) := by decide +kernel
theorem dX7_triesAct_68 : decode cX7_triesAct 68 = .ok (.invokestatic 197, 3) := by decide +kernel
theorem dX7_triesAct_71 : decode cX7_triesAct 71 = .ok (.goto 4, 3) := by decide +kernel
theorem dX7_triesAct_74 : decode cX7_triesAct 74 = .ok (.iconst 0, 1) := by decide +kernel
theorem dX7_triesAct_75 : decode cX7_triesAct 75 = .ok (.istore 4, 2) := by decide +kernel
theorem dX7_triesAct_77 : decode cX7_triesAct 77 = .ok (.iload 5, 2) := by decide +kernel
theorem dX7_triesAct_79 : decode cX7_triesAct 79 = .ok (.ireturn, 1) := by decide +kernel
theorem dX7_triesAct_80 : decode cX7_triesAct 80 = .ok (.aload_n 0, 1) := by decide +kernel
theorem dX7_triesAct_81 : decode cX7_triesAct 81 = .ok (.getfield 13, 3) := by decide +kernel
theorem dX7_triesAct_84 : decode cX7_triesAct 84 = .ok (.iload_n 2, 1) := by decide +kernel
theorem dX7_triesAct_85 : decode cX7_triesAct 85 = .ok (.invokestatic 234, 3) := by decide +kernel
theorem dX7_triesAct_88 : decode cX7_triesAct 88 = .ok (.ifCond .eq 11, 3) := by decide +kernel
theorem dX7_triesAct_91 : decode cX7_triesAct 91 = .ok (.iload_n 3, 1) := by decide +kernel
theorem dX7_triesAct_92 : decode cX7_triesAct 92 = .ok (.ifCond .ne 7, 3) := by decide +kernel
theorem dX7_triesAct_95 : decode cX7_triesAct 95 = .ok (.iconst 1, 1) := by decide +kernel
theorem dX7_triesAct_96 : decode cX7_triesAct 96 = .ok (.goto 4, 3) := by decide +kernel
theorem dX7_triesAct_99 : decode cX7_triesAct 99 = .ok (.iconst 0, 1) := by decide +kernel
theorem dX7_triesAct_100 : decode cX7_triesAct 100 = .ok (.istore 5, 2) := by decide +kernel
theorem dX7_triesAct_102 : decode cX7_triesAct 102 = .ok (.iload 5, 2) := by decide +kernel
theorem dX7_triesAct_104 : decode cX7_triesAct 104 = .ok (.ifCond .eq 14, 3) := by decide +kernel
theorem dX7_triesAct_107 : decode cX7_triesAct 107 = .ok (.aload_n 0, 1) := by decide +kernel
theorem dX7_triesAct_108 : decode cX7_triesAct 108 = .ok (.getfield 13, 3) := by decide +kernel
theorem dX7_triesAct_111 : decode cX7_triesAct 111 = .ok (.iload_n 2, 1) := by decide +kernel
theorem dX7_triesAct_112 : decode cX7_triesAct 112 = .ok (.invokestatic 200, 3) := by decide +kernel
theorem dX7_triesAct_115 : decode cX7_triesAct 115 = .ok (.goto 4, 3) := by decide +kernel
theorem dX7_triesAct_118 : decode cX7_triesAct 118 = .ok (.iconst 0, 1) := by decide +kernel
theorem dX7_triesAct_119 : decode cX7_triesAct 119 = .ok (.istore 4, 2) := by decide +kernel
theorem dX7_triesAct_121 : decode cX7_triesAct 121 = .ok (.iload 5, 2) := by decide +kernel
theorem dX7_triesAct_123 : decode cX7_triesAct 123 = .ok (.ireturn, 1) := by decide +kernel
theorem dX7_triesAct_124 : decode cX7_triesAct 124 = .ok (.iload_n 2, 1) := by decide +kernel
theorem dX7_triesAct_125 : decode cX7_triesAct 125 = .ok (.iconst 0, 1) := by decide +kernel
theorem dX7_triesAct_126 : decode cX7_triesAct 126 = .ok (.aload_n 0, 1) := by decide +kernel
theorem dX7_triesAct_127 : decode cX7_triesAct 127 = .ok (.getfield 13, 3) := by decide +kernel
theorem dX7_triesAct_130 : decode cX7_triesAct 130 = .ok (.iconst 0, 1) := by decide +kernel
theorem dX7_triesAct_131 : decode cX7_triesAct 131 = .ok (.iaload, 1) := by decide +kernel
theorem dX7_triesAct_132 : decode cX7_triesAct 132 = .ok (.invokestatic 45, 3) := by decide +kernel
theorem dX7_triesAct_135 : decode cX7_triesAct 135 = .ok (.ifCond .eq 25, 3) := by decide +kernel
theorem dX7_triesAct_138 : decode cX7_triesAct 138 = .ok (.iload_n 3, 1) := by decide +kernel
theorem dX7_triesAct_139 : decode cX7_triesAct 139 = .ok (.invokestatic 194, 3) := by decide +kernel
theorem dX7_triesAct_142 : decode cX7_triesAct 142 = .ok (.ifCond .eq 18, 3) := by decide +kernel
theorem dX7_triesAct_145 : decode cX7_triesAct 145 = .ok (.aload_n 0, 1) := by decide +kernel
theorem dX7_triesAct_146 : decode cX7_triesAct 146 = .ok (.getfield 13, 3) := by decide +kernel
theorem dX7_triesAct_149 : decode cX7_triesAct 149 = .ok (.iconst 0, 1) := by decide +kernel
theorem dX7_triesAct_150 : decode cX7_triesAct 150 = .ok (.iaload, 1) := by decide +kernel
theorem dX7_triesAct_151 : decode cX7_triesAct 151 = .ok (.bipush 24, 2) := by decide +kernel
theorem dX7_triesAct_153 : decode cX7_triesAct 153 = .ok (.if_icmp .ge 7, 3) := by decide +kernel
theorem dX7_triesAct_156 : decode cX7_triesAct 156 = .ok (.iconst 1, 1) := by decide +kernel
theorem dX7_triesAct_157 : decode cX7_triesAct 157 = .ok (.goto 4, 3) := by decide +kernel
theorem dX7_triesAct_160 : decode cX7_triesAct 160 = .ok (.iconst 0, 1) := by decide +kernel
theorem dX7_triesAct_161 : decode cX7_triesAct 161 = .ok (.istore 5, 2) := by decide +kernel
theorem dX7_triesAct_163 : decode cX7_triesAct 163 = .ok (.iload 5, 2) := by decide +kernel
theorem dX7_triesAct_165 : decode cX7_triesAct 165 = .ok (.ifCond .eq 15, 3) := by decide +kernel
theorem dX7_triesAct_168 : decode cX7_triesAct 168 = .ok (.aload_n 0, 1) := by decide +kernel
theorem dX7_triesAct_169 : decode cX7_triesAct 169 = .ok (.getfield 13, 3) := by decide +kernel
theorem dX7_triesAct_172 : decode cX7_triesAct 172 = .ok (.iload_n 2, 1) := by decide +kernel
theorem dX7_triesAct_173 : decode cX7_triesAct 173 = .ok (.iload_n 3, 1) := by decide +kernel
theorem dX7_triesAct_174 : decode cX7_triesAct 174 = .ok (.invokestatic 203, 3) := by decide +kernel
theorem dX7_triesAct_177 : decode cX7_triesAct 177 = .ok (.goto 4, 3) := by decide +kernel
theorem dX7_triesAct_180 : decode cX7_triesAct 180 = .ok (.iconst 0, 1) := by decide +kernel
theorem dX7_triesAct_181 : decode cX7_triesAct 181 = .ok (.istore 4, 2) := by decide +kernel
theorem dX7_triesAct_183 : decode cX7_triesAct 183 = .ok (.iload 5, 2) := by decide +kernel
theorem dX7_triesAct_185 : decode cX7_triesAct 185 = .ok (.ireturn, 1) := by decide +kernel
theorem dX7_triesAct_186 : decode cX7_triesAct 186 = .ok (.aload_n 0, 1) := by decide +kernel
theorem dX7_triesAct_187 : decode cX7_triesAct 187 = .ok (.getfield 13, 3) := by decide +kernel
theorem dX7_triesAct_190 : decode cX7_triesAct 190 = .ok (.iload_n 2, 1) := by decide +kernel
theorem dX7_triesAct_191 : decode cX7_triesAct 191 = .ok (.invokestatic 234, 3) := by decide +kernel
theorem dX7_triesAct_194 : decode cX7_triesAct 194 = .ok (.ifCond .eq 11, 3) := by decide +kernel
theorem dX7_triesAct_197 : decode cX7_triesAct 197 = .ok (.iload_n 3, 1) := by decide +kernel
theorem dX7_triesAct_198 : decode cX7_triesAct 198 = .ok (.ifCond .ne 7, 3) := by decide +kernel
theorem dX7_triesAct_201 : decode cX7_triesAct 201 = .ok (.iconst 1, 1) := by decide +kernel
theorem dX7_triesAct_202 : decode cX7_triesAct 202 = .ok (.goto 4, 3) := by decide +kernel
theorem dX7_triesAct_205 : decode cX7_triesAct 205 = .ok (.iconst 0, 1) := by decide +kernel
theorem dX7_triesAct_206 : decode cX7_triesAct 206 = .ok (.istore 5, 2) := by decide +kernel
theorem dX7_triesAct_208 : decode cX7_triesAct 208 = .ok (.iload 5, 2) := by decide +kernel
theorem dX7_triesAct_210 : decode cX7_triesAct 210 = .ok (.ifCond .eq 14, 3) := by decide +kernel
theorem dX7_triesAct_213 : decode cX7_triesAct 213 = .ok (.aload_n 0, 1) := by decide +kernel
theorem dX7_triesAct_214 : decode cX7_triesAct 214 = .ok (.getfield 13, 3) := by decide +kernel
theorem dX7_triesAct_217 : decode cX7_triesAct 217 = .ok (.iload_n 2, 1) := by decide +kernel
theorem dX7_triesAct_218 : decode cX7_triesAct 218 = .ok (.invokestatic 206, 3) := by decide +kernel
theorem dX7_triesAct_221 : decode cX7_triesAct 221 = .ok (.goto 4, 3) := by decide +kernel
theorem dX7_triesAct_224 : decode cX7_triesAct 224 = .ok (.iconst 0, 1) := by decide +kernel
theorem dX7_triesAct_225 : decode cX7_triesAct 225 = .ok (.istore 4, 2) := by decide +kernel
theorem dX7_triesAct_227 : decode cX7_triesAct 227 = .ok (.iload 5, 2) := by decide +kernel
theorem dX7_triesAct_229 : decode cX7_triesAct 229 = .ok (.ireturn, 1) := by decide +kernel
theorem dX7_tries_0 : decode cX7_tries 0 = .ok (.iload_n 1, 1) := by decide +kernel
theorem dX7_tries_1 : decode cX7_tries 1 = .ok (.sipush 1000, 3) := by decide +kernel
theorem dX7_tries_4 : decode cX7_tries 4 = .ok (.idiv, 1) := by decide +kernel
theorem dX7_tries_5 : decode cX7_tries 5 = .ok (.istore_n 2, 1) := by decide +kernel
theorem dX7_tries_6 : decode cX7_tries 6 = .ok (.iload_n 1, 1) := by decide +kernel
theorem dX7_tries_7 : decode cX7_tries 7 = .ok (.sipush 1000, 3) := by decide +kernel
theorem dX7_tries_10 : decode cX7_tries 10 = .ok (.irem, 1) := by decide +kernel
theorem dX7_tries_11 : decode cX7_tries 11 = .ok (.istore_n 3, 1) := by decide +kernel
theorem dX7_tries_12 : decode cX7_tries 12 = .ok (.iload_n 3, 1) := by decide +kernel
theorem dX7_tries_13 : decode cX7_tries 13 = .ok (.bipush 100, 2) := by decide +kernel
theorem dX7_tries_15 : decode cX7_tries 15 = .ok (.idiv, 1) := by decide +kernel
theorem dX7_tries_16 : decode cX7_tries 16 = .ok (.istore 4, 2) := by decide +kernel
theorem dX7_tries_18 : decode cX7_tries 18 = .ok (.iload_n 3, 1) := by decide +kernel
theorem dX7_tries_19 : decode cX7_tries 19 = .ok (.bipush 100, 2) := by decide +kernel
theorem dX7_tries_21 : decode cX7_tries 21 = .ok (.irem, 1) := by decide +kernel
theorem dX7_tries_22 : decode cX7_tries 22 = .ok (.istore 5, 2) := by decide +kernel
theorem dX7_tries_24 : decode cX7_tries 24 = .ok (.iload_n 2, 1) := by decide +kernel
theorem dX7_tries_25 : decode cX7_tries 25 = .ok (.tableswitch 209 1 9 #[51, 51, 51, 51, 65, 92, 120, 148, 181], 51) := by decide +kernel
theorem dX7_tries_76 : decode cX7_tries 76 = .ok (.aload_n 0, 1) := by decide +kernel
theorem dX7_tries_77 : decode cX7_tries 77 = .ok (.iload_n 2, 1) := by decide +kernel
theorem dX7_tries_78 : decode cX7_tries 78 = .ok (.iload_n 3, 1) := by decide +kernel
theorem dX7_tries_79 : decode cX7_tries 79 = .ok (.bipush 10, 2) := by decide +kernel
theorem dX7_tries_81 : decode cX7_tries 81 = .ok (.idiv, 1) := by decide +kernel
theorem dX7_tries_82 : decode cX7_tries 82 = .ok (.iload_n 3, 1) := by decide +kernel
theorem dX7_tries_83 : decode cX7_tries 83 = .ok (.bipush 10, 2) := by decide +kernel
theorem dX7_tries_85 : decode cX7_tries 85 = .ok (.irem, 1) := by decide +kernel
theorem dX7_tries_86 : decode cX7_tries 86 = .ok (.invokevirtual 237, 3) := by decide +kernel
theorem dX7_tries_89 : decode cX7_tries 89 = .ok (.ireturn, 1) := by decide +kernel
theorem dX7_tries_90 : decode cX7_tries 90 = .ok (.iload_n 3, 1) := by decide +kernel
theorem dX7_tries_91 : decode cX7_tries 91 = .ok (.iconst 1, 1) := by decide +kernel
theorem dX7_tries_92 : decode cX7_tries 92 = .ok (.bipush 50, 2) := by decide +kernel
theorem dX7_tries_94 : decode cX7_tries 94 = .ok (.invokestatic 45, 3) := by decide +kernel
theorem dX7_tries_97 : decode cX7_tries 97 = .ok (.ifCond .eq 18, 3) := by decide +kernel
theorem dX7_tries_100 : decode cX7_tries 100 = .ok (.aload_n 0, 1) := by decide +kernel
theorem dX7_tries_101 : decode cX7_tries 101 = .ok (.getfield 13, 3) := by decide +kernel
theorem dX7_tries_104 : decode cX7_tries 104 = .ok (.iload_n 3, 1) := by decide +kernel
theorem dX7_tries_105 : decode cX7_tries 105 = .ok (.invokestatic 216, 3) := by decide +kernel
theorem dX7_tries_108 : decode cX7_tries 108 = .ok (.ifCond .lt 7, 3) := by decide +kernel
theorem dX7_tries_111 : decode cX7_tries 111 = .ok (.iconst 1, 1) := by decide +kernel
theorem dX7_tries_112 : decode cX7_tries 112 = .ok (.goto 4, 3) := by decide +kernel
theorem dX7_tries_115 : decode cX7_tries 115 = .ok (.iconst 0, 1) := by decide +kernel
theorem dX7_tries_116 : decode cX7_tries 116 = .ok (.ireturn, 1) := by decide +kernel
theorem dX7_tries_117 : decode cX7_tries 117 = .ok (.iload 4, 2) := by decide +kernel
theorem dX7_tries_119 : decode cX7_tries 119 = .ok (.invokestatic 160, 3) := by decide +kernel
theorem dX7_tries_122 : decode cX7_tries 122 = .ok (.ifCond .eq 21, 3) := by decide +kernel
theorem dX7_tries_125 : decode cX7_tries 125 = .ok (.aload_n 0, 1) := by decide +kernel
theorem dX7_tries_126 : decode cX7_tries 126 = .ok (.getfield 13, 3) := by decide +kernel
theorem dX7_tries_129 : decode cX7_tries 129 = .ok (.iload 4, 2) := by decide +kernel
theorem dX7_tries_131 : decode cX7_tries 131 = .ok (.invokestatic 147, 3) := by decide +kernel
theorem dX7_tries_134 : decode cX7_tries 134 = .ok (.iload 5, 2) := by decide +kernel
theorem dX7_tries_136 : decode cX7_tries 136 = .ok (.if_icmp .lt 7, 3) := by decide +kernel
theorem dX7_tries_139 : decode cX7_tries 139 = .ok (.iconst 1, 1) := by decide +kernel
theorem dX7_tries_140 : decode cX7_tries 140 = .ok (.goto 4, 3) := by decide +kernel
theorem dX7_tries_143 : decode cX7_tries 143 = .ok (.iconst 0, 1) := by decide +kernel
theorem dX7_tries_144 : decode cX7_tries 144 = .ok (.ireturn, 1) := by decide +kernel
theorem dX7_tries_145 : decode cX7_tries 145 = .ok (.iload 4, 2) := by decide +kernel
theorem dX7_tries_147 : decode cX7_tries 147 = .ok (.invokestatic 160, 3) := by decide +kernel
theorem dX7_tries_150 : decode cX7_tries 150 = .ok (.ifCond .eq 21, 3) := by decide +kernel
theorem dX7_tries_153 : decode cX7_tries 153 = .ok (.aload_n 0, 1) := by decide +kernel
theorem dX7_tries_154 : decode cX7_tries 154 = .ok (.getfield 13, 3) := by decide +kernel
theorem dX7_tries_157 : decode cX7_tries 157 = .ok (.iload 4, 2) := by decide +kernel
theorem dX7_tries_159 : decode cX7_tries 159 = .ok (.invokestatic 151, 3) := by decide +kernel
theorem dX7_tries_162 : decode cX7_tries 162 = .ok (.iload 5, 2) := by decide +kernel
theorem dX7_tries_164 : decode cX7_tries 164 = .ok (.if_icmp .lt 7, 3) := by decide +kernel
theorem dX7_tries_167 : decode cX7_tries 167 = .ok (.iconst 1, 1) := by decide +kernel
theorem dX7_tries_168 : decode cX7_tries 168 = .ok (.goto 4, 3) := by decide +kernel
theorem dX7_tries_171 : decode cX7_tries 171 = .ok (.iconst 0, 1) := by decide +kernel
theorem dX7_tries_172 : decode cX7_tries 172 = .ok (.ireturn, 1) := by decide +kernel
theorem dX7_tries_173 : decode cX7_tries 173 = .ok (.iload 4, 2) := by decide +kernel
theorem dX7_tries_175 : decode cX7_tries 175 = .ok (.aload_n 0, 1) := by decide +kernel
theorem dX7_tries_176 : decode cX7_tries 176 = .ok (.getfield 13, 3) := by decide +kernel
theorem dX7_tries_179 : decode cX7_tries 179 = .ok (.bipush 96, 2) := by decide +kernel
theorem dX7_tries_181 : decode cX7_tries 181 = .ok (.iaload, 1) := by decide +kernel
theorem dX7_tries_182 : decode cX7_tries 182 = .ok (.if_icmp .ge 22, 3) := by decide +kernel
theorem dX7_tries_185 : decode cX7_tries 185 = .ok (.aload_n 0, 1) := by decide +kernel
theorem dX7_tries_186 : decode cX7_tries 186 = .ok (.getfield 13, 3) := by decide +kernel
theorem dX7_tries_189 : decode cX7_tries 189 = .ok (.iload 4, 2) := by decide +kernel
theorem dX7_tries_191 : decode cX7_tries 191 = .ok (.iconst 0, 1) := by decide +kernel
theorem dX7_tries_192 : decode cX7_tries 192 = .ok (.invokestatic 83, 3) := by decide +kernel
theorem dX7_tries_195 : decode cX7_tries 195 = .ok (.iload 5, 2) := by decide +kernel
theorem dX7_tries_197 : decode cX7_tries 197 = .ok (.if_icmp .lt 7, 3) := by decide +kernel
theorem dX7_tries_200 : decode cX7_tries 200 = .ok (.iconst 1, 1) := by decide +kernel
theorem dX7_tries_201 : decode cX7_tries 201 = .ok (.goto 4, 3) := by decide +kernel
theorem dX7_tries_204 : decode cX7_tries 204 = .ok (.iconst 0, 1) := by decide +kernel
theorem dX7_tries_205 : decode cX7_tries 205 = .ok (.ireturn, 1) := by decide +kernel
theorem dX7_tries_206 : decode cX7_tries 206 = .ok (.iload 4, 2) := by decide +kernel
theorem dX7_tries_208 : decode cX7_tries 208 = .ok (.invokestatic 160, 3) := by decide +kernel
theorem dX7_tries_211 : decode cX7_tries 211 = .ok (.ifCond .eq 21, 3) := by decide +kernel
theorem dX7_tries_214 : decode cX7_tries 214 = .ok (.aload_n 0, 1) := by decide +kernel
theorem dX7_tries_215 : decode cX7_tries 215 = .ok (.getfield 13, 3) := by decide +kernel
theorem dX7_tries_218 : decode cX7_tries 218 = .ok (.iload 4, 2) := by decide +kernel
theorem dX7_tries_220 : decode cX7_tries 220 = .ok (.invokestatic 154, 3) := by decide +kernel
theorem dX7_tries_223 : decode cX7_tries 223 = .ok (.iload 5, 2) := by decide +kernel
theorem dX7_tries_225 : decode cX7_tries 225 = .ok (.if_icmp .lt 7, 3) := by decide +kernel
theorem dX7_tries_228 : decode cX7_tries 228 = .ok (.iconst 1, 1) := by decide +kernel
theorem dX7_tries_229 : decode cX7_tries 229 = .ok (.goto 4, 3) := by decide +kernel
theorem dX7_tries_232 : decode cX7_tries 232 = .ok (.iconst 0, 1) := by decide +kernel
theorem dX7_tries_233 : decode cX7_tries 233 = .ok (.ireturn, 1) := by decide +kernel
theorem dX7_tries_234 : decode cX7_tries 234 = .ok (.iconst 0, 1) := by decide +kernel
theorem dX7_tries_235 : decode cX7_tries 235 = .ok (.ireturn, 1) := by decide +kernel
theorem dX7_runScript_0 : decode cX7_runScript 0 = .ok (.iload_n 1, 1) := by decide +kernel
theorem dX7_runScript_1 : decode cX7_runScript 1 = .ok (.iconst 1, 1) := by decide +kernel
theorem dX7_runScript_2 : decode cX7_runScript 2 = .ok (.if_icmp .ne 9, 3) := by decide +kernel
theorem dX7_runScript_5 : decode cX7_runScript 5 = .ok (.ldc2_w 240, 3) := by decide +kernel
theorem dX7_runScript_8 : decode cX7_runScript 8 = .ok (.goto 17, 3) := by decide +kernel
theorem dX7_runScript_11 : decode cX7_runScript 11 = .ok (.iload_n 1, 1) := by decide +kernel
theorem dX7_runScript_12 : decode cX7_runScript 12 = .ok (.iconst 2, 1) := by decide +kernel
theorem dX7_runScript_13 : decode cX7_runScript 13 = .ok (.if_icmp .ne 9, 3) := by decide +kernel
theorem dX7_runScript_16 : decode cX7_runScript 16 = .ok (.ldc2_w 242, 3) := by decide +kernel
theorem dX7_runScript_19 : decode cX7_runScript 19 = .ok (.goto 6, 3) := by decide +kernel
theorem dX7_runScript_22 : decode cX7_runScript 22 = .ok (.ldc2_w 244, 3) := by decide +kernel
theorem dX7_runScript_25 : decode cX7_runScript 25 = .ok (.lstore 4, 2) := by decide +kernel
theorem dX7_runScript_27 : decode cX7_runScript 27 = .ok (.aload_n 0, 1) := by decide +kernel
theorem dX7_runScript_28 : decode cX7_runScript 28 = .ok (.iload_n 1, 1) := by decide +kernel
theorem dX7_runScript_29 : decode cX7_runScript 29 = .ok (.iconst 1, 1) := by decide +kernel
theorem dX7_runScript_30 : decode cX7_runScript 30 = .ok (.iconst 3, 1) := by decide +kernel
theorem dX7_runScript_31 : decode cX7_runScript 31 = .ok (.invokestatic 45, 3) := by decide +kernel
theorem dX7_runScript_34 : decode cX7_runScript 34 = .ok (.ifCond .eq 20, 3) := by decide +kernel
theorem dX7_runScript_37 : decode cX7_runScript 37 = .ok (.lload_n 2, 1) := by decide +kernel
theorem dX7_runScript_38 : decode cX7_runScript 38 = .ok (.lconst 0, 1) := by decide +kernel
theorem dX7_runScript_39 : decode cX7_runScript 39 = .ok (.lcmp, 1) := by decide +kernel
theorem dX7_runScript_40 : decode cX7_runScript 40 = .ok (.ifCond .lt 14, 3) := by decide +kernel
theorem dX7_runScript_43 : decode cX7_runScript 43 = .ok (.lload_n 2, 1) := by decide +kernel
theorem dX7_runScript_44 : decode cX7_runScript 44 = .ok (.lload 4, 2) := by decide +kernel
theorem dX7_runScript_46 : decode cX7_runScript 46 = .ok (.lcmp, 1) := by decide +kernel
theorem dX7_runScript_47 : decode cX7_runScript 47 = .ok (.ifCond .ge 7, 3) := by decide +kernel
theorem dX7_runScript_50 : decode cX7_runScript 50 = .ok (.iconst 0, 1) := by decide +kernel
theorem dX7_runScript_51 : decode cX7_runScript 51 = .ok (.goto 4, 3) := by decide +kernel
theorem dX7_runScript_54 : decode cX7_runScript 54 = .ok (.iconst 1, 1) := by decide +kernel
theorem dX7_runScript_55 : decode cX7_runScript 55 = .ok (.invokevirtual 41, 3) := by decide +kernel
theorem dX7_runScript_58 : decode cX7_runScript 58 = .ok (.ifCond .eq 5, 3) := by decide +kernel
theorem dX7_runScript_61 : decode cX7_runScript 61 = .ok (.iconst 0, 1) := by decide +kernel
theorem dX7_runScript_62 : decode cX7_runScript 62 = .ok (.ireturn, 1) := by decide +kernel
theorem dX7_runScript_63 : decode cX7_runScript 63 = .ok (.aload_n 0, 1) := by decide +kernel
theorem dX7_runScript_64 : decode cX7_runScript 64 = .ok (.getfield 7, 3) := by decide +kernel
theorem dX7_runScript_67 : decode cX7_runScript 67 = .ok (.iconst 0, 1) := by decide +kernel
theorem dX7_runScript_68 : decode cX7_runScript 68 = .ok (.aload_n 0, 1) := by decide +kernel
theorem dX7_runScript_69 : decode cX7_runScript 69 = .ok (.getfield 13, 3) := by decide +kernel
theorem dX7_runScript_72 : decode cX7_runScript 72 = .ok (.iconst 0, 1) := by decide +kernel
theorem dX7_runScript_73 : decode cX7_runScript 73 = .ok (.invokestatic 37, 3) := by decide +kernel
theorem dX7_runScript_76 : decode cX7_runScript 76 = .ok (.iconst 0, 1) := by decide +kernel
theorem dX7_runScript_77 : decode cX7_runScript 77 = .ok (.istore 6, 2) := by decide +kernel
theorem dX7_runScript_79 : decode cX7_runScript 79 = .ok (.iload 6, 2) := by decide +kernel
theorem dX7_runScript_81 : decode cX7_runScript 81 = .ok (.iload_n 1, 1) := by decide +kernel
theorem dX7_runScript_82 : decode cX7_runScript 82 = .ok (.if_icmp .ge 36, 3) := by decide +kernel
theorem dX7_runScript_85 : decode cX7_runScript 85 = .ok (.lload 4, 2) := by decide +kernel
theorem dX7_runScript_87 : decode cX7_runScript 87 = .ok (.ldc2_w 240, 3) := by decide +kernel
theorem dX7_runScript_90 : decode cX7_runScript 90 = .ok (.ldiv, 1) := by decide +kernel
theorem dX7_runScript_91 : decode cX7_runScript 91 = .ok (.lstore 4, 2) := by decide +kernel
theorem dX7_runScript_93 : decode cX7_runScript 93 = .ok (.aload_n 0, 1) := by decide +kernel
theorem dX7_runScript_94 : decode cX7_runScript 94 = .ok (.lload_n 2, 1) := by decide +kernel
theorem dX7_runScript_95 : decode cX7_runScript 95 = .ok (.lload 4, 2) := by decide +kernel
theorem dX7_runScript_97 : decode cX7_runScript 97 = .ok (.ldiv, 1) := by decide +kernel
theorem dX7_runScript_98 : decode cX7_runScript 98 = .ok (.ldc2_w 240, 3) := by decide +kernel
theorem dX7_runScript_101 : decode cX7_runScript 101 = .ok (.lrem, 1) := by decide +kernel
theorem dX7_runScript_102 : decode cX7_runScript 102 = .ok (.l2i, 1) := by decide +kernel
theorem dX7_runScript_103 : decode cX7_runScript 103 = .ok (.invokevirtual 246, 3) := by decide +kernel
theorem dX7_runScript_106 : decode cX7_runScript 106 = .ok (.ifCond .ne 6, 3) := by decide +kernel
theorem dX7_runScript_109 : decode cX7_runScript 109 = .ok (.iload 6, 2) := by decide +kernel
theorem dX7_runScript_111 : decode cX7_runScript 111 = .ok (.ireturn, 1) := by decide +kernel
theorem dX7_runScript_112 : decode cX7_runScript 112 = .ok (.iinc 6 1, 3) := by decide +kernel
theorem dX7_runScript_115 : decode cX7_runScript 115 = .ok (.goto (-36), 3) := by decide +kernel
theorem dX7_runScript_118 : decode cX7_runScript 118 = .ok (.iconst (-1), 1) := by decide +kernel
theorem dX7_runScript_119 : decode cX7_runScript 119 = .ok (.ireturn, 1) := by decide +kernel
theorem dX7_takesTurn_0 : decode cX7_takesTurn 0 = .ok (.iload_n 1, 1) := by decide +kernel
theorem dX7_takesTurn_1 : decode cX7_takesTurn 1 = .ok (.bipush 16, 2) := by decide +kernel
theorem dX7_takesTurn_3 : decode cX7_takesTurn 3 = .ok (.idiv, 1) := by decide +kernel
theorem dX7_takesTurn_4 : decode cX7_takesTurn 4 = .ok (.bipush 24, 2) := by decide +kernel
theorem dX7_takesTurn_6 : decode cX7_takesTurn 6 = .ok (.irem, 1) := by decide +kernel
theorem dX7_takesTurn_7 : decode cX7_takesTurn 7 = .ok (.istore_n 2, 1) := by decide +kernel
theorem dX7_takesTurn_8 : decode cX7_takesTurn 8 = .ok (.iload_n 1, 1) := by decide +kernel
theorem dX7_takesTurn_9 : decode cX7_takesTurn 9 = .ok (.sipush 512, 3) := by decide +kernel
theorem dX7_takesTurn_12 : decode cX7_takesTurn 12 = .ok (.idiv, 1) := by decide +kernel
theorem dX7_takesTurn_13 : decode cX7_takesTurn 13 = .ok (.bipush 9, 2) := by decide +kernel
theorem dX7_takesTurn_15 : decode cX7_takesTurn 15 = .ok (.irem, 1) := by decide +kernel
theorem dX7_takesTurn_16 : decode cX7_takesTurn 16 = .ok (.istore_n 3, 1) := by decide +kernel
theorem dX7_takesTurn_17 : decode cX7_takesTurn 17 = .ok (.iload_n 1, 1) := by decide +kernel
theorem dX7_takesTurn_18 : decode cX7_takesTurn 18 = .ok (.bipush 16, 2) := by decide +kernel
theorem dX7_takesTurn_20 : decode cX7_takesTurn 20 = .ok (.irem, 1) := by decide +kernel
theorem dX7_takesTurn_21 : decode cX7_takesTurn 21 = .ok (.istore 4, 2) := by decide +kernel
theorem dX7_takesTurn_23 : decode cX7_takesTurn 23 = .ok (.iload 4, 2) := by decide +kernel
theorem dX7_takesTurn_25 : decode cX7_takesTurn 25 = .ok (.bipush 7, 2) := by decide +kernel
theorem dX7_takesTurn_27 : decode cX7_takesTurn 27 = .ok (.if_icmp .ge 61, 3) := by decide +kernel
theorem dX7_takesTurn_30 : decode cX7_takesTurn 30 = .ok (.aload_n 0, 1) := by decide +kernel
theorem dX7_takesTurn_31 : decode cX7_takesTurn 31 = .ok (.iload 4, 2) := by decide +kernel
theorem dX7_takesTurn_33 : decode cX7_takesTurn 33 = .ok (.iconst 3, 1) := by decide +kernel
theorem dX7_takesTurn_34 : decode cX7_takesTurn 34 = .ok (.if_icmp .ge 7, 3) := by decide +kernel
theorem dX7_takesTurn_37 : decode cX7_takesTurn 37 = .ok (.iconst 1, 1) := by decide +kernel
theorem dX7_takesTurn_38 : decode cX7_takesTurn 38 = .ok (.goto 25, 3) := by decide +kernel
theorem dX7_takesTurn_41 : decode cX7_takesTurn 41 = .ok (.iload 4, 2) := by decide +kernel
theorem dX7_takesTurn_43 : decode cX7_takesTurn 43 = .ok (.iconst 3, 1) := by decide +kernel
theorem dX7_takesTurn_44 : decode cX7_takesTurn 44 = .ok (.if_icmp .ne 7, 3) := by decide +kernel
theorem dX7_takesTurn_47 : decode cX7_takesTurn 47 = .ok (.iconst 2, 1) := by decide +kernel
theorem dX7_takesTurn_48 : decode cX7_takesTurn 48 = .ok (.goto 15, 3) := by decide +kernel
theorem dX7_takesTurn_51 : decode cX7_takesTurn 51 = .ok (.iload 4, 2) := by decide +kernel
theorem dX7_takesTurn_53 : decode cX7_takesTurn 53 = .ok (.bipush 6, 2) := by decide +kernel
theorem dX7_takesTurn_55 : decode cX7_takesTurn 55 = .ok (.if_icmp .ge 7, 3) := by decide +kernel
theorem dX7_takesTurn_58 : decode cX7_takesTurn 58 = .ok (.iconst 3, 1) := by decide +kernel
theorem dX7_takesTurn_59 : decode cX7_takesTurn 59 = .ok (.goto 4, 3) := by decide +kernel
theorem dX7_takesTurn_62 : decode cX7_takesTurn 62 = .ok (.iconst 4, 1) := by decide +kernel
theorem dX7_takesTurn_63 : decode cX7_takesTurn 63 = .ok (.iload_n 2, 1) := by decide +kernel
theorem dX7_takesTurn_64 : decode cX7_takesTurn 64 = .ok (.iload 4, 2) := by decide +kernel
theorem dX7_takesTurn_66 : decode cX7_takesTurn 66 = .ok (.iconst 3, 1) := by decide +kernel
theorem dX7_takesTurn_67 : decode cX7_takesTurn 67 = .ok (.if_icmp .eq 10, 3) := by decide +kernel
theorem dX7_takesTurn_70 : decode cX7_takesTurn 70 = .ok (.iload 4, 2) := by decide +kernel
theorem dX7_takesTurn_72 : decode cX7_takesTurn 72 = .ok (.bipush 6, 2) := by decide +kernel
theorem dX7_takesTurn_74 : decode cX7_takesTurn 74 = .ok (.if_icmp .ne 7, 3) := by decide +kernel
theorem dX7_takesTurn_77 : decode cX7_takesTurn 77 = .ok (.iconst 0, 1) := by decide +kernel
theorem dX7_takesTurn_78 : decode cX7_takesTurn 78 = .ok (.goto 4, 3) := by decide +kernel
theorem dX7_takesTurn_81 : decode cX7_takesTurn 81 = .ok (.iload_n 3, 1) := by decide +kernel
theorem dX7_takesTurn_82 : decode cX7_takesTurn 82 = .ok (.invokevirtual 237, 3) := by decide +kernel
theorem dX7_takesTurn_85 : decode cX7_takesTurn 85 = .ok (.istore 5, 2) := by decide +kernel
theorem dX7_takesTurn_87 : decode cX7_takesTurn 87 = .ok (.return_, 1) := by decide +kernel
theorem dX7_takesTurn_88 : decode cX7_takesTurn 88 = .ok (.iconst 0, 1) := by decide +kernel
theorem dX7_takesTurn_89 : decode cX7_takesTurn 89 = .ok (.istore 5, 2) := by decide +kernel
theorem dX7_takesTurn_91 : decode cX7_takesTurn 91 = .ok (.iload 4, 2) := by decide +kernel
theorem dX7_takesTurn_93 : decode cX7_takesTurn 93 = .ok (.bipush 7, 2) := by decide +kernel
theorem dX7_takesTurn_95 : decode cX7_takesTurn 95 = .ok (.if_icmp .ne 79, 3) := by decide +kernel
theorem dX7_takesTurn_98 : decode cX7_takesTurn 98 = .ok (.aload_n 0, 1) := by decide +kernel
theorem dX7_takesTurn_99 : decode cX7_takesTurn 99 = .ok (.getfield 13, 3) := by decide +kernel
theorem dX7_takesTurn_102 : decode cX7_takesTurn 102 = .ok (.iload_n 2, 1) := by decide +kernel
theorem dX7_takesTurn_103 : decode cX7_takesTurn 103 = .ok (.invokestatic 234, 3) := by decide +kernel
theorem dX7_takesTurn_106 : decode cX7_takesTurn 106 = .ok (.ifCond .eq 18, 3) := by decide +kernel
theorem dX7_takesTurn_109 : decode cX7_takesTurn 109 = .ok (.aload_n 0, 1) := by decide +kernel
theorem dX7_takesTurn_110 : decode cX7_takesTurn 110 = .ok (.getfield 13, 3) := by decide +kernel
theorem dX7_takesTurn_113 : decode cX7_takesTurn 113 = .ok (.bipush 96, 2) := by decide +kernel
theorem dX7_takesTurn_115 : decode cX7_takesTurn 115 = .ok (.iaload, 1) := by decide +kernel
theorem dX7_takesTurn_116 : decode cX7_takesTurn 116 = .ok (.iconst 4, 1) := by decide +kernel
theorem dX7_takesTurn_117 : decode cX7_takesTurn 117 = .ok (.if_icmp .ge 7, 3) := by decide +kernel
theorem dX7_takesTurn_120 : decode cX7_takesTurn 120 = .ok (.iconst 1, 1) := by decide +kernel
theorem dX7_takesTurn_121 : decode cX7_takesTurn 121 = .ok (.goto 4, 3) := by decide +kernel
theorem dX7_takesTurn_124 : decode cX7_takesTurn 124 = .ok (.iconst 0, 1) := by decide +kernel
theorem dX7_takesTurn_125 : decode cX7_takesTurn 125 = .ok (.istore 6, 2) := by decide +kernel
theorem dX7_takesTurn_127 : decode cX7_takesTurn 127 = .ok (.iload 6, 2) := by decide +kernel
theorem dX7_takesTurn_129 : decode cX7_takesTurn 129 = .ok (.ifCond .eq 39, 3) := by decide +kernel
theorem dX7_takesTurn_132 : decode cX7_takesTurn 132 = .ok (.aload_n 0, 1) := by decide +kernel
theorem dX7_takesTurn_133 : decode cX7_takesTurn 133 = .ok (.getfield 13, 3) := by decide +kernel
theorem dX7_takesTurn_136 : decode cX7_takesTurn 136 = .ok (.iload_n 2, 1) := by decide +kernel
theorem dX7_takesTurn_137 : decode cX7_takesTurn 137 = .ok (.iload_n 1, 1) := by decide +kernel
theorem dX7_takesTurn_138 : decode cX7_takesTurn 138 = .ok (.sipush 512, 3) := by decide +kernel
theorem dX7_takesTurn_141 : decode cX7_takesTurn 141 = .ok (.idiv, 1) := by decide +kernel
theorem dX7_takesTurn_142 : decode cX7_takesTurn 142 = .ok (.iconst 2, 1) := by decide +kernel
theorem dX7_takesTurn_143 : decode cX7_takesTurn 143 = .ok (.irem, 1) := by decide +kernel
theorem dX7_takesTurn_144 : decode cX7_takesTurn 144 = .ok (.iconst 1, 1) := by decide +kernel
theorem dX7_takesTurn_145 : decode cX7_takesTurn 145 = .ok (.iload_n 1, 1) := by decide +kernel
theorem dX7_takesTurn_146 : decode cX7_takesTurn 146 = .ok (.sipush 1024, 3) := by decide +kernel
theorem dX7_takesTurn_149 : decode cX7_takesTurn 149 = .ok (.idiv, 1) := by decide +kernel
theorem dX7_takesTurn_150 : decode cX7_takesTurn 150 = .ok (.iconst 3, 1) := by decide +kernel
theorem dX7_takesTurn_151 : decode cX7_takesTurn 151 = .ok (.irem, 1) := by decide +kernel
theorem dX7_takesTurn_152 : decode cX7_takesTurn 152 = .ok (.iadd, 1) := by decide +kernel
theorem dX7_takesTurn_153 : decode cX7_takesTurn 153 = .ok (.iconst 1, 1) := by decide +kernel
theorem dX7_takesTurn_154 : decode cX7_takesTurn 154 = .ok (.iload_n 1, 1) := by decide +kernel
theorem dX7_takesTurn_155 : decode cX7_takesTurn 155 = .ok (.sipush 4096, 3) := by decide +kernel
theorem dX7_takesTurn_158 : decode cX7_takesTurn 158 = .ok (.idiv, 1) := by decide +kernel
theorem dX7_takesTurn_159 : decode cX7_takesTurn 159 = .ok (.iconst 5, 1) := by decide +kernel
theorem dX7_takesTurn_160 : decode cX7_takesTurn 160 = .ok (.irem, 1) := by decide +kernel
theorem dX7_takesTurn_161 : decode cX7_takesTurn 161 = .ok (.iadd, 1) := by decide +kernel
theorem dX7_takesTurn_162 : decode cX7_takesTurn 162 = .ok (.invokestatic 209, 3) := by decide +kernel
theorem dX7_takesTurn_165 : decode cX7_takesTurn 165 = .ok (.goto 4, 3) := by decide +kernel
theorem dX7_takesTurn_168 : decode cX7_takesTurn 168 = .ok (.iconst 0, 1) := by decide +kernel
theorem dX7_takesTurn_169 : decode cX7_takesTurn 169 = .ok (.istore 5, 2) := by decide +kernel
theorem dX7_takesTurn_171 : decode cX7_takesTurn 171 = .ok (.goto 66, 3) := by decide +kernel
theorem dX7_takesTurn_174 : decode cX7_takesTurn 174 = .ok (.iload 4, 2) := by decide +kernel
theorem dX7_takesTurn_176 : decode cX7_takesTurn 176 = .ok (.bipush 8, 2) := by decide +kernel
theorem dX7_takesTurn_178 : decode cX7_takesTurn 178 = .ok (.if_icmp .ne 41, 3) := by decide +kernel
theorem dX7_takesTurn_181 : decode cX7_takesTurn 181 = .ok (.iload_n 1, 1) := by decide +kernel
theorem dX7_takesTurn_182 : decode cX7_takesTurn 182 = .ok (.bipush 16, 2) := by decide +kernel
theorem dX7_takesTurn_184 : decode cX7_takesTurn 184 = .ok (.idiv, 1) := by decide +kernel
theorem dX7_takesTurn_185 : decode cX7_takesTurn 185 = .ok (.iconst 4, 1) := by decide +kernel
theorem dX7_takesTurn_186 : decode cX7_takesTurn 186 = .ok (.irem, 1) := by decide +kernel
theorem dX7_takesTurn_187 : decode cX7_takesTurn 187 = .ok (.aload_n 0, 1) := by decide +kernel
theorem dX7_takesTurn_188 : decode cX7_takesTurn 188 = .ok (.getfield 13, 3) := by decide +kernel
theorem dX7_takesTurn_191 : decode cX7_takesTurn 191 = .ok (.bipush 96, 2) := by decide +kernel
theorem dX7_takesTurn_193 : decode cX7_takesTurn 193 = .ok (.iaload, 1) := by decide +kernel
theorem dX7_takesTurn_194 : decode cX7_takesTurn 194 = .ok (.if_icmp .ge 19, 3) := by decide +kernel
theorem dX7_takesTurn_197 : decode cX7_takesTurn 197 = .ok (.aload_n 0, 1) := by decide +kernel
theorem dX7_takesTurn_198 : decode cX7_takesTurn 198 = .ok (.getfield 13, 3) := by decide +kernel
theorem dX7_takesTurn_201 : decode cX7_takesTurn 201 = .ok (.iload_n 1, 1) := by decide +kernel
theorem dX7_takesTurn_202 : decode cX7_takesTurn 202 = .ok (.bipush 16, 2) := by decide +kernel
theorem dX7_takesTurn_204 : decode cX7_takesTurn 204 = .ok (.idiv, 1) := by decide +kernel
theorem dX7_takesTurn_205 : decode cX7_takesTurn 205 = .ok (.iconst 4, 1) := by decide +kernel
theorem dX7_takesTurn_206 : decode cX7_takesTurn 206 = .ok (.irem, 1) := by decide +kernel
theorem dX7_takesTurn_207 : decode cX7_takesTurn 207 = .ok (.invokestatic 213, 3) := by decide +kernel
theorem dX7_takesTurn_210 : decode cX7_takesTurn 210 = .ok (.goto 4, 3) := by decide +kernel
theorem dX7_takesTurn_213 : decode cX7_takesTurn 213 = .ok (.iconst 0, 1) := by decide +kernel
theorem dX7_takesTurn_214 : decode cX7_takesTurn 214 = .ok (.istore 5, 2) := by decide +kernel
theorem dX7_takesTurn_216 : decode cX7_takesTurn 216 = .ok (.goto 21, 3) := by decide +kernel
theorem dX7_takesTurn_219 : decode cX7_takesTurn 219 = .ok (.aload_n 0, 1) := by decide +kernel
theorem dX7_takesTurn_220 : decode cX7_takesTurn 220 = .ok (.getfield 13, 3) := by decide +kernel
theorem dX7_takesTurn_223 : decode cX7_takesTurn 223 = .ok (.iconst 1, 1) := by decide +kernel
theorem dX7_takesTurn_224 : decode cX7_takesTurn 224 = .ok (.iload_n 1, 1) := by decide +kernel
theorem dX7_takesTurn_225 : decode cX7_takesTurn 225 = .ok (.bipush 16, 2) := by decide +kernel
theorem dX7_takesTurn_227 : decode cX7_takesTurn 227 = .ok (.idiv, 1) := by decide +kernel
theorem dX7_takesTurn_228 : decode cX7_takesTurn 228 = .ok (.bipush 9, 2) := by decide +kernel
theorem dX7_takesTurn_230 : decode cX7_takesTurn 230 = .ok (.irem, 1) := by decide +kernel
theorem dX7_takesTurn_231 : decode cX7_takesTurn 231 = .ok (.iadd, 1) := by decide +kernel
theorem dX7_takesTurn_232 : decode cX7_takesTurn 232 = .ok (.invokestatic 216, 3) := by decide +kernel
theorem dX7_takesTurn_235 : decode cX7_takesTurn 235 = .ok (.istore 5, 2) := by decide +kernel
theorem dX7_takesTurn_237 : decode cX7_takesTurn 237 = .ok (.return_, 1) := by decide +kernel
theorem dX7_simulate_0 : decode cX7_simulate 0 = .ok (.aload_n 0, 1) := by decide +kernel
theorem dX7_simulate_1 : decode cX7_simulate 1 = .ok (.iload_n 3, 1) := by decide +kernel
theorem dX7_simulate_2 : decode cX7_simulate 2 = .ok (.iconst 1, 1) := by decide +kernel
theorem dX7_simulate_3 : decode cX7_simulate 3 = .ok (.bipush 60, 2) := by decide +kernel
theorem dX7_simulate_5 : decode cX7_simulate 5 = .ok (.invokestatic 45, 3) := by decide +kernel
theorem dX7_simulate_8 : decode cX7_simulate 8 = .ok (.ifCond .eq 7, 3) := by decide +kernel
theorem dX7_simulate_11 : decode cX7_simulate 11 = .ok (.iconst 0, 1) := by decide +kernel
theorem dX7_simulate_12 : decode cX7_simulate 12 = .ok (.goto 4, 3) := by decide +kernel
theorem dX7_simulate_15 : decode cX7_simulate 15 = .ok (.iconst 1, 1) := by decide +kernel
theorem dX7_simulate_16 : decode cX7_simulate 16 = .ok (.invokevirtual 41, 3) := by decide +kernel
theorem dX7_simulate_19 : decode cX7_simulate 19 = .ok (.ifCond .eq 5, 3) := by decide +kernel
theorem dX7_simulate_22 : decode cX7_simulate 22 = .ok (.iconst 0, 1) := by decide +kernel
theorem dX7_simulate_23 : decode cX7_simulate 23 = .ok (.ireturn, 1) := by decide +kernel
theorem dX7_simulate_24 : decode cX7_simulate 24 = .ok (.aload_n 0, 1) := by decide +kernel
theorem dX7_simulate_25 : decode cX7_simulate 25 = .ok (.getfield 7, 3) := by decide +kernel
theorem dX7_simulate_28 : decode cX7_simulate 28 = .ok (.iconst 0, 1) := by decide +kernel
theorem dX7_simulate_29 : decode cX7_simulate 29 = .ok (.aload_n 0, 1) := by decide +kernel
theorem dX7_simulate_30 : decode cX7_simulate 30 = .ok (.getfield 13, 3) := by decide +kernel
theorem dX7_simulate_33 : decode cX7_simulate 33 = .ok (.iconst 0, 1) := by decide +kernel
theorem dX7_simulate_34 : decode cX7_simulate 34 = .ok (.invokestatic 37, 3) := by decide +kernel
theorem dX7_simulate_37 : decode cX7_simulate 37 = .ok (.lload_n 1, 1) := by decide +kernel
theorem dX7_simulate_38 : decode cX7_simulate 38 = .ok (.lstore 4, 2) := by decide +kernel
theorem dX7_simulate_40 : decode cX7_simulate 40 = .ok (.iconst 0, 1) := by decide +kernel
theorem dX7_simulate_41 : decode cX7_simulate 41 = .ok (.istore 6, 2) := by decide +kernel
theorem dX7_simulate_43 : decode cX7_simulate 43 = .ok (.iload 6, 2) := by decide +kernel
theorem dX7_simulate_45 : decode cX7_simulate 45 = .ok (.iload_n 3, 1) := by decide +kernel
theorem dX7_simulate_46 : decode cX7_simulate 46 = .ok (.if_icmp .ge 31, 3) := by decide +kernel
theorem dX7_simulate_49 : decode cX7_simulate 49 = .ok (.lload 4, 2) := by decide +kernel
theorem dX7_simulate_51 : decode cX7_simulate 51 = .ok (.ldc2_w 249, 3) := by decide +kernel
theorem dX7_simulate_54 : decode cX7_simulate 54 = .ok (.lmul, 1) := by decide +kernel
theorem dX7_simulate_55 : decode cX7_simulate 55 = .ok (.ldc2_w 251, 3) := by decide +kernel
theorem dX7_simulate_58 : decode cX7_simulate 58 = .ok (.ladd, 1) := by decide +kernel
theorem dX7_simulate_59 : decode cX7_simulate 59 = .ok (.lstore 4, 2) := by decide +kernel
theorem dX7_simulate_61 : decode cX7_simulate 61 = .ok (.aload_n 0, 1) := by decide +kernel
theorem dX7_simulate_62 : decode cX7_simulate 62 = .ok (.lload 4, 2) := by decide +kernel
theorem dX7_simulate_64 : decode cX7_simulate 64 = .ok (.bipush 33, 2) := by decide +kernel
theorem dX7_simulate_66 : decode cX7_simulate 66 = .ok (.lushr, 1) := by decide +kernel
theorem dX7_simulate_67 : decode cX7_simulate 67 = .ok (.l2i, 1) := by decide +kernel
theorem dX7_simulate_68 : decode cX7_simulate 68 = .ok (.invokevirtual 253, 3) := by decide +kernel
theorem dX7_simulate_71 : decode cX7_simulate 71 = .ok (.iinc 6 1, 3) := by decide +kernel
theorem dX7_simulate_74 : decode cX7_simulate 74 = .ok (.goto (-31), 3) := by decide +kernel
theorem dX7_simulate_77 : decode cX7_simulate 77 = .ok (.sipush 10000, 3) := by decide +kernel
theorem dX7_simulate_80 : decode cX7_simulate 80 = .ok (.aload_n 0, 1) := by decide +kernel
theorem dX7_simulate_81 : decode cX7_simulate 81 = .ok (.getfield 13, 3) := by decide +kernel
theorem dX7_simulate_84 : decode cX7_simulate 84 = .ok (.iconst 0, 1) := by decide +kernel
theorem dX7_simulate_85 : decode cX7_simulate 85 = .ok (.invokestatic 151, 3) := by decide +kernel
theorem dX7_simulate_88 : decode cX7_simulate 88 = .ok (.imul, 1) := by decide +kernel
theorem dX7_simulate_89 : decode cX7_simulate 89 = .ok (.bipush 100, 2) := by decide +kernel
theorem dX7_simulate_91 : decode cX7_simulate 91 = .ok (.aload_n 0, 1) := by decide +kernel
theorem dX7_simulate_92 : decode cX7_simulate 92 = .ok (.getfield 13, 3) := by decide +kernel
theorem dX7_simulate_95 : decode cX7_simulate 95 = .ok (.iconst 1, 1) := by decide +kernel
theorem dX7_simulate_96 : decode cX7_simulate 96 = .ok (.invokestatic 151, 3) := by decide +kernel
theorem dX7_simulate_99 : decode cX7_simulate 99 = .ok (.imul, 1) := by decide +kernel
theorem dX7_simulate_100 : decode cX7_simulate 100 = .ok (.iadd, 1) := by decide +kernel
theorem dX7_simulate_101 : decode cX7_simulate 101 = .ok (.aload_n 0, 1) := by decide +kernel
theorem dX7_simulate_102 : decode cX7_simulate 102 = .ok (.getfield 13, 3) := by decide +kernel
theorem dX7_simulate_105 : decode cX7_simulate 105 = .ok (.invokestatic 90, 3) := by decide +kernel
theorem dX7_simulate_108 : decode cX7_simulate 108 = .ok (.iadd, 1) := by decide +kernel
theorem dX7_simulate_109 : decode cX7_simulate 109 = .ok (.ireturn, 1) := by decide +kernel
theorem dX7_save_0 : decode cX7_save 0 = .ok (.aload_n 0, 1) := by decide +kernel
theorem dX7_save_1 : decode cX7_save 1 = .ok (.iload_n 1, 1) := by decide +kernel
theorem dX7_save_2 : decode cX7_save 2 = .ok (.iconst 0, 1) := by decide +kernel
theorem dX7_save_3 : decode cX7_save 3 = .ok (.iconst 1, 1) := by decide +kernel
theorem dX7_save_4 : decode cX7_save 4 = .ok (.invokestatic 45, 3) := by decide +kernel
theorem dX7_save_7 : decode cX7_save 7 = .ok (.ifCond .eq 7, 3) := by decide +kernel
theorem dX7_save_10 : decode cX7_save 10 = .ok (.iconst 0, 1) := by decide +kernel
theorem dX7_save_11 : decode cX7_save 11 = .ok (.goto 4, 3) := by decide +kernel
theorem dX7_save_14 : decode cX7_save 14 = .ok (.iconst 1, 1) := by decide +kernel
theorem dX7_save_15 : decode cX7_save 15 = .ok (.invokevirtual 41, 3) := by decide +kernel
theorem dX7_save_18 : decode cX7_save 18 = .ok (.ifCond .eq 5, 3) := by decide +kernel
theorem dX7_save_21 : decode cX7_save 21 = .ok (.iconst 0, 1) := by decide +kernel
theorem dX7_save_22 : decode cX7_save 22 = .ok (.ireturn, 1) := by decide +kernel
theorem dX7_save_23 : decode cX7_save 23 = .ok (.aload_n 0, 1) := by decide +kernel
theorem dX7_save_24 : decode cX7_save 24 = .ok (.getfield 7, 3) := by decide +kernel
theorem dX7_save_27 : decode cX7_save 27 = .ok (.iconst 0, 1) := by decide +kernel
theorem dX7_save_28 : decode cX7_save 28 = .ok (.aload_n 0, 1) := by decide +kernel
theorem dX7_save_29 : decode cX7_save 29 = .ok (.getfield 19, 3) := by decide +kernel
theorem dX7_save_32 : decode cX7_save 32 = .ok (.bipush 118, 2) := by decide +kernel
theorem dX7_save_34 : decode cX7_save 34 = .ok (.iload_n 1, 1) := by decide +kernel
theorem dX7_save_35 : decode cX7_save 35 = .ok (.imul, 1) := by decide +kernel
theorem dX7_save_36 : decode cX7_save 36 = .ok (.invokestatic 37, 3) := by decide +kernel
theorem dX7_save_39 : decode cX7_save 39 = .ok (.aload_n 0, 1) := by decide +kernel
theorem dX7_save_40 : decode cX7_save 40 = .ok (.getfield 22, 3) := by decide +kernel
theorem dX7_save_43 : decode cX7_save 43 = .ok (.iload_n 1, 1) := by decide +kernel
theorem dX7_save_44 : decode cX7_save 44 = .ok (.iconst 1, 1) := by decide +kernel
theorem dX7_save_45 : decode cX7_save 45 = .ok (.bastore, 1) := by decide +kernel
theorem dX7_save_46 : decode cX7_save 46 = .ok (.aload_n 0, 1) := by decide +kernel
theorem dX7_save_47 : decode cX7_save 47 = .ok (.getfield 7, 3) := by decide +kernel
theorem dX7_save_50 : decode cX7_save 50 = .ok (.iconst 0, 1) := by decide +kernel
theorem dX7_save_51 : decode cX7_save 51 = .ok (.iaload, 1) := by decide +kernel
theorem dX7_save_52 : decode cX7_save 52 = .ok (.ireturn, 1) := by decide +kernel
theorem dX7_restore_0 : decode cX7_restore 0 = .ok (.iload_n 1, 1) := by decide +kernel
theorem dX7_restore_1 : decode cX7_restore 1 = .ok (.iconst 0, 1) := by decide +kernel
theorem dX7_restore_2 : decode cX7_restore 2 = .ok (.iconst 1, 1) := by decide +kernel
theorem dX7_restore_3 : decode cX7_restore 3 = .ok (.invokestatic 45, 3) := by decide +kernel
theorem dX7_restore_6 : decode cX7_restore 6 = .ok (.istore_n 2, 1) := by decide +kernel
theorem dX7_restore_7 : decode cX7_restore 7 = .ok (.aload_n 0, 1) := by decide +kernel
theorem dX7_restore_8 : decode cX7_restore 8 = .ok (.iload_n 2, 1) := by decide +kernel
theorem dX7_restore_9 : decode cX7_restore 9 = .ok (.ifCond .ne 7, 3) := by decide +kernel
theorem dX7_restore_12 : decode cX7_restore 12 = .ok (.iconst 1, 1) := by decide +kernel
theorem dX7_restore_13 : decode cX7_restore 13 = .ok (.goto 17, 3) := by decide +kernel
theorem dX7_restore_16 : decode cX7_restore 16 = .ok (.aload_n 0, 1) := by decide +kernel
theorem dX7_restore_17 : decode cX7_restore 17 = .ok (.getfield 22, 3) := by decide +kernel
theorem dX7_restore_20 : decode cX7_restore 20 = .ok (.iload_n 1, 1) := by decide +kernel
theorem dX7_restore_21 : decode cX7_restore 21 = .ok (.baload, 1) := by decide +kernel
theorem dX7_restore_22 : decode cX7_restore 22 = .ok (.ifCond .eq 7, 3) := by decide +kernel
theorem dX7_restore_25 : decode cX7_restore 25 = .ok (.iconst 0, 1) := by decide +kernel
theorem dX7_restore_26 : decode cX7_restore 26 = .ok (.goto 4, 3) := by decide +kernel
theorem dX7_restore_29 : decode cX7_restore 29 = .ok (.iconst 2, 1) := by decide +kernel
theorem dX7_restore_30 : decode cX7_restore 30 = .ok (.invokevirtual 41, 3) := by decide +kernel
theorem dX7_restore_33 : decode cX7_restore 33 = .ok (.ifCond .eq 5, 3) := by decide +kernel
theorem dX7_restore_36 : decode cX7_restore 36 = .ok (.iconst 0, 1) := by decide +kernel
theorem dX7_restore_37 : decode cX7_restore 37 = .ok (.ireturn, 1) := by decide +kernel
theorem dX7_restore_38 : decode cX7_restore 38 = .ok (.aload_n 0, 1) := by decide +kernel
theorem dX7_restore_39 : decode cX7_restore 39 = .ok (.getfield 19, 3) := by decide +kernel
theorem dX7_restore_42 : decode cX7_restore 42 = .ok (.bipush 118, 2) := by decide +kernel
theorem dX7_restore_44 : decode cX7_restore 44 = .ok (.iload_n 1, 1) := by decide +kernel
theorem dX7_restore_45 : decode cX7_restore 45 = .ok (.imul, 1) := by decide +kernel
theorem dX7_restore_46 : decode cX7_restore 46 = .ok (.aload_n 0, 1) := by decide +kernel
theorem dX7_restore_47 : decode cX7_restore 47 = .ok (.getfield 7, 3) := by decide +kernel
theorem dX7_restore_50 : decode cX7_restore 50 = .ok (.iconst 0, 1) := by decide +kernel
theorem dX7_restore_51 : decode cX7_restore 51 = .ok (.invokestatic 37, 3) := by decide +kernel
theorem dX7_restore_54 : decode cX7_restore 54 = .ok (.aload_n 0, 1) := by decide +kernel
theorem dX7_restore_55 : decode cX7_restore 55 = .ok (.iconst 0, 1) := by decide +kernel
theorem dX7_restore_56 : decode cX7_restore 56 = .ok (.putfield 34, 3) := by decide +kernel
theorem dX7_restore_59 : decode cX7_restore 59 = .ok (.aload_n 0, 1) := by decide +kernel
theorem dX7_restore_60 : decode cX7_restore 60 = .ok (.getfield 7, 3) := by decide +kernel
theorem dX7_restore_63 : decode cX7_restore 63 = .ok (.iconst 0, 1) := by decide +kernel
theorem dX7_restore_64 : decode cX7_restore 64 = .ok (.iaload, 1) := by decide +kernel
theorem dX7_restore_65 : decode cX7_restore 65 = .ok (.ireturn, 1) := by decide +kernel
