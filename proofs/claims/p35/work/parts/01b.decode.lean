theorem dX0_init_0 : decode cX0_init 0 = .ok (.aload_n 0, 1) := by decide +kernel
theorem dX0_init_1 : decode cX0_init 1 = .ok (.invokespecial 3, 3) := by decide +kernel
theorem dX0_init_4 : decode cX0_init 4 = .ok (.aload_n 0, 1) := by decide +kernel
theorem dX0_init_5 : decode cX0_init 5 = .ok (.bipush 16, 2) := by decide +kernel
theorem dX0_init_7 : decode cX0_init 7 = .ok (.newarray .int, 2) := by decide +kernel
theorem dX0_init_9 : decode cX0_init 9 = .ok (.putfield 9, 3) := by decide +kernel
theorem dX0_init_12 : decode cX0_init 12 = .ok (.aload_n 0, 1) := by decide +kernel
theorem dX0_init_13 : decode cX0_init 13 = .ok (.bipush 16, 2) := by decide +kernel
theorem dX0_init_15 : decode cX0_init 15 = .ok (.newarray .int, 2) := by decide +kernel
theorem dX0_init_17 : decode cX0_init 17 = .ok (.putfield 15, 3) := by decide +kernel
theorem dX0_init_20 : decode cX0_init 20 = .ok (.aload_n 0, 1) := by decide +kernel
theorem dX0_init_21 : decode cX0_init 21 = .ok (.bipush 16, 2) := by decide +kernel
theorem dX0_init_23 : decode cX0_init 23 = .ok (.newarray .int, 2) := by decide +kernel
theorem dX0_init_25 : decode cX0_init 25 = .ok (.putfield 18, 3) := by decide +kernel
theorem dX0_init_28 : decode cX0_init 28 = .ok (.aload_n 0, 1) := by decide +kernel
theorem dX0_init_29 : decode cX0_init 29 = .ok (.bipush 16, 2) := by decide +kernel
theorem dX0_init_31 : decode cX0_init 31 = .ok (.newarray .boolean, 2) := by decide +kernel
theorem dX0_init_33 : decode cX0_init 33 = .ok (.putfield 21, 3) := by decide +kernel
theorem dX0_init_36 : decode cX0_init 36 = .ok (.aload_n 0, 1) := by decide +kernel
theorem dX0_init_37 : decode cX0_init 37 = .ok (.bipush 16, 2) := by decide +kernel
theorem dX0_init_39 : decode cX0_init 39 = .ok (.newarray .boolean, 2) := by decide +kernel
theorem dX0_init_41 : decode cX0_init 41 = .ok (.putfield 25, 3) := by decide +kernel
theorem dX0_init_44 : decode cX0_init 44 = .ok (.return_, 1) := by decide +kernel
theorem dX0_clear_0 : decode cX0_clear 0 = .ok (.iconst 0, 1) := by decide +kernel
theorem dX0_clear_1 : decode cX0_clear 1 = .ok (.istore_n 1, 1) := by decide +kernel
theorem dX0_clear_2 : decode cX0_clear 2 = .ok (.iload_n 1, 1) := by decide +kernel
theorem dX0_clear_3 : decode cX0_clear 3 = .ok (.bipush 16, 2) := by decide +kernel
theorem dX0_clear_5 : decode cX0_clear 5 = .ok (.if_icmp .ge 30, 3) := by decide +kernel
theorem dX0_clear_8 : decode cX0_clear 8 = .ok (.aload_n 0, 1) := by decide +kernel
theorem dX0_clear_9 : decode cX0_clear 9 = .ok (.getfield 9, 3) := by decide +kernel
theorem dX0_clear_12 : decode cX0_clear 12 = .ok (.iload_n 1, 1) := by decide +kernel
theorem dX0_clear_13 : decode cX0_clear 13 = .ok (.iconst (-1), 1) := by decide +kernel
theorem dX0_clear_14 : decode cX0_clear 14 = .ok (.iastore, 1) := by decide +kernel
theorem dX0_clear_15 : decode cX0_clear 15 = .ok (.aload_n 0, 1) := by decide +kernel
theorem dX0_clear_16 : decode cX0_clear 16 = .ok (.getfield 21, 3) := by decide +kernel
theorem dX0_clear_19 : decode cX0_clear 19 = .ok (.iload_n 1, 1) := by decide +kernel
theorem dX0_clear_20 : decode cX0_clear 20 = .ok (.iconst 0, 1) := by decide +kernel
theorem dX0_clear_21 : decode cX0_clear 21 = .ok (.bastore, 1) := by decide +kernel
theorem dX0_clear_22 : decode cX0_clear 22 = .ok (.aload_n 0, 1) := by decide +kernel
theorem dX0_clear_23 : decode cX0_clear 23 = .ok (.getfield 25, 3) := by decide +kernel
theorem dX0_clear_26 : decode cX0_clear 26 = .ok (.iload_n 1, 1) := by decide +kernel
theorem dX0_clear_27 : decode cX0_clear 27 = .ok (.iconst 0, 1) := by decide +kernel
theorem dX0_clear_28 : decode cX0_clear 28 = .ok (.bastore, 1) := by decide +kernel
theorem dX0_clear_29 : decode cX0_clear 29 = .ok (.iinc 1 1, 3) := by decide +kernel
theorem dX0_clear_32 : decode cX0_clear 32 = .ok (.goto (-30), 3) := by decide +kernel
theorem dX0_clear_35 : decode cX0_clear 35 = .ok (.return_, 1) := by decide +kernel
theorem dX0_isFilled_0 : decode cX0_isFilled 0 = .ok (.aload_n 0, 1) := by decide +kernel
theorem dX0_isFilled_1 : decode cX0_isFilled 1 = .ok (.getfield 9, 3) := by decide +kernel
theorem dX0_isFilled_4 : decode cX0_isFilled 4 = .ok (.iload_n 1, 1) := by decide +kernel
theorem dX0_isFilled_5 : decode cX0_isFilled 5 = .ok (.iaload, 1) := by decide +kernel
theorem dX0_isFilled_6 : decode cX0_isFilled 6 = .ok (.iconst (-1), 1) := by decide +kernel
theorem dX0_isFilled_7 : decode cX0_isFilled 7 = .ok (.if_icmp .eq 7, 3) := by decide +kernel
theorem dX0_isFilled_10 : decode cX0_isFilled 10 = .ok (.iconst 1, 1) := by decide +kernel
theorem dX0_isFilled_11 : decode cX0_isFilled 11 = .ok (.goto 4, 3) := by decide +kernel
theorem dX0_isFilled_14 : decode cX0_isFilled 14 = .ok (.iconst 0, 1) := by decide +kernel
theorem dX0_isFilled_15 : decode cX0_isFilled 15 = .ok (.ireturn, 1) := by decide +kernel
theorem dX0_isAway_0 : decode cX0_isAway 0 = .ok (.aload_n 0, 1) := by decide +kernel
theorem dX0_isAway_1 : decode cX0_isAway 1 = .ok (.getfield 21, 3) := by decide +kernel
theorem dX0_isAway_4 : decode cX0_isAway 4 = .ok (.iload_n 1, 1) := by decide +kernel
theorem dX0_isAway_5 : decode cX0_isAway 5 = .ok (.baload, 1) := by decide +kernel
theorem dX0_isAway_6 : decode cX0_isAway 6 = .ok (.ifCond .ne 12, 3) := by decide +kernel
theorem dX0_isAway_9 : decode cX0_isAway 9 = .ok (.aload_n 0, 1) := by decide +kernel
theorem dX0_isAway_10 : decode cX0_isAway 10 = .ok (.getfield 25, 3) := by decide +kernel
theorem dX0_isAway_13 : decode cX0_isAway 13 = .ok (.iload_n 1, 1) := by decide +kernel
theorem dX0_isAway_14 : decode cX0_isAway 14 = .ok (.baload, 1) := by decide +kernel
theorem dX0_isAway_15 : decode cX0_isAway 15 = .ok (.ifCond .eq 7, 3) := by decide +kernel
theorem dX0_isAway_18 : decode cX0_isAway 18 = .ok (.iconst 1, 1) := by decide +kernel
theorem dX0_isAway_19 : decode cX0_isAway 19 = .ok (.goto 4, 3) := by decide +kernel
theorem dX0_isAway_22 : decode cX0_isAway 22 = .ok (.iconst 0, 1) := by decide +kernel
theorem dX0_isAway_23 : decode cX0_isAway 23 = .ok (.ireturn, 1) := by decide +kernel
theorem dX0_isRight_0 : decode cX0_isRight 0 = .ok (.aload_n 0, 1) := by decide +kernel
theorem dX0_isRight_1 : decode cX0_isRight 1 = .ok (.getfield 9, 3) := by decide +kernel
theorem dX0_isRight_4 : decode cX0_isRight 4 = .ok (.iload_n 1, 1) := by decide +kernel
theorem dX0_isRight_5 : decode cX0_isRight 5 = .ok (.iaload, 1) := by decide +kernel
theorem dX0_isRight_6 : decode cX0_isRight 6 = .ok (.iload_n 1, 1) := by decide +kernel
theorem dX0_isRight_7 : decode cX0_isRight 7 = .ok (.if_icmp .ne 16, 3) := by decide +kernel
theorem dX0_isRight_10 : decode cX0_isRight 10 = .ok (.aload_n 0, 1) := by decide +kernel
theorem dX0_isRight_11 : decode cX0_isRight 11 = .ok (.getfield 15, 3) := by decide +kernel
theorem dX0_isRight_14 : decode cX0_isRight 14 = .ok (.iload_n 1, 1) := by decide +kernel
theorem dX0_isRight_15 : decode cX0_isRight 15 = .ok (.iaload, 1) := by decide +kernel
theorem dX0_isRight_16 : decode cX0_isRight 16 = .ok (.ifCond .ne 7, 3) := by decide +kernel
theorem dX0_isRight_19 : decode cX0_isRight 19 = .ok (.iconst 1, 1) := by decide +kernel
theorem dX0_isRight_20 : decode cX0_isRight 20 = .ok (.goto 4, 3) := by decide +kernel
theorem dX0_isRight_23 : decode cX0_isRight 23 = .ok (.iconst 0, 1) := by decide +kernel
theorem dX0_isRight_24 : decode cX0_isRight 24 = .ok (.ireturn, 1) := by decide +kernel
theorem dX0_put_0 : decode cX0_put 0 = .ok (.aload_n 0, 1) := by decide +kernel
theorem dX0_put_1 : decode cX0_put 1 = .ok (.getfield 9, 3) := by decide +kernel
theorem dX0_put_4 : decode cX0_put 4 = .ok (.iload_n 1, 1) := by decide +kernel
theorem dX0_put_5 : decode cX0_put 5 = .ok (.iload_n 2, 1) := by decide +kernel
theorem dX0_put_6 : decode cX0_put 6 = .ok (.iastore, 1) := by decide +kernel
theorem dX0_put_7 : decode cX0_put 7 = .ok (.aload_n 0, 1) := by decide +kernel
theorem dX0_put_8 : decode cX0_put 8 = .ok (.getfield 15, 3) := by decide +kernel
theorem dX0_put_11 : decode cX0_put 11 = .ok (.iload_n 1, 1) := by decide +kernel
theorem dX0_put_12 : decode cX0_put 12 = .ok (.iload_n 3, 1) := by decide +kernel
theorem dX0_put_13 : decode cX0_put 13 = .ok (.iastore, 1) := by decide +kernel
theorem dX0_put_14 : decode cX0_put 14 = .ok (.aload_n 0, 1) := by decide +kernel
theorem dX0_put_15 : decode cX0_put 15 = .ok (.getfield 18, 3) := by decide +kernel
theorem dX0_put_18 : decode cX0_put 18 = .ok (.iload_n 1, 1) := by decide +kernel
theorem dX0_put_19 : decode cX0_put 19 = .ok (.iload 4, 2) := by decide +kernel
theorem dX0_put_21 : decode cX0_put 21 = .ok (.iastore, 1) := by decide +kernel
theorem dX0_put_22 : decode cX0_put 22 = .ok (.aload_n 0, 1) := by decide +kernel
theorem dX0_put_23 : decode cX0_put 23 = .ok (.getfield 21, 3) := by decide +kernel
theorem dX0_put_26 : decode cX0_put 26 = .ok (.iload_n 2, 1) := by decide +kernel
theorem dX0_put_27 : decode cX0_put 27 = .ok (.iconst 1, 1) := by decide +kernel
theorem dX0_put_28 : decode cX0_put 28 = .ok (.bastore, 1) := by decide +kernel
theorem dX0_put_29 : decode cX0_put 29 = .ok (.return_, 1) := by decide +kernel
theorem dX0_takeUp_0 : decode cX0_takeUp 0 = .ok (.aload_n 0, 1) := by decide +kernel
theorem dX0_takeUp_1 : decode cX0_takeUp 1 = .ok (.getfield 9, 3) := by decide +kernel
theorem dX0_takeUp_4 : decode cX0_takeUp 4 = .ok (.iload_n 1, 1) := by decide +kernel
theorem dX0_takeUp_5 : decode cX0_takeUp 5 = .ok (.iaload, 1) := by decide +kernel
theorem dX0_takeUp_6 : decode cX0_takeUp 6 = .ok (.istore_n 2, 1) := by decide +kernel
theorem dX0_takeUp_7 : decode cX0_takeUp 7 = .ok (.iload_n 2, 1) := by decide +kernel
theorem dX0_takeUp_8 : decode cX0_takeUp 8 = .ok (.iconst (-1), 1) := by decide +kernel
theorem dX0_takeUp_9 : decode cX0_takeUp 9 = .ok (.if_icmp .eq 17, 3) := by decide +kernel
theorem dX0_takeUp_12 : decode cX0_takeUp 12 = .ok (.aload_n 0, 1) := by decide +kernel
theorem dX0_takeUp_13 : decode cX0_takeUp 13 = .ok (.getfield 21, 3) := by decide +kernel
theorem dX0_takeUp_16 : decode cX0_takeUp 16 = .ok (.iload_n 2, 1) := by decide +kernel
theorem dX0_takeUp_17 : decode cX0_takeUp 17 = .ok (.iconst 0, 1) := by decide +kernel
theorem dX0_takeUp_18 : decode cX0_takeUp 18 = .ok (.bastore, 1) := by decide +kernel
theorem dX0_takeUp_19 : decode cX0_takeUp 19 = .ok (.aload_n 0, 1) := by decide +kernel
theorem dX0_takeUp_20 : decode cX0_takeUp 20 = .ok (.getfield 9, 3) := by decide +kernel
theorem dX0_takeUp_23 : decode cX0_takeUp 23 = .ok (.iload_n 1, 1) := by decide +kernel
theorem dX0_takeUp_24 : decode cX0_takeUp 24 = .ok (.iconst (-1), 1) := by decide +kernel
theorem dX0_takeUp_25 : decode cX0_takeUp 25 = .ok (.iastore, 1) := by decide +kernel
theorem dX0_takeUp_26 : decode cX0_takeUp 26 = .ok (.iload_n 2, 1) := by decide +kernel
theorem dX0_takeUp_27 : decode cX0_takeUp 27 = .ok (.ireturn, 1) := by decide +kernel
theorem dX0_takeAway_0 : decode cX0_takeAway 0 = .ok (.iconst 0, 1) := by decide +kernel
theorem dX0_takeAway_1 : decode cX0_takeAway 1 = .ok (.istore_n 2, 1) := by decide +kernel
theorem dX0_takeAway_2 : decode cX0_takeAway 2 = .ok (.iload_n 2, 1) := by decide +kernel
theorem dX0_takeAway_3 : decode cX0_takeAway 3 = .ok (.bipush 16, 2) := by decide +kernel
theorem dX0_takeAway_5 : decode cX0_takeAway 5 = .ok (.if_icmp .ge 25, 3) := by decide +kernel
theorem dX0_takeAway_8 : decode cX0_takeAway 8 = .ok (.aload_n 0, 1) := by decide +kernel
theorem dX0_takeAway_9 : decode cX0_takeAway 9 = .ok (.getfield 9, 3) := by decide +kernel
theorem dX0_takeAway_12 : decode cX0_takeAway 12 = .ok (.iload_n 2, 1) := by decide +kernel
theorem dX0_takeAway_13 : decode cX0_takeAway 13 = .ok (.iaload, 1) := by decide +kernel
theorem dX0_takeAway_14 : decode cX0_takeAway 14 = .ok (.iload_n 1, 1) := by decide +kernel
theorem dX0_takeAway_15 : decode cX0_takeAway 15 = .ok (.if_icmp .ne 9, 3) := by decide +kernel
theorem dX0_takeAway_18 : decode cX0_takeAway 18 = .ok (.aload_n 0, 1) := by decide +kernel
theorem dX0_takeAway_19 : decode cX0_takeAway 19 = .ok (.iload_n 2, 1) := by decide +kernel
theorem dX0_takeAway_20 : decode cX0_takeAway 20 = .ok (.invokevirtual 28, 3) := by decide +kernel
theorem dX0_takeAway_23 : decode cX0_takeAway 23 = .ok (.pop, 1) := by decide +kernel
theorem dX0_takeAway_24 : decode cX0_takeAway 24 = .ok (.iinc 2 1, 3) := by decide +kernel
theorem dX0_takeAway_27 : decode cX0_takeAway 27 = .ok (.goto (-25), 3) := by decide +kernel
theorem dX0_takeAway_30 : decode cX0_takeAway 30 = .ok (.return_, 1) := by decide +kernel
theorem dX0_laidBy_0 : decode cX0_laidBy 0 = .ok (.iconst 0, 1) := by decide +kernel
theorem dX0_laidBy_1 : decode cX0_laidBy 1 = .ok (.istore_n 2, 1) := by decide +kernel
theorem dX0_laidBy_2 : decode cX0_laidBy 2 = .ok (.iconst 0, 1) := by decide +kernel
theorem dX0_laidBy_3 : decode cX0_laidBy 3 = .ok (.istore_n 3, 1) := by decide +kernel
theorem dX0_laidBy_4 : decode cX0_laidBy 4 = .ok (.iload_n 3, 1) := by decide +kernel
theorem dX0_laidBy_5 : decode cX0_laidBy 5 = .ok (.bipush 16, 2) := by decide +kernel
theorem dX0_laidBy_7 : decode cX0_laidBy 7 = .ok (.if_icmp .ge 30, 3) := by decide +kernel
theorem dX0_laidBy_10 : decode cX0_laidBy 10 = .ok (.aload_n 0, 1) := by decide +kernel
theorem dX0_laidBy_11 : decode cX0_laidBy 11 = .ok (.iload_n 3, 1) := by decide +kernel
theorem dX0_laidBy_12 : decode cX0_laidBy 12 = .ok (.invokevirtual 32, 3) := by decide +kernel
theorem dX0_laidBy_15 : decode cX0_laidBy 15 = .ok (.ifCond .eq 16, 3) := by decide +kernel
theorem dX0_laidBy_18 : decode cX0_laidBy 18 = .ok (.aload_n 0, 1) := by decide +kernel
theorem dX0_laidBy_19 : decode cX0_laidBy 19 = .ok (.getfield 18, 3) := by decide +kernel
theorem dX0_laidBy_22 : decode cX0_laidBy 22 = .ok (.iload_n 3, 1) := by decide +kernel
theorem dX0_laidBy_23 : decode cX0_laidBy 23 = .ok (.iaload, 1) := by decide +kernel
theorem dX0_laidBy_24 : decode cX0_laidBy 24 = .ok (.iload_n 1, 1) := by decide +kernel
theorem dX0_laidBy_25 : decode cX0_laidBy 25 = .ok (.if_icmp .ne 6, 3) := by decide +kernel
theorem dX0_laidBy_28 : decode cX0_laidBy 28 = .ok (.iinc 2 1, 3) := by decide +kernel
theorem dX0_laidBy_31 : decode cX0_laidBy 31 = .ok (.iinc 3 1, 3) := by decide +kernel
theorem dX0_laidBy_34 : decode cX0_laidBy 34 = .ok (.goto (-30), 3) := by decide +kernel
theorem dX0_laidBy_37 : decode cX0_laidBy 37 = .ok (.iload_n 2, 1) := by decide +kernel
theorem dX0_laidBy_38 : decode cX0_laidBy 38 = .ok (.ireturn, 1) := by decide +kernel
theorem dX0_howManyFilled_0 : decode cX0_howManyFilled 0 = .ok (.iconst 0, 1) := by decide +kernel
theorem dX0_howManyFilled_1 : decode cX0_howManyFilled 1 = .ok (.istore_n 1, 1) := by decide +kernel
theorem dX0_howManyFilled_2 : decode cX0_howManyFilled 2 = .ok (.iconst 0, 1) := by decide +kernel
theorem dX0_howManyFilled_3 : decode cX0_howManyFilled 3 = .ok (.istore_n 2, 1) := by decide +kernel
theorem dX0_howManyFilled_4 : decode cX0_howManyFilled 4 = .ok (.iload_n 2, 1) := by decide +kernel
theorem dX0_howManyFilled_5 : decode cX0_howManyFilled 5 = .ok (.bipush 16, 2) := by decide +kernel
theorem dX0_howManyFilled_7 : decode cX0_howManyFilled 7 = .ok (.if_icmp .ge 20, 3) := by decide +kernel
theorem dX0_howManyFilled_10 : decode cX0_howManyFilled 10 = .ok (.aload_n 0, 1) := by decide +kernel
theorem dX0_howManyFilled_11 : decode cX0_howManyFilled 11 = .ok (.iload_n 2, 1) := by decide +kernel
theorem dX0_howManyFilled_12 : decode cX0_howManyFilled 12 = .ok (.invokevirtual 32, 3) := by decide +kernel
theorem dX0_howManyFilled_15 : decode cX0_howManyFilled 15 = .ok (.ifCond .eq 6, 3) := by decide +kernel
theorem dX0_howManyFilled_18 : decode cX0_howManyFilled 18 = .ok (.iinc 1 1, 3) := by decide +kernel
theorem dX0_howManyFilled_21 : decode cX0_howManyFilled 21 = .ok (.iinc 2 1, 3) := by decide +kernel
theorem dX0_howManyFilled_24 : decode cX0_howManyFilled 24 = .ok (.goto (-20), 3) := by decide +kernel
theorem dX0_howManyFilled_27 : decode cX0_howManyFilled 27 = .ok (.iload_n 1, 1) := by decide +kernel
theorem dX0_howManyFilled_28 : decode cX0_howManyFilled 28 = .ok (.ireturn, 1) := by decide +kernel
theorem dX0_howManyLost_0 : decode cX0_howManyLost 0 = .ok (.iconst 0, 1) := by decide +kernel
theorem dX0_howManyLost_1 : decode cX0_howManyLost 1 = .ok (.istore_n 1, 1) := by decide +kernel
theorem dX0_howManyLost_2 : decode cX0_howManyLost 2 = .ok (.iconst 0, 1) := by decide +kernel
theorem dX0_howManyLost_3 : decode cX0_howManyLost 3 = .ok (.istore_n 2, 1) := by decide +kernel
theorem dX0_howManyLost_4 : decode cX0_howManyLost 4 = .ok (.iload_n 2, 1) := by decide +kernel
theorem dX0_howManyLost_5 : decode cX0_howManyLost 5 = .ok (.bipush 16, 2) := by decide +kernel
theorem dX0_howManyLost_7 : decode cX0_howManyLost 7 = .ok (.if_icmp .ge 21, 3) := by decide +kernel
theorem dX0_howManyLost_10 : decode cX0_howManyLost 10 = .ok (.aload_n 0, 1) := by decide +kernel
theorem dX0_howManyLost_11 : decode cX0_howManyLost 11 = .ok (.getfield 25, 3) := by decide +kernel
theorem dX0_howManyLost_14 : decode cX0_howManyLost 14 = .ok (.iload_n 2, 1) := by decide +kernel
theorem dX0_howManyLost_15 : decode cX0_howManyLost 15 = .ok (.baload, 1) := by decide +kernel
theorem dX0_howManyLost_16 : decode cX0_howManyLost 16 = .ok (.ifCond .eq 6, 3) := by decide +kernel
theorem dX0_howManyLost_19 : decode cX0_howManyLost 19 = .ok (.iinc 1 1, 3) := by decide +kernel
theorem dX0_howManyLost_22 : decode cX0_howManyLost 22 = .ok (.iinc 2 1, 3) := by decide +kernel
theorem dX0_howManyLost_25 : decode cX0_howManyLost 25 = .ok (.goto (-21), 3) := by decide +kernel
theorem dX0_howManyLost_28 : decode cX0_howManyLost 28 = .ok (.iload_n 1, 1) := by decide +kernel
theorem dX0_howManyLost_29 : decode cX0_howManyLost 29 = .ok (.ireturn, 1) := by decide +kernel
theorem dX0_copyFrom_0 : decode cX0_copyFrom 0 = .ok (.iconst 0, 1) := by decide +kernel
theorem dX0_copyFrom_1 : decode cX0_copyFrom 1 = .ok (.istore_n 2, 1) := by decide +kernel
theorem dX0_copyFrom_2 : decode cX0_copyFrom 2 = .ok (.iload_n 2, 1) := by decide +kernel
theorem dX0_copyFrom_3 : decode cX0_copyFrom 3 = .ok (.bipush 16, 2) := by decide +kernel
theorem dX0_copyFrom_5 : decode cX0_copyFrom 5 = .ok (.if_icmp .ge 69, 3) := by decide +kernel
theorem dX0_copyFrom_8 : decode cX0_copyFrom 8 = .ok (.aload_n 0, 1) := by decide +kernel
theorem dX0_copyFrom_9 : decode cX0_copyFrom 9 = .ok (.getfield 9, 3) := by decide +kernel
theorem dX0_copyFrom_12 : decode cX0_copyFrom 12 = .ok (.iload_n 2, 1) := by decide +kernel
theorem dX0_copyFrom_13 : decode cX0_copyFrom 13 = .ok (.aload_n 1, 1) := by decide +kernel
theorem dX0_copyFrom_14 : decode cX0_copyFrom 14 = .ok (.getfield 9, 3) := by decide +kernel
theorem dX0_copyFrom_17 : decode cX0_copyFrom 17 = .ok (.iload_n 2, 1) := by decide +kernel
theorem dX0_copyFrom_18 : decode cX0_copyFrom 18 = .ok (.iaload, 1) := by decide +kernel
theorem dX0_copyFrom_19 : decode cX0_copyFrom 19 = .ok (.iastore, 1) := by decide +kernel
theorem dX0_copyFrom_20 : decode cX0_copyFrom 20 = .ok (.aload_n 0, 1) := by decide +kernel
theorem dX0_copyFrom_21 : decode cX0_copyFrom 21 = .ok (.getfield 15, 3) := by decide +kernel
theorem dX0_copyFrom_24 : decode cX0_copyFrom 24 = .ok (.iload_n 2, 1) := by decide +kernel
theorem dX0_copyFrom_25 : decode cX0_copyFrom 25 = .ok (.aload_n 1, 1) := by decide +kernel
theorem dX0_copyFrom_26 : decode cX0_copyFrom 26 = .ok (.getfield 15, 3) := by decide +kernel
theorem dX0_copyFrom_29 : decode cX0_copyFrom 29 = .ok (.iload_n 2, 1) := by decide +kernel
theorem dX0_copyFrom_30 : decode cX0_copyFrom 30 = .ok (.iaload, 1) := by decide +kernel
theorem dX0_copyFrom_31 : decode cX0_copyFrom 31 = .ok (.iastore, 1) := by decide +kernel
theorem dX0_copyFrom_32 : decode cX0_copyFrom 32 = .ok (.aload_n 0, 1) := by decide +kernel
theorem dX0_copyFrom_33 : decode cX0_copyFrom 33 = .ok (.getfield 18, 3) := by decide +kernel
theorem dX0_copyFrom_36 : decode cX0_copyFrom 36 = .ok (.iload_n 2, 1) := by decide +kernel
theorem dX0_copyFrom_37 : decode cX0_copyFrom 37 = .ok (.aload_n 1, 1) := by decide +kernel
theorem dX0_copyFrom_38 : decode cX0_copyFrom 38 = .ok (.getfield 18, 3) := by decide +kernel
theorem dX0_copyFrom_41 : decode cX0_copyFrom 41 = .ok (.iload_n 2, 1) := by decide +kernel
theorem dX0_copyFrom_42 : decode cX0_copyFrom 42 = .ok (.iaload, 1) := by decide +kernel
theorem dX0_copyFrom_43 : decode cX0_copyFrom 43 = .ok (.iastore, 1) := by decide +kernel
theorem dX0_copyFrom_44 : decode cX0_copyFrom 44 = .ok (.aload_n 0, 1) := by decide +kernel
theorem dX0_copyFrom_45 : decode cX0_copyFrom 45 = .ok (.getfield 21, 3) := by decide +kernel
theorem dX0_copyFrom_48 : decode cX0_copyFrom 48 = .ok (.iload_n 2, 1) := by decide +kernel
theorem dX0_copyFrom_49 : decode cX0_copyFrom 49 = .ok (.aload_n 1, 1) := by decide +kernel
theorem dX0_copyFrom_50 : decode cX0_copyFrom 50 = .ok (.getfield 21, 3) := by decide +kernel
theorem dX0_copyFrom_53 : decode cX0_copyFrom 53 = .ok (.iload_n 2, 1) := by decide +kernel
theorem dX0_copyFrom_54 : decode cX0_copyFrom 54 = .ok (.baload, 1) := by decide +kernel
theorem dX0_copyFrom_55 : decode cX0_copyFrom 55 = .ok (.bastore, 1) := by decide +kernel
theorem dX0_copyFrom_56 : decode cX0_copyFrom 56 = .ok (.aload_n 0, 1) := by decide +kernel
theorem dX0_copyFrom_57 : decode cX0_copyFrom 57 = .ok (.getfield 25, 3) := by decide +kernel
theorem dX0_copyFrom_60 : decode cX0_copyFrom 60 = .ok (.iload_n 2, 1) := by decide +kernel
theorem dX0_copyFrom_61 : decode cX0_copyFrom 61 = .ok (.aload_n 1, 1) := by decide +kernel
theorem dX0_copyFrom_62 : decode cX0_copyFrom 62 = .ok (.getfield 25, 3) := by decide +kernel
theorem dX0_copyFrom_65 : decode cX0_copyFrom 65 = .ok (.iload_n 2, 1) := by decide +kernel
theorem dX0_copyFrom_66 : decode cX0_copyFrom 66 = .ok (.baload, 1) := by decide +kernel
theorem dX0_copyFrom_67 : decode cX0_copyFrom 67 = .ok (.bastore, 1) := by decide +kernel
theorem dX0_copyFrom_68 : decode cX0_copyFrom 68 = .ok (.iinc 2 1, 3) := by decide +kernel
theorem dX0_copyFrom_71 : decode cX0_copyFrom 71 = .ok (.goto (-69), 3) := by decide +kernel
theorem dX0_copyFrom_74 : decode cX0_copyFrom 74 = .ok (.return_, 1) := by decide +kernel
theorem dX1_init_0 : decode cX1_init 0 = .ok (.aload_n 0, 1) := by decide +kernel
theorem dX1_init_1 : decode cX1_init 1 = .ok (.invokespecial 3, 3) := by decide +kernel
theorem dX1_init_4 : decode cX1_init 4 = .ok (.aload_n 0, 1) := by decide +kernel
theorem dX1_init_5 : decode cX1_init 5 = .ok (.bipush 64, 2) := by decide +kernel
theorem dX1_init_7 : decode cX1_init 7 = .ok (.newarray .int, 2) := by decide +kernel
theorem dX1_init_9 : decode cX1_init 9 = .ok (.putfield 9, 3) := by decide +kernel
theorem dX1_init_12 : decode cX1_init 12 = .ok (.aload_n 0, 1) := by decide +kernel
theorem dX1_init_13 : decode cX1_init 13 = .ok (.bipush 64, 2) := by decide +kernel
theorem dX1_init_15 : decode cX1_init 15 = .ok (.newarray .int, 2) := by decide +kernel
theorem dX1_init_17 : decode cX1_init 17 = .ok (.putfield 15, 3) := by decide +kernel
theorem dX1_init_20 : decode cX1_init 20 = .ok (.aload_n 0, 1) := by decide +kernel
theorem dX1_init_21 : decode cX1_init 21 = .ok (.bipush 16, 2) := by decide +kernel
theorem dX1_init_23 : decode cX1_init 23 = .ok (.newarray .boolean, 2) := by decide +kernel
theorem dX1_init_25 : decode cX1_init 25 = .ok (.putfield 18, 3) := by decide +kernel
theorem dX1_init_28 : decode cX1_init 28 = .ok (.aload_n 0, 1) := by decide +kernel
theorem dX1_init_29 : decode cX1_init 29 = .ok (.bipush 16, 2) := by decide +kernel
theorem dX1_init_31 : decode cX1_init 31 = .ok (.newarray .int, 2) := by decide +kernel
theorem dX1_init_33 : decode cX1_init 33 = .ok (.putfield 22, 3) := by decide +kernel
theorem dX1_init_36 : decode cX1_init 36 = .ok (.return_, 1) := by decide +kernel
theorem dX1_cutAnew_0 : decode cX1_cutAnew 0 = .ok (.aload_n 0, 1) := by decide +kernel
theorem dX1_cutAnew_1 : decode cX1_cutAnew 1 = .ok (.iload_n 1, 1) := by decide +kernel
theorem dX1_cutAnew_2 : decode cX1_cutAnew 2 = .ok (.putfield 25, 3) := by decide +kernel
theorem dX1_cutAnew_5 : decode cX1_cutAnew 5 = .ok (.aload_n 0, 1) := by decide +kernel
theorem dX1_cutAnew_6 : decode cX1_cutAnew 6 = .ok (.iload_n 2, 1) := by decide +kernel
theorem dX1_cutAnew_7 : decode cX1_cutAnew 7 = .ok (.putfield 29, 3) := by decide +kernel
theorem dX1_cutAnew_10 : decode cX1_cutAnew 10 = .ok (.aload_n 0, 1) := by decide +kernel
theorem dX1_cutAnew_11 : decode cX1_cutAnew 11 = .ok (.iload_n 1, 1) := by decide +kernel
theorem dX1_cutAnew_12 : decode cX1_cutAnew 12 = .ok (.iload_n 2, 1) := by decide +kernel
theorem dX1_cutAnew_13 : decode cX1_cutAnew 13 = .ok (.imul, 1) := by decide +kernel
theorem dX1_cutAnew_14 : decode cX1_cutAnew 14 = .ok (.putfield 32, 3) := by decide +kernel
theorem dX1_cutAnew_17 : decode cX1_cutAnew 17 = .ok (.iconst 0, 1) := by decide +kernel
theorem dX1_cutAnew_18 : decode cX1_cutAnew 18 = .ok (.istore_n 3, 1) := by decide +kernel
theorem dX1_cutAnew_19 : decode cX1_cutAnew 19 = .ok (.iload_n 3, 1) := by decide +kernel
theorem dX1_cutAnew_20 : decode cX1_cutAnew 20 = .ok (.aload_n 0, 1) := by decide +kernel
theorem dX1_cutAnew_21 : decode cX1_cutAnew 21 = .ok (.getfield 32, 3) := by decide +kernel
theorem dX1_cutAnew_24 : decode cX1_cutAnew 24 = .ok (.if_icmp .ge 136, 3) := by decide +kernel
theorem dX1_cutAnew_27 : decode cX1_cutAnew 27 = .ok (.aload_n 0, 1) := by decide +kernel
theorem dX1_cutAnew_28 : decode cX1_cutAnew 28 = .ok (.getfield 22, 3) := by decide +kernel
theorem dX1_cutAnew_31 : decode cX1_cutAnew 31 = .ok (.iload_n 3, 1) := by decide +kernel
theorem dX1_cutAnew_32 : decode cX1_cutAnew 32 = .ok (.iconst 0, 1) := by decide +kernel
theorem dX1_cutAnew_33 : decode cX1_cutAnew 33 = .ok (.iastore, 1) := by decide +kernel
theorem dX1_cutAnew_34 : decode cX1_cutAnew 34 = .ok (.aload_n 0, 1) := by decide +kernel
theorem dX1_cutAnew_35 : decode cX1_cutAnew 35 = .ok (.getfield 18, 3) := by decide +kernel
theorem dX1_cutAnew_38 : decode cX1_cutAnew 38 = .ok (.iload_n 3, 1) := by decide +kernel
theorem dX1_cutAnew_39 : decode cX1_cutAnew 39 = .ok (.iconst 0, 1) := by decide +kernel
theorem dX1_cutAnew_40 : decode cX1_cutAnew 40 = .ok (.bastore, 1) := by decide +kernel
theorem dX1_cutAnew_41 : decode cX1_cutAnew 41 = .ok (.iconst 0, 1) := by decide +kernel
theorem dX1_cutAnew_42 : decode cX1_cutAnew 42 = .ok (.istore 4, 2) := by decide +kernel
theorem dX1_cutAnew_44 : decode cX1_cutAnew 44 = .ok (.iload 4, 2) := by decide +kernel
theorem dX1_cutAnew_46 : decode cX1_cutAnew 46 = .ok (.iconst 4, 1) := by decide +kernel
theorem dX1_cutAnew_47 : decode cX1_cutAnew 47 = .ok (.if_icmp .ge 107, 3) := by decide +kernel
theorem dX1_cutAnew_50 : decode cX1_cutAnew 50 = .ok (.aload_n 0, 1) := by decide +kernel
theorem dX1_cutAnew_51 : decode cX1_cutAnew 51 = .ok (.iload_n 3, 1) := by decide +kernel
theorem dX1_cutAnew_52 : decode cX1_cutAnew 52 = .ok (.iload 4, 2) := by decide +kernel
theorem dX1_cutAnew_54 : decode cX1_cutAnew 54 = .ok (.invokevirtual 35, 3) := by decide +kernel
theorem dX1_cutAnew_57 : decode cX1_cutAnew 57 = .ok (.istore 5, 2) := by decide +kernel
theorem dX1_cutAnew_59 : decode cX1_cutAnew 59 = .ok (.iload 4, 2) := by decide +kernel
theorem dX1_cutAnew_61 : decode cX1_cutAnew 61 = .ok (.iconst 1, 1) := by decide +kernel
theorem dX1_cutAnew_62 : decode cX1_cutAnew 62 = .ok (.if_icmp .eq 9, 3) := by decide +kernel
theorem dX1_cutAnew_65 : decode cX1_cutAnew 65 = .ok (.iload 4, 2) := by decide +kernel
theorem dX1_cutAnew_67 : decode cX1_cutAnew 67 = .ok (.iconst 2, 1) := by decide +kernel
theorem dX1_cutAnew_68 : decode cX1_cutAnew 68 = .ok (.if_icmp .ne 7, 3) := by decide +kernel
theorem dX1_cutAnew_71 : decode cX1_cutAnew 71 = .ok (.iconst 1, 1) := by decide +kernel
theorem dX1_cutAnew_72 : decode cX1_cutAnew 72 = .ok (.goto 4, 3) := by decide +kernel
theorem dX1_cutAnew_75 : decode cX1_cutAnew 75 = .ok (.iconst 0, 1) := by decide +kernel
theorem dX1_cutAnew_76 : decode cX1_cutAnew 76 = .ok (.istore 6, 2) := by decide +kernel
theorem dX1_cutAnew_78 : decode cX1_cutAnew 78 = .ok (.aload_n 0, 1) := by decide +kernel
theorem dX1_cutAnew_79 : decode cX1_cutAnew 79 = .ok (.getfield 15, 3) := by decide +kernel
theorem dX1_cutAnew_82 : decode cX1_cutAnew 82 = .ok (.iload_n 3, 1) := by decide +kernel
theorem dX1_cutAnew_83 : decode cX1_cutAnew 83 = .ok (.iconst 4, 1) := by decide +kernel
theorem dX1_cutAnew_84 : decode cX1_cutAnew 84 = .ok (.imul, 1) := by decide +kernel
theorem dX1_cutAnew_85 : decode cX1_cutAnew 85 = .ok (.iload 4, 2) := by decide +kernel
theorem dX1_cutAnew_87 : decode cX1_cutAnew 87 = .ok (.iadd, 1) := by decide +kernel
theorem dX1_cutAnew_88 : decode cX1_cutAnew 88 = .ok (.iload 5, 2) := by decide +kernel
theorem dX1_cutAnew_90 : decode cX1_cutAnew 90 = .ok (.iastore, 1) := by decide +kernel
theorem dX1_cutAnew_91 : decode cX1_cutAnew 91 = .ok (.aload_n 0, 1) := by decide +kernel
theorem dX1_cutAnew_92 : decode cX1_cutAnew 92 = .ok (.getfield 18, 3) := by decide +kernel
theorem dX1_cutAnew_95 : decode cX1_cutAnew 95 = .ok (.iload_n 3, 1) := by decide +kernel
theorem dX1_cutAnew_96 : decode cX1_cutAnew 96 = .ok (.aload_n 0, 1) := by decide +kernel
theorem dX1_cutAnew_97 : decode cX1_cutAnew 97 = .ok (.getfield 18, 3) := by decide +kernel
theorem dX1_cutAnew_100 : decode cX1_cutAnew 100 = .ok (.iload_n 3, 1) := by decide +kernel
theorem dX1_cutAnew_101 : decode cX1_cutAnew 101 = .ok (.baload, 1) := by decide +kernel
theorem dX1_cutAnew_102 : decode cX1_cutAnew 102 = .ok (.ifCond .ne 9, 3) := by decide +kernel
theorem dX1_cutAnew_105 : decode cX1_cutAnew 105 = .ok (.iload 5, 2) := by decide +kernel
theorem dX1_cutAnew_107 : decode cX1_cutAnew 107 = .ok (.iconst (-1), 1) := by decide +kernel
theorem dX1_cutAnew_108 : decode cX1_cutAnew 108 = .ok (.if_icmp .ne 7, 3) := by decide +kernel
theorem dX1_cutAnew_111 : decode cX1_cutAnew 111 = .ok (.iconst 1, 1) := by decide +kernel
theorem dX1_cutAnew_112 : decode cX1_cutAnew 112 = .ok (.goto 4, 3) := by decide +kernel
theorem dX1_cutAnew_115 : decode cX1_cutAnew 115 = .ok (.iconst 0, 1) := by decide +kernel
theorem dX1_cutAnew_116 : decode cX1_cutAnew 116 = .ok (.bastore, 1) := by decide +kernel
theorem dX1_cutAnew_117 : decode cX1_cutAnew 117 = .ok (.aload_n 0, 1) := by decide +kernel
theorem dX1_cutAnew_118 : decode cX1_cutAnew 118 = .ok (.getfield 9, 3) := by decide +kernel
theorem dX1_cutAnew_121 : decode cX1_cutAnew 121 = .ok (.iload_n 3, 1) := by decide +kernel
theorem dX1_cutAnew_122 : decode cX1_cutAnew 122 = .ok (.iconst 4, 1) := by decide +kernel
theorem dX1_cutAnew_123 : decode cX1_cutAnew 123 = .ok (.imul, 1) := by decide +kernel
theorem dX1_cutAnew_124 : decode cX1_cutAnew 124 = .ok (.iload 4, 2) := by decide +kernel
theorem dX1_cutAnew_126 : decode cX1_cutAnew 126 = .ok (.iadd, 1) := by decide +kernel
theorem dX1_cutAnew_127 : decode cX1_cutAnew 127 = .ok (.iload 5, 2) := by decide +kernel
theorem dX1_cutAnew_129 : decode cX1_cutAnew 129 = .ok (.iconst (-1), 1) := by decide +kernel
theorem dX1_cutAnew_130 : decode cX1_cutAnew 130 = .ok (.if_icmp .ne 7, 3) := by decide +kernel
theorem dX1_cutAnew_133 : decode cX1_cutAnew 133 = .ok (.iconst 0, 1) := by decide +kernel
theorem dX1_cutAnew_134 : decode cX1_cutAnew 134 = .ok (.goto 13, 3) := by decide +kernel
theorem dX1_cutAnew_137 : decode cX1_cutAnew 137 = .ok (.iload 6, 2) := by decide +kernel
theorem dX1_cutAnew_139 : decode cX1_cutAnew 139 = .ok (.ifCond .eq 7, 3) := by decide +kernel
theorem dX1_cutAnew_142 : decode cX1_cutAnew 142 = .ok (.iconst 1, 1) := by decide +kernel
theorem dX1_cutAnew_143 : decode cX1_cutAnew 143 = .ok (.goto 4, 3) := by decide +kernel
theorem dX1_cutAnew_146 : decode cX1_cutAnew 146 = .ok (.iconst (-1), 1) := by decide +kernel
theorem dX1_cutAnew_147 : decode cX1_cutAnew 147 = .ok (.iastore, 1) := by decide +kernel
theorem dX1_cutAnew_148 : decode cX1_cutAnew 148 = .ok (.iinc 4 1, 3) := by decide +kernel
theorem dX1_cutAnew_151 : decode cX1_cutAnew 151 = .ok (.goto (-107), 3) := by decide +kernel
theorem dX1_cutAnew_154 : decode cX1_cutAnew 154 = .ok (.iinc 3 1, 3) := by decide +kernel
theorem dX1_cutAnew_157 : decode cX1_cutAnew 157 = .ok (.goto (-138), 3) := by decide +kernel
theorem dX1_cutAnew_160 : decode cX1_cutAnew 160 = .ok (.return_, 1) := by decide +kernel
theorem dX1_neighbourAcross_0 : decode cX1_neighbourAcross 0 = .ok (.iload_n 1, 1) := by decide +kernel
theorem dX1_neighbourAcross_1 : decode cX1_neighbourAcross 1 = .ok (.aload_n 0, 1) := by decide +kernel
theorem dX1_neighbourAcross_2 : decode cX1_neighbourAcross 2 = .ok (.getfield 29, 3) := by decide +kernel
theorem dX1_neighbourAcross_5 : decode cX1_neighbourAcross 5 = .ok (.idiv, 1) := by decide +kernel
theorem dX1_neighbourAcross_6 : decode cX1_neighbourAcross 6 = .ok (.istore_n 3, 1) := by decide +kernel
theorem dX1_neighbourAcross_7 : decode cX1_neighbourAcross 7 = .ok (.iload_n 1, 1) := by decide +kernel
theorem dX1_neighbourAcross_8 : decode cX1_neighbourAcross 8 = .ok (.aload_n 0, 1) := by decide +kernel
theorem dX1_neighbourAcross_9 : decode cX1_neighbourAcross 9 = .ok (.getfield 29, 3) := by decide +kernel
theorem dX1_neighbourAcross_12 : decode cX1_neighbourAcross 12 = .ok (.irem, 1) := by decide +kernel
theorem dX1_neighbourAcross_13 : decode cX1_neighbourAcross 13 = .ok (.istore 4, 2) := by decide +kernel
theorem dX1_neighbourAcross_15 : decode cX1_neighbourAcross 15 = .ok (.iload_n 2, 1) := by decide +kernel
theorem dX1_neighbourAcross_16 : decode cX1_neighbourAcross 16 = .ok (.tableswitch 83 0 2 #[28, 43, 62], 28) := by decide +kernel
theorem dX1_neighbourAcross_44 : decode cX1_neighbourAcross 44 = .ok (.iload_n 3, 1) := by decide +kernel
theorem dX1_neighbourAcross_45 : decode cX1_neighbourAcross 45 = .ok (.ifCond .le 12, 3) := by decide +kernel
theorem dX1_neighbourAcross_48 : decode cX1_neighbourAcross 48 = .ok (.iload_n 1, 1) := by decide +kernel
theorem dX1_neighbourAcross_49 : decode cX1_neighbourAcross 49 = .ok (.aload_n 0, 1) := by decide +kernel
theorem dX1_neighbourAcross_50 : decode cX1_neighbourAcross 50 = .ok (.getfield 29, 3) := by decide +kernel
theorem dX1_neighbourAcross_53 : decode cX1_neighbourAcross 53 = .ok (.isub, 1) := by decide +kernel
theorem dX1_neighbourAcross_54 : decode cX1_neighbourAcross 54 = .ok (.goto 4, 3) := by decide +kernel
theorem dX1_neighbourAcross_57 : decode cX1_neighbourAcross 57 = .ok (.iconst (-1), 1) := by decide +kernel
theorem dX1_neighbourAcross_58 : decode cX1_neighbourAcross 58 = .ok (.ireturn, 1) := by decide +kernel
theorem dX1_neighbourAcross_59 : decode cX1_neighbourAcross 59 = .ok (.iload 4, 2) := by decide +kernel
theorem dX1_neighbourAcross_61 : decode cX1_neighbourAcross 61 = .ok (.aload_n 0, 1) := by decide +kernel
theorem dX1_neighbourAcross_62 : decode cX1_neighbourAcross 62 = .ok (.getfield 29, 3) := by decide +kernel
theorem dX1_neighbourAcross_65 : decode cX1_neighbourAcross 65 = .ok (.iconst 1, 1) := by decide +kernel
theorem dX1_neighbourAcross_66 : decode cX1_neighbourAcross 66 = .ok (.isub, 1) := by decide +kernel
theorem dX1_neighbourAcross_67 : decode cX1_neighbourAcross 67 = .ok (.if_icmp .ge 9, 3) := by decide +kernel
theorem dX1_neighbourAcross_70 : decode cX1_neighbourAcross 70 = .ok (.iload_n 1, 1) := by decide +kernel
theorem dX1_neighbourAcross_71 : decode cX1_neighbourAcross 71 = .ok (.iconst 1, 1) := by decide +kernel
theorem dX1_neighbourAcross_72 : decode cX1_neighbourAcross 72 = .ok (.iadd, 1) := by decide +kernel
theorem dX1_neighbourAcross_73 : decode cX1_neighbourAcross 73 = .ok (.goto 4, 3) := by decide +kernel
theorem dX1_neighbourAcross_76 : decode cX1_neighbourAcross 76 = .ok (.iconst (-1), 1) := by decide +kernel
theorem dX1_neighbourAcross_77 : decode cX1_neighbourAcross 77 = .ok (.ireturn, 1) := by decide +kernel
theorem dX1_neighbourAcross_78 : decode cX1_neighbourAcross 78 = .ok (.iload_n 3, 1) := by decide +kernel
theorem dX1_neighbourAcross_79 : decode cX1_neighbourAcross 79 = .ok (.aload_n 0, 1) := by decide +kernel
theorem dX1_neighbourAcross_80 : decode cX1_neighbourAcross 80 = .ok (.getfield 25, 3) := by decide +kernel
theorem dX1_neighbourAcross_83 : decode cX1_neighbourAcross 83 = .ok (.iconst 1, 1) := by decide +kernel
theorem dX1_neighbourAcross_84 : decode cX1_neighbourAcross 84 = .ok (.isub, 1) := by decide +kernel
theorem dX1_neighbourAcross_85 : decode cX1_neighbourAcross 85 = .ok (.if_icmp .ge 12, 3) := by decide +kernel
theorem dX1_neighbourAcross_88 : decode cX1_neighbourAcross 88 = .ok (.iload_n 1, 1) := by decide +kernel
theorem dX1_neighbourAcross_89 : decode cX1_neighbourAcross 89 = .ok (.aload_n 0, 1) := by decide +kernel
theorem dX1_neighbourAcross_90 : decode cX1_neighbourAcross 90 = .ok (.getfield 29, 3) := by decide +kernel
theorem dX1_neighbourAcross_93 : decode cX1_neighbourAcross 93 = .ok (.iadd, 1) := by decide +kernel
theorem dX1_neighbourAcross_94 : decode cX1_neighbourAcross 94 = .ok (.goto 4, 3) := by decide +kernel
theorem dX1_neighbourAcross_97 : decode cX1_neighbourAcross 97 = .ok (.iconst (-1), 1) := by decide +kernel
theorem dX1_neighbourAcross_98 : decode cX1_neighbourAcross 98 = .ok (.ireturn, 1) := by decide +kernel
theorem dX1_neighbourAcross_99 : decode cX1_neighbourAcross 99 = .ok (.iload 4, 2) := by decide +kernel
theorem dX1_neighbourAcross_101 : decode cX1_neighbourAcross 101 = .ok (.ifCond .le 9, 3) := by decide +kernel
theorem dX1_neighbourAcross_104 : decode cX1_neighbourAcross 104 = .ok (.iload_n 1, 1) := by decide +kernel
theorem dX1_neighbourAcross_105 : decode cX1_neighbourAcross 105 = .ok (.iconst 1, 1) := by decide +kernel
theorem dX1_neighbourAcross_106 : decode cX1_neighbourAcross 106 = .ok (.isub, 1) := by decide +kernel
theorem dX1_neighbourAcross_107 : decode cX1_neighbourAcross 107 = .ok (.goto 4, 3) := by decide +kernel
theorem dX1_neighbourAcross_110 : decode cX1_neighbourAcross 110 = .ok (.iconst (-1), 1) := by decide +kernel
theorem dX1_neighbourAcross_111 : decode cX1_neighbourAcross 111 = .ok (.ireturn, 1) := by decide +kernel
theorem dX1_beside_0 : decode cX1_beside 0 = .ok (.aload_n 0, 1) := by decide +kernel
theorem dX1_beside_1 : decode cX1_beside 1 = .ok (.getfield 15, 3) := by decide +kernel
theorem dX1_beside_4 : decode cX1_beside 4 = .ok (.iload_n 1, 1) := by decide +kernel
theorem dX1_beside_5 : decode cX1_beside 5 = .ok (.iconst 4, 1) := by decide +kernel
theorem dX1_beside_6 : decode cX1_beside 6 = .ok (.imul, 1) := by decide +kernel
theorem dX1_beside_7 : decode cX1_beside 7 = .ok (.iload_n 2, 1) := by decide +kernel
theorem dX1_beside_8 : decode cX1_beside 8 = .ok (.iadd, 1) := by decide +kernel
theorem dX1_beside_9 : decode cX1_beside 9 = .ok (.iaload, 1) := by decide +kernel
theorem dX1_beside_10 : decode cX1_beside 10 = .ok (.ireturn, 1) := by decide +kernel
theorem dX1_sideOf_0 : decode cX1_sideOf 0 = .ok (.aload_n 0, 1) := by decide +kernel
theorem dX1_sideOf_1 : decode cX1_sideOf 1 = .ok (.getfield 9, 3) := by decide +kernel
theorem dX1_sideOf_4 : decode cX1_sideOf 4 = .ok (.iload_n 1, 1) := by decide +kernel
theorem dX1_sideOf_5 : decode cX1_sideOf 5 = .ok (.iconst 4, 1) := by decide +kernel
theorem dX1_sideOf_6 : decode cX1_sideOf 6 = .ok (.imul, 1) := by decide +kernel
theorem dX1_sideOf_7 : decode cX1_sideOf 7 = .ok (.iload_n 3, 1) := by decide +kernel
theorem dX1_sideOf_8 : decode cX1_sideOf 8 = .ok (.iconst 4, 1) := by decide +kernel
theorem dX1_sideOf_9 : decode cX1_sideOf 9 = .ok (.iadd, 1) := by decide +kernel
theorem dX1_sideOf_10 : decode cX1_sideOf 10 = .ok (.iload_n 2, 1) := by decide +kernel
theorem dX1_sideOf_11 : decode cX1_sideOf 11 = .ok (.isub, 1) := by decide +kernel
theorem dX1_sideOf_12 : decode cX1_sideOf 12 = .ok (.iconst 4, 1) := by decide +kernel
theorem dX1_sideOf_13 : decode cX1_sideOf 13 = .ok (.irem, 1) := by decide +kernel
theorem dX1_sideOf_14 : decode cX1_sideOf 14 = .ok (.iadd, 1) := by decide +kernel
theorem dX1_sideOf_15 : decode cX1_sideOf 15 = .ok (.iaload, 1) := by decide +kernel
theorem dX1_sideOf_16 : decode cX1_sideOf 16 = .ok (.ireturn, 1) := by decide +kernel
theorem dX1_setEdge_0 : decode cX1_setEdge 0 = .ok (.aload_n 0, 1) := by decide +kernel
theorem dX1_setEdge_1 : decode cX1_setEdge 1 = .ok (.getfield 9, 3) := by decide +kernel
theorem dX1_setEdge_4 : decode cX1_setEdge 4 = .ok (.iload_n 1, 1) := by decide +kernel
theorem dX1_setEdge_5 : decode cX1_setEdge 5 = .ok (.iconst 4, 1) := by decide +kernel
theorem dX1_setEdge_6 : decode cX1_setEdge 6 = .ok (.imul, 1) := by decide +kernel
theorem dX1_setEdge_7 : decode cX1_setEdge 7 = .ok (.iload_n 2, 1) := by decide +kernel
theorem dX1_setEdge_8 : decode cX1_setEdge 8 = .ok (.iadd, 1) := by decide +kernel
theorem dX1_setEdge_9 : decode cX1_setEdge 9 = .ok (.iload_n 3, 1) := by decide +kernel
theorem dX1_setEdge_10 : decode cX1_setEdge 10 = .ok (.iastore, 1) := by decide +kernel
theorem dX1_setEdge_11 : decode cX1_setEdge 11 = .ok (.aload_n 0, 1) := by decide +kernel
theorem dX1_setEdge_12 : decode cX1_setEdge 12 = .ok (.getfield 9, 3) := by decide +kernel
theorem dX1_setEdge_15 : decode cX1_setEdge 15 = .ok (.aload_n 0, 1) := by decide +kernel
theorem dX1_setEdge_16 : decode cX1_setEdge 16 = .ok (.iload_n 1, 1) := by decide +kernel
theorem dX1_setEdge_17 : decode cX1_setEdge 17 = .ok (.iload_n 2, 1) := by decide +kernel
theorem dX1_setEdge_18 : decode cX1_setEdge 18 = .ok (.invokevirtual 39, 3) := by decide +kernel
theorem dX1_setEdge_21 : decode cX1_setEdge 21 = .ok (.iconst 4, 1) := by decide +kernel
theorem dX1_setEdge_22 : decode cX1_setEdge 22 = .ok (.imul, 1) := by decide +kernel
theorem dX1_setEdge_23 : decode cX1_setEdge 23 = .ok (.iload_n 2, 1) := by decide +kernel
theorem dX1_setEdge_24 : decode cX1_setEdge 24 = .ok (.iconst 2, 1) := by decide +kernel
theorem dX1_setEdge_25 : decode cX1_setEdge 25 = .ok (.iadd, 1) := by decide +kernel
theorem dX1_setEdge_26 : decode cX1_setEdge 26 = .ok (.iconst 4, 1) := by decide +kernel
theorem dX1_setEdge_27 : decode cX1_setEdge 27 = .ok (.irem, 1) := by decide +kernel
theorem dX1_setEdge_28 : decode cX1_setEdge 28 = .ok (.iadd, 1) := by decide +kernel
theorem dX1_setEdge_29 : decode cX1_setEdge 29 = .ok (.iload_n 3, 1) := by decide +kernel
theorem dX1_setEdge_30 : decode cX1_setEdge 30 = .ok (.ineg, 1) := by decide +kernel
theorem dX1_setEdge_31 : decode cX1_setEdge 31 = .ok (.iastore, 1) := by decide +kernel
theorem dX1_setEdge_32 : decode cX1_setEdge 32 = .ok (.return_, 1) := by decide +kernel
theorem dX1_innerEdges_0 : decode cX1_innerEdges 0 = .ok (.aload_n 0, 1) := by decide +kernel
theorem dX1_innerEdges_1 : decode cX1_innerEdges 1 = .ok (.getfield 25, 3) := by decide +kernel
theorem dX1_innerEdges_4 : decode cX1_innerEdges 4 = .ok (.aload_n 0, 1) := by decide +kernel
theorem dX1_innerEdges_5 : decode cX1_innerEdges 5 = .ok (.getfield 29, 3) := by decide +kernel
theorem dX1_innerEdges_8 : decode cX1_innerEdges 8 = .ok (.iconst 1, 1) := by decide +kernel
theorem dX1_innerEdges_9 : decode cX1_innerEdges 9 = .ok (.isub, 1) := by decide +kernel
theorem dX1_innerEdges_10 : decode cX1_innerEdges 10 = .ok (.imul, 1) := by decide +kernel
theorem dX1_innerEdges_11 : decode cX1_innerEdges 11 = .ok (.aload_n 0, 1) := by decide +kernel
theorem dX1_innerEdges_12 : decode cX1_innerEdges 12 = .ok (.getfield 29, 3) := by decide +kernel
theorem dX1_innerEdges_15 : decode cX1_innerEdges 15 = .ok (.aload_n 0, 1) := by decide +kernel
theorem dX1_innerEdges_16 : decode cX1_innerEdges 16 = .ok (.getfield 25, 3) := by decide +kernel
theorem dX1_innerEdges_19 : decode cX1_innerEdges 19 = .ok (.iconst 1, 1) := by decide +kernel
theorem dX1_innerEdges_20 : decode cX1_innerEdges 20 = .ok (.isub, 1) := by decide +kernel
theorem dX1_innerEdges_21 : decode cX1_innerEdges 21 = .ok (.imul, 1) := by decide +kernel
theorem dX1_innerEdges_22 : decode cX1_innerEdges 22 = .ok (.iadd, 1) := by decide +kernel
theorem dX1_innerEdges_23 : decode cX1_innerEdges 23 = .ok (.ireturn, 1) := by decide +kernel
theorem dX1_nubsOf_0 : decode cX1_nubsOf 0 = .ok (.iconst 0, 1) := by decide +kernel
theorem dX1_nubsOf_1 : decode cX1_nubsOf 1 = .ok (.istore_n 2, 1) := by decide +kernel
theorem dX1_nubsOf_2 : decode cX1_nubsOf 2 = .ok (.iconst 0, 1) := by decide +kernel
theorem dX1_nubsOf_3 : decode cX1_nubsOf 3 = .ok (.istore_n 3, 1) := by decide +kernel
theorem dX1_nubsOf_4 : decode cX1_nubsOf 4 = .ok (.iload_n 3, 1) := by decide +kernel
theorem dX1_nubsOf_5 : decode cX1_nubsOf 5 = .ok (.iconst 4, 1) := by decide +kernel
theorem dX1_nubsOf_6 : decode cX1_nubsOf 6 = .ok (.if_icmp .ge 25, 3) := by decide +kernel
theorem dX1_nubsOf_9 : decode cX1_nubsOf 9 = .ok (.aload_n 0, 1) := by decide +kernel
theorem dX1_nubsOf_10 : decode cX1_nubsOf 10 = .ok (.getfield 9, 3) := by decide +kernel
theorem dX1_nubsOf_13 : decode cX1_nubsOf 13 = .ok (.iload_n 1, 1) := by decide +kernel
theorem dX1_nubsOf_14 : decode cX1_nubsOf 14 = .ok (.iconst 4, 1) := by decide +kernel
theorem dX1_nubsOf_15 : decode cX1_nubsOf 15 = .ok (.imul, 1) := by decide +kernel
theorem dX1_nubsOf_16 : decode cX1_nubsOf 16 = .ok (.iload_n 3, 1) := by decide +kernel
theorem dX1_nubsOf_17 : decode cX1_nubsOf 17 = .ok (.iadd, 1) := by decide +kernel
theorem dX1_nubsOf_18 : decode cX1_nubsOf 18 = .ok (.iaload, 1) := by decide +kernel
theorem dX1_nubsOf_19 : decode cX1_nubsOf 19 = .ok (.ifCond .le 6, 3) := by decide +kernel
theorem dX1_nubsOf_22 : decode cX1_nubsOf 22 = .ok (.iinc 2 1, 3) := by decide +kernel
theorem dX1_nubsOf_25 : decode cX1_nubsOf 25 = .ok (.iinc 3 1, 3) := by decide +kernel
theorem dX1_nubsOf_28 : decode cX1_nubsOf 28 = .ok (.goto (-24), 3) := by decide +kernel
theorem dX1_nubsOf_31 : decode cX1_nubsOf 31 = .ok (.iload_n 2, 1) := by decide +kernel
theorem dX1_nubsOf_32 : decode cX1_nubsOf 32 = .ok (.ireturn, 1) := by decide +kernel
theorem dX1_codeOf_0 : decode cX1_codeOf 0 = .ok (.iconst 0, 1) := by decide +kernel
theorem dX1_codeOf_1 : decode cX1_codeOf 1 = .ok (.istore_n 3, 1) := by decide +kernel
theorem dX1_codeOf_2 : decode cX1_codeOf 2 = .ok (.iconst 0, 1) := by decide +kernel
theorem dX1_codeOf_3 : decode cX1_codeOf 3 = .ok (.istore 4, 2) := by decide +kernel
theorem dX1_codeOf_5 : decode cX1_codeOf 5 = .ok (.iload 4, 2) := by decide +kernel
theorem dX1_codeOf_7 : decode cX1_codeOf 7 = .ok (.iconst 4, 1) := by decide +kernel
theorem dX1_codeOf_8 : decode cX1_codeOf 8 = .ok (.if_icmp .ge 26, 3) := by decide +kernel
theorem dX1_codeOf_11 : decode cX1_codeOf 11 = .ok (.iload_n 3, 1) := by decide +kernel
theorem dX1_codeOf_12 : decode cX1_codeOf 12 = .ok (.bipush 19, 2) := by decide +kernel
theorem dX1_codeOf_14 : decode cX1_codeOf 14 = .ok (.imul, 1) := by decide +kernel
theorem dX1_codeOf_15 : decode cX1_codeOf 15 = .ok (.aload_n 0, 1) := by decide +kernel
theorem dX1_codeOf_16 : decode cX1_codeOf 16 = .ok (.iload_n 1, 1) := by decide +kernel
theorem dX1_codeOf_17 : decode cX1_codeOf 17 = .ok (.iload_n 2, 1) := by decide +kernel
theorem dX1_codeOf_18 : decode cX1_codeOf 18 = .ok (.iload 4, 2) := by decide +kernel
theorem dX1_codeOf_20 : decode cX1_codeOf 20 = .ok (.invokevirtual 42, 3) := by decide +kernel
theorem dX1_codeOf_23 : decode cX1_codeOf 23 = .ok (.iadd, 1) := by decide +kernel
theorem dX1_codeOf_24 : decode cX1_codeOf 24 = .ok (.bipush 9, 2) := by decide +kernel
theorem dX1_codeOf_26 : decode cX1_codeOf 26 = .ok (.iadd, 1) := by decide +kernel
theorem dX1_codeOf_27 : decode cX1_codeOf 27 = .ok (.istore_n 3, 1) := by decide +kernel
theorem dX1_codeOf_28 : decode cX1_codeOf 28 = .ok (.iinc 4 1, 3) := by decide +kernel
theorem dX1_codeOf_31 : decode cX1_codeOf 31 = .ok (.goto (-26), 3) := by decide +kernel
theorem dX1_codeOf_34 : decode cX1_codeOf 34 = .ok (.iload_n 3, 1) := by decide +kernel
theorem dX1_codeOf_35 : decode cX1_codeOf 35 = .ok (.ireturn, 1) := by decide +kernel
theorem dX1_suitsRim_0 : decode cX1_suitsRim 0 = .ok (.iconst 0, 1) := by decide +kernel
theorem dX1_suitsRim_1 : decode cX1_suitsRim 1 = .ok (.istore 4, 2) := by decide +kernel
theorem dX1_suitsRim_3 : decode cX1_suitsRim 3 = .ok (.iload 4, 2) := by decide +kernel
theorem dX1_suitsRim_5 : decode cX1_suitsRim 5 = .ok (.iconst 4, 1) := by decide +kernel
theorem dX1_suitsRim_6 : decode cX1_suitsRim 6 = .ok (.if_icmp .ge 46, 3) := by decide +kernel
theorem dX1_suitsRim_9 : decode cX1_suitsRim 9 = .ok (.aload_n 0, 1) := by decide +kernel
theorem dX1_suitsRim_10 : decode cX1_suitsRim 10 = .ok (.iload_n 1, 1) := by decide +kernel
theorem dX1_suitsRim_11 : decode cX1_suitsRim 11 = .ok (.iload_n 2, 1) := by decide +kernel
theorem dX1_suitsRim_12 : decode cX1_suitsRim 12 = .ok (.iload 4, 2) := by decide +kernel
theorem dX1_suitsRim_14 : decode cX1_suitsRim 14 = .ok (.invokevirtual 42, 3) := by decide +kernel
theorem dX1_suitsRim_17 : decode cX1_suitsRim 17 = .ok (.ifCond .ne 7, 3) := by decide +kernel
theorem dX1_suitsRim_20 : decode cX1_suitsRim 20 = .ok (.iconst 1, 1) := by decide +kernel
theorem dX1_suitsRim_21 : decode cX1_suitsRim 21 = .ok (.goto 4, 3) := by decide +kernel
theorem dX1_suitsRim_24 : decode cX1_suitsRim 24 = .ok (.iconst 0, 1) := by decide +kernel
theorem dX1_suitsRim_25 : decode cX1_suitsRim 25 = .ok (.aload_n 0, 1) := by decide +kernel
theorem dX1_suitsRim_26 : decode cX1_suitsRim 26 = .ok (.iload_n 3, 1) := by decide +kernel
theorem dX1_suitsRim_27 : decode cX1_suitsRim 27 = .ok (.iload 4, 2) := by decide +kernel
theorem dX1_suitsRim_29 : decode cX1_suitsRim 29 = .ok (.invokevirtual 39, 3) := by decide +kernel
theorem dX1_suitsRim_32 : decode cX1_suitsRim 32 = .ok (.iconst (-1), 1) := by decide +kernel
theorem dX1_suitsRim_33 : decode cX1_suitsRim 33 = .ok (.if_icmp .ne 7, 3) := by decide +kernel
theorem dX1_suitsRim_36 : decode cX1_suitsRim 36 = .ok (.iconst 1, 1) := by decide +kernel
theorem dX1_suitsRim_37 : decode cX1_suitsRim 37 = .ok (.goto 4, 3) := by decide +kernel
theorem dX1_suitsRim_40 : decode cX1_suitsRim 40 = .ok (.iconst 0, 1) := by decide +kernel
theorem dX1_suitsRim_41 : decode cX1_suitsRim 41 = .ok (.if_icmp .eq 5, 3) := by decide +kernel
theorem dX1_suitsRim_44 : decode cX1_suitsRim 44 = .ok (.iconst 0, 1) := by decide +kernel
theorem dX1_suitsRim_45 : decode cX1_suitsRim 45 = .ok (.ireturn, 1) := by decide +kernel
theorem dX1_suitsRim_46 : decode cX1_suitsRim 46 = .ok (.iinc 4 1, 3) := by decide +kernel
theorem dX1_suitsRim_49 : decode cX1_suitsRim 49 = .ok (.goto (-46), 3) := by decide +kernel
theorem dX1_suitsRim_52 : decode cX1_suitsRim 52 = .ok (.iconst 1, 1) := by decide +kernel
theorem dX1_suitsRim_53 : decode cX1_suitsRim 53 = .ok (.ireturn, 1) := by decide +kernel
theorem dX1_suitsNeighbours_0 : decode cX1_suitsNeighbours 0 = .ok (.iconst 0, 1) := by decide +kernel
theorem dX1_suitsNeighbours_1 : decode cX1_suitsNeighbours 1 = .ok (.istore 5, 2) := by decide +kernel
theorem dX1_suitsNeighbours_3 : decode cX1_suitsNeighbours 3 = .ok (.iload 5, 2) := by decide +kernel
theorem dX1_suitsNeighbours_5 : decode cX1_suitsNeighbours 5 = .ok (.iconst 4, 1) := by decide +kernel
theorem dX1_suitsNeighbours_6 : decode cX1_suitsNeighbours 6 = .ok (.if_icmp .ge 79, 3) := by decide +kernel
theorem dX1_suitsNeighbours_9 : decode cX1_suitsNeighbours 9 = .ok (.aload_n 0, 1) := by decide +kernel
theorem dX1_suitsNeighbours_10 : decode cX1_suitsNeighbours 10 = .ok (.iload 4, 2) := by decide +kernel
theorem dX1_suitsNeighbours_12 : decode cX1_suitsNeighbours 12 = .ok (.iload 5, 2) := by decide +kernel
theorem dX1_suitsNeighbours_14 : decode cX1_suitsNeighbours 14 = .ok (.invokevirtual 39, 3) := by decide +kernel
theorem dX1_suitsNeighbours_17 : decode cX1_suitsNeighbours 17 = .ok (.istore 6, 2) := by decide +kernel
theorem dX1_suitsNeighbours_19 : decode cX1_suitsNeighbours 19 = .ok (.iload 6, 2) := by decide +kernel
theorem dX1_suitsNeighbours_21 : decode cX1_suitsNeighbours 21 = .ok (.iconst (-1), 1) := by decide +kernel
theorem dX1_suitsNeighbours_22 : decode cX1_suitsNeighbours 22 = .ok (.if_icmp .eq 57, 3) := by decide +kernel
theorem dX1_suitsNeighbours_25 : decode cX1_suitsNeighbours 25 = .ok (.aload_n 1, 1) := by decide +kernel
theorem dX1_suitsNeighbours_26 : decode cX1_suitsNeighbours 26 = .ok (.iload 6, 2) := by decide +kernel
theorem dX1_suitsNeighbours_28 : decode cX1_suitsNeighbours 28 = .ok (.invokevirtual 46, 3) := by decide +kernel
theorem dX1_suitsNeighbours_31 : decode cX1_suitsNeighbours 31 = .ok (.ifCond .ne 6, 3) := by decide +kernel
theorem dX1_suitsNeighbours_34 : decode cX1_suitsNeighbours 34 = .ok (.goto 45, 3) := by decide +kernel
theorem dX1_suitsNeighbours_37 : decode cX1_suitsNeighbours 37 = .ok (.aload_n 0, 1) := by decide +kernel
theorem dX1_suitsNeighbours_38 : decode cX1_suitsNeighbours 38 = .ok (.aload_n 1, 1) := by decide +kernel
theorem dX1_suitsNeighbours_39 : decode cX1_suitsNeighbours 39 = .ok (.getfield 52, 3) := by decide +kernel
theorem dX1_suitsNeighbours_42 : decode cX1_suitsNeighbours 42 = .ok (.iload 6, 2) := by decide +kernel
theorem dX1_suitsNeighbours_44 : decode cX1_suitsNeighbours 44 = .ok (.iaload, 1) := by decide +kernel
theorem dX1_suitsNeighbours_45 : decode cX1_suitsNeighbours 45 = .ok (.aload_n 1, 1) := by decide +kernel
theorem dX1_suitsNeighbours_46 : decode cX1_suitsNeighbours 46 = .ok (.getfield 55, 3) := by decide +kernel
theorem dX1_suitsNeighbours_49 : decode cX1_suitsNeighbours 49 = .ok (.iload 6, 2) := by decide +kernel
theorem dX1_suitsNeighbours_51 : decode cX1_suitsNeighbours 51 = .ok (.iaload, 1) := by decide +kernel
theorem dX1_suitsNeighbours_52 : decode cX1_suitsNeighbours 52 = .ok (.iload 5, 2) := by decide +kernel
theorem dX1_suitsNeighbours_54 : decode cX1_suitsNeighbours 54 = .ok (.iconst 2, 1) := by decide +kernel
theorem dX1_suitsNeighbours_55 : decode cX1_suitsNeighbours 55 = .ok (.iadd, 1) := by decide +kernel
theorem dX1_suitsNeighbours_56 : decode cX1_suitsNeighbours 56 = .ok (.iconst 4, 1) := by decide +kernel
theorem dX1_suitsNeighbours_57 : decode cX1_suitsNeighbours 57 = .ok (.irem, 1) := by decide +kernel
theorem dX1_suitsNeighbours_58 : decode cX1_suitsNeighbours 58 = .ok (.invokevirtual 42, 3) := by decide +kernel
theorem dX1_suitsNeighbours_61 : decode cX1_suitsNeighbours 61 = .ok (.istore 7, 2) := by decide +kernel
theorem dX1_suitsNeighbours_63 : decode cX1_suitsNeighbours 63 = .ok (.aload_n 0, 1) := by decide +kernel
theorem dX1_suitsNeighbours_64 : decode cX1_suitsNeighbours 64 = .ok (.iload_n 2, 1) := by decide +kernel
theorem dX1_suitsNeighbours_65 : decode cX1_suitsNeighbours 65 = .ok (.iload_n 3, 1) := by decide +kernel
theorem dX1_suitsNeighbours_66 : decode cX1_suitsNeighbours 66 = .ok (.iload 5, 2) := by decide +kernel
theorem dX1_suitsNeighbours_68 : decode cX1_suitsNeighbours 68 = .ok (.invokevirtual 42, 3) := by decide +kernel
theorem dX1_suitsNeighbours_71 : decode cX1_suitsNeighbours 71 = .ok (.iload 7, 2) := by decide +kernel
theorem dX1_suitsNeighbours_73 : decode cX1_suitsNeighbours 73 = .ok (.iadd, 1) := by decide +kernel
theorem dX1_suitsNeighbours_74 : decode cX1_suitsNeighbours 74 = .ok (.ifCond .eq 5, 3) := by decide +kernel
theorem dX1_suitsNeighbours_77 : decode cX1_suitsNeighbours 77 = .ok (.iconst 0, 1) := by decide +kernel
theorem dX1_suitsNeighbours_78 : decode cX1_suitsNeighbours 78 = .ok (.ireturn, 1) := by decide +kernel
theorem dX1_suitsNeighbours_79 : decode cX1_suitsNeighbours 79 = .ok (.iinc 5 1, 3) := by decide +kernel
theorem dX1_suitsNeighbours_82 : decode cX1_suitsNeighbours 82 = .ok (.goto (-79), 3) := by decide +kernel
theorem dX1_suitsNeighbours_85 : decode cX1_suitsNeighbours 85 = .ok (.iconst 1, 1) := by decide +kernel
theorem dX1_suitsNeighbours_86 : decode cX1_suitsNeighbours 86 = .ok (.ireturn, 1) := by decide +kernel
theorem dX1_isFit_0 : decode cX1_isFit 0 = .ok (.aload_n 0, 1) := by decide +kernel
theorem dX1_isFit_1 : decode cX1_isFit 1 = .ok (.iload_n 2, 1) := by decide +kernel
theorem dX1_isFit_2 : decode cX1_isFit 2 = .ok (.iload_n 3, 1) := by decide +kernel
theorem dX1_isFit_3 : decode cX1_isFit 3 = .ok (.iload 4, 2) := by decide +kernel
theorem dX1_isFit_5 : decode cX1_isFit 5 = .ok (.invokevirtual 58, 3) := by decide +kernel
theorem dX1_isFit_8 : decode cX1_isFit 8 = .ok (.ifCond .eq 19, 3) := by decide +kernel
theorem dX1_isFit_11 : decode cX1_isFit 11 = .ok (.aload_n 0, 1) := by decide +kernel
theorem dX1_isFit_12 : decode cX1_isFit 12 = .ok (.aload_n 1, 1) := by decide +kernel
theorem dX1_isFit_13 : decode cX1_isFit 13 = .ok (.iload_n 2, 1) := by decide +kernel
theorem dX1_isFit_14 : decode cX1_isFit 14 = .ok (.iload_n 3, 1) := by decide +kernel
theorem dX1_isFit_15 : decode cX1_isFit 15 = .ok (.iload 4, 2) := by decide +kernel
theorem dX1_isFit_17 : decode cX1_isFit 17 = .ok (.invokevirtual 62, 3) := by decide +kernel
theorem dX1_isFit_20 : decode cX1_isFit 20 = .ok (.ifCond .eq 7, 3) := by decide +kernel
theorem dX1_isFit_23 : decode cX1_isFit 23 = .ok (.iconst 1, 1) := by decide +kernel
theorem dX1_isFit_24 : decode cX1_isFit 24 = .ok (.goto 4, 3) := by decide +kernel
theorem dX1_isFit_27 : decode cX1_isFit 27 = .ok (.iconst 0, 1) := by decide +kernel
theorem dX1_isFit_28 : decode cX1_isFit 28 = .ok (.ireturn, 1) := by decide +kernel
theorem dX1_kindOf_0 : decode cX1_kindOf 0 = .ok (.aload_n 0, 1) := by decide +kernel
theorem dX1_kindOf_1 : decode cX1_kindOf 1 = .ok (.iload_n 2, 1) := by decide +kernel
theorem dX1_kindOf_2 : decode cX1_kindOf 2 = .ok (.iload_n 3, 1) := by decide +kernel
theorem dX1_kindOf_3 : decode cX1_kindOf 3 = .ok (.iload 4, 2) := by decide +kernel
theorem dX1_kindOf_5 : decode cX1_kindOf 5 = .ok (.invokevirtual 58, 3) := by decide +kernel
theorem dX1_kindOf_8 : decode cX1_kindOf 8 = .ok (.ifCond .ne 5, 3) := by decide +kernel
theorem dX1_kindOf_11 : decode cX1_kindOf 11 = .ok (.iconst 3, 1) := by decide +kernel
theorem dX1_kindOf_12 : decode cX1_kindOf 12 = .ok (.ireturn, 1) := by decide +kernel
theorem dX1_kindOf_13 : decode cX1_kindOf 13 = .ok (.aload_n 0, 1) := by decide +kernel
theorem dX1_kindOf_14 : decode cX1_kindOf 14 = .ok (.aload_n 1, 1) := by decide +kernel
theorem dX1_kindOf_15 : decode cX1_kindOf 15 = .ok (.iload_n 2, 1) := by decide +kernel
theorem dX1_kindOf_16 : decode cX1_kindOf 16 = .ok (.iload_n 3, 1) := by decide +kernel
theorem dX1_kindOf_17 : decode cX1_kindOf 17 = .ok (.iload 4, 2) := by decide +kernel
theorem dX1_kindOf_19 : decode cX1_kindOf 19 = .ok (.invokevirtual 62, 3) := by decide +kernel
theorem dX1_kindOf_22 : decode cX1_kindOf 22 = .ok (.ifCond .ne 5, 3) := by decide +kernel
theorem dX1_kindOf_25 : decode cX1_kindOf 25 = .ok (.iconst 4, 1) := by decide +kernel
theorem dX1_kindOf_26 : decode cX1_kindOf 26 = .ok (.ireturn, 1) := by decide +kernel
theorem dX1_kindOf_27 : decode cX1_kindOf 27 = .ok (.iload_n 2, 1) := by decide +kernel
theorem dX1_kindOf_28 : decode cX1_kindOf 28 = .ok (.iload 4, 2) := by decide +kernel
theorem dX1_kindOf_30 : decode cX1_kindOf 30 = .ok (.if_icmp .ne 11, 3) := by decide +kernel
theorem dX1_kindOf_33 : decode cX1_kindOf 33 = .ok (.iload_n 3, 1) := by decide +kernel
theorem dX1_kindOf_34 : decode cX1_kindOf 34 = .ok (.ifCond .ne 7, 3) := by decide +kernel
theorem dX1_kindOf_37 : decode cX1_kindOf 37 = .ok (.iconst 1, 1) := by decide +kernel
theorem dX1_kindOf_38 : decode cX1_kindOf 38 = .ok (.goto 4, 3) := by decide +kernel
theorem dX1_kindOf_41 : decode cX1_kindOf 41 = .ok (.iconst 2, 1) := by decide +kernel
theorem dX1_kindOf_42 : decode cX1_kindOf 42 = .ok (.ireturn, 1) := by decide +kernel
theorem dX1_reclass_0 : decode cX1_reclass 0 = .ok (.iconst 0, 1) := by decide +kernel
theorem dX1_reclass_1 : decode cX1_reclass 1 = .ok (.istore_n 2, 1) := by decide +kernel
theorem dX1_reclass_2 : decode cX1_reclass 2 = .ok (.iconst 0, 1) := by decide +kernel
theorem dX1_reclass_3 : decode cX1_reclass 3 = .ok (.istore_n 3, 1) := by decide +kernel
theorem dX1_reclass_4 : decode cX1_reclass 4 = .ok (.iload_n 3, 1) := by decide +kernel
theorem dX1_reclass_5 : decode cX1_reclass 5 = .ok (.aload_n 0, 1) := by decide +kernel
theorem dX1_reclass_6 : decode cX1_reclass 6 = .ok (.getfield 32, 3) := by decide +kernel
theorem dX1_reclass_9 : decode cX1_reclass 9 = .ok (.if_icmp .ge 71, 3) := by decide +kernel
theorem dX1_reclass_12 : decode cX1_reclass 12 = .ok (.iconst 1, 1) := by decide +kernel
theorem dX1_reclass_13 : decode cX1_reclass 13 = .ok (.istore 4, 2) := by decide +kernel
theorem dX1_reclass_15 : decode cX1_reclass 15 = .ok (.iload 4, 2) := by decide +kernel
theorem dX1_reclass_17 : decode cX1_reclass 17 = .ok (.iconst 2, 1) := by decide +kernel
theorem dX1_reclass_18 : decode cX1_reclass 18 = .ok (.if_icmp .gt 56, 3) := by decide +kernel
theorem dX1_reclass_21 : decode cX1_reclass 21 = .ok (.aload_n 0, 1) := by decide +kernel
theorem dX1_reclass_22 : decode cX1_reclass 22 = .ok (.iload_n 3, 1) := by decide +kernel
theorem dX1_reclass_23 : decode cX1_reclass 23 = .ok (.iload 4, 2) := by decide +kernel
theorem dX1_reclass_25 : decode cX1_reclass 25 = .ok (.invokevirtual 39, 3) := by decide +kernel
theorem dX1_reclass_28 : decode cX1_reclass 28 = .ok (.iconst (-1), 1) := by decide +kernel
theorem dX1_reclass_29 : decode cX1_reclass 29 = .ok (.if_icmp .eq 39, 3) := by decide +kernel
theorem dX1_reclass_32 : decode cX1_reclass 32 = .ok (.iconst 1, 1) := by decide +kernel
theorem dX1_reclass_33 : decode cX1_reclass 33 = .ok (.iload_n 2, 1) := by decide +kernel
theorem dX1_reclass_34 : decode cX1_reclass 34 = .ok (.iload_n 1, 1) := by decide +kernel
theorem dX1_reclass_35 : decode cX1_reclass 35 = .ok (.irem, 1) := by decide +kernel
theorem dX1_reclass_36 : decode cX1_reclass 36 = .ok (.iadd, 1) := by decide +kernel
theorem dX1_reclass_37 : decode cX1_reclass 37 = .ok (.istore 5, 2) := by decide +kernel
theorem dX1_reclass_39 : decode cX1_reclass 39 = .ok (.aload_n 0, 1) := by decide +kernel
theorem dX1_reclass_40 : decode cX1_reclass 40 = .ok (.iload_n 3, 1) := by decide +kernel
theorem dX1_reclass_41 : decode cX1_reclass 41 = .ok (.iload 4, 2) := by decide +kernel
theorem dX1_reclass_43 : decode cX1_reclass 43 = .ok (.aload_n 0, 1) := by decide +kernel
theorem dX1_reclass_44 : decode cX1_reclass 44 = .ok (.iload_n 3, 1) := by decide +kernel
theorem dX1_reclass_45 : decode cX1_reclass 45 = .ok (.iconst 0, 1) := by decide +kernel
theorem dX1_reclass_46 : decode cX1_reclass 46 = .ok (.iload 4, 2) := by decide +kernel
theorem dX1_reclass_48 : decode cX1_reclass 48 = .ok (.invokevirtual 42, 3) := by decide +kernel
theorem dX1_reclass_51 : decode cX1_reclass 51 = .ok (.ifCond .le 8, 3) := by decide +kernel
theorem dX1_reclass_54 : decode cX1_reclass 54 = .ok (.iload 5, 2) := by decide +kernel
theorem dX1_reclass_56 : decode cX1_reclass 56 = .ok (.goto 6, 3) := by decide +kernel
theorem dX1_reclass_59 : decode cX1_reclass 59 = .ok (.iload 5, 2) := by decide +kernel
theorem dX1_reclass_61 : decode cX1_reclass 61 = .ok (.ineg, 1) := by decide +kernel
theorem dX1_reclass_62 : decode cX1_reclass 62 = .ok (.invokevirtual 66, 3) := by decide +kernel
theorem dX1_reclass_65 : decode cX1_reclass 65 = .ok (.iinc 2 1, 3) := by decide +kernel
theorem dX1_reclass_68 : decode cX1_reclass 68 = .ok (.iinc 4 1, 3) := by decide +kernel
theorem dX1_reclass_71 : decode cX1_reclass 71 = .ok (.goto (-56), 3) := by decide +kernel
theorem dX1_reclass_74 : decode cX1_reclass 74 = .ok (.iinc 3 1, 3) := by decide +kernel
theorem dX1_reclass_77 : decode cX1_reclass 77 = .ok (.goto (-73), 3) := by decide +kernel
theorem dX1_reclass_80 : decode cX1_reclass 80 = .ok (.return_, 1) := by decide +kernel
theorem dX1_copyFrom_0 : decode cX1_copyFrom 0 = .ok (.aload_n 0, 1) := by decide +kernel
theorem dX1_copyFrom_1 : decode cX1_copyFrom 1 = .ok (.aload_n 1, 1) := by decide +kernel
theorem dX1_copyFrom_2 : decode cX1_copyFrom 2 = .ok (.getfield 25, 3) := by decide +kernel
theorem dX1_copyFrom_5 : decode cX1_copyFrom 5 = .ok (.putfield 25, 3) := by decide +kernel
theorem dX1_copyFrom_8 : decode cX1_copyFrom 8 = .ok (.aload_n 0, 1) := by decide +kernel
theorem dX1_copyFrom_9 : decode cX1_copyFrom 9 = .ok (.aload_n 1, 1) := by decide +kernel
theorem dX1_copyFrom_10 : decode cX1_copyFrom 10 = .ok (.getfield 29, 3) := by decide +kernel
theorem dX1_copyFrom_13 : decode cX1_copyFrom 13 = .ok (.putfield 29, 3) := by decide +kernel
theorem dX1_copyFrom_16 : decode cX1_copyFrom 16 = .ok (.aload_n 0, 1) := by decide +kernel
theorem dX1_copyFrom_17 : decode cX1_copyFrom 17 = .ok (.aload_n 1, 1) := by decide +kernel
theorem dX1_copyFrom_18 : decode cX1_copyFrom 18 = .ok (.getfield 32, 3) := by decide +kernel
theorem dX1_copyFrom_21 : decode cX1_copyFrom 21 = .ok (.putfield 32, 3) := by decide +kernel
theorem dX1_copyFrom_24 : decode cX1_copyFrom 24 = .ok (.aload_n 1, 1) := by decide +kernel
theorem dX1_copyFrom_25 : decode cX1_copyFrom 25 = .ok (.getfield 9, 3) := by decide +kernel
theorem dX1_copyFrom_28 : decode cX1_copyFrom 28 = .ok (.iconst 0, 1) := by decide +kernel
theorem dX1_copyFrom_29 : decode cX1_copyFrom 29 = .ok (.aload_n 0, 1) := by decide +kernel
theorem dX1_copyFrom_30 : decode cX1_copyFrom 30 = .ok (.getfield 9, 3) := by decide +kernel
theorem dX1_copyFrom_33 : decode cX1_copyFrom 33 = .ok (.iconst 0, 1) := by decide +kernel
theorem dX1_copyFrom_34 : decode cX1_copyFrom 34 = .ok (.aload_n 0, 1) := by decide +kernel
theorem dX1_copyFrom_35 : decode cX1_copyFrom 35 = .ok (.getfield 9, 3) := by decide +kernel
theorem dX1_copyFrom_38 : decode cX1_copyFrom 38 = .ok (.arraylength, 1) := by decide +kernel
theorem dX1_copyFrom_39 : decode cX1_copyFrom 39 = .ok (.invokestatic 70, 3) := by decide +kernel
theorem dX1_copyFrom_42 : decode cX1_copyFrom 42 = .ok (.aload_n 1, 1) := by decide +kernel
theorem dX1_copyFrom_43 : decode cX1_copyFrom 43 = .ok (.getfield 15, 3) := by decide +kernel
theorem dX1_copyFrom_46 : decode cX1_copyFrom 46 = .ok (.iconst 0, 1) := by decide +kernel
theorem dX1_copyFrom_47 : decode cX1_copyFrom 47 = .ok (.aload_n 0, 1) := by decide +kernel
theorem dX1_copyFrom_48 : decode cX1_copyFrom 48 = .ok (.getfield 15, 3) := by decide +kernel
theorem dX1_copyFrom_51 : decode cX1_copyFrom 51 = .ok (.iconst 0, 1) := by decide +kernel
theorem dX1_copyFrom_52 : decode cX1_copyFrom 52 = .ok (.aload_n 0, 1) := by decide +kernel
theorem dX1_copyFrom_53 : decode cX1_copyFrom 53 = .ok (.getfield 15, 3) := by decide +kernel
theorem dX1_copyFrom_56 : decode cX1_copyFrom 56 = .ok (.arraylength, 1) := by decide +kernel
theorem dX1_copyFrom_57 : decode cX1_copyFrom 57 = .ok (.invokestatic 70, 3) := by decide +kernel
theorem dX1_copyFrom_60 : decode cX1_copyFrom 60 = .ok (.iconst 0, 1) := by decide +kernel
theorem dX1_copyFrom_61 : decode cX1_copyFrom 61 = .ok (.istore_n 2, 1) := by decide +kernel
theorem dX1_copyFrom_62 : decode cX1_copyFrom 62 = .ok (.iload_n 2, 1) := by decide +kernel
theorem dX1_copyFrom_63 : decode cX1_copyFrom 63 = .ok (.bipush 16, 2) := by decide +kernel
theorem dX1_copyFrom_65 : decode cX1_copyFrom 65 = .ok (.if_icmp .ge 33, 3) := by decide +kernel
theorem dX1_copyFrom_68 : decode cX1_copyFrom 68 = .ok (.aload_n 0, 1) := by decide +kernel
theorem dX1_copyFrom_69 : decode cX1_copyFrom 69 = .ok (.getfield 18, 3) := by decide +kernel
theorem dX1_copyFrom_72 : decode cX1_copyFrom 72 = .ok (.iload_n 2, 1) := by decide +kernel
theorem dX1_copyFrom_73 : decode cX1_copyFrom 73 = .ok (.aload_n 1, 1) := by decide +kernel
theorem dX1_copyFrom_74 : decode cX1_copyFrom 74 = .ok (.getfield 18, 3) := by decide +kernel
theorem dX1_copyFrom_77 : decode cX1_copyFrom 77 = .ok (.iload_n 2, 1) := by decide +kernel
theorem dX1_copyFrom_78 : decode cX1_copyFrom 78 = .ok (.baload, 1) := by decide +kernel
theorem dX1_copyFrom_79 : decode cX1_copyFrom 79 = .ok (.bastore, 1) := by decide +kernel
theorem dX1_copyFrom_80 : decode cX1_copyFrom 80 = .ok (.aload_n 0, 1) := by decide +kernel
theorem dX1_copyFrom_81 : decode cX1_copyFrom 81 = .ok (.getfield 22, 3) := by decide +kernel
theorem dX1_copyFrom_84 : decode cX1_copyFrom 84 = .ok (.iload_n 2, 1) := by decide +kernel
theorem dX1_copyFrom_85 : decode cX1_copyFrom 85 = .ok (.aload_n 1, 1) := by decide +kernel
theorem dX1_copyFrom_86 : decode cX1_copyFrom 86 = .ok (.getfield 22, 3) := by decide +kernel
theorem dX1_copyFrom_89 : decode cX1_copyFrom 89 = .ok (.iload_n 2, 1) := by decide +kernel
theorem dX1_copyFrom_90 : decode cX1_copyFrom 90 = .ok (.iaload, 1) := by decide +kernel
theorem dX1_copyFrom_91 : decode cX1_copyFrom 91 = .ok (.iastore, 1) := by decide +kernel
theorem dX1_copyFrom_92 : decode cX1_copyFrom 92 = .ok (.iinc 2 1, 3) := by decide +kernel
theorem dX1_copyFrom_95 : decode cX1_copyFrom 95 = .ok (.goto (-33), 3) := by decide +kernel
theorem dX1_copyFrom_98 : decode cX1_copyFrom 98 = .ok (.return_, 1) := by decide +kernel
theorem dX2_init_0 : decode cX2_init 0 = .ok (.aload_n 0, 1) := by decide +kernel
theorem dX2_init_1 : decode cX2_init 1 = .ok (.invokespecial 3, 3) := by decide +kernel
theorem dX2_init_4 : decode cX2_init 4 = .ok (.aload_n 0, 1) := by decide +kernel
theorem dX2_init_5 : decode cX2_init 5 = .ok (.new 9, 3) := by decide +kernel
theorem dX2_init_8 : decode cX2_init 8 = .ok (.dup, 1) := by decide +kernel
theorem dX2_init_9 : decode cX2_init 9 = .ok (.invokespecial 11, 3) := by decide +kernel
theorem dX2_init_12 : decode cX2_init 12 = .ok (.putfield 12, 3) := by decide +kernel
theorem dX2_init_15 : decode cX2_init 15 = .ok (.return_, 1) := by decide +kernel
theorem dX2_spend_0 : decode cX2_spend 0 = .ok (.iconst 0, 1) := by decide +kernel
theorem dX2_spend_1 : decode cX2_spend 1 = .ok (.istore 4, 2) := by decide +kernel
theorem dX2_spend_3 : decode cX2_spend 3 = .ok (.aload_n 0, 1) := by decide +kernel
theorem dX2_spend_4 : decode cX2_spend 4 = .ok (.iload_n 3, 1) := by decide +kernel
theorem dX2_spend_5 : decode cX2_spend 5 = .ok (.putfield 18, 3) := by decide +kernel
theorem dX2_spend_8 : decode cX2_spend 8 = .ok (.aload_n 0, 1) := by decide +kernel
theorem dX2_spend_9 : decode cX2_spend 9 = .ok (.getfield 12, 3) := by decide +kernel
theorem dX2_spend_12 : decode cX2_spend 12 = .ok (.aload_n 1, 1) := by decide +kernel
theorem dX2_spend_13 : decode cX2_spend 13 = .ok (.getfield 22, 3) := by decide +kernel
theorem dX2_spend_16 : decode cX2_spend 16 = .ok (.invokevirtual 27, 3) := by decide +kernel
theorem dX2_spend_19 : decode cX2_spend 19 = .ok (.iconst 0, 1) := by decide +kernel
theorem dX2_spend_20 : decode cX2_spend 20 = .ok (.istore 5, 2) := by decide +kernel
theorem dX2_spend_22 : decode cX2_spend 22 = .ok (.iload 5, 2) := by decide +kernel
theorem dX2_spend_24 : decode cX2_spend 24 = .ok (.iload_n 2, 1) := by decide +kernel
theorem dX2_spend_25 : decode cX2_spend 25 = .ok (.if_icmp .ge 129, 3) := by decide +kernel
theorem dX2_spend_28 : decode cX2_spend 28 = .ok (.aload_n 0, 1) := by decide +kernel
theorem dX2_spend_29 : decode cX2_spend 29 = .ok (.aload_n 1, 1) := by decide +kernel
theorem dX2_spend_30 : decode cX2_spend 30 = .ok (.getfield 31, 3) := by decide +kernel
theorem dX2_spend_33 : decode cX2_spend 33 = .ok (.getfield 35, 3) := by decide +kernel
theorem dX2_spend_36 : decode cX2_spend 36 = .ok (.invokevirtual 40, 3) := by decide +kernel
theorem dX2_spend_39 : decode cX2_spend 39 = .ok (.istore 6, 2) := by decide +kernel
theorem dX2_spend_41 : decode cX2_spend 41 = .ok (.aload_n 0, 1) := by decide +kernel
theorem dX2_spend_42 : decode cX2_spend 42 = .ok (.aload_n 1, 1) := by decide +kernel
theorem dX2_spend_43 : decode cX2_spend 43 = .ok (.getfield 44, 3) := by decide +kernel
theorem dX2_spend_46 : decode cX2_spend 46 = .ok (.getfield 48, 3) := by decide +kernel
theorem dX2_spend_49 : decode cX2_spend 49 = .ok (.invokevirtual 40, 3) := by decide +kernel
theorem dX2_spend_52 : decode cX2_spend 52 = .ok (.istore 7, 2) := by decide +kernel
theorem dX2_spend_54 : decode cX2_spend 54 = .ok (.aload_n 0, 1) := by decide +kernel
theorem dX2_spend_55 : decode cX2_spend 55 = .ok (.iconst 4, 1) := by decide +kernel
theorem dX2_spend_56 : decode cX2_spend 56 = .ok (.invokevirtual 40, 3) := by decide +kernel
theorem dX2_spend_59 : decode cX2_spend 59 = .ok (.istore 8, 2) := by decide +kernel
theorem dX2_spend_61 : decode cX2_spend 61 = .ok (.aload_n 0, 1) := by decide +kernel
theorem dX2_spend_62 : decode cX2_spend 62 = .ok (.aload_n 1, 1) := by decide +kernel
theorem dX2_spend_63 : decode cX2_spend 63 = .ok (.getfield 44, 3) := by decide +kernel
theorem dX2_spend_66 : decode cX2_spend 66 = .ok (.getfield 48, 3) := by decide +kernel
theorem dX2_spend_69 : decode cX2_spend 69 = .ok (.invokevirtual 40, 3) := by decide +kernel
theorem dX2_spend_72 : decode cX2_spend 72 = .ok (.istore 9, 2) := by decide +kernel
theorem dX2_spend_74 : decode cX2_spend 74 = .ok (.aload_n 0, 1) := by decide +kernel
theorem dX2_spend_75 : decode cX2_spend 75 = .ok (.getfield 12, 3) := by decide +kernel
theorem dX2_spend_78 : decode cX2_spend 78 = .ok (.iload 9, 2) := by decide +kernel
theorem dX2_spend_80 : decode cX2_spend 80 = .ok (.invokevirtual 53, 3) := by decide +kernel
theorem dX2_spend_83 : decode cX2_spend 83 = .ok (.ifCond .ne 19, 3) := by decide +kernel
theorem dX2_spend_86 : decode cX2_spend 86 = .ok (.aload_n 0, 1) := by decide +kernel
theorem dX2_spend_87 : decode cX2_spend 87 = .ok (.getfield 12, 3) := by decide +kernel
theorem dX2_spend_90 : decode cX2_spend 90 = .ok (.iload 7, 2) := by decide +kernel
theorem dX2_spend_92 : decode cX2_spend 92 = .ok (.invokevirtual 57, 3) := by decide +kernel
theorem dX2_spend_95 : decode cX2_spend 95 = .ok (.ifCond .ne 7, 3) := by decide +kernel
theorem dX2_spend_98 : decode cX2_spend 98 = .ok (.iconst 1, 1) := by decide +kernel
theorem dX2_spend_99 : decode cX2_spend 99 = .ok (.goto 4, 3) := by decide +kernel
theorem dX2_spend_102 : decode cX2_spend 102 = .ok (.iconst 0, 1) := by decide +kernel
theorem dX2_spend_103 : decode cX2_spend 103 = .ok (.istore 10, 2) := by decide +kernel
theorem dX2_spend_105 : decode cX2_spend 105 = .ok (.iload 10, 2) := by decide +kernel
theorem dX2_spend_107 : decode cX2_spend 107 = .ok (.ifCond .eq 41, 3) := by decide +kernel
theorem dX2_spend_110 : decode cX2_spend 110 = .ok (.aload_n 1, 1) := by decide +kernel
theorem dX2_spend_111 : decode cX2_spend 111 = .ok (.getfield 44, 3) := by decide +kernel
theorem dX2_spend_114 : decode cX2_spend 114 = .ok (.aload_n 0, 1) := by decide +kernel
theorem dX2_spend_115 : decode cX2_spend 115 = .ok (.getfield 12, 3) := by decide +kernel
theorem dX2_spend_118 : decode cX2_spend 118 = .ok (.iload 7, 2) := by decide +kernel
theorem dX2_spend_120 : decode cX2_spend 120 = .ok (.iload 8, 2) := by decide +kernel
theorem dX2_spend_122 : decode cX2_spend 122 = .ok (.iload 9, 2) := by decide +kernel
theorem dX2_spend_124 : decode cX2_spend 124 = .ok (.invokevirtual 60, 3) := by decide +kernel
theorem dX2_spend_127 : decode cX2_spend 127 = .ok (.ifCond .eq 21, 3) := by decide +kernel
theorem dX2_spend_130 : decode cX2_spend 130 = .ok (.aload_n 0, 1) := by decide +kernel
theorem dX2_spend_131 : decode cX2_spend 131 = .ok (.getfield 12, 3) := by decide +kernel
theorem dX2_spend_134 : decode cX2_spend 134 = .ok (.iload 9, 2) := by decide +kernel
theorem dX2_spend_136 : decode cX2_spend 136 = .ok (.iload 7, 2) := by decide +kernel
theorem dX2_spend_138 : decode cX2_spend 138 = .ok (.iload 8, 2) := by decide +kernel
theorem dX2_spend_140 : decode cX2_spend 140 = .ok (.iload 6, 2) := by decide +kernel
theorem dX2_spend_142 : decode cX2_spend 142 = .ok (.invokevirtual 64, 3) := by decide +kernel
theorem dX2_spend_145 : decode cX2_spend 145 = .ok (.iinc 4 1, 3) := by decide +kernel
theorem dX2_spend_148 : decode cX2_spend 148 = .ok (.iinc 5 1, 3) := by decide +kernel
theorem dX2_spend_151 : decode cX2_spend 151 = .ok (.goto (-129), 3) := by decide +kernel
theorem dX2_spend_154 : decode cX2_spend 154 = .ok (.iload 4, 2) := by decide +kernel
theorem dX2_spend_156 : decode cX2_spend 156 = .ok (.ireturn, 1) := by decide +kernel
theorem dX2_draw_0 : decode cX2_draw 0 = .ok (.aload_n 0, 1) := by decide +kernel
theorem dX2_draw_1 : decode cX2_draw 1 = .ok (.aload_n 0, 1) := by decide +kernel
theorem dX2_draw_2 : decode cX2_draw 2 = .ok (.getfield 18, 3) := by decide +kernel
theorem dX2_draw_5 : decode cX2_draw 5 = .ok (.ldc 68, 2) := by decide +kernel
theorem dX2_draw_7 : decode cX2_draw 7 = .ok (.imul, 1) := by decide +kernel
theorem dX2_draw_8 : decode cX2_draw 8 = .ok (.ldc 69, 2) := by decide +kernel
theorem dX2_draw_10 : decode cX2_draw 10 = .ok (.iadd, 1) := by decide +kernel
theorem dX2_draw_11 : decode cX2_draw 11 = .ok (.putfield 18, 3) := by decide +kernel
theorem dX2_draw_14 : decode cX2_draw 14 = .ok (.iload_n 1, 1) := by decide +kernel
theorem dX2_draw_15 : decode cX2_draw 15 = .ok (.iconst 1, 1) := by decide +kernel
theorem dX2_draw_16 : decode cX2_draw 16 = .ok (.if_icmp .ge 7, 3) := by decide +kernel
theorem dX2_draw_19 : decode cX2_draw 19 = .ok (.iconst 0, 1) := by decide +kernel
theorem dX2_draw_20 : decode cX2_draw 20 = .ok (.goto 16, 3) := by decide +kernel
theorem dX2_draw_23 : decode cX2_draw 23 = .ok (.aload_n 0, 1) := by decide +kernel
theorem dX2_draw_24 : decode cX2_draw 24 = .ok (.getfield 18, 3) := by decide +kernel
theorem dX2_draw_27 : decode cX2_draw 27 = .ok (.ldc 70, 2) := by decide +kernel
theorem dX2_draw_29 : decode cX2_draw 29 = .ok (.iand, 1) := by decide +kernel
theorem dX2_draw_30 : decode cX2_draw 30 = .ok (.sipush 256, 3) := by decide +kernel
theorem dX2_draw_33 : decode cX2_draw 33 = .ok (.idiv, 1) := by decide +kernel
theorem dX2_draw_34 : decode cX2_draw 34 = .ok (.iload_n 1, 1) := by decide +kernel
theorem dX2_draw_35 : decode cX2_draw 35 = .ok (.irem, 1) := by decide +kernel
theorem dX2_draw_36 : decode cX2_draw 36 = .ok (.ireturn, 1) := by decide +kernel
theorem dX3_init_0 : decode cX3_init 0 = .ok (.aload_n 0, 1) := by decide +kernel
theorem dX3_init_1 : decode cX3_init 1 = .ok (.invokespecial 3, 3) := by decide +kernel
theorem dX3_init_4 : decode cX3_init 4 = .ok (.aload_n 0, 1) := by decide +kernel
theorem dX3_init_5 : decode cX3_init 5 = .ok (.new 9, 3) := by decide +kernel
theorem dX3_init_8 : decode cX3_init 8 = .ok (.dup, 1) := by decide +kernel
theorem dX3_init_9 : decode cX3_init 9 = .ok (.invokespecial 11, 3) := by decide +kernel
theorem dX3_init_12 : decode cX3_init 12 = .ok (.putfield 12, 3) := by decide +kernel
theorem dX3_init_15 : decode cX3_init 15 = .ok (.aload_n 0, 1) := by decide +kernel
theorem dX3_init_16 : decode cX3_init 16 = .ok (.new 18, 3) := by decide +kernel
theorem dX3_init_19 : decode cX3_init 19 = .ok (.dup, 1) := by decide +kernel
theorem dX3_init_20 : decode cX3_init 20 = .ok (.invokespecial 20, 3) := by decide +kernel
theorem dX3_init_23 : decode cX3_init 23 = .ok (.putfield 21, 3) := by decide +kernel
theorem dX3_init_26 : decode cX3_init 26 = .ok (.aload_n 0, 1) := by decide +kernel
theorem dX3_init_27 : decode cX3_init 27 = .ok (.new 25, 3) := by decide +kernel
theorem dX3_init_30 : decode cX3_init 30 = .ok (.dup, 1) := by decide +kernel
theorem dX3_init_31 : decode cX3_init 31 = .ok (.invokespecial 27, 3) := by decide +kernel
theorem dX3_init_34 : decode cX3_init 34 = .ok (.putfield 28, 3) := by decide +kernel
theorem dX3_init_37 : decode cX3_init 37 = .ok (.aload_n 0, 1) := by decide +kernel
theorem dX3_init_38 : decode cX3_init 38 = .ok (.getfield 12, 3) := by decide +kernel
theorem dX3_init_41 : decode cX3_init 41 = .ok (.iconst 3, 1) := by decide +kernel
theorem dX3_init_42 : decode cX3_init 42 = .ok (.iconst 3, 1) := by decide +kernel
theorem dX3_init_43 : decode cX3_init 43 = .ok (.invokevirtual 32, 3) := by decide +kernel
theorem dX3_init_46 : decode cX3_init 46 = .ok (.aload_n 0, 1) := by decide +kernel
theorem dX3_init_47 : decode cX3_init 47 = .ok (.getfield 21, 3) := by decide +kernel
theorem dX3_init_50 : decode cX3_init 50 = .ok (.invokevirtual 36, 3) := by decide +kernel
theorem dX3_init_53 : decode cX3_init 53 = .ok (.return_, 1) := by decide +kernel
theorem dX3_costOf_0 : decode cX3_costOf 0 = .ok (.aload_n 0, 1) := by decide +kernel
theorem dX3_costOf_1 : decode cX3_costOf 1 = .ok (.iload_n 1, 1) := by decide +kernel
theorem dX3_costOf_2 : decode cX3_costOf 2 = .ok (.iload_n 2, 1) := by decide +kernel
theorem dX3_costOf_3 : decode cX3_costOf 3 = .ok (.iload_n 3, 1) := by decide +kernel
theorem dX3_costOf_4 : decode cX3_costOf 4 = .ok (.invokevirtual 39, 3) := by decide +kernel
theorem dX3_costOf_7 : decode cX3_costOf 7 = .ok (.istore 5, 2) := by decide +kernel
theorem dX3_costOf_9 : decode cX3_costOf 9 = .ok (.iload 4, 2) := by decide +kernel
theorem dX3_costOf_11 : decode cX3_costOf 11 = .ok (.iconst 2, 1) := by decide +kernel
theorem dX3_costOf_12 : decode cX3_costOf 12 = .ok (.if_icmp .ne 10, 3) := by decide +kernel
theorem dX3_costOf_15 : decode cX3_costOf 15 = .ok (.iconst 2, 1) := by decide +kernel
theorem dX3_costOf_16 : decode cX3_costOf 16 = .ok (.iload 5, 2) := by decide +kernel
theorem dX3_costOf_18 : decode cX3_costOf 18 = .ok (.imul, 1) := by decide +kernel
theorem dX3_costOf_19 : decode cX3_costOf 19 = .ok (.goto 5, 3) := by decide +kernel
theorem dX3_costOf_22 : decode cX3_costOf 22 = .ok (.iload 5, 2) := by decide +kernel
theorem dX3_costOf_24 : decode cX3_costOf 24 = .ok (.ireturn, 1) := by decide +kernel
theorem dX3_plainCost_0 : decode cX3_plainCost 0 = .ok (.aload_n 0, 1) := by decide +kernel
theorem dX3_plainCost_1 : decode cX3_plainCost 1 = .ok (.getfield 28, 3) := by decide +kernel
theorem dX3_plainCost_4 : decode cX3_plainCost 4 = .ok (.getfield 43, 3) := by decide +kernel
theorem dX3_plainCost_7 : decode cX3_plainCost 7 = .ok (.iload_n 1, 1) := by decide +kernel
theorem dX3_plainCost_8 : decode cX3_plainCost 8 = .ok (.iaload, 1) := by decide +kernel
theorem dX3_plainCost_9 : decode cX3_plainCost 9 = .ok (.istore 4, 2) := by decide +kernel
theorem dX3_plainCost_11 : decode cX3_plainCost 11 = .ok (.aload_n 0, 1) := by decide +kernel
theorem dX3_plainCost_12 : decode cX3_plainCost 12 = .ok (.getfield 28, 3) := by decide +kernel
theorem dX3_plainCost_15 : decode cX3_plainCost 15 = .ok (.getfield 47, 3) := by decide +kernel
theorem dX3_plainCost_18 : decode cX3_plainCost 18 = .ok (.iload_n 1, 1) := by decide +kernel
theorem dX3_plainCost_19 : decode cX3_plainCost 19 = .ok (.iaload, 1) := by decide +kernel
theorem dX3_plainCost_20 : decode cX3_plainCost 20 = .ok (.tableswitch 101 1 4 #[32, 41, 67, 96], 32) := by decide +kernel
theorem dX3_plainCost_52 : decode cX3_plainCost 52 = .ok (.aload_n 0, 1) := by decide +kernel
theorem dX3_plainCost_53 : decode cX3_plainCost 53 = .ok (.iload 4, 2) := by decide +kernel
theorem dX3_plainCost_55 : decode cX3_plainCost 55 = .ok (.iload_n 2, 1) := by decide +kernel
theorem dX3_plainCost_56 : decode cX3_plainCost 56 = .ok (.iload_n 3, 1) := by decide +kernel
theorem dX3_plainCost_57 : decode cX3_plainCost 57 = .ok (.invokevirtual 50, 3) := by decide +kernel
theorem dX3_plainCost_60 : decode cX3_plainCost 60 = .ok (.ireturn, 1) := by decide +kernel
theorem dX3_plainCost_61 : decode cX3_plainCost 61 = .ok (.aload_n 0, 1) := by decide +kernel
theorem dX3_plainCost_62 : decode cX3_plainCost 62 = .ok (.getfield 12, 3) := by decide +kernel
theorem dX3_plainCost_65 : decode cX3_plainCost 65 = .ok (.getfield 53, 3) := by decide +kernel
theorem dX3_plainCost_68 : decode cX3_plainCost 68 = .ok (.iload_n 3, 1) := by decide +kernel
theorem dX3_plainCost_69 : decode cX3_plainCost 69 = .ok (.baload, 1) := by decide +kernel
theorem dX3_plainCost_70 : decode cX3_plainCost 70 = .ok (.ifCond .eq 12, 3) := by decide +kernel
theorem dX3_plainCost_73 : decode cX3_plainCost 73 = .ok (.iload 4, 2) := by decide +kernel
theorem dX3_plainCost_75 : decode cX3_plainCost 75 = .ok (.iconst 1, 1) := by decide +kernel
theorem dX3_plainCost_76 : decode cX3_plainCost 76 = .ok (.iadd, 1) := by decide +kernel
theorem dX3_plainCost_77 : decode cX3_plainCost 77 = .ok (.iconst 2, 1) := by decide +kernel
theorem dX3_plainCost_78 : decode cX3_plainCost 78 = .ok (.idiv, 1) := by decide +kernel
theorem dX3_plainCost_79 : decode cX3_plainCost 79 = .ok (.goto 7, 3) := by decide +kernel
theorem dX3_plainCost_82 : decode cX3_plainCost 82 = .ok (.iconst 2, 1) := by decide +kernel
theorem dX3_plainCost_83 : decode cX3_plainCost 83 = .ok (.iload 4, 2) := by decide +kernel
theorem dX3_plainCost_85 : decode cX3_plainCost 85 = .ok (.imul, 1) := by decide +kernel
theorem dX3_plainCost_86 : decode cX3_plainCost 86 = .ok (.ireturn, 1) := by decide +kernel
theorem dX3_plainCost_87 : decode cX3_plainCost 87 = .ok (.aload_n 0, 1) := by decide +kernel
theorem dX3_plainCost_88 : decode cX3_plainCost 88 = .ok (.getfield 12, 3) := by decide +kernel
theorem dX3_plainCost_91 : decode cX3_plainCost 91 = .ok (.getfield 57, 3) := by decide +kernel
theorem dX3_plainCost_94 : decode cX3_plainCost 94 = .ok (.iload_n 2, 1) := by decide +kernel
theorem dX3_plainCost_95 : decode cX3_plainCost 95 = .ok (.iaload, 1) := by decide +kernel
theorem dX3_plainCost_96 : decode cX3_plainCost 96 = .ok (.iconst 3, 1) := by decide +kernel
theorem dX3_plainCost_97 : decode cX3_plainCost 97 = .ok (.if_icmp .ne 10, 3) := by decide +kernel
theorem dX3_plainCost_100 : decode cX3_plainCost 100 = .ok (.iconst 3, 1) := by decide +kernel
theorem dX3_plainCost_101 : decode cX3_plainCost 101 = .ok (.iload 4, 2) := by decide +kernel
theorem dX3_plainCost_103 : decode cX3_plainCost 103 = .ok (.imul, 1) := by decide +kernel
theorem dX3_plainCost_104 : decode cX3_plainCost 104 = .ok (.goto 11, 3) := by decide +kernel
theorem dX3_plainCost_107 : decode cX3_plainCost 107 = .ok (.aload_n 0, 1) := by decide +kernel
theorem dX3_plainCost_108 : decode cX3_plainCost 108 = .ok (.iload 4, 2) := by decide +kernel
theorem dX3_plainCost_110 : decode cX3_plainCost 110 = .ok (.iload_n 2, 1) := by decide +kernel
theorem dX3_plainCost_111 : decode cX3_plainCost 111 = .ok (.iload_n 3, 1) := by decide +kernel
theorem dX3_plainCost_112 : decode cX3_plainCost 112 = .ok (.invokevirtual 50, 3) := by decide +kernel
theorem dX3_plainCost_115 : decode cX3_plainCost 115 = .ok (.ireturn, 1) := by decide +kernel
theorem dX3_plainCost_116 : decode cX3_plainCost 116 = .ok (.iload 4, 2) := by decide +kernel
theorem dX3_plainCost_118 : decode cX3_plainCost 118 = .ok (.iconst 2, 1) := by decide +kernel
theorem dX3_plainCost_119 : decode cX3_plainCost 119 = .ok (.iadd, 1) := by decide +kernel
theorem dX3_plainCost_120 : decode cX3_plainCost 120 = .ok (.ireturn, 1) := by decide +kernel
theorem dX3_plainCost_121 : decode cX3_plainCost 121 = .ok (.iload 4, 2) := by decide +kernel
theorem dX3_plainCost_123 : decode cX3_plainCost 123 = .ok (.ireturn, 1) := by decide +kernel
theorem dX3_costByColour_0 : decode cX3_costByColour 0 = .ok (.aload_n 0, 1) := by decide +kernel
theorem dX3_costByColour_1 : decode cX3_costByColour 1 = .ok (.getfield 12, 3) := by decide +kernel
theorem dX3_costByColour_4 : decode cX3_costByColour 4 = .ok (.getfield 57, 3) := by decide +kernel
theorem dX3_costByColour_7 : decode cX3_costByColour 7 = .ok (.iload_n 2, 1) := by decide +kernel
theorem dX3_costByColour_8 : decode cX3_costByColour 8 = .ok (.iaload, 1) := by decide +kernel
theorem dX3_costByColour_9 : decode cX3_costByColour 9 = .ok (.aload_n 0, 1) := by decide +kernel
theorem dX3_costByColour_10 : decode cX3_costByColour 10 = .ok (.getfield 12, 3) := by decide +kernel
theorem dX3_costByColour_13 : decode cX3_costByColour 13 = .ok (.getfield 57, 3) := by decide +kernel
theorem dX3_costByColour_16 : decode cX3_costByColour 16 = .ok (.iload_n 3, 1) := by decide +kernel
theorem dX3_costByColour_17 : decode cX3_costByColour 17 = .ok (.iaload, 1) := by decide +kernel
theorem dX3_costByColour_18 : decode cX3_costByColour 18 = .ok (.if_icmp .ne 11, 3) := by decide +kernel
theorem dX3_costByColour_21 : decode cX3_costByColour 21 = .ok (.iload_n 1, 1) := by decide +kernel
theorem dX3_costByColour_22 : decode cX3_costByColour 22 = .ok (.iconst 1, 1) := by decide +kernel
theorem dX3_costByColour_23 : decode cX3_costByColour 23 = .ok (.iadd, 1) := by decide +kernel
theorem dX3_costByColour_24 : decode cX3_costByColour 24 = .ok (.iconst 2, 1) := by decide +kernel
theorem dX3_costByColour_25 : decode cX3_costByColour 25 = .ok (.idiv, 1) := by decide +kernel
theorem dX3_costByColour_26 : decode cX3_costByColour 26 = .ok (.goto 4, 3) := by decide +kernel
theorem dX3_costByColour_29 : decode cX3_costByColour 29 = .ok (.iload_n 1, 1) := by decide +kernel
theorem dX3_costByColour_30 : decode cX3_costByColour 30 = .ok (.ireturn, 1) := by decide +kernel
theorem dX3_hasPlaceFor_0 : decode cX3_hasPlaceFor 0 = .ok (.iconst 0, 1) := by decide +kernel
theorem dX3_hasPlaceFor_1 : decode cX3_hasPlaceFor 1 = .ok (.istore_n 2, 1) := by decide +kernel
theorem dX3_hasPlaceFor_2 : decode cX3_hasPlaceFor 2 = .ok (.iload_n 2, 1) := by decide +kernel
theorem dX3_hasPlaceFor_3 : decode cX3_hasPlaceFor 3 = .ok (.aload_n 0, 1) := by decide +kernel
theorem dX3_hasPlaceFor_4 : decode cX3_hasPlaceFor 4 = .ok (.getfield 12, 3) := by decide +kernel
theorem dX3_hasPlaceFor_7 : decode cX3_hasPlaceFor 7 = .ok (.getfield 60, 3) := by decide +kernel
theorem dX3_hasPlaceFor_10 : decode cX3_hasPlaceFor 10 = .ok (.if_icmp .ge 31, 3) := by decide +kernel
theorem dX3_hasPlaceFor_13 : decode cX3_hasPlaceFor 13 = .ok (.aload_n 0, 1) := by decide +kernel
theorem dX3_hasPlaceFor_14 : decode cX3_hasPlaceFor 14 = .ok (.getfield 21, 3) := by decide +kernel
theorem dX3_hasPlaceFor_17 : decode cX3_hasPlaceFor 17 = .ok (.iload_n 2, 1) := by decide +kernel
theorem dX3_hasPlaceFor_18 : decode cX3_hasPlaceFor 18 = .ok (.invokevirtual 64, 3) := by decide +kernel
theorem dX3_hasPlaceFor_21 : decode cX3_hasPlaceFor 21 = .ok (.ifCond .ne 14, 3) := by decide +kernel
theorem dX3_hasPlaceFor_24 : decode cX3_hasPlaceFor 24 = .ok (.aload_n 0, 1) := by decide +kernel
theorem dX3_hasPlaceFor_25 : decode cX3_hasPlaceFor 25 = .ok (.iload_n 1, 1) := by decide +kernel
theorem dX3_hasPlaceFor_26 : decode cX3_hasPlaceFor 26 = .ok (.iload_n 2, 1) := by decide +kernel
theorem dX3_hasPlaceFor_27 : decode cX3_hasPlaceFor 27 = .ok (.invokevirtual 68, 3) := by decide +kernel
theorem dX3_hasPlaceFor_30 : decode cX3_hasPlaceFor 30 = .ok (.ifCond .eq 5, 3) := by decide +kernel
theorem dX3_hasPlaceFor_33 : decode cX3_hasPlaceFor 33 = .ok (.iconst 1, 1) := by decide +kernel
theorem dX3_hasPlaceFor_34 : decode cX3_hasPlaceFor 34 = .ok (.ireturn, 1) := by decide +kernel
theorem dX3_hasPlaceFor_35 : decode cX3_hasPlaceFor 35 = .ok (.iinc 2 1, 3) := by decide +kernel
theorem dX3_hasPlaceFor_38 : decode cX3_hasPlaceFor 38 = .ok (.goto (-36), 3) := by decide +kernel
theorem dX3_hasPlaceFor_41 : decode cX3_hasPlaceFor 41 = .ok (.iconst 0, 1) := by decide +kernel
theorem dX3_hasPlaceFor_42 : decode cX3_hasPlaceFor 42 = .ok (.ireturn, 1) := by decide +kernel
theorem dX3_fitsSomehow_0 : decode cX3_fitsSomehow 0 = .ok (.iconst 0, 1) := by decide +kernel
theorem dX3_fitsSomehow_1 : decode cX3_fitsSomehow 1 = .ok (.istore_n 3, 1) := by decide +kernel
theorem dX3_fitsSomehow_2 : decode cX3_fitsSomehow 2 = .ok (.iload_n 3, 1) := by decide +kernel
theorem dX3_fitsSomehow_3 : decode cX3_fitsSomehow 3 = .ok (.iconst 4, 1) := by decide +kernel
theorem dX3_fitsSomehow_4 : decode cX3_fitsSomehow 4 = .ok (.if_icmp .ge 28, 3) := by decide +kernel
theorem dX3_fitsSomehow_7 : decode cX3_fitsSomehow 7 = .ok (.aload_n 0, 1) := by decide +kernel
theorem dX3_fitsSomehow_8 : decode cX3_fitsSomehow 8 = .ok (.getfield 12, 3) := by decide +kernel
theorem dX3_fitsSomehow_11 : decode cX3_fitsSomehow 11 = .ok (.aload_n 0, 1) := by decide +kernel
theorem dX3_fitsSomehow_12 : decode cX3_fitsSomehow 12 = .ok (.getfield 21, 3) := by decide +kernel
theorem dX3_fitsSomehow_15 : decode cX3_fitsSomehow 15 = .ok (.iload_n 1, 1) := by decide +kernel
theorem dX3_fitsSomehow_16 : decode cX3_fitsSomehow 16 = .ok (.iload_n 3, 1) := by decide +kernel
theorem dX3_fitsSomehow_17 : decode cX3_fitsSomehow 17 = .ok (.iload_n 2, 1) := by decide +kernel
theorem dX3_fitsSomehow_18 : decode cX3_fitsSomehow 18 = .ok (.invokevirtual 72, 3) := by decide +kernel
theorem dX3_fitsSomehow_21 : decode cX3_fitsSomehow 21 = .ok (.ifCond .eq 5, 3) := by decide +kernel
theorem dX3_fitsSomehow_24 : decode cX3_fitsSomehow 24 = .ok (.iconst 1, 1) := by decide +kernel
theorem dX3_fitsSomehow_25 : decode cX3_fitsSomehow 25 = .ok (.ireturn, 1) := by decide +kernel
theorem dX3_fitsSomehow_26 : decode cX3_fitsSomehow 26 = .ok (.iinc 3 1, 3) := by decide +kernel
theorem dX3_fitsSomehow_29 : decode cX3_fitsSomehow 29 = .ok (.goto (-27), 3) := by decide +kernel
theorem dX3_fitsSomehow_32 : decode cX3_fitsSomehow 32 = .ok (.iconst 0, 1) := by decide +kernel
theorem dX3_fitsSomehow_33 : decode cX3_fitsSomehow 33 = .ok (.ireturn, 1) := by decide +kernel
theorem dX3_copyFrom_0 : decode cX3_copyFrom 0 = .ok (.aload_n 0, 1) := by decide +kernel
theorem dX3_copyFrom_1 : decode cX3_copyFrom 1 = .ok (.getfield 12, 3) := by decide +kernel
theorem dX3_copyFrom_4 : decode cX3_copyFrom 4 = .ok (.aload_n 1, 1) := by decide +kernel
theorem dX3_copyFrom_5 : decode cX3_copyFrom 5 = .ok (.getfield 12, 3) := by decide +kernel
theorem dX3_copyFrom_8 : decode cX3_copyFrom 8 = .ok (.invokevirtual 76, 3) := by decide +kernel
theorem dX3_copyFrom_11 : decode cX3_copyFrom 11 = .ok (.aload_n 0, 1) := by decide +kernel
theorem dX3_copyFrom_12 : decode cX3_copyFrom 12 = .ok (.getfield 21, 3) := by decide +kernel
theorem dX3_copyFrom_15 : decode cX3_copyFrom 15 = .ok (.aload_n 1, 1) := by decide +kernel
theorem dX3_copyFrom_16 : decode cX3_copyFrom 16 = .ok (.getfield 21, 3) := by decide +kernel
theorem dX3_copyFrom_19 : decode cX3_copyFrom 19 = .ok (.invokevirtual 80, 3) := by decide +kernel
theorem dX3_copyFrom_22 : decode cX3_copyFrom 22 = .ok (.aload_n 0, 1) := by decide +kernel
theorem dX3_copyFrom_23 : decode cX3_copyFrom 23 = .ok (.getfield 28, 3) := by decide +kernel
theorem dX3_copyFrom_26 : decode cX3_copyFrom 26 = .ok (.aload_n 1, 1) := by decide +kernel
theorem dX3_copyFrom_27 : decode cX3_copyFrom 27 = .ok (.getfield 28, 3) := by decide +kernel
theorem dX3_copyFrom_30 : decode cX3_copyFrom 30 = .ok (.invokevirtual 83, 3) := by decide +kernel
theorem dX3_copyFrom_33 : decode cX3_copyFrom 33 = .ok (.return_, 1) := by decide +kernel
theorem dX4_init_0 : decode cX4_init 0 = .ok (.aload_n 0, 1) := by decide +kernel
theorem dX4_init_1 : decode cX4_init 1 = .ok (.invokespecial 3, 3) := by decide +kernel
theorem dX4_init_4 : decode cX4_init 4 = .ok (.aload_n 0, 1) := by decide +kernel
theorem dX4_init_5 : decode cX4_init 5 = .ok (.bipush 6, 2) := by decide +kernel
theorem dX4_init_7 : decode cX4_init 7 = .ok (.newarray .int, 2) := by decide +kernel
theorem dX4_init_9 : decode cX4_init 9 = .ok (.putfield 9, 3) := by decide +kernel
theorem dX4_init_12 : decode cX4_init 12 = .ok (.aload_n 0, 1) := by decide +kernel
theorem dX4_init_13 : decode cX4_init 13 = .ok (.bipush 6, 2) := by decide +kernel
theorem dX4_init_15 : decode cX4_init 15 = .ok (.newarray .int, 2) := by decide +kernel
theorem dX4_init_17 : decode cX4_init 17 = .ok (.putfield 15, 3) := by decide +kernel
theorem dX4_init_20 : decode cX4_init 20 = .ok (.aload_n 0, 1) := by decide +kernel
theorem dX4_init_21 : decode cX4_init 21 = .ok (.bipush 6, 2) := by decide +kernel
theorem dX4_init_23 : decode cX4_init 23 = .ok (.newarray .int, 2) := by decide +kernel
theorem dX4_init_25 : decode cX4_init 25 = .ok (.putfield 18, 3) := by decide +kernel
theorem dX4_init_28 : decode cX4_init 28 = .ok (.return_, 1) := by decide +kernel
theorem dX4_add_0 : decode cX4_add 0 = .ok (.aload_n 0, 1) := by decide +kernel
theorem dX4_add_1 : decode cX4_add 1 = .ok (.getfield 9, 3) := by decide +kernel
theorem dX4_add_4 : decode cX4_add 4 = .ok (.aload_n 0, 1) := by decide +kernel
theorem dX4_add_5 : decode cX4_add 5 = .ok (.getfield 21, 3) := by decide +kernel
theorem dX4_add_8 : decode cX4_add 8 = .ok (.iload_n 1, 1) := by decide +kernel
theorem dX4_add_9 : decode cX4_add 9 = .ok (.iastore, 1) := by decide +kernel
theorem dX4_add_10 : decode cX4_add 10 = .ok (.aload_n 0, 1) := by decide +kernel
theorem dX4_add_11 : decode cX4_add 11 = .ok (.getfield 15, 3) := by decide +kernel
theorem dX4_add_14 : decode cX4_add 14 = .ok (.aload_n 0, 1) := by decide +kernel
theorem dX4_add_15 : decode cX4_add 15 = .ok (.getfield 21, 3) := by decide +kernel
theorem dX4_add_18 : decode cX4_add 18 = .ok (.iload_n 2, 1) := by decide +kernel
theorem dX4_add_19 : decode cX4_add 19 = .ok (.iastore, 1) := by decide +kernel
theorem dX4_add_20 : decode cX4_add 20 = .ok (.aload_n 0, 1) := by decide +kernel
theorem dX4_add_21 : decode cX4_add 21 = .ok (.getfield 18, 3) := by decide +kernel
theorem dX4_add_24 : decode cX4_add 24 = .ok (.aload_n 0, 1) := by decide +kernel
theorem dX4_add_25 : decode cX4_add 25 = .ok (.getfield 21, 3) := by decide +kernel
theorem dX4_add_28 : decode cX4_add 28 = .ok (.iconst 0, 1) := by decide +kernel
theorem dX4_add_29 : decode cX4_add 29 = .ok (.iastore, 1) := by decide +kernel
theorem dX4_add_30 : decode cX4_add 30 = .ok (.aload_n 0, 1) := by decide +kernel
theorem dX4_add_31 : decode cX4_add 31 = .ok (.dup, 1) := by decide +kernel
theorem dX4_add_32 : decode cX4_add 32 = .ok (.getfield 21, 3) := by decide +kernel
theorem dX4_add_35 : decode cX4_add 35 = .ok (.iconst 1, 1) := by decide +kernel
theorem dX4_add_36 : decode cX4_add 36 = .ok (.iadd, 1) := by decide +kernel
theorem dX4_add_37 : decode cX4_add 37 = .ok (.putfield 21, 3) := by decide +kernel
theorem dX4_add_40 : decode cX4_add 40 = .ok (.return_, 1) := by decide +kernel
theorem dX4_spentByAll_0 : decode cX4_spentByAll 0 = .ok (.iconst 0, 1) := by decide +kernel
theorem dX4_spentByAll_1 : decode cX4_spentByAll 1 = .ok (.istore_n 1, 1) := by decide +kernel
theorem dX4_spentByAll_2 : decode cX4_spentByAll 2 = .ok (.iconst 0, 1) := by decide +kernel
theorem dX4_spentByAll_3 : decode cX4_spentByAll 3 = .ok (.istore_n 2, 1) := by decide +kernel
theorem dX4_spentByAll_4 : decode cX4_spentByAll 4 = .ok (.iload_n 2, 1) := by decide +kernel
theorem dX4_spentByAll_5 : decode cX4_spentByAll 5 = .ok (.aload_n 0, 1) := by decide +kernel
theorem dX4_spentByAll_6 : decode cX4_spentByAll 6 = .ok (.getfield 21, 3) := by decide +kernel
theorem dX4_spentByAll_9 : decode cX4_spentByAll 9 = .ok (.if_icmp .ge 18, 3) := by decide +kernel
theorem dX4_spentByAll_12 : decode cX4_spentByAll 12 = .ok (.iload_n 1, 1) := by decide +kernel
theorem dX4_spentByAll_13 : decode cX4_spentByAll 13 = .ok (.aload_n 0, 1) := by decide +kernel
theorem dX4_spentByAll_14 : decode cX4_spentByAll 14 = .ok (.getfield 18, 3) := by decide +kernel
theorem dX4_spentByAll_17 : decode cX4_spentByAll 17 = .ok (.iload_n 2, 1) := by decide +kernel
theorem dX4_spentByAll_18 : decode cX4_spentByAll 18 = .ok (.iaload, 1) := by decide +kernel
theorem dX4_spentByAll_19 : decode cX4_spentByAll 19 = .ok (.iadd, 1) := by decide +kernel
theorem dX4_spentByAll_20 : decode cX4_spentByAll 20 = .ok (.istore_n 1, 1) := by decide +kernel
theorem dX4_spentByAll_21 : decode cX4_spentByAll 21 = .ok (.iinc 2 1, 3) := by decide +kernel
theorem dX4_spentByAll_24 : decode cX4_spentByAll 24 = .ok (.goto (-20), 3) := by decide +kernel
theorem dX4_spentByAll_27 : decode cX4_spentByAll 27 = .ok (.iload_n 1, 1) := by decide +kernel
theorem dX4_spentByAll_28 : decode cX4_spentByAll 28 = .ok (.ireturn, 1) := by decide +kernel
theorem dX4_commonDivisor_0 : decode cX4_commonDivisor 0 = .ok (.iload_n 0, 1) := by decide +kernel
theorem dX4_commonDivisor_1 : decode cX4_commonDivisor 1 = .ok (.istore_n 2, 1) := by decide +kernel
theorem dX4_commonDivisor_2 : decode cX4_commonDivisor 2 = .ok (.iload_n 1, 1) := by decide +kernel
theorem dX4_commonDivisor_3 : decode cX4_commonDivisor 3 = .ok (.istore_n 3, 1) := by decide +kernel
theorem dX4_commonDivisor_4 : decode cX4_commonDivisor 4 = .ok (.iconst 0, 1) := by decide +kernel
theorem dX4_commonDivisor_5 : decode cX4_commonDivisor 5 = .ok (.istore 4, 2) := by decide +kernel
theorem dX4_commonDivisor_7 : decode cX4_commonDivisor 7 = .ok (.iload 4, 2) := by decide +kernel
theorem dX4_commonDivisor_9 : decode cX4_commonDivisor 9 = .ok (.bipush 100, 2) := by decide +kernel
theorem dX4_commonDivisor_11 : decode cX4_commonDivisor 11 = .ok (.if_icmp .ge 23, 3) := by decide +kernel
theorem dX4_commonDivisor_14 : decode cX4_commonDivisor 14 = .ok (.iload_n 2, 1) := by decide +kernel
theorem dX4_commonDivisor_15 : decode cX4_commonDivisor 15 = .ok (.ifCond .eq 19, 3) := by decide +kernel
theorem dX4_commonDivisor_18 : decode cX4_commonDivisor 18 = .ok (.iload_n 3, 1) := by decide +kernel
theorem dX4_commonDivisor_19 : decode cX4_commonDivisor 19 = .ok (.iload_n 2, 1) := by decide +kernel
theorem dX4_commonDivisor_20 : decode cX4_commonDivisor 20 = .ok (.irem, 1) := by decide +kernel
theorem dX4_commonDivisor_21 : decode cX4_commonDivisor 21 = .ok (.istore 5, 2) := by decide +kernel
theorem dX4_commonDivisor_23 : decode cX4_commonDivisor 23 = .ok (.iload_n 2, 1) := by decide +kernel
theorem dX4_commonDivisor_24 : decode cX4_commonDivisor 24 = .ok (.istore_n 3, 1) := by decide +kernel
theorem dX4_commonDivisor_25 : decode cX4_commonDivisor 25 = .ok (.iload 5, 2) := by decide +kernel
theorem dX4_commonDivisor_27 : decode cX4_commonDivisor 27 = .ok (.istore_n 2, 1) := by decide +kernel
theorem dX4_commonDivisor_28 : decode cX4_commonDivisor 28 = .ok (.iinc 4 1, 3) := by decide +kernel
theorem dX4_commonDivisor_31 : decode cX4_commonDivisor 31 = .ok (.goto (-24), 3) := by decide +kernel
theorem dX4_commonDivisor_34 : decode cX4_commonDivisor 34 = .ok (.iload_n 3, 1) := by decide +kernel
theorem dX4_commonDivisor_35 : decode cX4_commonDivisor 35 = .ok (.ireturn, 1) := by decide +kernel
theorem dX4_copyFrom_0 : decode cX4_copyFrom 0 = .ok (.aload_n 0, 1) := by decide +kernel
theorem dX4_copyFrom_1 : decode cX4_copyFrom 1 = .ok (.aload_n 1, 1) := by decide +kernel
theorem dX4_copyFrom_2 : decode cX4_copyFrom 2 = .ok (.getfield 21, 3) := by decide +kernel
theorem dX4_copyFrom_5 : decode cX4_copyFrom 5 = .ok (.putfield 21, 3) := by decide +kernel
theorem dX4_copyFrom_8 : decode cX4_copyFrom 8 = .ok (.aload_n 1, 1) := by decide +kernel
theorem dX4_copyFrom_9 : decode cX4_copyFrom 9 = .ok (.getfield 9, 3) := by decide +kernel
theorem dX4_copyFrom_12 : decode cX4_copyFrom 12 = .ok (.iconst 0, 1) := by decide +kernel
theorem dX4_copyFrom_13 : decode cX4_copyFrom 13 = .ok (.aload_n 0, 1) := by decide +kernel
theorem dX4_copyFrom_14 : decode cX4_copyFrom 14 = .ok (.getfield 9, 3) := by decide +kernel
theorem dX4_copyFrom_17 : decode cX4_copyFrom 17 = .ok (.iconst 0, 1) := by decide +kernel
theorem dX4_copyFrom_18 : decode cX4_copyFrom 18 = .ok (.aload_n 0, 1) := by decide +kernel
theorem dX4_copyFrom_19 : decode cX4_copyFrom 19 = .ok (.getfield 9, 3) := by decide +kernel
theorem dX4_copyFrom_22 : decode cX4_copyFrom 22 = .ok (.arraylength, 1) := by decide +kernel
theorem dX4_copyFrom_23 : decode cX4_copyFrom 23 = .ok (.invokestatic 25, 3) := by decide +kernel
theorem dX4_copyFrom_26 : decode cX4_copyFrom 26 = .ok (.aload_n 1, 1) := by decide +kernel
theorem dX4_copyFrom_27 : decode cX4_copyFrom 27 = .ok (.getfield 15, 3) := by decide +kernel
theorem dX4_copyFrom_30 : decode cX4_copyFrom 30 = .ok (.iconst 0, 1) := by decide +kernel
theorem dX4_copyFrom_31 : decode cX4_copyFrom 31 = .ok (.aload_n 0, 1) := by decide +kernel
theorem dX4_copyFrom_32 : decode cX4_copyFrom 32 = .ok (.getfield 15, 3) := by decide +kernel
theorem dX4_copyFrom_35 : decode cX4_copyFrom 35 = .ok (.iconst 0, 1) := by decide +kernel
theorem dX4_copyFrom_36 : decode cX4_copyFrom 36 = .ok (.aload_n 0, 1) := by decide +kernel
theorem dX4_copyFrom_37 : decode cX4_copyFrom 37 = .ok (.getfield 15, 3) := by decide +kernel
theorem dX4_copyFrom_40 : decode cX4_copyFrom 40 = .ok (.arraylength, 1) := by decide +kernel
theorem dX4_copyFrom_41 : decode cX4_copyFrom 41 = .ok (.invokestatic 25, 3) := by decide +kernel
theorem dX4_copyFrom_44 : decode cX4_copyFrom 44 = .ok (.aload_n 1, 1) := by decide +kernel
theorem dX4_copyFrom_45 : decode cX4_copyFrom 45 = .ok (.getfield 18, 3) := by decide +kernel
theorem dX4_copyFrom_48 : decode cX4_copyFrom 48 = .ok (.iconst 0, 1) := by decide +kernel
theorem dX4_copyFrom_49 : decode cX4_copyFrom 49 = .ok (.aload_n 0, 1) := by decide +kernel
theorem dX4_copyFrom_50 : decode cX4_copyFrom 50 = .ok (.getfield 18, 3) := by decide +kernel
theorem dX4_copyFrom_53 : decode cX4_copyFrom 53 = .ok (.iconst 0, 1) := by decide +kernel
theorem dX4_copyFrom_54 : decode cX4_copyFrom 54 = .ok (.aload_n 0, 1) := by decide +kernel
theorem dX4_copyFrom_55 : decode cX4_copyFrom 55 = .ok (.getfield 18, 3) := by decide +kernel
theorem dX4_copyFrom_58 : decode cX4_copyFrom 58 = .ok (.arraylength, 1) := by decide +kernel
theorem dX4_copyFrom_59 : decode cX4_copyFrom 59 = .ok (.invokestatic 25, 3) := by decide +kernel
theorem dX4_copyFrom_62 : decode cX4_copyFrom 62 = .ok (.return_, 1) := by decide +kernel
theorem dX5_init_0 : decode cX5_init 0 = .ok (.aload_n 0, 1) := by decide +kernel
theorem dX5_init_1 : decode cX5_init 1 = .ok (.invokespecial 3, 3) := by decide +kernel
theorem dX5_init_4 : decode cX5_init 4 = .ok (.aload_n 0, 1) := by decide +kernel
theorem dX5_init_5 : decode cX5_init 5 = .ok (.bipush 10, 2) := by decide +kernel
theorem dX5_init_7 : decode cX5_init 7 = .ok (.newarray .int, 2) := by decide +kernel
theorem dX5_init_9 : decode cX5_init 9 = .ok (.putfield 9, 3) := by decide +kernel
theorem dX5_init_12 : decode cX5_init 12 = .ok (.aload_n 0, 1) := by decide +kernel
theorem dX5_init_13 : decode cX5_init 13 = .ok (.bipush 10, 2) := by decide +kernel
theorem dX5_init_15 : decode cX5_init 15 = .ok (.newarray .int, 2) := by decide +kernel
theorem dX5_init_17 : decode cX5_init 17 = .ok (.putfield 15, 3) := by decide +kernel
theorem dX5_init_20 : decode cX5_init 20 = .ok (.aload_n 0, 1) := by decide +kernel
theorem dX5_init_21 : decode cX5_init 21 = .ok (.bipush 10, 2) := by decide +kernel
theorem dX5_init_23 : decode cX5_init 23 = .ok (.newarray .int, 2) := by decide +kernel
theorem dX5_init_25 : decode cX5_init 25 = .ok (.putfield 18, 3) := by decide +kernel
theorem dX5_init_28 : decode cX5_init 28 = .ok (.return_, 1) := by decide +kernel
theorem dX5_weigh_0 : decode cX5_weigh 0 = .ok (.aload_n 0, 1) := by decide +kernel
theorem dX5_weigh_1 : decode cX5_weigh 1 = .ok (.getfield 9, 3) := by decide +kernel
theorem dX5_weigh_4 : decode cX5_weigh 4 = .ok (.invokestatic 21, 3) := by decide +kernel
theorem dX5_weigh_7 : decode cX5_weigh 7 = .ok (.aload_n 0, 1) := by decide +kernel
theorem dX5_weigh_8 : decode cX5_weigh 8 = .ok (.getfield 15, 3) := by decide +kernel
theorem dX5_weigh_11 : decode cX5_weigh 11 = .ok (.invokestatic 21, 3) := by decide +kernel
theorem dX5_weigh_14 : decode cX5_weigh 14 = .ok (.iconst 0, 1) := by decide +kernel
theorem dX5_weigh_15 : decode cX5_weigh 15 = .ok (.istore_n 2, 1) := by decide +kernel
theorem dX5_weigh_16 : decode cX5_weigh 16 = .ok (.iload_n 2, 1) := by decide +kernel
theorem dX5_weigh_17 : decode cX5_weigh 17 = .ok (.aload_n 1, 1) := by decide +kernel
theorem dX5_weigh_18 : decode cX5_weigh 18 = .ok (.getfield 25, 3) := by decide +kernel
theorem dX5_weigh_21 : decode cX5_weigh 21 = .ok (.getfield 31, 3) := by decide +kernel
theorem dX5_weigh_24 : decode cX5_weigh 24 = .ok (.if_icmp .ge 47, 3) := by decide +kernel
theorem dX5_weigh_27 : decode cX5_weigh 27 = .ok (.aload_n 0, 1) := by decide +kernel
theorem dX5_weigh_28 : decode cX5_weigh 28 = .ok (.getfield 9, 3) := by decide +kernel
theorem dX5_weigh_31 : decode cX5_weigh 31 = .ok (.aload_n 1, 1) := by decide +kernel
theorem dX5_weigh_32 : decode cX5_weigh 32 = .ok (.getfield 25, 3) := by decide +kernel
theorem dX5_weigh_35 : decode cX5_weigh 35 = .ok (.iload_n 2, 1) := by decide +kernel
theorem dX5_weigh_36 : decode cX5_weigh 36 = .ok (.iconst 1, 1) := by decide +kernel
theorem dX5_weigh_37 : decode cX5_weigh 37 = .ok (.invokestatic 37, 3) := by decide +kernel
theorem dX5_weigh_40 : decode cX5_weigh 40 = .ok (.aload_n 1, 1) := by decide +kernel
theorem dX5_weigh_41 : decode cX5_weigh 41 = .ok (.getfield 41, 3) := by decide +kernel
theorem dX5_weigh_44 : decode cX5_weigh 44 = .ok (.getfield 45, 3) := by decide +kernel
theorem dX5_weigh_47 : decode cX5_weigh 47 = .ok (.iload_n 2, 1) := by decide +kernel
theorem dX5_weigh_48 : decode cX5_weigh 48 = .ok (.baload, 1) := by decide +kernel
theorem dX5_weigh_49 : decode cX5_weigh 49 = .ok (.ifCond .ne 16, 3) := by decide +kernel
theorem dX5_weigh_52 : decode cX5_weigh 52 = .ok (.aload_n 0, 1) := by decide +kernel
theorem dX5_weigh_53 : decode cX5_weigh 53 = .ok (.getfield 15, 3) := by decide +kernel
theorem dX5_weigh_56 : decode cX5_weigh 56 = .ok (.aload_n 1, 1) := by decide +kernel
theorem dX5_weigh_57 : decode cX5_weigh 57 = .ok (.getfield 25, 3) := by decide +kernel
theorem dX5_weigh_60 : decode cX5_weigh 60 = .ok (.iload_n 2, 1) := by decide +kernel
theorem dX5_weigh_61 : decode cX5_weigh 61 = .ok (.iconst 1, 1) := by decide +kernel
theorem dX5_weigh_62 : decode cX5_weigh 62 = .ok (.invokestatic 37, 3) := by decide +kernel
theorem dX5_weigh_65 : decode cX5_weigh 65 = .ok (.iinc 2 1, 3) := by decide +kernel
theorem dX5_weigh_68 : decode cX5_weigh 68 = .ok (.goto (-52), 3) := by decide +kernel
theorem dX5_weigh_71 : decode cX5_weigh 71 = .ok (.return_, 1) := by decide +kernel
theorem dX5_isShort_0 : decode cX5_isShort 0 = .ok (.iconst 1, 1) := by decide +kernel
theorem dX5_isShort_1 : decode cX5_isShort 1 = .ok (.istore_n 1, 1) := by decide +kernel
theorem dX5_isShort_2 : decode cX5_isShort 2 = .ok (.iload_n 1, 1) := by decide +kernel
theorem dX5_isShort_3 : decode cX5_isShort 3 = .ok (.bipush 9, 2) := by decide +kernel
theorem dX5_isShort_5 : decode cX5_isShort 5 = .ok (.if_icmp .gt 20, 3) := by decide +kernel
theorem dX5_isShort_8 : decode cX5_isShort 8 = .ok (.aload_n 0, 1) := by decide +kernel
theorem dX5_isShort_9 : decode cX5_isShort 9 = .ok (.getfield 15, 3) := by decide +kernel
theorem dX5_isShort_12 : decode cX5_isShort 12 = .ok (.iload_n 1, 1) := by decide +kernel
theorem dX5_isShort_13 : decode cX5_isShort 13 = .ok (.iaload, 1) := by decide +kernel
theorem dX5_isShort_14 : decode cX5_isShort 14 = .ok (.ifCond .eq 5, 3) := by decide +kernel
theorem dX5_isShort_17 : decode cX5_isShort 17 = .ok (.iconst 1, 1) := by decide +kernel
theorem dX5_isShort_18 : decode cX5_isShort 18 = .ok (.ireturn, 1) := by decide +kernel
theorem dX5_isShort_19 : decode cX5_isShort 19 = .ok (.iinc 1 1, 3) := by decide +kernel
theorem dX5_isShort_22 : decode cX5_isShort 22 = .ok (.goto (-20), 3) := by decide +kernel
theorem dX5_isShort_25 : decode cX5_isShort 25 = .ok (.aload_n 0, 1) := by decide +kernel
theorem dX5_isShort_26 : decode cX5_isShort 26 = .ok (.getfield 15, 3) := by decide +kernel
theorem dX5_isShort_29 : decode cX5_isShort 29 = .ok (.iconst 0, 1) := by decide +kernel
theorem dX5_isShort_30 : decode cX5_isShort 30 = .ok (.iaload, 1) := by decide +kernel
theorem dX5_isShort_31 : decode cX5_isShort 31 = .ok (.aload_n 0, 1) := by decide +kernel
theorem dX5_isShort_32 : decode cX5_isShort 32 = .ok (.getfield 9, 3) := by decide +kernel
theorem dX5_isShort_35 : decode cX5_isShort 35 = .ok (.iconst 0, 1) := by decide +kernel
theorem dX5_isShort_36 : decode cX5_isShort 36 = .ok (.iaload, 1) := by decide +kernel
theorem dX5_isShort_37 : decode cX5_isShort 37 = .ok (.if_icmp .ge 7, 3) := by decide +kernel
theorem dX5_isShort_40 : decode cX5_isShort 40 = .ok (.iconst 1, 1) := by decide +kernel
theorem dX5_isShort_41 : decode cX5_isShort 41 = .ok (.goto 4, 3) := by decide +kernel
theorem dX5_isShort_44 : decode cX5_isShort 44 = .ok (.iconst 0, 1) := by decide +kernel
theorem dX5_isShort_45 : decode cX5_isShort 45 = .ok (.ireturn, 1) := by decide +kernel
theorem dX5_suspects_0 : decode cX5_suspects 0 = .ok (.iconst 0, 1) := by decide +kernel
theorem dX5_suspects_1 : decode cX5_suspects 1 = .ok (.istore_n 2, 1) := by decide +kernel
theorem dX5_suspects_2 : decode cX5_suspects 2 = .ok (.iconst 0, 1) := by decide +kernel
theorem dX5_suspects_3 : decode cX5_suspects 3 = .ok (.istore_n 3, 1) := by decide +kernel
theorem dX5_suspects_4 : decode cX5_suspects 4 = .ok (.iload_n 3, 1) := by decide +kernel
theorem dX5_suspects_5 : decode cX5_suspects 5 = .ok (.aload_n 1, 1) := by decide +kernel
theorem dX5_suspects_6 : decode cX5_suspects 6 = .ok (.getfield 31, 3) := by decide +kernel
theorem dX5_suspects_9 : decode cX5_suspects 9 = .ok (.if_icmp .ge 50, 3) := by decide +kernel
theorem dX5_suspects_12 : decode cX5_suspects 12 = .ok (.aload_n 0, 1) := by decide +kernel
theorem dX5_suspects_13 : decode cX5_suspects 13 = .ok (.getfield 9, 3) := by decide +kernel
theorem dX5_suspects_16 : decode cX5_suspects 16 = .ok (.iconst 0, 1) := by decide +kernel
theorem dX5_suspects_17 : decode cX5_suspects 17 = .ok (.aload_n 0, 1) := by decide +kernel
theorem dX5_suspects_18 : decode cX5_suspects 18 = .ok (.getfield 18, 3) := by decide +kernel
theorem dX5_suspects_21 : decode cX5_suspects 21 = .ok (.iconst 0, 1) := by decide +kernel
theorem dX5_suspects_22 : decode cX5_suspects 22 = .ok (.aload_n 0, 1) := by decide +kernel
theorem dX5_suspects_23 : decode cX5_suspects 23 = .ok (.getfield 9, 3) := by decide +kernel
theorem dX5_suspects_26 : decode cX5_suspects 26 = .ok (.arraylength, 1) := by decide +kernel
theorem dX5_suspects_27 : decode cX5_suspects 27 = .ok (.invokestatic 51, 3) := by decide +kernel
theorem dX5_suspects_30 : decode cX5_suspects 30 = .ok (.aload_n 0, 1) := by decide +kernel
theorem dX5_suspects_31 : decode cX5_suspects 31 = .ok (.getfield 18, 3) := by decide +kernel
theorem dX5_suspects_34 : decode cX5_suspects 34 = .ok (.aload_n 1, 1) := by decide +kernel
theorem dX5_suspects_35 : decode cX5_suspects 35 = .ok (.iload_n 3, 1) := by decide +kernel
theorem dX5_suspects_36 : decode cX5_suspects 36 = .ok (.iconst (-1), 1) := by decide +kernel
theorem dX5_suspects_37 : decode cX5_suspects 37 = .ok (.invokestatic 37, 3) := by decide +kernel
theorem dX5_suspects_40 : decode cX5_suspects 40 = .ok (.aload_n 0, 1) := by decide +kernel
theorem dX5_suspects_41 : decode cX5_suspects 41 = .ok (.invokevirtual 57, 3) := by decide +kernel
theorem dX5_suspects_44 : decode cX5_suspects 44 = .ok (.ifCond .eq 9, 3) := by decide +kernel
theorem dX5_suspects_47 : decode cX5_suspects 47 = .ok (.iload_n 2, 1) := by decide +kernel
theorem dX5_suspects_48 : decode cX5_suspects 48 = .ok (.iconst 1, 1) := by decide +kernel
theorem dX5_suspects_49 : decode cX5_suspects 49 = .ok (.iload_n 3, 1) := by decide +kernel
theorem dX5_suspects_50 : decode cX5_suspects 50 = .ok (.ishl, 1) := by decide +kernel
theorem dX5_suspects_51 : decode cX5_suspects 51 = .ok (.ior, 1) := by decide +kernel
theorem dX5_suspects_52 : decode cX5_suspects 52 = .ok (.istore_n 2, 1) := by decide +kernel
theorem dX5_suspects_53 : decode cX5_suspects 53 = .ok (.iinc 3 1, 3) := by decide +kernel
theorem dX5_suspects_56 : decode cX5_suspects 56 = .ok (.goto (-52), 3) := by decide +kernel
theorem dX5_suspects_59 : decode cX5_suspects 59 = .ok (.iload_n 2, 1) := by decide +kernel
theorem dX5_suspects_60 : decode cX5_suspects 60 = .ok (.ireturn, 1) := by decide +kernel
theorem dX5_isAsHere_0 : decode cX5_isAsHere 0 = .ok (.iconst 0, 1) := by decide +kernel
theorem dX5_isAsHere_1 : decode cX5_isAsHere 1 = .ok (.istore_n 1, 1) := by decide +kernel
theorem dX5_isAsHere_2 : decode cX5_isAsHere 2 = .ok (.iload_n 1, 1) := by decide +kernel
theorem dX5_isAsHere_3 : decode cX5_isAsHere 3 = .ok (.bipush 9, 2) := by decide +kernel
theorem dX5_isAsHere_5 : decode cX5_isAsHere 5 = .ok (.if_icmp .gt 26, 3) := by decide +kernel
theorem dX5_isAsHere_8 : decode cX5_isAsHere 8 = .ok (.aload_n 0, 1) := by decide +kernel
theorem dX5_isAsHere_9 : decode cX5_isAsHere 9 = .ok (.getfield 18, 3) := by decide +kernel
theorem dX5_isAsHere_12 : decode cX5_isAsHere 12 = .ok (.iload_n 1, 1) := by decide +kernel
theorem dX5_isAsHere_13 : decode cX5_isAsHere 13 = .ok (.iaload, 1) := by decide +kernel
theorem dX5_isAsHere_14 : decode cX5_isAsHere 14 = .ok (.aload_n 0, 1) := by decide +kernel
theorem dX5_isAsHere_15 : decode cX5_isAsHere 15 = .ok (.getfield 15, 3) := by decide +kernel
theorem dX5_isAsHere_18 : decode cX5_isAsHere 18 = .ok (.iload_n 1, 1) := by decide +kernel
theorem dX5_isAsHere_19 : decode cX5_isAsHere 19 = .ok (.iaload, 1) := by decide +kernel
theorem dX5_isAsHere_20 : decode cX5_isAsHere 20 = .ok (.if_icmp .eq 5, 3) := by decide +kernel
theorem dX5_isAsHere_23 : decode cX5_isAsHere 23 = .ok (.iconst 0, 1) := by decide +kernel
theorem dX5_isAsHere_24 : decode cX5_isAsHere 24 = .ok (.ireturn, 1) := by decide +kernel
theorem dX5_isAsHere_25 : decode cX5_isAsHere 25 = .ok (.iinc 1 1, 3) := by decide +kernel
theorem dX5_isAsHere_28 : decode cX5_isAsHere 28 = .ok (.goto (-26), 3) := by decide +kernel
theorem dX5_isAsHere_31 : decode cX5_isAsHere 31 = .ok (.iconst 1, 1) := by decide +kernel
theorem dX5_isAsHere_32 : decode cX5_isAsHere 32 = .ok (.ireturn, 1) := by decide +kernel
theorem dX5_clear_0 : decode cX5_clear 0 = .ok (.iconst 0, 1) := by decide +kernel
theorem dX5_clear_1 : decode cX5_clear 1 = .ok (.istore_n 1, 1) := by decide +kernel
theorem dX5_clear_2 : decode cX5_clear 2 = .ok (.iload_n 1, 1) := by decide +kernel
theorem dX5_clear_3 : decode cX5_clear 3 = .ok (.aload_n 0, 1) := by decide +kernel
theorem dX5_clear_4 : decode cX5_clear 4 = .ok (.arraylength, 1) := by decide +kernel
theorem dX5_clear_5 : decode cX5_clear 5 = .ok (.if_icmp .ge 13, 3) := by decide +kernel
theorem dX5_clear_8 : decode cX5_clear 8 = .ok (.aload_n 0, 1) := by decide +kernel
theorem dX5_clear_9 : decode cX5_clear 9 = .ok (.iload_n 1, 1) := by decide +kernel
theorem dX5_clear_10 : decode cX5_clear 10 = .ok (.iconst 0, 1) := by decide +kernel
theorem dX5_clear_11 : decode cX5_clear 11 = .ok (.iastore, 1) := by decide +kernel
theorem dX5_clear_12 : decode cX5_clear 12 = .ok (.iinc 1 1, 3) := by decide +kernel
theorem dX5_clear_15 : decode cX5_clear 15 = .ok (.goto (-13), 3) := by decide +kernel
theorem dX5_clear_18 : decode cX5_clear 18 = .ok (.return_, 1) := by decide +kernel
theorem dX5_add_0 : decode cX5_add 0 = .ok (.iconst 0, 1) := by decide +kernel
theorem dX5_add_1 : decode cX5_add 1 = .ok (.istore 4, 2) := by decide +kernel
theorem dX5_add_3 : decode cX5_add 3 = .ok (.iload 4, 2) := by decide +kernel
theorem dX5_add_5 : decode cX5_add 5 = .ok (.iconst 4, 1) := by decide +kernel
theorem dX5_add_6 : decode cX5_add 6 = .ok (.if_icmp .ge 40, 3) := by decide +kernel
theorem dX5_add_9 : decode cX5_add 9 = .ok (.aload_n 1, 1) := by decide +kernel
theorem dX5_add_10 : decode cX5_add 10 = .ok (.iload_n 2, 1) := by decide +kernel
theorem dX5_add_11 : decode cX5_add 11 = .ok (.iconst 0, 1) := by decide +kernel
theorem dX5_add_12 : decode cX5_add 12 = .ok (.iload 4, 2) := by decide +kernel
theorem dX5_add_14 : decode cX5_add 14 = .ok (.invokevirtual 61, 3) := by decide +kernel
theorem dX5_add_17 : decode cX5_add 17 = .ok (.istore 5, 2) := by decide +kernel
theorem dX5_add_19 : decode cX5_add 19 = .ok (.aload_n 0, 1) := by decide +kernel
theorem dX5_add_20 : decode cX5_add 20 = .ok (.iload 5, 2) := by decide +kernel
theorem dX5_add_22 : decode cX5_add 22 = .ok (.invokestatic 65, 3) := by decide +kernel
theorem dX5_add_25 : decode cX5_add 25 = .ok (.dup2, 1) := by decide +kernel
theorem dX5_add_26 : decode cX5_add 26 = .ok (.iaload, 1) := by decide +kernel
theorem dX5_add_27 : decode cX5_add 27 = .ok (.iload 5, 2) := by decide +kernel
theorem dX5_add_29 : decode cX5_add 29 = .ok (.ifCond .ge 8, 3) := by decide +kernel
theorem dX5_add_32 : decode cX5_add 32 = .ok (.iload_n 3, 1) := by decide +kernel
theorem dX5_add_33 : decode cX5_add 33 = .ok (.ineg, 1) := by decide +kernel
theorem dX5_add_34 : decode cX5_add 34 = .ok (.goto 4, 3) := by decide +kernel
theorem dX5_add_37 : decode cX5_add 37 = .ok (.iload_n 3, 1) := by decide +kernel
theorem dX5_add_38 : decode cX5_add 38 = .ok (.iadd, 1) := by decide +kernel
theorem dX5_add_39 : decode cX5_add 39 = .ok (.iastore, 1) := by decide +kernel
theorem dX5_add_40 : decode cX5_add 40 = .ok (.iinc 4 1, 3) := by decide +kernel
theorem dX5_add_43 : decode cX5_add 43 = .ok (.goto (-40), 3) := by decide +kernel
theorem dX5_add_46 : decode cX5_add 46 = .ok (.return_, 1) := by decide +kernel
theorem dX5_seemingPairs_0 : decode cX5_seemingPairs 0 = .ok (.iconst 0, 1) := by decide +kernel
theorem dX5_seemingPairs_1 : decode cX5_seemingPairs 1 = .ok (.istore_n 3, 1) := by decide +kernel
theorem dX5_seemingPairs_2 : decode cX5_seemingPairs 2 = .ok (.iconst 0, 1) := by decide +kernel
theorem dX5_seemingPairs_3 : decode cX5_seemingPairs 3 = .ok (.istore 4, 2) := by decide +kernel
theorem dX5_seemingPairs_5 : decode cX5_seemingPairs 5 = .ok (.iload 4, 2) := by decide +kernel
theorem dX5_seemingPairs_7 : decode cX5_seemingPairs 7 = .ok (.aload_n 1, 1) := by decide +kernel
theorem dX5_seemingPairs_8 : decode cX5_seemingPairs 8 = .ok (.getfield 31, 3) := by decide +kernel
theorem dX5_seemingPairs_11 : decode cX5_seemingPairs 11 = .ok (.if_icmp .ge 61, 3) := by decide +kernel
theorem dX5_seemingPairs_14 : decode cX5_seemingPairs 14 = .ok (.iload 4, 2) := by decide +kernel
theorem dX5_seemingPairs_16 : decode cX5_seemingPairs 16 = .ok (.iconst 1, 1) := by decide +kernel
theorem dX5_seemingPairs_17 : decode cX5_seemingPairs 17 = .ok (.iadd, 1) := by decide +kernel
theorem dX5_seemingPairs_18 : decode cX5_seemingPairs 18 = .ok (.istore 5, 2) := by decide +kernel
theorem dX5_seemingPairs_20 : decode cX5_seemingPairs 20 = .ok (.iload 5, 2) := by decide +kernel
theorem dX5_seemingPairs_22 : decode cX5_seemingPairs 22 = .ok (.aload_n 1, 1) := by decide +kernel
theorem dX5_seemingPairs_23 : decode cX5_seemingPairs 23 = .ok (.getfield 31, 3) := by decide +kernel
theorem dX5_seemingPairs_26 : decode cX5_seemingPairs 26 = .ok (.if_icmp .ge 40, 3) := by decide +kernel
theorem dX5_seemingPairs_29 : decode cX5_seemingPairs 29 = .ok (.aload_n 2, 1) := by decide +kernel
theorem dX5_seemingPairs_30 : decode cX5_seemingPairs 30 = .ok (.getfield 45, 3) := by decide +kernel
theorem dX5_seemingPairs_33 : decode cX5_seemingPairs 33 = .ok (.iload 4, 2) := by decide +kernel
theorem dX5_seemingPairs_35 : decode cX5_seemingPairs 35 = .ok (.baload, 1) := by decide +kernel
theorem dX5_seemingPairs_36 : decode cX5_seemingPairs 36 = .ok (.ifCond .ne 24, 3) := by decide +kernel
theorem dX5_seemingPairs_39 : decode cX5_seemingPairs 39 = .ok (.aload_n 2, 1) := by decide +kernel
theorem dX5_seemingPairs_40 : decode cX5_seemingPairs 40 = .ok (.getfield 45, 3) := by decide +kernel
theorem dX5_seemingPairs_43 : decode cX5_seemingPairs 43 = .ok (.iload 5, 2) := by decide +kernel
theorem dX5_seemingPairs_45 : decode cX5_seemingPairs 45 = .ok (.baload, 1) := by decide +kernel
theorem dX5_seemingPairs_46 : decode cX5_seemingPairs 46 = .ok (.ifCond .ne 14, 3) := by decide +kernel
theorem dX5_seemingPairs_49 : decode cX5_seemingPairs 49 = .ok (.iload_n 3, 1) := by decide +kernel
theorem dX5_seemingPairs_50 : decode cX5_seemingPairs 50 = .ok (.aload_n 1, 1) := by decide +kernel
theorem dX5_seemingPairs_51 : decode cX5_seemingPairs 51 = .ok (.iload 4, 2) := by decide +kernel
theorem dX5_seemingPairs_53 : decode cX5_seemingPairs 53 = .ok (.iload 5, 2) := by decide +kernel
theorem dX5_seemingPairs_55 : decode cX5_seemingPairs 55 = .ok (.invokestatic 71, 3) := by decide +kernel
theorem dX5_seemingPairs_58 : decode cX5_seemingPairs 58 = .ok (.iadd, 1) := by decide +kernel
theorem dX5_seemingPairs_59 : decode cX5_seemingPairs 59 = .ok (.istore_n 3, 1) := by decide +kernel
theorem dX5_seemingPairs_60 : decode cX5_seemingPairs 60 = .ok (.iinc 5 1, 3) := by decide +kernel
theorem dX5_seemingPairs_63 : decode cX5_seemingPairs 63 = .ok (.goto (-43), 3) := by decide +kernel
theorem dX5_seemingPairs_66 : decode cX5_seemingPairs 66 = .ok (.iinc 4 1, 3) := by decide +kernel
theorem dX5_seemingPairs_69 : decode cX5_seemingPairs 69 = .ok (.goto (-64), 3) := by decide +kernel
theorem dX5_seemingPairs_72 : decode cX5_seemingPairs 72 = .ok (.iload_n 3, 1) := by decide +kernel
theorem dX5_seemingPairs_73 : decode cX5_seemingPairs 73 = .ok (.ireturn, 1) := by decide +kernel
theorem dX5_seemingSides_0 : decode cX5_seemingSides 0 = .ok (.iconst 0, 1) := by decide +kernel
theorem dX5_seemingSides_1 : decode cX5_seemingSides 1 = .ok (.istore_n 3, 1) := by decide +kernel
theorem dX5_seemingSides_2 : decode cX5_seemingSides 2 = .ok (.iconst 0, 1) := by decide +kernel
theorem dX5_seemingSides_3 : decode cX5_seemingSides 3 = .ok (.istore 4, 2) := by decide +kernel
theorem dX5_seemingSides_5 : decode cX5_seemingSides 5 = .ok (.iload 4, 2) := by decide +kernel
theorem dX5_seemingSides_7 : decode cX5_seemingSides 7 = .ok (.iconst 4, 1) := by decide +kernel
theorem dX5_seemingSides_8 : decode cX5_seemingSides 8 = .ok (.if_icmp .ge 86, 3) := by decide +kernel
theorem dX5_seemingSides_11 : decode cX5_seemingSides 11 = .ok (.aload_n 0, 1) := by decide +kernel
theorem dX5_seemingSides_12 : decode cX5_seemingSides 12 = .ok (.iload_n 1, 1) := by decide +kernel
theorem dX5_seemingSides_13 : decode cX5_seemingSides 13 = .ok (.iconst 0, 1) := by decide +kernel
theorem dX5_seemingSides_14 : decode cX5_seemingSides 14 = .ok (.iload 4, 2) := by decide +kernel
theorem dX5_seemingSides_16 : decode cX5_seemingSides 16 = .ok (.invokevirtual 61, 3) := by decide +kernel
theorem dX5_seemingSides_19 : decode cX5_seemingSides 19 = .ok (.istore 5, 2) := by decide +kernel
theorem dX5_seemingSides_21 : decode cX5_seemingSides 21 = .ok (.aload_n 0, 1) := by decide +kernel
theorem dX5_seemingSides_22 : decode cX5_seemingSides 22 = .ok (.iload_n 1, 1) := by decide +kernel
theorem dX5_seemingSides_23 : decode cX5_seemingSides 23 = .ok (.iload 4, 2) := by decide +kernel
theorem dX5_seemingSides_25 : decode cX5_seemingSides 25 = .ok (.invokevirtual 75, 3) := by decide +kernel
theorem dX5_seemingSides_28 : decode cX5_seemingSides 28 = .ok (.iload_n 2, 1) := by decide +kernel
theorem dX5_seemingSides_29 : decode cX5_seemingSides 29 = .ok (.if_icmp .ne 12, 3) := by decide +kernel
theorem dX5_seemingSides_32 : decode cX5_seemingSides 32 = .ok (.iload 4, 2) := by decide +kernel
theorem dX5_seemingSides_34 : decode cX5_seemingSides 34 = .ok (.iconst 2, 1) := by decide +kernel
theorem dX5_seemingSides_35 : decode cX5_seemingSides 35 = .ok (.iadd, 1) := by decide +kernel
theorem dX5_seemingSides_36 : decode cX5_seemingSides 36 = .ok (.iconst 4, 1) := by decide +kernel
theorem dX5_seemingSides_37 : decode cX5_seemingSides 37 = .ok (.irem, 1) := by decide +kernel
theorem dX5_seemingSides_38 : decode cX5_seemingSides 38 = .ok (.goto 4, 3) := by decide +kernel
theorem dX5_seemingSides_41 : decode cX5_seemingSides 41 = .ok (.iconst 4, 1) := by decide +kernel
theorem dX5_seemingSides_42 : decode cX5_seemingSides 42 = .ok (.istore 6, 2) := by decide +kernel
theorem dX5_seemingSides_44 : decode cX5_seemingSides 44 = .ok (.iconst 0, 1) := by decide +kernel
theorem dX5_seemingSides_45 : decode cX5_seemingSides 45 = .ok (.istore 7, 2) := by decide +kernel
theorem dX5_seemingSides_47 : decode cX5_seemingSides 47 = .ok (.iload 5, 2) := by decide +kernel
theorem dX5_seemingSides_49 : decode cX5_seemingSides 49 = .ok (.ifCond .eq 39, 3) := by decide +kernel
theorem dX5_seemingSides_52 : decode cX5_seemingSides 52 = .ok (.iload 7, 2) := by decide +kernel
theorem dX5_seemingSides_54 : decode cX5_seemingSides 54 = .ok (.iconst 4, 1) := by decide +kernel
theorem dX5_seemingSides_55 : decode cX5_seemingSides 55 = .ok (.if_icmp .ge 33, 3) := by decide +kernel
theorem dX5_seemingSides_58 : decode cX5_seemingSides 58 = .ok (.iload 7, 2) := by decide +kernel
theorem dX5_seemingSides_60 : decode cX5_seemingSides 60 = .ok (.iload 6, 2) := by decide +kernel
theorem dX5_seemingSides_62 : decode cX5_seemingSides 62 = .ok (.if_icmp .eq 20, 3) := by decide +kernel
theorem dX5_seemingSides_65 : decode cX5_seemingSides 65 = .ok (.iload 5, 2) := by decide +kernel
theorem dX5_seemingSides_67 : decode cX5_seemingSides 67 = .ok (.aload_n 0, 1) := by decide +kernel
theorem dX5_seemingSides_68 : decode cX5_seemingSides 68 = .ok (.iload_n 2, 1) := by decide +kernel
theorem dX5_seemingSides_69 : decode cX5_seemingSides 69 = .ok (.iconst 0, 1) := by decide +kernel
theorem dX5_seemingSides_70 : decode cX5_seemingSides 70 = .ok (.iload 7, 2) := by decide +kernel
theorem dX5_seemingSides_72 : decode cX5_seemingSides 72 = .ok (.invokevirtual 61, 3) := by decide +kernel
theorem dX5_seemingSides_75 : decode cX5_seemingSides 75 = .ok (.iadd, 1) := by decide +kernel
theorem dX5_seemingSides_76 : decode cX5_seemingSides 76 = .ok (.ifCond .ne 6, 3) := by decide +kernel
theorem dX5_seemingSides_79 : decode cX5_seemingSides 79 = .ok (.iinc 3 1, 3) := by decide +kernel
theorem dX5_seemingSides_82 : decode cX5_seemingSides 82 = .ok (.iinc 7 1, 3) := by decide +kernel
theorem dX5_seemingSides_85 : decode cX5_seemingSides 85 = .ok (.goto (-38), 3) := by decide +kernel
theorem dX5_seemingSides_88 : decode cX5_seemingSides 88 = .ok (.iinc 4 1, 3) := by decide +kernel
theorem dX5_seemingSides_91 : decode cX5_seemingSides 91 = .ok (.goto (-86), 3) := by decide +kernel
theorem dX5_seemingSides_94 : decode cX5_seemingSides 94 = .ok (.iload_n 3, 1) := by decide +kernel
theorem dX5_seemingSides_95 : decode cX5_seemingSides 95 = .ok (.ireturn, 1) := by decide +kernel
theorem dX6_init_0 : decode cX6_init 0 = .ok (.aload_n 0, 1) := by decide +kernel
theorem dX6_init_1 : decode cX6_init 1 = .ok (.invokespecial 3, 3) := by decide +kernel
theorem dX6_init_4 : decode cX6_init 4 = .ok (.aload_n 0, 1) := by decide +kernel
theorem dX6_init_5 : decode cX6_init 5 = .ok (.new 9, 3) := by decide +kernel
theorem dX6_init_8 : decode cX6_init 8 = .ok (.dup, 1) := by decide +kernel
theorem dX6_init_9 : decode cX6_init 9 = .ok (.invokespecial 11, 3) := by decide +kernel
theorem dX6_init_12 : decode cX6_init 12 = .ok (.putfield 12, 3) := by decide +kernel
theorem dX6_init_15 : decode cX6_init 15 = .ok (.aload_n 0, 1) := by decide +kernel
theorem dX6_init_16 : decode cX6_init 16 = .ok (.new 9, 3) := by decide +kernel
theorem dX6_init_19 : decode cX6_init 19 = .ok (.dup, 1) := by decide +kernel
theorem dX6_init_20 : decode cX6_init 20 = .ok (.invokespecial 11, 3) := by decide +kernel
theorem dX6_init_23 : decode cX6_init 23 = .ok (.putfield 18, 3) := by decide +kernel
theorem dX6_init_26 : decode cX6_init 26 = .ok (.return_, 1) := by decide +kernel
theorem dX6_goThrough_0 : decode cX6_goThrough 0 = .ok (.aload_n 0, 1) := by decide +kernel
theorem dX6_goThrough_1 : decode cX6_goThrough 1 = .ok (.getfield 21, 3) := by decide +kernel
theorem dX6_goThrough_4 : decode cX6_goThrough 4 = .ok (.ifCond .eq 4, 3) := by decide +kernel
theorem dX6_goThrough_7 : decode cX6_goThrough 7 = .ok (.return_, 1) := by decide +kernel
theorem dX6_goThrough_8 : decode cX6_goThrough 8 = .ok (.aload_n 0, 1) := by decide +kernel
theorem dX6_goThrough_9 : decode cX6_goThrough 9 = .ok (.iconst 0, 1) := by decide +kernel
theorem dX6_goThrough_10 : decode cX6_goThrough 10 = .ok (.putfield 25, 3) := by decide +kernel
theorem dX6_goThrough_13 : decode cX6_goThrough 13 = .ok (.aload_n 0, 1) := by decide +kernel
theorem dX6_goThrough_14 : decode cX6_goThrough 14 = .ok (.iconst 0, 1) := by decide +kernel
theorem dX6_goThrough_15 : decode cX6_goThrough 15 = .ok (.putfield 29, 3) := by decide +kernel
theorem dX6_goThrough_18 : decode cX6_goThrough 18 = .ok (.aload_n 0, 1) := by decide +kernel
theorem dX6_goThrough_19 : decode cX6_goThrough 19 = .ok (.getfield 12, 3) := by decide +kernel
theorem dX6_goThrough_22 : decode cX6_goThrough 22 = .ok (.invokevirtual 32, 3) := by decide +kernel
theorem dX6_goThrough_25 : decode cX6_goThrough 25 = .ok (.aload_n 0, 1) := by decide +kernel
theorem dX6_goThrough_26 : decode cX6_goThrough 26 = .ok (.aload_n 1, 1) := by decide +kernel
theorem dX6_goThrough_27 : decode cX6_goThrough 27 = .ok (.iconst 0, 1) := by decide +kernel
theorem dX6_goThrough_28 : decode cX6_goThrough 28 = .ok (.invokevirtual 35, 3) := by decide +kernel
theorem dX6_goThrough_31 : decode cX6_goThrough 31 = .ok (.aload_n 0, 1) := by decide +kernel
theorem dX6_goThrough_32 : decode cX6_goThrough 32 = .ok (.iconst 1, 1) := by decide +kernel
theorem dX6_goThrough_33 : decode cX6_goThrough 33 = .ok (.putfield 21, 3) := by decide +kernel
theorem dX6_goThrough_36 : decode cX6_goThrough 36 = .ok (.return_, 1) := by decide +kernel
theorem dX6_layFrom_0 : decode cX6_layFrom 0 = .ok (.iload_n 2, 1) := by decide +kernel
theorem dX6_layFrom_1 : decode cX6_layFrom 1 = .ok (.aload_n 1, 1) := by decide +kernel
theorem dX6_layFrom_2 : decode cX6_layFrom 2 = .ok (.getfield 39, 3) := by decide +kernel
theorem dX6_layFrom_5 : decode cX6_layFrom 5 = .ok (.if_icmp .lt 33, 3) := by decide +kernel
theorem dX6_layFrom_8 : decode cX6_layFrom 8 = .ok (.aload_n 0, 1) := by decide +kernel
theorem dX6_layFrom_9 : decode cX6_layFrom 9 = .ok (.dup, 1) := by decide +kernel
theorem dX6_layFrom_10 : decode cX6_layFrom 10 = .ok (.getfield 25, 3) := by decide +kernel
theorem dX6_layFrom_13 : decode cX6_layFrom 13 = .ok (.iconst 1, 1) := by decide +kernel
theorem dX6_layFrom_14 : decode cX6_layFrom 14 = .ok (.iadd, 1) := by decide +kernel
theorem dX6_layFrom_15 : decode cX6_layFrom 15 = .ok (.putfield 25, 3) := by decide +kernel
theorem dX6_layFrom_18 : decode cX6_layFrom 18 = .ok (.aload_n 0, 1) := by decide +kernel
theorem dX6_layFrom_19 : decode cX6_layFrom 19 = .ok (.getfield 25, 3) := by decide +kernel
theorem dX6_layFrom_22 : decode cX6_layFrom 22 = .ok (.iconst 1, 1) := by decide +kernel
theorem dX6_layFrom_23 : decode cX6_layFrom 23 = .ok (.if_icmp .ne 14, 3) := by decide +kernel
theorem dX6_layFrom_26 : decode cX6_layFrom 26 = .ok (.aload_n 0, 1) := by decide +kernel
theorem dX6_layFrom_27 : decode cX6_layFrom 27 = .ok (.getfield 18, 3) := by decide +kernel
theorem dX6_layFrom_30 : decode cX6_layFrom 30 = .ok (.aload_n 0, 1) := by decide +kernel
theorem dX6_layFrom_31 : decode cX6_layFrom 31 = .ok (.getfield 12, 3) := by decide +kernel
theorem dX6_layFrom_34 : decode cX6_layFrom 34 = .ok (.invokevirtual 44, 3) := by decide +kernel
theorem dX6_layFrom_37 : decode cX6_layFrom 37 = .ok (.return_, 1) := by decide +kernel
theorem dX6_layFrom_38 : decode cX6_layFrom 38 = .ok (.iconst 0, 1) := by decide +kernel
theorem dX6_layFrom_39 : decode cX6_layFrom 39 = .ok (.istore_n 3, 1) := by decide +kernel
theorem dX6_layFrom_40 : decode cX6_layFrom 40 = .ok (.iload_n 3, 1) := by decide +kernel
theorem dX6_layFrom_41 : decode cX6_layFrom 41 = .ok (.aload_n 1, 1) := by decide +kernel
theorem dX6_layFrom_42 : decode cX6_layFrom 42 = .ok (.getfield 39, 3) := by decide +kernel
theorem dX6_layFrom_45 : decode cX6_layFrom 45 = .ok (.if_icmp .ge 37, 3) := by decide +kernel
theorem dX6_layFrom_48 : decode cX6_layFrom 48 = .ok (.aload_n 0, 1) := by decide +kernel
theorem dX6_layFrom_49 : decode cX6_layFrom 49 = .ok (.getfield 29, 3) := by decide +kernel
theorem dX6_layFrom_52 : decode cX6_layFrom 52 = .ok (.sipush 20000, 3) := by decide +kernel
theorem dX6_layFrom_55 : decode cX6_layFrom 55 = .ok (.if_icmp .gt 27, 3) := by decide +kernel
theorem dX6_layFrom_58 : decode cX6_layFrom 58 = .ok (.aload_n 0, 1) := by decide +kernel
theorem dX6_layFrom_59 : decode cX6_layFrom 59 = .ok (.getfield 12, 3) := by decide +kernel
theorem dX6_layFrom_62 : decode cX6_layFrom 62 = .ok (.iload_n 3, 1) := by decide +kernel
theorem dX6_layFrom_63 : decode cX6_layFrom 63 = .ok (.invokevirtual 48, 3) := by decide +kernel
theorem dX6_layFrom_66 : decode cX6_layFrom 66 = .ok (.ifCond .ne 10, 3) := by decide +kernel
theorem dX6_layFrom_69 : decode cX6_layFrom 69 = .ok (.aload_n 0, 1) := by decide +kernel
theorem dX6_layFrom_70 : decode cX6_layFrom 70 = .ok (.aload_n 1, 1) := by decide +kernel
theorem dX6_layFrom_71 : decode cX6_layFrom 71 = .ok (.iload_n 2, 1) := by decide +kernel
theorem dX6_layFrom_72 : decode cX6_layFrom 72 = .ok (.iload_n 3, 1) := by decide +kernel
theorem dX6_layFrom_73 : decode cX6_layFrom 73 = .ok (.invokevirtual 52, 3) := by decide +kernel
theorem dX6_layFrom_76 : decode cX6_layFrom 76 = .ok (.iinc 3 1, 3) := by decide +kernel
theorem dX6_layFrom_79 : decode cX6_layFrom 79 = .ok (.goto (-39), 3) := by decide +kernel
theorem dX6_layFrom_82 : decode cX6_layFrom 82 = .ok (.return_, 1) := by decide +kernel
theorem dX6_layTurned_0 : decode cX6_layTurned 0 = .ok (.iconst 0, 1) := by decide +kernel
theorem dX6_layTurned_1 : decode cX6_layTurned 1 = .ok (.istore 4, 2) := by decide +kernel
theorem dX6_layTurned_3 : decode cX6_layTurned 3 = .ok (.iload 4, 2) := by decide +kernel
theorem dX6_layTurned_5 : decode cX6_layTurned 5 = .ok (.iconst 4, 1) := by decide +kernel
theorem dX6_layTurned_6 : decode cX6_layTurned 6 = .ok (.if_icmp .ge 83, 3) := by decide +kernel
theorem dX6_layTurned_9 : decode cX6_layTurned 9 = .ok (.aload_n 0, 1) := by decide +kernel
theorem dX6_layTurned_10 : decode cX6_layTurned 10 = .ok (.getfield 29, 3) := by decide +kernel
theorem dX6_layTurned_13 : decode cX6_layTurned 13 = .ok (.sipush 20000, 3) := by decide +kernel
theorem dX6_layTurned_16 : decode cX6_layTurned 16 = .ok (.if_icmp .gt 73, 3) := by decide +kernel
theorem dX6_layTurned_19 : decode cX6_layTurned 19 = .ok (.aload_n 0, 1) := by decide +kernel
theorem dX6_layTurned_20 : decode cX6_layTurned 20 = .ok (.dup, 1) := by decide +kernel
theorem dX6_layTurned_21 : decode cX6_layTurned 21 = .ok (.getfield 29, 3) := by decide +kernel
theorem dX6_layTurned_24 : decode cX6_layTurned 24 = .ok (.iconst 1, 1) := by decide +kernel
theorem dX6_layTurned_25 : decode cX6_layTurned 25 = .ok (.iadd, 1) := by decide +kernel
theorem dX6_layTurned_26 : decode cX6_layTurned 26 = .ok (.putfield 29, 3) := by decide +kernel
theorem dX6_layTurned_29 : decode cX6_layTurned 29 = .ok (.aload_n 0, 1) := by decide +kernel
theorem dX6_layTurned_30 : decode cX6_layTurned 30 = .ok (.getfield 29, 3) := by decide +kernel
theorem dX6_layTurned_33 : decode cX6_layTurned 33 = .ok (.sipush 20000, 3) := by decide +kernel
theorem dX6_layTurned_36 : decode cX6_layTurned 36 = .ok (.if_icmp .gt 47, 3) := by decide +kernel
theorem dX6_layTurned_39 : decode cX6_layTurned 39 = .ok (.aload_n 1, 1) := by decide +kernel
theorem dX6_layTurned_40 : decode cX6_layTurned 40 = .ok (.aload_n 0, 1) := by decide +kernel
theorem dX6_layTurned_41 : decode cX6_layTurned 41 = .ok (.getfield 12, 3) := by decide +kernel
theorem dX6_layTurned_44 : decode cX6_layTurned 44 = .ok (.iload_n 3, 1) := by decide +kernel
theorem dX6_layTurned_45 : decode cX6_layTurned 45 = .ok (.iload 4, 2) := by decide +kernel
theorem dX6_layTurned_47 : decode cX6_layTurned 47 = .ok (.iload_n 2, 1) := by decide +kernel
theorem dX6_layTurned_48 : decode cX6_layTurned 48 = .ok (.invokevirtual 56, 3) := by decide +kernel
theorem dX6_layTurned_51 : decode cX6_layTurned 51 = .ok (.ifCond .eq 32, 3) := by decide +kernel
theorem dX6_layTurned_54 : decode cX6_layTurned 54 = .ok (.aload_n 0, 1) := by decide +kernel
theorem dX6_layTurned_55 : decode cX6_layTurned 55 = .ok (.getfield 12, 3) := by decide +kernel
theorem dX6_layTurned_58 : decode cX6_layTurned 58 = .ok (.iload_n 2, 1) := by decide +kernel
theorem dX6_layTurned_59 : decode cX6_layTurned 59 = .ok (.iload_n 3, 1) := by decide +kernel
theorem dX6_layTurned_60 : decode cX6_layTurned 60 = .ok (.iload 4, 2) := by decide +kernel
theorem dX6_layTurned_62 : decode cX6_layTurned 62 = .ok (.iconst 0, 1) := by decide +kernel
theorem dX6_layTurned_63 : decode cX6_layTurned 63 = .ok (.invokevirtual 60, 3) := by decide +kernel
theorem dX6_layTurned_66 : decode cX6_layTurned 66 = .ok (.aload_n 0, 1) := by decide +kernel
theorem dX6_layTurned_67 : decode cX6_layTurned 67 = .ok (.aload_n 1, 1) := by decide +kernel
theorem dX6_layTurned_68 : decode cX6_layTurned 68 = .ok (.iload_n 2, 1) := by decide +kernel
theorem dX6_layTurned_69 : decode cX6_layTurned 69 = .ok (.iconst 1, 1) := by decide +kernel
theorem dX6_layTurned_70 : decode cX6_layTurned 70 = .ok (.iadd, 1) := by decide +kernel
theorem dX6_layTurned_71 : decode cX6_layTurned 71 = .ok (.invokevirtual 35, 3) := by decide +kernel
theorem dX6_layTurned_74 : decode cX6_layTurned 74 = .ok (.aload_n 0, 1) := by decide +kernel
theorem dX6_layTurned_75 : decode cX6_layTurned 75 = .ok (.getfield 12, 3) := by decide +kernel
theorem dX6_layTurned_78 : decode cX6_layTurned 78 = .ok (.iload_n 2, 1) := by decide +kernel
theorem dX6_layTurned_79 : decode cX6_layTurned 79 = .ok (.invokevirtual 64, 3) := by decide +kernel
theorem dX6_layTurned_82 : decode cX6_layTurned 82 = .ok (.pop, 1) := by decide +kernel
theorem dX6_layTurned_83 : decode cX6_layTurned 83 = .ok (.iinc 4 1, 3) := by decide +kernel
theorem dX6_layTurned_86 : decode cX6_layTurned 86 = .ok (.goto (-83), 3) := by decide +kernel
theorem dX6_layTurned_89 : decode cX6_layTurned 89 = .ok (.return_, 1) := by decide +kernel
theorem dX7_init_0 : decode cX7_init 0 = .ok (.aload_n 0, 1) := by decide +kernel
theorem dX7_init_1 : decode cX7_init 1 = .ok (.invokespecial 3, 3) := by decide +kernel
theorem dX7_init_4 : decode cX7_init 4 = .ok (.aload_n 0, 1) := by decide +kernel
theorem dX7_init_5 : decode cX7_init 5 = .ok (.bipush 64, 2) := by decide +kernel
theorem dX7_init_7 : decode cX7_init 7 = .ok (.newarray .char, 2) := by decide +kernel
theorem dX7_init_9 : decode cX7_init 9 = .ok (.putfield 9, 3) := by decide +kernel
theorem dX7_init_12 : decode cX7_init 12 = .ok (.return_, 1) := by decide +kernel
theorem dX7_take_0 : decode cX7_take 0 = .ok (.iconst 0, 1) := by decide +kernel
theorem dX7_take_1 : decode cX7_take 1 = .ok (.istore 4, 2) := by decide +kernel
theorem dX7_take_3 : decode cX7_take 3 = .ok (.iload 4, 2) := by decide +kernel
theorem dX7_take_5 : decode cX7_take 5 = .ok (.iload_n 1, 1) := by decide +kernel
theorem dX7_take_6 : decode cX7_take 6 = .ok (.if_icmp .ge 50, 3) := by decide +kernel
theorem dX7_take_9 : decode cX7_take 9 = .ok (.aload_n 0, 1) := by decide +kernel
theorem dX7_take_10 : decode cX7_take 10 = .ok (.getfield 15, 3) := by decide +kernel
theorem dX7_take_13 : decode cX7_take 13 = .ok (.bipush 64, 2) := by decide +kernel
theorem dX7_take_15 : decode cX7_take 15 = .ok (.if_icmp .ge 41, 3) := by decide +kernel
theorem dX7_take_18 : decode cX7_take 18 = .ok (.aload_n 0, 1) := by decide +kernel
theorem dX7_take_19 : decode cX7_take 19 = .ok (.getfield 9, 3) := by decide +kernel
theorem dX7_take_22 : decode cX7_take 22 = .ok (.aload_n 0, 1) := by decide +kernel
theorem dX7_take_23 : decode cX7_take 23 = .ok (.getfield 15, 3) := by decide +kernel
theorem dX7_take_26 : decode cX7_take 26 = .ok (.lload_n 2, 1) := by decide +kernel
theorem dX7_take_27 : decode cX7_take 27 = .ok (.bipush 8, 2) := by decide +kernel
theorem dX7_take_29 : decode cX7_take 29 = .ok (.iload 4, 2) := by decide +kernel
theorem dX7_take_31 : decode cX7_take 31 = .ok (.imul, 1) := by decide +kernel
theorem dX7_take_32 : decode cX7_take 32 = .ok (.lushr, 1) := by decide +kernel
theorem dX7_take_33 : decode cX7_take 33 = .ok (.ldc2_w 19, 3) := by decide +kernel
theorem dX7_take_36 : decode cX7_take 36 = .ok (.land, 1) := by decide +kernel
theorem dX7_take_37 : decode cX7_take 37 = .ok (.l2i, 1) := by decide +kernel
theorem dX7_take_38 : decode cX7_take 38 = .ok (.i2c, 1) := by decide +kernel
theorem dX7_take_39 : decode cX7_take 39 = .ok (.castore, 1) := by decide +kernel
theorem dX7_take_40 : decode cX7_take 40 = .ok (.aload_n 0, 1) := by decide +kernel
theorem dX7_take_41 : decode cX7_take 41 = .ok (.dup, 1) := by decide +kernel
theorem dX7_take_42 : decode cX7_take 42 = .ok (.getfield 15, 3) := by decide +kernel
theorem dX7_take_45 : decode cX7_take 45 = .ok (.iconst 1, 1) := by decide +kernel
theorem dX7_take_46 : decode cX7_take 46 = .ok (.iadd, 1) := by decide +kernel
theorem dX7_take_47 : decode cX7_take 47 = .ok (.putfield 15, 3) := by decide +kernel
theorem dX7_take_50 : decode cX7_take 50 = .ok (.iinc 4 1, 3) := by decide +kernel
theorem dX7_take_53 : decode cX7_take 53 = .ok (.goto (-50), 3) := by decide +kernel
theorem dX7_take_56 : decode cX7_take 56 = .ok (.return_, 1) := by decide +kernel
theorem dX7_readInto_0 : decode cX7_readInto 0 = .ok (.aload_n 0, 1) := by decide +kernel
theorem dX7_readInto_1 : decode cX7_readInto 1 = .ok (.iconst 0, 1) := by decide +kernel
theorem dX7_readInto_2 : decode cX7_readInto 2 = .ok (.putfield 21, 3) := by decide +kernel
theorem dX7_readInto_5 : decode cX7_readInto 5 = .ok (.aload_n 0, 1) := by decide +kernel
theorem dX7_readInto_6 : decode cX7_readInto 6 = .ok (.iconst 0, 1) := by decide +kernel
theorem dX7_readInto_7 : decode cX7_readInto 7 = .ok (.putfield 24, 3) := by decide +kernel
theorem dX7_readInto_10 : decode cX7_readInto 10 = .ok (.aload_n 0, 1) := by decide +kernel
theorem dX7_readInto_11 : decode cX7_readInto 11 = .ok (.invokevirtual 28, 3) := by decide +kernel
theorem dX7_readInto_14 : decode cX7_readInto 14 = .ok (.iconst 0, 1) := by decide +kernel
theorem dX7_readInto_15 : decode cX7_readInto 15 = .ok (.istore_n 2, 1) := by decide +kernel
theorem dX7_readInto_16 : decode cX7_readInto 16 = .ok (.iload_n 2, 1) := by decide +kernel
theorem dX7_readInto_17 : decode cX7_readInto 17 = .ok (.bipush 64, 2) := by decide +kernel
theorem dX7_readInto_19 : decode cX7_readInto 19 = .ok (.if_icmp .ge 31, 3) := by decide +kernel
theorem dX7_readInto_22 : decode cX7_readInto 22 = .ok (.aload_n 0, 1) := by decide +kernel
theorem dX7_readInto_23 : decode cX7_readInto 23 = .ok (.getfield 24, 3) := by decide +kernel
theorem dX7_readInto_26 : decode cX7_readInto 26 = .ok (.ifCond .ne 24, 3) := by decide +kernel
theorem dX7_readInto_29 : decode cX7_readInto 29 = .ok (.aload_n 0, 1) := by decide +kernel
theorem dX7_readInto_30 : decode cX7_readInto 30 = .ok (.getfield 21, 3) := by decide +kernel
theorem dX7_readInto_33 : decode cX7_readInto 33 = .ok (.aload_n 0, 1) := by decide +kernel
theorem dX7_readInto_34 : decode cX7_readInto 34 = .ok (.getfield 15, 3) := by decide +kernel
theorem dX7_readInto_37 : decode cX7_readInto 37 = .ok (.if_icmp .ge 13, 3) := by decide +kernel
theorem dX7_readInto_40 : decode cX7_readInto 40 = .ok (.aload_n 0, 1) := by decide +kernel
theorem dX7_readInto_41 : decode cX7_readInto 41 = .ok (.invokevirtual 28, 3) := by decide +kernel
theorem dX7_readInto_44 : decode cX7_readInto 44 = .ok (.iinc 2 1, 3) := by decide +kernel
theorem dX7_readInto_47 : decode cX7_readInto 47 = .ok (.goto (-31), 3) := by decide +kernel
theorem dX7_readInto_50 : decode cX7_readInto 50 = .ok (.aload_n 0, 1) := by decide +kernel
theorem dX7_readInto_51 : decode cX7_readInto 51 = .ok (.getfield 24, 3) := by decide +kernel
theorem dX7_readInto_54 : decode cX7_readInto 54 = .ok (.ifCond .eq 14, 3) := by decide +kernel
theorem dX7_readInto_57 : decode cX7_readInto 57 = .ok (.sipush (-1000), 3) := by decide +kernel
theorem dX7_readInto_60 : decode cX7_readInto 60 = .ok (.aload_n 0, 1) := by decide +kernel
theorem dX7_readInto_61 : decode cX7_readInto 61 = .ok (.getfield 21, 3) := by decide +kernel
theorem dX7_readInto_64 : decode cX7_readInto 64 = .ok (.isub, 1) := by decide +kernel
theorem dX7_readInto_65 : decode cX7_readInto 65 = .ok (.goto 8, 3) := by decide +kernel
theorem dX7_readInto_68 : decode cX7_readInto 68 = .ok (.aload_n 0, 1) := by decide +kernel
theorem dX7_readInto_69 : decode cX7_readInto 69 = .ok (.aload_n 1, 1) := by decide +kernel
theorem dX7_readInto_70 : decode cX7_readInto 70 = .ok (.invokevirtual 31, 3) := by decide +kernel
theorem dX7_readInto_73 : decode cX7_readInto 73 = .ok (.ireturn, 1) := by decide +kernel
theorem dX7_passStatement_0 : decode cX7_passStatement 0 = .ok (.aload_n 0, 1) := by decide +kernel
theorem dX7_passStatement_1 : decode cX7_passStatement 1 = .ok (.getfield 21, 3) := by decide +kernel
theorem dX7_passStatement_4 : decode cX7_passStatement 4 = .ok (.aload_n 0, 1) := by decide +kernel
theorem dX7_passStatement_5 : decode cX7_passStatement 5 = .ok (.getfield 15, 3) := by decide +kernel
theorem dX7_passStatement_8 : decode cX7_passStatement 8 = .ok (.if_icmp .ge 15, 3) := by decide +kernel
theorem dX7_passStatement_11 : decode cX7_passStatement 11 = .ok (.aload_n 0, 1) := by decide +kernel
theorem dX7_passStatement_12 : decode cX7_passStatement 12 = .ok (.getfield 9, 3) := by decide +kernel
theorem dX7_passStatement_15 : decode cX7_passStatement 15 = .ok (.aload_n 0, 1) := by decide +kernel
theorem dX7_passStatement_16 : decode cX7_passStatement 16 = .ok (.getfield 21, 3) := by decide +kernel
theorem dX7_passStatement_19 : decode cX7_passStatement 19 = .ok (.caload, 1) := by decide +kernel
theorem dX7_passStatement_20 : decode cX7_passStatement 20 = .ok (.goto 4, 3) := by decide +kernel
theorem dX7_passStatement_23 : decode cX7_passStatement 23 = .ok (.iconst 0, 1) := by decide +kernel
theorem dX7_passStatement_24 : decode cX7_passStatement 24 = .ok (.istore_n 1, 1) := by decide +kernel
theorem dX7_passStatement_25 : decode cX7_passStatement 25 = .ok (.aload_n 0, 1) := by decide +kernel
theorem dX7_passStatement_26 : decode cX7_passStatement 26 = .ok (.ldc 35, 2) := by decide +kernel
theorem dX7_passStatement_28 : decode cX7_passStatement 28 = .ok (.invokevirtual 37, 3) := by decide +kernel
theorem dX7_passStatement_31 : decode cX7_passStatement 31 = .ok (.iload_n 1, 1) := by decide +kernel
theorem dX7_passStatement_32 : decode cX7_passStatement 32 = .ok (.lookupswitch 95 #[(99, 76), (101, 51), (122, 36)], 36) := by decide +kernel
theorem dX7_passStatement_68 : decode cX7_passStatement 68 = .ok (.aload_n 0, 1) := by decide +kernel
theorem dX7_passStatement_69 : decode cX7_passStatement 69 = .ok (.ldc 41, 2) := by decide +kernel
theorem dX7_passStatement_71 : decode cX7_passStatement 71 = .ok (.invokevirtual 37, 3) := by decide +kernel
theorem dX7_passStatement_74 : decode cX7_passStatement 74 = .ok (.aload_n 0, 1) := by decide +kernel
theorem dX7_passStatement_75 : decode cX7_passStatement 75 = .ok (.ldc 41, 2) := by decide +kernel
theorem dX7_passStatement_77 : decode cX7_passStatement 77 = .ok (.invokevirtual 37, 3) := by decide +kernel
theorem dX7_passStatement_80 : decode cX7_passStatement 80 = .ok (.goto 59, 3) := by decide +kernel
theorem dX7_passStatement_83 : decode cX7_passStatement 83 = .ok (.aload_n 0, 1) := by decide +kernel
theorem dX7_passStatement_84 : decode cX7_passStatement 84 = .ok (.invokevirtual 43, 3) := by decide +kernel
theorem dX7_passStatement_87 : decode cX7_passStatement 87 = .ok (.aload_n 0, 1) := by decide +kernel
theorem dX7_passStatement_88 : decode cX7_passStatement 88 = .ok (.ldc 46, 2) := by decide +kernel
theorem dX7_passStatement_90 : decode cX7_passStatement 90 = .ok (.invokevirtual 37, 3) := by decide +kernel
theorem dX7_passStatement_93 : decode cX7_passStatement 93 = .ok (.aload_n 0, 1) := by decide +kernel
theorem dX7_passStatement_94 : decode cX7_passStatement 94 = .ok (.ldc 48, 2) := by decide +kernel
theorem dX7_passStatement_96 : decode cX7_passStatement 96 = .ok (.invokevirtual 37, 3) := by decide +kernel
theorem dX7_passStatement_99 : decode cX7_passStatement 99 = .ok (.aload_n 0, 1) := by decide +kernel
theorem dX7_passStatement_100 : decode cX7_passStatement 100 = .ok (.ldc 41, 2) := by decide +kernel
theorem dX7_passStatement_102 : decode cX7_passStatement 102 = .ok (.invokevirtual 37, 3) := by decide +kernel
theorem dX7_passStatement_105 : decode cX7_passStatement 105 = .ok (.goto 34, 3) := by decide +kernel
theorem dX7_passStatement_108 : decode cX7_passStatement 108 = .ok (.aload_n 0, 1) := by decide +kernel
theorem dX7_passStatement_109 : decode cX7_passStatement 109 = .ok (.invokevirtual 43, 3) := by decide +kernel
theorem dX7_passStatement_112 : decode cX7_passStatement 112 = .ok (.aload_n 0, 1) := by decide +kernel
theorem dX7_passStatement_113 : decode cX7_passStatement 113 = .ok (.ldc 50, 2) := by decide +kernel
theorem dX7_passStatement_115 : decode cX7_passStatement 115 = .ok (.invokevirtual 37, 3) := by decide +kernel
theorem dX7_passStatement_118 : decode cX7_passStatement 118 = .ok (.aload_n 0, 1) := by decide +kernel
theorem dX7_passStatement_119 : decode cX7_passStatement 119 = .ok (.ldc 41, 2) := by decide +kernel
theorem dX7_passStatement_121 : decode cX7_passStatement 121 = .ok (.invokevirtual 37, 3) := by decide +kernel
theorem dX7_passStatement_124 : decode cX7_passStatement 124 = .ok (.goto 15, 3) := by decide +kernel
theorem dX7_passStatement_127 : decode cX7_passStatement 127 = .ok (.aload_n 0, 1) := by decide +kernel
theorem dX7_passStatement_128 : decode cX7_passStatement 128 = .ok (.ldc 54, 2) := by decide +kernel
theorem dX7_passStatement_130 : decode cX7_passStatement 130 = .ok (.invokevirtual 37, 3) := by decide +kernel
theorem dX7_passStatement_133 : decode cX7_passStatement 133 = .ok (.aload_n 0, 1) := by decide +kernel
theorem dX7_passStatement_134 : decode cX7_passStatement 134 = .ok (.ldc 41, 2) := by decide +kernel
theorem dX7_passStatement_136 : decode cX7_passStatement 136 = .ok (.invokevirtual 37, 3) := by decide +kernel
theorem dX7_passStatement_139 : decode cX7_passStatement 139 = .ok (.aload_n 0, 1) := by decide +kernel
theorem dX7_passStatement_140 : decode cX7_passStatement 140 = .ok (.ldc 56, 2) := by decide +kernel
theorem dX7_passStatement_142 : decode cX7_passStatement 142 = .ok (.invokevirtual 37, 3) := by decide +kernel
theorem dX7_passStatement_145 : decode cX7_passStatement 145 = .ok (.return_, 1) := by decide +kernel
theorem dX7_passCell_0 : decode cX7_passCell 0 = .ok (.aload_n 0, 1) := by decide +kernel
theorem dX7_passCell_1 : decode cX7_passCell 1 = .ok (.ldc 41, 2) := by decide +kernel
theorem dX7_passCell_3 : decode cX7_passCell 3 = .ok (.invokevirtual 37, 3) := by decide +kernel
theorem dX7_passCell_6 : decode cX7_passCell 6 = .ok (.aload_n 0, 1) := by decide +kernel
theorem dX7_passCell_7 : decode cX7_passCell 7 = .ok (.ldc 41, 2) := by decide +kernel
theorem dX7_passCell_9 : decode cX7_passCell 9 = .ok (.invokevirtual 58, 3) := by decide +kernel
theorem dX7_passCell_12 : decode cX7_passCell 12 = .ok (.ifCond .eq 13, 3) := by decide +kernel
theorem dX7_passCell_15 : decode cX7_passCell 15 = .ok (.aload_n 0, 1) := by decide +kernel
theorem dX7_passCell_16 : decode cX7_passCell 16 = .ok (.dup, 1) := by decide +kernel
theorem dX7_passCell_17 : decode cX7_passCell 17 = .ok (.getfield 21, 3) := by decide +kernel
theorem dX7_passCell_20 : decode cX7_passCell 20 = .ok (.iconst 1, 1) := by decide +kernel
theorem dX7_passCell_21 : decode cX7_passCell 21 = .ok (.iadd, 1) := by decide +kernel
theorem dX7_passCell_22 : decode cX7_passCell 22 = .ok (.putfield 21, 3) := by decide +kernel
theorem dX7_passCell_25 : decode cX7_passCell 25 = .ok (.return_, 1) := by decide +kernel
theorem dX7_passOneOf_0 : decode cX7_passOneOf 0 = .ok (.aload_n 0, 1) := by decide +kernel
theorem dX7_passOneOf_1 : decode cX7_passOneOf 1 = .ok (.aload_n 1, 1) := by decide +kernel
theorem dX7_passOneOf_2 : decode cX7_passOneOf 2 = .ok (.invokevirtual 58, 3) := by decide +kernel
theorem dX7_passOneOf_5 : decode cX7_passOneOf 5 = .ok (.ifCond .eq 16, 3) := by decide +kernel
theorem dX7_passOneOf_8 : decode cX7_passOneOf 8 = .ok (.aload_n 0, 1) := by decide +kernel
theorem dX7_passOneOf_9 : decode cX7_passOneOf 9 = .ok (.dup, 1) := by decide +kernel
theorem dX7_passOneOf_10 : decode cX7_passOneOf 10 = .ok (.getfield 21, 3) := by decide +kernel
theorem dX7_passOneOf_13 : decode cX7_passOneOf 13 = .ok (.iconst 1, 1) := by decide +kernel
theorem dX7_passOneOf_14 : decode cX7_passOneOf 14 = .ok (.iadd, 1) := by decide +kernel
theorem dX7_passOneOf_15 : decode cX7_passOneOf 15 = .ok (.putfield 21, 3) := by decide +kernel
theorem dX7_passOneOf_18 : decode cX7_passOneOf 18 = .ok (.goto 8, 3) := by decide +kernel
theorem dX7_passOneOf_21 : decode cX7_passOneOf 21 = .ok (.aload_n 0, 1) := by decide +kernel
theorem dX7_passOneOf_22 : decode cX7_passOneOf 22 = .ok (.iconst 1, 1) := by decide +kernel
theorem dX7_passOneOf_23 : decode cX7_passOneOf 23 = .ok (.putfield 24, 3) := by decide +kernel
theorem dX7_passOneOf_26 : decode cX7_passOneOf 26 = .ok (.return_, 1) := by decide +kernel
theorem dX7_isNext_0 : decode cX7_isNext 0 = .ok (.aload_n 0, 1) := by decide +kernel
theorem dX7_isNext_1 : decode cX7_isNext 1 = .ok (.getfield 24, 3) := by decide +kernel
theorem dX7_isNext_4 : decode cX7_isNext 4 = .ok (.ifCond .ne 34, 3) := by decide +kernel
theorem dX7_isNext_7 : decode cX7_isNext 7 = .ok (.aload_n 0, 1) := by decide +kernel
theorem dX7_isNext_8 : decode cX7_isNext 8 = .ok (.getfield 21, 3) := by decide +kernel
theorem dX7_isNext_11 : decode cX7_isNext 11 = .ok (.aload_n 0, 1) := by decide +kernel
theorem dX7_isNext_12 : decode cX7_isNext 12 = .ok (.getfield 15, 3) := by decide +kernel
theorem dX7_isNext_15 : decode cX7_isNext 15 = .ok (.if_icmp .ge 23, 3) := by decide +kernel
theorem dX7_isNext_18 : decode cX7_isNext 18 = .ok (.aload_n 1, 1) := by decide +kernel
theorem dX7_isNext_19 : decode cX7_isNext 19 = .ok (.aload_n 0, 1) := by decide +kernel
theorem dX7_isNext_20 : decode cX7_isNext 20 = .ok (.getfield 9, 3) := by decide +kernel
theorem dX7_isNext_23 : decode cX7_isNext 23 = .ok (.aload_n 0, 1) := by decide +kernel
theorem dX7_isNext_24 : decode cX7_isNext 24 = .ok (.getfield 21, 3) := by decide +kernel
theorem dX7_isNext_27 : decode cX7_isNext 27 = .ok (.caload, 1) := by decide +kernel
theorem dX7_isNext_28 : decode cX7_isNext 28 = .ok (.invokevirtual 62, 3) := by decide +kernel
theorem dX7_isNext_31 : decode cX7_isNext 31 = .ok (.ifCond .lt 7, 3) := by decide +kernel
theorem dX7_isNext_34 : decode cX7_isNext 34 = .ok (.iconst 1, 1) := by decide +kernel
theorem dX7_isNext_35 : decode cX7_isNext 35 = .ok (.goto 4, 3) := by decide +kernel
theorem dX7_isNext_38 : decode cX7_isNext 38 = .ok (.iconst 0, 1) := by decide +kernel
theorem dX7_isNext_39 : decode cX7_isNext 39 = .ok (.ireturn, 1) := by decide +kernel
theorem dX7_obeyAll_0 : decode cX7_obeyAll 0 = .ok (.iconst 0, 1) := by decide +kernel
theorem dX7_obeyAll_1 : decode cX7_obeyAll 1 = .ok (.istore_n 2, 1) := by decide +kernel
theorem dX7_obeyAll_2 : decode cX7_obeyAll 2 = .ok (.iconst 0, 1) := by decide +kernel
theorem dX7_obeyAll_3 : decode cX7_obeyAll 3 = .ok (.istore_n 3, 1) := by decide +kernel
theorem dX7_obeyAll_4 : decode cX7_obeyAll 4 = .ok (.iconst 0, 1) := by decide +kernel
theorem dX7_obeyAll_5 : decode cX7_obeyAll 5 = .ok (.istore 4, 2) := by decide +kernel
theorem dX7_obeyAll_7 : decode cX7_obeyAll 7 = .ok (.iload 4, 2) := by decide +kernel
theorem dX7_obeyAll_9 : decode cX7_obeyAll 9 = .ok (.aload_n 0, 1) := by decide +kernel
theorem dX7_obeyAll_10 : decode cX7_obeyAll 10 = .ok (.getfield 15, 3) := by decide +kernel
theorem dX7_obeyAll_13 : decode cX7_obeyAll 13 = .ok (.if_icmp .ge 46, 3) := by decide +kernel
theorem dX7_obeyAll_16 : decode cX7_obeyAll 16 = .ok (.aload_n 0, 1) := by decide +kernel
theorem dX7_obeyAll_17 : decode cX7_obeyAll 17 = .ok (.getfield 9, 3) := by decide +kernel
theorem dX7_obeyAll_20 : decode cX7_obeyAll 20 = .ok (.iload 4, 2) := by decide +kernel
theorem dX7_obeyAll_22 : decode cX7_obeyAll 22 = .ok (.caload, 1) := by decide +kernel
theorem dX7_obeyAll_23 : decode cX7_obeyAll 23 = .ok (.bipush 59, 2) := by decide +kernel
theorem dX7_obeyAll_25 : decode cX7_obeyAll 25 = .ok (.if_icmp .ne 28, 3) := by decide +kernel
theorem dX7_obeyAll_28 : decode cX7_obeyAll 28 = .ok (.aload_n 0, 1) := by decide +kernel
theorem dX7_obeyAll_29 : decode cX7_obeyAll 29 = .ok (.aload_n 1, 1) := by decide +kernel
theorem dX7_obeyAll_30 : decode cX7_obeyAll 30 = .ok (.iload_n 3, 1) := by decide +kernel
theorem dX7_obeyAll_31 : decode cX7_obeyAll 31 = .ok (.iload 4, 2) := by decide +kernel
theorem dX7_obeyAll_33 : decode cX7_obeyAll 33 = .ok (.invokevirtual 68, 3) := by decide +kernel
theorem dX7_obeyAll_36 : decode cX7_obeyAll 36 = .ok (.ifCond .ne 9, 3) := by decide +kernel
theorem dX7_obeyAll_39 : decode cX7_obeyAll 39 = .ok (.sipush (-2000), 3) := by decide +kernel
theorem dX7_obeyAll_42 : decode cX7_obeyAll 42 = .ok (.iload_n 3, 1) := by decide +kernel
theorem dX7_obeyAll_43 : decode cX7_obeyAll 43 = .ok (.isub, 1) := by decide +kernel
theorem dX7_obeyAll_44 : decode cX7_obeyAll 44 = .ok (.ireturn, 1) := by decide +kernel
theorem dX7_obeyAll_45 : decode cX7_obeyAll 45 = .ok (.iinc 2 1, 3) := by decide +kernel
theorem dX7_obeyAll_48 : decode cX7_obeyAll 48 = .ok (.iload 4, 2) := by decide +kernel
theorem dX7_obeyAll_50 : decode cX7_obeyAll 50 = .ok (.iconst 1, 1) := by decide +kernel
theorem dX7_obeyAll_51 : decode cX7_obeyAll 51 = .ok (.iadd, 1) := by decide +kernel
theorem dX7_obeyAll_52 : decode cX7_obeyAll 52 = .ok (.istore_n 3, 1) := by decide +kernel
theorem dX7_obeyAll_53 : decode cX7_obeyAll 53 = .ok (.iinc 4 1, 3) := by decide +kernel
theorem dX7_obeyAll_56 : decode cX7_obeyAll 56 = .ok (.goto (-49), 3) := by decide +kernel
theorem dX7_obeyAll_59 : decode cX7_obeyAll 59 = .ok (.iload_n 2, 1) := by decide +kernel
theorem dX7_obeyAll_60 : decode cX7_obeyAll 60 = .ok (.ireturn, 1) := by decide +kernel
theorem dX7_obey_0 : decode cX7_obey 0 = .ok (.aload_n 0, 1) := by decide +kernel
theorem dX7_obey_1 : decode cX7_obey 1 = .ok (.getfield 9, 3) := by decide +kernel
theorem dX7_obey_4 : decode cX7_obey 4 = .ok (.iload_n 2, 1) := by decide +kernel
theorem dX7_obey_5 : decode cX7_obey 5 = .ok (.caload, 1) := by decide +kernel
theorem dX7_obey_6 : decode cX7_obey 6 = .ok (.istore 4, 2) := by decide +kernel
theorem dX7_obey_8 : decode cX7_obey 8 = .ok (.iload 4, 2) := by decide +kernel
theorem dX7_obey_10 : decode cX7_obey 10 = .ok (.lookupswitch 94 #[(99, 71), (101, 54), (122, 34)], 34) := by decide +kernel
theorem dX7_obey_44 : decode cX7_obey 44 = .ok (.aload_n 0, 1) := by decide +kernel
theorem dX7_obey_45 : decode cX7_obey 45 = .ok (.aload_n 1, 1) := by decide +kernel
theorem dX7_obey_46 : decode cX7_obey 46 = .ok (.aload_n 0, 1) := by decide +kernel
theorem dX7_obey_47 : decode cX7_obey 47 = .ok (.iload_n 2, 1) := by decide +kernel
theorem dX7_obey_48 : decode cX7_obey 48 = .ok (.iconst 1, 1) := by decide +kernel
theorem dX7_obey_49 : decode cX7_obey 49 = .ok (.iadd, 1) := by decide +kernel
theorem dX7_obey_50 : decode cX7_obey 50 = .ok (.invokevirtual 72, 3) := by decide +kernel
theorem dX7_obey_53 : decode cX7_obey 53 = .ok (.aload_n 0, 1) := by decide +kernel
theorem dX7_obey_54 : decode cX7_obey 54 = .ok (.iload_n 2, 1) := by decide +kernel
theorem dX7_obey_55 : decode cX7_obey 55 = .ok (.iconst 2, 1) := by decide +kernel
theorem dX7_obey_56 : decode cX7_obey 56 = .ok (.iadd, 1) := by decide +kernel
theorem dX7_obey_57 : decode cX7_obey 57 = .ok (.invokevirtual 72, 3) := by decide +kernel
theorem dX7_obey_60 : decode cX7_obey 60 = .ok (.invokevirtual 75, 3) := by decide +kernel
theorem dX7_obey_63 : decode cX7_obey 63 = .ok (.ireturn, 1) := by decide +kernel
theorem dX7_obey_64 : decode cX7_obey 64 = .ok (.aload_n 0, 1) := by decide +kernel
theorem dX7_obey_65 : decode cX7_obey 65 = .ok (.aload_n 1, 1) := by decide +kernel
theorem dX7_obey_66 : decode cX7_obey 66 = .ok (.aload_n 0, 1) := by decide +kernel
theorem dX7_obey_67 : decode cX7_obey 67 = .ok (.iload_n 2, 1) := by decide +kernel
theorem dX7_obey_68 : decode cX7_obey 68 = .ok (.iconst 1, 1) := by decide +kernel
theorem dX7_obey_69 : decode cX7_obey 69 = .ok (.iadd, 1) := by decide +kernel
theorem dX7_obey_70 : decode cX7_obey 70 = .ok (.iload_n 3, 1) := by decide +kernel
theorem dX7_obey_71 : decode cX7_obey 71 = .ok (.iconst 3, 1) := by decide +kernel
theorem dX7_obey_72 : decode cX7_obey 72 = .ok (.isub, 1) := by decide +kernel
theorem dX7_obey_73 : decode cX7_obey 73 = .ok (.invokevirtual 78, 3) := by decide +kernel
theorem dX7_obey_76 : decode cX7_obey 76 = .ok (.iload_n 3, 1) := by decide +kernel
theorem dX7_obey_77 : decode cX7_obey 77 = .ok (.invokevirtual 82, 3) := by decide +kernel
theorem dX7_obey_80 : decode cX7_obey 80 = .ok (.ireturn, 1) := by decide +kernel
theorem dX7_obey_81 : decode cX7_obey 81 = .ok (.aload_n 0, 1) := by decide +kernel
theorem dX7_obey_82 : decode cX7_obey 82 = .ok (.aload_n 1, 1) := by decide +kernel
theorem dX7_obey_83 : decode cX7_obey 83 = .ok (.aload_n 0, 1) := by decide +kernel
theorem dX7_obey_84 : decode cX7_obey 84 = .ok (.iload_n 2, 1) := by decide +kernel
theorem dX7_obey_85 : decode cX7_obey 85 = .ok (.iconst 1, 1) := by decide +kernel
theorem dX7_obey_86 : decode cX7_obey 86 = .ok (.iadd, 1) := by decide +kernel
theorem dX7_obey_87 : decode cX7_obey 87 = .ok (.iload_n 3, 1) := by decide +kernel
theorem dX7_obey_88 : decode cX7_obey 88 = .ok (.iconst 2, 1) := by decide +kernel
theorem dX7_obey_89 : decode cX7_obey 89 = .ok (.isub, 1) := by decide +kernel
theorem dX7_obey_90 : decode cX7_obey 90 = .ok (.invokevirtual 78, 3) := by decide +kernel
theorem dX7_obey_93 : decode cX7_obey 93 = .ok (.aload_n 0, 1) := by decide +kernel
theorem dX7_obey_94 : decode cX7_obey 94 = .ok (.iload_n 3, 1) := by decide +kernel
theorem dX7_obey_95 : decode cX7_obey 95 = .ok (.iconst 1, 1) := by decide +kernel
theorem dX7_obey_96 : decode cX7_obey 96 = .ok (.isub, 1) := by decide +kernel
theorem dX7_obey_97 : decode cX7_obey 97 = .ok (.invokevirtual 72, 3) := by decide +kernel
theorem dX7_obey_100 : decode cX7_obey 100 = .ok (.invokevirtual 85, 3) := by decide +kernel
theorem dX7_obey_103 : decode cX7_obey 103 = .ok (.ireturn, 1) := by decide +kernel
theorem dX7_obey_104 : decode cX7_obey 104 = .ok (.aload_n 0, 1) := by decide +kernel
theorem dX7_obey_105 : decode cX7_obey 105 = .ok (.aload_n 1, 1) := by decide +kernel
theorem dX7_obey_106 : decode cX7_obey 106 = .ok (.ldc 54, 2) := by decide +kernel
theorem dX7_obey_108 : decode cX7_obey 108 = .ok (.aload_n 0, 1) := by decide +kernel
theorem dX7_obey_109 : decode cX7_obey 109 = .ok (.getfield 9, 3) := by decide +kernel
theorem dX7_obey_112 : decode cX7_obey 112 = .ok (.iload_n 2, 1) := by decide +kernel
theorem dX7_obey_113 : decode cX7_obey 113 = .ok (.iconst 1, 1) := by decide +kernel
theorem dX7_obey_114 : decode cX7_obey 114 = .ok (.iadd, 1) := by decide +kernel
theorem dX7_obey_115 : decode cX7_obey 115 = .ok (.caload, 1) := by decide +kernel
theorem dX7_obey_116 : decode cX7_obey 116 = .ok (.invokevirtual 62, 3) := by decide +kernel
theorem dX7_obey_119 : decode cX7_obey 119 = .ok (.aload_n 0, 1) := by decide +kernel
theorem dX7_obey_120 : decode cX7_obey 120 = .ok (.iload_n 3, 1) := by decide +kernel
theorem dX7_obey_121 : decode cX7_obey 121 = .ok (.iconst 1, 1) := by decide +kernel
theorem dX7_obey_122 : decode cX7_obey 122 = .ok (.isub, 1) := by decide +kernel
theorem dX7_obey_123 : decode cX7_obey 123 = .ok (.invokevirtual 72, 3) := by decide +kernel
theorem dX7_obey_126 : decode cX7_obey 126 = .ok (.invokevirtual 88, 3) := by decide +kernel
theorem dX7_obey_129 : decode cX7_obey 129 = .ok (.ireturn, 1) := by decide +kernel
theorem dX7_obeySize_0 : decode cX7_obeySize 0 = .ok (.iload_n 2, 1) := by decide +kernel
theorem dX7_obeySize_1 : decode cX7_obeySize 1 = .ok (.iconst 2, 1) := by decide +kernel
theorem dX7_obeySize_2 : decode cX7_obeySize 2 = .ok (.if_icmp .lt 18, 3) := by decide +kernel
theorem dX7_obeySize_5 : decode cX7_obeySize 5 = .ok (.iload_n 2, 1) := by decide +kernel
theorem dX7_obeySize_6 : decode cX7_obeySize 6 = .ok (.iconst 4, 1) := by decide +kernel
theorem dX7_obeySize_7 : decode cX7_obeySize 7 = .ok (.if_icmp .gt 13, 3) := by decide +kernel
theorem dX7_obeySize_10 : decode cX7_obeySize 10 = .ok (.iload_n 3, 1) := by decide +kernel
theorem dX7_obeySize_11 : decode cX7_obeySize 11 = .ok (.iconst 2, 1) := by decide +kernel
theorem dX7_obeySize_12 : decode cX7_obeySize 12 = .ok (.if_icmp .lt 8, 3) := by decide +kernel
theorem dX7_obeySize_15 : decode cX7_obeySize 15 = .ok (.iload_n 3, 1) := by decide +kernel
theorem dX7_obeySize_16 : decode cX7_obeySize 16 = .ok (.iconst 4, 1) := by decide +kernel
theorem dX7_obeySize_17 : decode cX7_obeySize 17 = .ok (.if_icmp .le 5, 3) := by decide +kernel
theorem dX7_obeySize_20 : decode cX7_obeySize 20 = .ok (.iconst 0, 1) := by decide +kernel
theorem dX7_obeySize_21 : decode cX7_obeySize 21 = .ok (.ireturn, 1) := by decide +kernel
theorem dX7_obeySize_22 : decode cX7_obeySize 22 = .ok (.aload_n 1, 1) := by decide +kernel
theorem dX7_obeySize_23 : decode cX7_obeySize 23 = .ok (.getfield 91, 3) := by decide +kernel
theorem dX7_obeySize_26 : decode cX7_obeySize 26 = .ok (.iload_n 2, 1) := by decide +kernel
theorem dX7_obeySize_27 : decode cX7_obeySize 27 = .ok (.iload_n 3, 1) := by decide +kernel
theorem dX7_obeySize_28 : decode cX7_obeySize 28 = .ok (.invokevirtual 97, 3) := by decide +kernel
theorem dX7_obeySize_31 : decode cX7_obeySize 31 = .ok (.aload_n 1, 1) := by decide +kernel
theorem dX7_obeySize_32 : decode cX7_obeySize 32 = .ok (.getfield 103, 3) := by decide +kernel
theorem dX7_obeySize_35 : decode cX7_obeySize 35 = .ok (.invokevirtual 107, 3) := by decide +kernel
theorem dX7_obeySize_38 : decode cX7_obeySize 38 = .ok (.iconst 1, 1) := by decide +kernel
theorem dX7_obeySize_39 : decode cX7_obeySize 39 = .ok (.ireturn, 1) := by decide +kernel
theorem dX7_obeyEdge_0 : decode cX7_obeyEdge 0 = .ok (.aload_n 0, 1) := by decide +kernel
theorem dX7_obeyEdge_1 : decode cX7_obeyEdge 1 = .ok (.iload_n 3, 1) := by decide +kernel
theorem dX7_obeyEdge_2 : decode cX7_obeyEdge 2 = .ok (.iconst 1, 1) := by decide +kernel
theorem dX7_obeyEdge_3 : decode cX7_obeyEdge 3 = .ok (.isub, 1) := by decide +kernel
theorem dX7_obeyEdge_4 : decode cX7_obeyEdge 4 = .ok (.invokevirtual 72, 3) := by decide +kernel
theorem dX7_obeyEdge_7 : decode cX7_obeyEdge 7 = .ok (.istore 4, 2) := by decide +kernel
theorem dX7_obeyEdge_9 : decode cX7_obeyEdge 9 = .ok (.aload_n 0, 1) := by decide +kernel
theorem dX7_obeyEdge_10 : decode cX7_obeyEdge 10 = .ok (.getfield 9, 3) := by decide +kernel
theorem dX7_obeyEdge_13 : decode cX7_obeyEdge 13 = .ok (.iload_n 3, 1) := by decide +kernel
theorem dX7_obeyEdge_14 : decode cX7_obeyEdge 14 = .ok (.iconst 3, 1) := by decide +kernel
theorem dX7_obeyEdge_15 : decode cX7_obeyEdge 15 = .ok (.isub, 1) := by decide +kernel
theorem dX7_obeyEdge_16 : decode cX7_obeyEdge 16 = .ok (.caload, 1) := by decide +kernel
theorem dX7_obeyEdge_17 : decode cX7_obeyEdge 17 = .ok (.bipush 114, 2) := by decide +kernel
theorem dX7_obeyEdge_19 : decode cX7_obeyEdge 19 = .ok (.if_icmp .ne 7, 3) := by decide +kernel
theorem dX7_obeyEdge_22 : decode cX7_obeyEdge 22 = .ok (.iconst 1, 1) := by decide +kernel
theorem dX7_obeyEdge_23 : decode cX7_obeyEdge 23 = .ok (.goto 4, 3) := by decide +kernel
theorem dX7_obeyEdge_26 : decode cX7_obeyEdge 26 = .ok (.iconst 2, 1) := by decide +kernel
theorem dX7_obeyEdge_27 : decode cX7_obeyEdge 27 = .ok (.istore 5, 2) := by decide +kernel
theorem dX7_obeyEdge_29 : decode cX7_obeyEdge 29 = .ok (.iload_n 2, 1) := by decide +kernel
theorem dX7_obeyEdge_30 : decode cX7_obeyEdge 30 = .ok (.aload_n 1, 1) := by decide +kernel
theorem dX7_obeyEdge_31 : decode cX7_obeyEdge 31 = .ok (.getfield 91, 3) := by decide +kernel
theorem dX7_obeyEdge_34 : decode cX7_obeyEdge 34 = .ok (.getfield 112, 3) := by decide +kernel
theorem dX7_obeyEdge_37 : decode cX7_obeyEdge 37 = .ok (.if_icmp .ge 23, 3) := by decide +kernel
theorem dX7_obeyEdge_40 : decode cX7_obeyEdge 40 = .ok (.iload 4, 2) := by decide +kernel
theorem dX7_obeyEdge_42 : decode cX7_obeyEdge 42 = .ok (.iconst 1, 1) := by decide +kernel
theorem dX7_obeyEdge_43 : decode cX7_obeyEdge 43 = .ok (.if_icmp .lt 17, 3) := by decide +kernel
theorem dX7_obeyEdge_46 : decode cX7_obeyEdge 46 = .ok (.aload_n 1, 1) := by decide +kernel
theorem dX7_obeyEdge_47 : decode cX7_obeyEdge 47 = .ok (.getfield 91, 3) := by decide +kernel
theorem dX7_obeyEdge_50 : decode cX7_obeyEdge 50 = .ok (.iload_n 2, 1) := by decide +kernel
theorem dX7_obeyEdge_51 : decode cX7_obeyEdge 51 = .ok (.iload 5, 2) := by decide +kernel
theorem dX7_obeyEdge_53 : decode cX7_obeyEdge 53 = .ok (.invokevirtual 115, 3) := by decide +kernel
theorem dX7_obeyEdge_56 : decode cX7_obeyEdge 56 = .ok (.iconst (-1), 1) := by decide +kernel
theorem dX7_obeyEdge_57 : decode cX7_obeyEdge 57 = .ok (.if_icmp .ne 5, 3) := by decide +kernel
theorem dX7_obeyEdge_60 : decode cX7_obeyEdge 60 = .ok (.iconst 0, 1) := by decide +kernel
theorem dX7_obeyEdge_61 : decode cX7_obeyEdge 61 = .ok (.ireturn, 1) := by decide +kernel
theorem dX7_obeyEdge_62 : decode cX7_obeyEdge 62 = .ok (.aload_n 1, 1) := by decide +kernel
theorem dX7_obeyEdge_63 : decode cX7_obeyEdge 63 = .ok (.getfield 91, 3) := by decide +kernel
theorem dX7_obeyEdge_66 : decode cX7_obeyEdge 66 = .ok (.iload_n 2, 1) := by decide +kernel
theorem dX7_obeyEdge_67 : decode cX7_obeyEdge 67 = .ok (.iload 5, 2) := by decide +kernel
theorem dX7_obeyEdge_69 : decode cX7_obeyEdge 69 = .ok (.aload_n 0, 1) := by decide +kernel
theorem dX7_obeyEdge_70 : decode cX7_obeyEdge 70 = .ok (.getfield 9, 3) := by decide +kernel
theorem dX7_obeyEdge_73 : decode cX7_obeyEdge 73 = .ok (.iload_n 3, 1) := by decide +kernel
theorem dX7_obeyEdge_74 : decode cX7_obeyEdge 74 = .ok (.iconst 2, 1) := by decide +kernel
theorem dX7_obeyEdge_75 : decode cX7_obeyEdge 75 = .ok (.isub, 1) := by decide +kernel
theorem dX7_obeyEdge_76 : decode cX7_obeyEdge 76 = .ok (.caload, 1) := by decide +kernel
theorem dX7_obeyEdge_77 : decode cX7_obeyEdge 77 = .ok (.bipush 43, 2) := by decide +kernel
theorem dX7_obeyEdge_79 : decode cX7_obeyEdge 79 = .ok (.if_icmp .ne 8, 3) := by decide +kernel
theorem dX7_obeyEdge_82 : decode cX7_obeyEdge 82 = .ok (.iload 4, 2) := by decide +kernel
theorem dX7_obeyEdge_84 : decode cX7_obeyEdge 84 = .ok (.goto 6, 3) := by decide +kernel
theorem dX7_obeyEdge_87 : decode cX7_obeyEdge 87 = .ok (.iload 4, 2) := by decide +kernel
theorem dX7_obeyEdge_89 : decode cX7_obeyEdge 89 = .ok (.ineg, 1) := by decide +kernel
theorem dX7_obeyEdge_90 : decode cX7_obeyEdge 90 = .ok (.invokevirtual 118, 3) := by decide +kernel
theorem dX7_obeyEdge_93 : decode cX7_obeyEdge 93 = .ok (.iconst 1, 1) := by decide +kernel
theorem dX7_obeyEdge_94 : decode cX7_obeyEdge 94 = .ok (.ireturn, 1) := by decide +kernel
theorem dX7_obeyColour_0 : decode cX7_obeyColour 0 = .ok (.iload_n 2, 1) := by decide +kernel
theorem dX7_obeyColour_1 : decode cX7_obeyColour 1 = .ok (.aload_n 1, 1) := by decide +kernel
theorem dX7_obeyColour_2 : decode cX7_obeyColour 2 = .ok (.getfield 91, 3) := by decide +kernel
theorem dX7_obeyColour_5 : decode cX7_obeyColour 5 = .ok (.getfield 112, 3) := by decide +kernel
theorem dX7_obeyColour_8 : decode cX7_obeyColour 8 = .ok (.if_icmp .lt 5, 3) := by decide +kernel
theorem dX7_obeyColour_11 : decode cX7_obeyColour 11 = .ok (.iconst 0, 1) := by decide +kernel
theorem dX7_obeyColour_12 : decode cX7_obeyColour 12 = .ok (.ireturn, 1) := by decide +kernel
theorem dX7_obeyColour_13 : decode cX7_obeyColour 13 = .ok (.aload_n 1, 1) := by decide +kernel
theorem dX7_obeyColour_14 : decode cX7_obeyColour 14 = .ok (.getfield 91, 3) := by decide +kernel
theorem dX7_obeyColour_17 : decode cX7_obeyColour 17 = .ok (.getfield 122, 3) := by decide +kernel
theorem dX7_obeyColour_20 : decode cX7_obeyColour 20 = .ok (.iload_n 2, 1) := by decide +kernel
theorem dX7_obeyColour_21 : decode cX7_obeyColour 21 = .ok (.iload_n 3, 1) := by decide +kernel
theorem dX7_obeyColour_22 : decode cX7_obeyColour 22 = .ok (.iastore, 1) := by decide +kernel
theorem dX7_obeyColour_23 : decode cX7_obeyColour 23 = .ok (.iconst 1, 1) := by decide +kernel
theorem dX7_obeyColour_24 : decode cX7_obeyColour 24 = .ok (.ireturn, 1) := by decide +kernel
theorem dX7_obeyPerson_0 : decode cX7_obeyPerson 0 = .ok (.iload_n 3, 1) := by decide +kernel
theorem dX7_obeyPerson_1 : decode cX7_obeyPerson 1 = .ok (.iconst 1, 1) := by decide +kernel
theorem dX7_obeyPerson_2 : decode cX7_obeyPerson 2 = .ok (.if_icmp .lt 15, 3) := by decide +kernel
theorem dX7_obeyPerson_5 : decode cX7_obeyPerson 5 = .ok (.aload_n 1, 1) := by decide +kernel
theorem dX7_obeyPerson_6 : decode cX7_obeyPerson 6 = .ok (.getfield 126, 3) := by decide +kernel
theorem dX7_obeyPerson_9 : decode cX7_obeyPerson 9 = .ok (.getfield 130, 3) := by decide +kernel
theorem dX7_obeyPerson_12 : decode cX7_obeyPerson 12 = .ok (.bipush 6, 2) := by decide +kernel
theorem dX7_obeyPerson_14 : decode cX7_obeyPerson 14 = .ok (.if_icmp .lt 5, 3) := by decide +kernel
theorem dX7_obeyPerson_17 : decode cX7_obeyPerson 17 = .ok (.iconst 0, 1) := by decide +kernel
theorem dX7_obeyPerson_18 : decode cX7_obeyPerson 18 = .ok (.ireturn, 1) := by decide +kernel
theorem dX7_obeyPerson_19 : decode cX7_obeyPerson 19 = .ok (.aload_n 1, 1) := by decide +kernel
theorem dX7_obeyPerson_20 : decode cX7_obeyPerson 20 = .ok (.getfield 126, 3) := by decide +kernel
theorem dX7_obeyPerson_23 : decode cX7_obeyPerson 23 = .ok (.iload_n 2, 1) := by decide +kernel
theorem dX7_obeyPerson_24 : decode cX7_obeyPerson 24 = .ok (.iload_n 3, 1) := by decide +kernel
theorem dX7_obeyPerson_25 : decode cX7_obeyPerson 25 = .ok (.invokevirtual 133, 3) := by decide +kernel
theorem dX7_obeyPerson_28 : decode cX7_obeyPerson 28 = .ok (.iconst 1, 1) := by decide +kernel
theorem dX7_obeyPerson_29 : decode cX7_obeyPerson 29 = .ok (.ireturn, 1) := by decide +kernel
theorem dX7_digitAt_0 : decode cX7_digitAt 0 = .ok (.aload_n 0, 1) := by decide +kernel
theorem dX7_digitAt_1 : decode cX7_digitAt 1 = .ok (.getfield 9, 3) := by decide +kernel
theorem dX7_digitAt_4 : decode cX7_digitAt 4 = .ok (.iload_n 1, 1) := by decide +kernel
theorem dX7_digitAt_5 : decode cX7_digitAt 5 = .ok (.caload, 1) := by decide +kernel
theorem dX7_digitAt_6 : decode cX7_digitAt 6 = .ok (.bipush 48, 2) := by decide +kernel
theorem dX7_digitAt_8 : decode cX7_digitAt 8 = .ok (.isub, 1) := by decide +kernel
theorem dX7_digitAt_9 : decode cX7_digitAt 9 = .ok (.ireturn, 1) := by decide +kernel
theorem dX7_numberBetween_0 : decode cX7_numberBetween 0 = .ok (.iconst 0, 1) := by decide +kernel
theorem dX7_numberBetween_1 : decode cX7_numberBetween 1 = .ok (.istore_n 3, 1) := by decide +kernel
theorem dX7_numberBetween_2 : decode cX7_numberBetween 2 = .ok (.iload_n 1, 1) := by decide +kernel
theorem dX7_numberBetween_3 : decode cX7_numberBetween 3 = .ok (.istore 4, 2) := by decide +kernel
theorem dX7_numberBetween_5 : decode cX7_numberBetween 5 = .ok (.iload 4, 2) := by decide +kernel
theorem dX7_numberBetween_7 : decode cX7_numberBetween 7 = .ok (.iload_n 2, 1) := by decide +kernel
theorem dX7_numberBetween_8 : decode cX7_numberBetween 8 = .ok (.if_icmp .ge 21, 3) := by decide +kernel
theorem dX7_numberBetween_11 : decode cX7_numberBetween 11 = .ok (.iload_n 3, 1) := by decide +kernel
theorem dX7_numberBetween_12 : decode cX7_numberBetween 12 = .ok (.bipush 10, 2) := by decide +kernel
theorem dX7_numberBetween_14 : decode cX7_numberBetween 14 = .ok (.imul, 1) := by decide +kernel
theorem dX7_numberBetween_15 : decode cX7_numberBetween 15 = .ok (.aload_n 0, 1) := by decide +kernel
theorem dX7_numberBetween_16 : decode cX7_numberBetween 16 = .ok (.iload 4, 2) := by decide +kernel
theorem dX7_numberBetween_18 : decode cX7_numberBetween 18 = .ok (.invokevirtual 72, 3) := by decide +kernel
theorem dX7_numberBetween_21 : decode cX7_numberBetween 21 = .ok (.iadd, 1) := by decide +kernel
theorem dX7_numberBetween_22 : decode cX7_numberBetween 22 = .ok (.istore_n 3, 1) := by decide +kernel
theorem dX7_numberBetween_23 : decode cX7_numberBetween 23 = .ok (.iinc 4 1, 3) := by decide +kernel
theorem dX7_numberBetween_26 : decode cX7_numberBetween 26 = .ok (.goto (-21), 3) := by decide +kernel
theorem dX7_numberBetween_29 : decode cX7_numberBetween 29 = .ok (.iload_n 3, 1) := by decide +kernel
theorem dX7_numberBetween_30 : decode cX7_numberBetween 30 = .ok (.ireturn, 1) := by decide +kernel
theorem dX8_init_0 : decode cX8_init 0 = .ok (.aload_n 0, 1) := by decide +kernel
theorem dX8_init_1 : decode cX8_init 1 = .ok (.invokespecial 3, 3) := by decide +kernel
theorem dX8_init_4 : decode cX8_init 4 = .ok (.aload_n 0, 1) := by decide +kernel
theorem dX8_init_5 : decode cX8_init 5 = .ok (.bipush 16, 2) := by decide +kernel
theorem dX8_init_7 : decode cX8_init 7 = .ok (.newarray .int, 2) := by decide +kernel
theorem dX8_init_9 : decode cX8_init 9 = .ok (.putfield 9, 3) := by decide +kernel
theorem dX8_init_12 : decode cX8_init 12 = .ok (.return_, 1) := by decide +kernel
theorem dX8_add_0 : decode cX8_add 0 = .ok (.aload_n 0, 1) := by decide +kernel
theorem dX8_add_1 : decode cX8_add 1 = .ok (.getfield 9, 3) := by decide +kernel
theorem dX8_add_4 : decode cX8_add 4 = .ok (.aload_n 0, 1) := by decide +kernel
theorem dX8_add_5 : decode cX8_add 5 = .ok (.getfield 15, 3) := by decide +kernel
theorem dX8_add_8 : decode cX8_add 8 = .ok (.iload_n 1, 1) := by decide +kernel
theorem dX8_add_9 : decode cX8_add 9 = .ok (.iastore, 1) := by decide +kernel
theorem dX8_add_10 : decode cX8_add 10 = .ok (.aload_n 0, 1) := by decide +kernel
theorem dX8_add_11 : decode cX8_add 11 = .ok (.dup, 1) := by decide +kernel
theorem dX8_add_12 : decode cX8_add 12 = .ok (.getfield 15, 3) := by decide +kernel
theorem dX8_add_15 : decode cX8_add 15 = .ok (.iconst 1, 1) := by decide +kernel
theorem dX8_add_16 : decode cX8_add 16 = .ok (.iadd, 1) := by decide +kernel
theorem dX8_add_17 : decode cX8_add 17 = .ok (.putfield 15, 3) := by decide +kernel
theorem dX8_add_20 : decode cX8_add 20 = .ok (.aload_n 0, 1) := by decide +kernel
theorem dX8_add_21 : decode cX8_add 21 = .ok (.getfield 15, 3) := by decide +kernel
theorem dX8_add_24 : decode cX8_add 24 = .ok (.ireturn, 1) := by decide +kernel
theorem dX8_compareWith_0 : decode cX8_compareWith 0 = .ok (.aload_n 1, 1) := by decide +kernel
theorem dX8_compareWith_1 : decode cX8_compareWith 1 = .ok (.getfield 19, 3) := by decide +kernel
theorem dX8_compareWith_4 : decode cX8_compareWith 4 = .ok (.getfield 25, 3) := by decide +kernel
theorem dX8_compareWith_7 : decode cX8_compareWith 7 = .ok (.istore_n 2, 1) := by decide +kernel
theorem dX8_compareWith_8 : decode cX8_compareWith 8 = .ok (.aload_n 0, 1) := by decide +kernel
theorem dX8_compareWith_9 : decode cX8_compareWith 9 = .ok (.getfield 15, 3) := by decide +kernel
theorem dX8_compareWith_12 : decode cX8_compareWith 12 = .ok (.iload_n 2, 1) := by decide +kernel
theorem dX8_compareWith_13 : decode cX8_compareWith 13 = .ok (.invokestatic 30, 3) := by decide +kernel
theorem dX8_compareWith_16 : decode cX8_compareWith 16 = .ok (.istore_n 3, 1) := by decide +kernel
theorem dX8_compareWith_17 : decode cX8_compareWith 17 = .ok (.iconst 0, 1) := by decide +kernel
theorem dX8_compareWith_18 : decode cX8_compareWith 18 = .ok (.istore 4, 2) := by decide +kernel
theorem dX8_compareWith_20 : decode cX8_compareWith 20 = .ok (.iload 4, 2) := by decide +kernel
theorem dX8_compareWith_22 : decode cX8_compareWith 22 = .ok (.iload_n 3, 1) := by decide +kernel
theorem dX8_compareWith_23 : decode cX8_compareWith 23 = .ok (.if_icmp .ge 53, 3) := by decide +kernel
theorem dX8_compareWith_26 : decode cX8_compareWith 26 = .ok (.aload_n 1, 1) := by decide +kernel
theorem dX8_compareWith_27 : decode cX8_compareWith 27 = .ok (.getfield 36, 3) := by decide +kernel
theorem dX8_compareWith_30 : decode cX8_compareWith 30 = .ok (.iload 4, 2) := by decide +kernel
theorem dX8_compareWith_32 : decode cX8_compareWith 32 = .ok (.invokevirtual 40, 3) := by decide +kernel
theorem dX8_compareWith_35 : decode cX8_compareWith 35 = .ok (.ifCond .eq 16, 3) := by decide +kernel
theorem dX8_compareWith_38 : decode cX8_compareWith 38 = .ok (.aload_n 1, 1) := by decide +kernel
theorem dX8_compareWith_39 : decode cX8_compareWith 39 = .ok (.getfield 36, 3) := by decide +kernel
theorem dX8_compareWith_42 : decode cX8_compareWith 42 = .ok (.getfield 46, 3) := by decide +kernel
theorem dX8_compareWith_45 : decode cX8_compareWith 45 = .ok (.iload 4, 2) := by decide +kernel
theorem dX8_compareWith_47 : decode cX8_compareWith 47 = .ok (.iaload, 1) := by decide +kernel
theorem dX8_compareWith_48 : decode cX8_compareWith 48 = .ok (.goto 5, 3) := by decide +kernel
theorem dX8_compareWith_51 : decode cX8_compareWith 51 = .ok (.bipush 99, 2) := by decide +kernel
theorem dX8_compareWith_53 : decode cX8_compareWith 53 = .ok (.istore 5, 2) := by decide +kernel
theorem dX8_compareWith_55 : decode cX8_compareWith 55 = .ok (.aload_n 0, 1) := by decide +kernel
theorem dX8_compareWith_56 : decode cX8_compareWith 56 = .ok (.getfield 9, 3) := by decide +kernel
theorem dX8_compareWith_59 : decode cX8_compareWith 59 = .ok (.iload 4, 2) := by decide +kernel
theorem dX8_compareWith_61 : decode cX8_compareWith 61 = .ok (.iaload, 1) := by decide +kernel
theorem dX8_compareWith_62 : decode cX8_compareWith 62 = .ok (.iload 5, 2) := by decide +kernel
theorem dX8_compareWith_64 : decode cX8_compareWith 64 = .ok (.if_icmp .eq 6, 3) := by decide +kernel
theorem dX8_compareWith_67 : decode cX8_compareWith 67 = .ok (.iload 4, 2) := by decide +kernel
theorem dX8_compareWith_69 : decode cX8_compareWith 69 = .ok (.ireturn, 1) := by decide +kernel
theorem dX8_compareWith_70 : decode cX8_compareWith 70 = .ok (.iinc 4 1, 3) := by decide +kernel
theorem dX8_compareWith_73 : decode cX8_compareWith 73 = .ok (.goto (-53), 3) := by decide +kernel
theorem dX8_compareWith_76 : decode cX8_compareWith 76 = .ok (.aload_n 0, 1) := by decide +kernel
theorem dX8_compareWith_77 : decode cX8_compareWith 77 = .ok (.getfield 15, 3) := by decide +kernel
theorem dX8_compareWith_80 : decode cX8_compareWith 80 = .ok (.iload_n 2, 1) := by decide +kernel
theorem dX8_compareWith_81 : decode cX8_compareWith 81 = .ok (.if_icmp .ne 8, 3) := by decide +kernel
theorem dX8_compareWith_84 : decode cX8_compareWith 84 = .ok (.bipush (-9), 2) := by decide +kernel
theorem dX8_compareWith_86 : decode cX8_compareWith 86 = .ok (.goto 4, 3) := by decide +kernel
theorem dX8_compareWith_89 : decode cX8_compareWith 89 = .ok (.iload_n 3, 1) := by decide +kernel
theorem dX8_compareWith_90 : decode cX8_compareWith 90 = .ok (.ireturn, 1) := by decide +kernel
theorem dX9_init_0 : decode cX9_init 0 = .ok (.aload_n 0, 1) := by decide +kernel
theorem dX9_init_1 : decode cX9_init 1 = .ok (.invokespecial 3, 3) := by decide +kernel
theorem dX9_init_4 : decode cX9_init 4 = .ok (.aload_n 0, 1) := by decide +kernel
theorem dX9_init_5 : decode cX9_init 5 = .ok (.new 9, 3) := by decide +kernel
theorem dX9_init_8 : decode cX9_init 8 = .ok (.dup, 1) := by decide +kernel
theorem dX9_init_9 : decode cX9_init 9 = .ok (.invokespecial 11, 3) := by decide +kernel
theorem dX9_init_12 : decode cX9_init 12 = .ok (.putfield 12, 3) := by decide +kernel
theorem dX9_init_15 : decode cX9_init 15 = .ok (.aload_n 0, 1) := by decide +kernel
theorem dX9_init_16 : decode cX9_init 16 = .ok (.bipush 16, 2) := by decide +kernel
theorem dX9_init_18 : decode cX9_init 18 = .ok (.newarray .int, 2) := by decide +kernel
theorem dX9_init_20 : decode cX9_init 20 = .ok (.putfield 18, 3) := by decide +kernel
theorem dX9_init_23 : decode cX9_init 23 = .ok (.aload_n 0, 1) := by decide +kernel
theorem dX9_init_24 : decode cX9_init 24 = .ok (.bipush 64, 2) := by decide +kernel
theorem dX9_init_26 : decode cX9_init 26 = .ok (.newarray .int, 2) := by decide +kernel
theorem dX9_init_28 : decode cX9_init 28 = .ok (.putfield 22, 3) := by decide +kernel
theorem dX9_init_31 : decode cX9_init 31 = .ok (.return_, 1) := by decide +kernel
theorem dX9_wholeBy_0 : decode cX9_wholeBy 0 = .ok (.aload_n 0, 1) := by decide +kernel
theorem dX9_wholeBy_1 : decode cX9_wholeBy 1 = .ok (.aload_n 1, 1) := by decide +kernel
theorem dX9_wholeBy_2 : decode cX9_wholeBy 2 = .ok (.iload_n 2, 1) := by decide +kernel
theorem dX9_wholeBy_3 : decode cX9_wholeBy 3 = .ok (.invokevirtual 25, 3) := by decide +kernel
theorem dX9_wholeBy_6 : decode cX9_wholeBy 6 = .ok (.aload_n 0, 1) := by decide +kernel
theorem dX9_wholeBy_7 : decode cX9_wholeBy 7 = .ok (.aload_n 1, 1) := by decide +kernel
theorem dX9_wholeBy_8 : decode cX9_wholeBy 8 = .ok (.getfield 29, 3) := by decide +kernel
theorem dX9_wholeBy_11 : decode cX9_wholeBy 11 = .ok (.invokevirtual 33, 3) := by decide +kernel
theorem dX9_wholeBy_14 : decode cX9_wholeBy 14 = .ok (.aload_n 0, 1) := by decide +kernel
theorem dX9_wholeBy_15 : decode cX9_wholeBy 15 = .ok (.aload_n 1, 1) := by decide +kernel
theorem dX9_wholeBy_16 : decode cX9_wholeBy 16 = .ok (.iload_n 3, 1) := by decide +kernel
theorem dX9_wholeBy_17 : decode cX9_wholeBy 17 = .ok (.iconst 0, 1) := by decide +kernel
theorem dX9_wholeBy_18 : decode cX9_wholeBy 18 = .ok (.iconst 1, 1) := by decide +kernel
theorem dX9_wholeBy_19 : decode cX9_wholeBy 19 = .ok (.aload_n 0, 1) := by decide +kernel
theorem dX9_wholeBy_20 : decode cX9_wholeBy 20 = .ok (.getfield 37, 3) := by decide +kernel
theorem dX9_wholeBy_23 : decode cX9_wholeBy 23 = .ok (.invokevirtual 41, 3) := by decide +kernel
theorem dX9_wholeBy_26 : decode cX9_wholeBy 26 = .ok (.iadd, 1) := by decide +kernel
theorem dX9_wholeBy_27 : decode cX9_wholeBy 27 = .ok (.ireturn, 1) := by decide +kernel
theorem dX9_halfBy_0 : decode cX9_halfBy 0 = .ok (.aload_n 0, 1) := by decide +kernel
theorem dX9_halfBy_1 : decode cX9_halfBy 1 = .ok (.aload_n 1, 1) := by decide +kernel
theorem dX9_halfBy_2 : decode cX9_halfBy 2 = .ok (.iload_n 2, 1) := by decide +kernel
theorem dX9_halfBy_3 : decode cX9_halfBy 3 = .ok (.invokevirtual 25, 3) := by decide +kernel
theorem dX9_halfBy_6 : decode cX9_halfBy 6 = .ok (.aload_n 0, 1) := by decide +kernel
theorem dX9_halfBy_7 : decode cX9_halfBy 7 = .ok (.getfield 37, 3) := by decide +kernel
theorem dX9_halfBy_10 : decode cX9_halfBy 10 = .ok (.iconst 1, 1) := by decide +kernel
theorem dX9_halfBy_11 : decode cX9_halfBy 11 = .ok (.aload_n 0, 1) := by decide +kernel
theorem dX9_halfBy_12 : decode cX9_halfBy 12 = .ok (.getfield 37, 3) := by decide +kernel
theorem dX9_halfBy_15 : decode cX9_halfBy 15 = .ok (.iconst 2, 1) := by decide +kernel
theorem dX9_halfBy_16 : decode cX9_halfBy 16 = .ok (.idiv, 1) := by decide +kernel
theorem dX9_halfBy_17 : decode cX9_halfBy 17 = .ok (.invokestatic 45, 3) := by decide +kernel
theorem dX9_halfBy_20 : decode cX9_halfBy 20 = .ok (.invokestatic 51, 3) := by decide +kernel
theorem dX9_halfBy_23 : decode cX9_halfBy 23 = .ok (.istore 4, 2) := by decide +kernel
theorem dX9_halfBy_25 : decode cX9_halfBy 25 = .ok (.aload_n 0, 1) := by decide +kernel
theorem dX9_halfBy_26 : decode cX9_halfBy 26 = .ok (.aload_n 1, 1) := by decide +kernel
theorem dX9_halfBy_27 : decode cX9_halfBy 27 = .ok (.getfield 29, 3) := by decide +kernel
theorem dX9_halfBy_30 : decode cX9_halfBy 30 = .ok (.invokevirtual 33, 3) := by decide +kernel
theorem dX9_halfBy_33 : decode cX9_halfBy 33 = .ok (.aload_n 0, 1) := by decide +kernel
theorem dX9_halfBy_34 : decode cX9_halfBy 34 = .ok (.aload_n 1, 1) := by decide +kernel
theorem dX9_halfBy_35 : decode cX9_halfBy 35 = .ok (.iload_n 3, 1) := by decide +kernel
theorem dX9_halfBy_36 : decode cX9_halfBy 36 = .ok (.iconst 0, 1) := by decide +kernel
theorem dX9_halfBy_37 : decode cX9_halfBy 37 = .ok (.iconst 1, 1) := by decide +kernel
theorem dX9_halfBy_38 : decode cX9_halfBy 38 = .ok (.iload 4, 2) := by decide +kernel
theorem dX9_halfBy_40 : decode cX9_halfBy 40 = .ok (.invokevirtual 41, 3) := by decide +kernel
theorem dX9_halfBy_43 : decode cX9_halfBy 43 = .ok (.iadd, 1) := by decide +kernel
theorem dX9_halfBy_44 : decode cX9_halfBy 44 = .ok (.ireturn, 1) := by decide +kernel
theorem dX9_together_0 : decode cX9_together 0 = .ok (.aload_n 0, 1) := by decide +kernel
theorem dX9_together_1 : decode cX9_together 1 = .ok (.aload_n 1, 1) := by decide +kernel
theorem dX9_together_2 : decode cX9_together 2 = .ok (.iload_n 2, 1) := by decide +kernel
theorem dX9_together_3 : decode cX9_together 3 = .ok (.invokevirtual 25, 3) := by decide +kernel
theorem dX9_together_6 : decode cX9_together 6 = .ok (.iconst 0, 1) := by decide +kernel
theorem dX9_together_7 : decode cX9_together 7 = .ok (.istore 4, 2) := by decide +kernel
theorem dX9_together_9 : decode cX9_together 9 = .ok (.iconst 0, 1) := by decide +kernel
theorem dX9_together_10 : decode cX9_together 10 = .ok (.istore 5, 2) := by decide +kernel
theorem dX9_together_12 : decode cX9_together 12 = .ok (.iload 5, 2) := by decide +kernel
theorem dX9_together_14 : decode cX9_together 14 = .ok (.iload_n 3, 1) := by decide +kernel
theorem dX9_together_15 : decode cX9_together 15 = .ok (.if_icmp .ge 30, 3) := by decide +kernel
theorem dX9_together_18 : decode cX9_together 18 = .ok (.iload 4, 2) := by decide +kernel
theorem dX9_together_20 : decode cX9_together 20 = .ok (.aload_n 0, 1) := by decide +kernel
theorem dX9_together_21 : decode cX9_together 21 = .ok (.aload_n 1, 1) := by decide +kernel
theorem dX9_together_22 : decode cX9_together 22 = .ok (.iload 5, 2) := by decide +kernel
theorem dX9_together_24 : decode cX9_together 24 = .ok (.iload 5, 2) := by decide +kernel
theorem dX9_together_26 : decode cX9_together 26 = .ok (.iload_n 3, 1) := by decide +kernel
