theorem dX9_together_27 : decode cX9_together 27 = .ok (.aload_n 0, 1) := by decide +kernel
theorem dX9_together_28 : decode cX9_together 28 = .ok (.getfield 37, 3) := by decide +kernel
theorem dX9_together_31 : decode cX9_together 31 = .ok (.invokevirtual 41, 3) := by decide +kernel
theorem dX9_together_34 : decode cX9_together 34 = .ok (.invokestatic 45, 3) := by decide +kernel
theorem dX9_together_37 : decode cX9_together 37 = .ok (.istore 4, 2) := by decide +kernel
theorem dX9_together_39 : decode cX9_together 39 = .ok (.iinc 5 1, 3) := by decide +kernel
theorem dX9_together_42 : decode cX9_together 42 = .ok (.goto (-30), 3) := by decide +kernel
theorem dX9_together_45 : decode cX9_together 45 = .ok (.iload 4, 2) := by decide +kernel
theorem dX9_together_47 : decode cX9_together 47 = .ok (.iload 4, 2) := by decide +kernel
theorem dX9_together_49 : decode cX9_together 49 = .ok (.bipush 10, 2) := by decide +kernel
theorem dX9_together_51 : decode cX9_together 51 = .ok (.idiv, 1) := by decide +kernel
theorem dX9_together_52 : decode cX9_together 52 = .ok (.iconst 0, 1) := by decide +kernel
theorem dX9_together_53 : decode cX9_together 53 = .ok (.iload_n 3, 1) := by decide +kernel
theorem dX9_together_54 : decode cX9_together 54 = .ok (.iconst 3, 1) := by decide +kernel
theorem dX9_together_55 : decode cX9_together 55 = .ok (.isub, 1) := by decide +kernel
theorem dX9_together_56 : decode cX9_together 56 = .ok (.invokestatic 45, 3) := by decide +kernel
theorem dX9_together_59 : decode cX9_together 59 = .ok (.imul, 1) := by decide +kernel
theorem dX9_together_60 : decode cX9_together 60 = .ok (.iadd, 1) := by decide +kernel
theorem dX9_together_61 : decode cX9_together 61 = .ok (.aload_n 0, 1) := by decide +kernel
theorem dX9_together_62 : decode cX9_together 62 = .ok (.aload_n 1, 1) := by decide +kernel
theorem dX9_together_63 : decode cX9_together 63 = .ok (.getfield 29, 3) := by decide +kernel
theorem dX9_together_66 : decode cX9_together 66 = .ok (.invokevirtual 33, 3) := by decide +kernel
theorem dX9_together_69 : decode cX9_together 69 = .ok (.iadd, 1) := by decide +kernel
theorem dX9_together_70 : decode cX9_together 70 = .ok (.ireturn, 1) := by decide +kernel
theorem dX9_begin_0 : decode cX9_begin 0 = .ok (.aload_n 0, 1) := by decide +kernel
theorem dX9_begin_1 : decode cX9_begin 1 = .ok (.getfield 12, 3) := by decide +kernel
theorem dX9_begin_4 : decode cX9_begin 4 = .ok (.aload_n 1, 1) := by decide +kernel
theorem dX9_begin_5 : decode cX9_begin 5 = .ok (.invokevirtual 54, 3) := by decide +kernel
theorem dX9_begin_8 : decode cX9_begin 8 = .ok (.aload_n 0, 1) := by decide +kernel
theorem dX9_begin_9 : decode cX9_begin 9 = .ok (.iload_n 2, 1) := by decide +kernel
theorem dX9_begin_10 : decode cX9_begin 10 = .ok (.putfield 58, 3) := by decide +kernel
theorem dX9_begin_13 : decode cX9_begin 13 = .ok (.aload_n 0, 1) := by decide +kernel
theorem dX9_begin_14 : decode cX9_begin 14 = .ok (.iconst 0, 1) := by decide +kernel
theorem dX9_begin_15 : decode cX9_begin 15 = .ok (.putfield 37, 3) := by decide +kernel
theorem dX9_begin_18 : decode cX9_begin 18 = .ok (.aload_n 0, 1) := by decide +kernel
theorem dX9_begin_19 : decode cX9_begin 19 = .ok (.getfield 58, 3) := by decide +kernel
theorem dX9_begin_22 : decode cX9_begin 22 = .ok (.iconst 1, 1) := by decide +kernel
theorem dX9_begin_23 : decode cX9_begin 23 = .ok (.if_icmp .ne 18, 3) := by decide +kernel
theorem dX9_begin_26 : decode cX9_begin 26 = .ok (.aload_n 0, 1) := by decide +kernel
theorem dX9_begin_27 : decode cX9_begin 27 = .ok (.iconst 1, 1) := by decide +kernel
theorem dX9_begin_28 : decode cX9_begin 28 = .ok (.iconst 0, 1) := by decide +kernel
theorem dX9_begin_29 : decode cX9_begin 29 = .ok (.invokevirtual 61, 3) := by decide +kernel
theorem dX9_begin_32 : decode cX9_begin 32 = .ok (.aload_n 0, 1) := by decide +kernel
theorem dX9_begin_33 : decode cX9_begin 33 = .ok (.iconst 0, 1) := by decide +kernel
theorem dX9_begin_34 : decode cX9_begin 34 = .ok (.iconst 1, 1) := by decide +kernel
theorem dX9_begin_35 : decode cX9_begin 35 = .ok (.invokevirtual 61, 3) := by decide +kernel
theorem dX9_begin_38 : decode cX9_begin 38 = .ok (.goto 9, 3) := by decide +kernel
theorem dX9_begin_41 : decode cX9_begin 41 = .ok (.aload_n 0, 1) := by decide +kernel
theorem dX9_begin_42 : decode cX9_begin 42 = .ok (.iconst 1, 1) := by decide +kernel
theorem dX9_begin_43 : decode cX9_begin 43 = .ok (.iconst 1, 1) := by decide +kernel
theorem dX9_begin_44 : decode cX9_begin 44 = .ok (.invokevirtual 61, 3) := by decide +kernel
theorem dX9_begin_47 : decode cX9_begin 47 = .ok (.return_, 1) := by decide +kernel
theorem dX9_addCells_0 : decode cX9_addCells 0 = .ok (.iconst 0, 1) := by decide +kernel
theorem dX9_addCells_1 : decode cX9_addCells 1 = .ok (.istore_n 3, 1) := by decide +kernel
theorem dX9_addCells_2 : decode cX9_addCells 2 = .ok (.iload_n 3, 1) := by decide +kernel
theorem dX9_addCells_3 : decode cX9_addCells 3 = .ok (.aload_n 0, 1) := by decide +kernel
theorem dX9_addCells_4 : decode cX9_addCells 4 = .ok (.getfield 12, 3) := by decide +kernel
theorem dX9_addCells_7 : decode cX9_addCells 7 = .ok (.getfield 65, 3) := by decide +kernel
theorem dX9_addCells_10 : decode cX9_addCells 10 = .ok (.getfield 69, 3) := by decide +kernel
theorem dX9_addCells_13 : decode cX9_addCells 13 = .ok (.if_icmp .ge 70, 3) := by decide +kernel
theorem dX9_addCells_16 : decode cX9_addCells 16 = .ok (.aload_n 0, 1) := by decide +kernel
theorem dX9_addCells_17 : decode cX9_addCells 17 = .ok (.getfield 12, 3) := by decide +kernel
theorem dX9_addCells_20 : decode cX9_addCells 20 = .ok (.getfield 65, 3) := by decide +kernel
theorem dX9_addCells_23 : decode cX9_addCells 23 = .ok (.getfield 74, 3) := by decide +kernel
theorem dX9_addCells_26 : decode cX9_addCells 26 = .ok (.iload_n 3, 1) := by decide +kernel
theorem dX9_addCells_27 : decode cX9_addCells 27 = .ok (.baload, 1) := by decide +kernel
theorem dX9_addCells_28 : decode cX9_addCells 28 = .ok (.ifCond .eq 7, 3) := by decide +kernel
theorem dX9_addCells_31 : decode cX9_addCells 31 = .ok (.iload_n 1, 1) := by decide +kernel
theorem dX9_addCells_32 : decode cX9_addCells 32 = .ok (.goto 4, 3) := by decide +kernel
theorem dX9_addCells_35 : decode cX9_addCells 35 = .ok (.iload_n 2, 1) := by decide +kernel
theorem dX9_addCells_36 : decode cX9_addCells 36 = .ok (.istore 4, 2) := by decide +kernel
theorem dX9_addCells_38 : decode cX9_addCells 38 = .ok (.iload 4, 2) := by decide +kernel
theorem dX9_addCells_40 : decode cX9_addCells 40 = .ok (.ifCond .eq 37, 3) := by decide +kernel
theorem dX9_addCells_43 : decode cX9_addCells 43 = .ok (.aload_n 0, 1) := by decide +kernel
theorem dX9_addCells_44 : decode cX9_addCells 44 = .ok (.getfield 12, 3) := by decide +kernel
theorem dX9_addCells_47 : decode cX9_addCells 47 = .ok (.getfield 29, 3) := by decide +kernel
theorem dX9_addCells_50 : decode cX9_addCells 50 = .ok (.iload_n 3, 1) := by decide +kernel
theorem dX9_addCells_51 : decode cX9_addCells 51 = .ok (.invokevirtual 78, 3) := by decide +kernel
theorem dX9_addCells_54 : decode cX9_addCells 54 = .ok (.ifCond .ne 23, 3) := by decide +kernel
theorem dX9_addCells_57 : decode cX9_addCells 57 = .ok (.aload_n 0, 1) := by decide +kernel
theorem dX9_addCells_58 : decode cX9_addCells 58 = .ok (.getfield 18, 3) := by decide +kernel
theorem dX9_addCells_61 : decode cX9_addCells 61 = .ok (.aload_n 0, 1) := by decide +kernel
theorem dX9_addCells_62 : decode cX9_addCells 62 = .ok (.getfield 37, 3) := by decide +kernel
theorem dX9_addCells_65 : decode cX9_addCells 65 = .ok (.iload_n 3, 1) := by decide +kernel
theorem dX9_addCells_66 : decode cX9_addCells 66 = .ok (.iastore, 1) := by decide +kernel
theorem dX9_addCells_67 : decode cX9_addCells 67 = .ok (.aload_n 0, 1) := by decide +kernel
theorem dX9_addCells_68 : decode cX9_addCells 68 = .ok (.dup, 1) := by decide +kernel
theorem dX9_addCells_69 : decode cX9_addCells 69 = .ok (.getfield 37, 3) := by decide +kernel
theorem dX9_addCells_72 : decode cX9_addCells 72 = .ok (.iconst 1, 1) := by decide +kernel
theorem dX9_addCells_73 : decode cX9_addCells 73 = .ok (.iadd, 1) := by decide +kernel
theorem dX9_addCells_74 : decode cX9_addCells 74 = .ok (.putfield 37, 3) := by decide +kernel
theorem dX9_addCells_77 : decode cX9_addCells 77 = .ok (.iinc 3 1, 3) := by decide +kernel
theorem dX9_addCells_80 : decode cX9_addCells 80 = .ok (.goto (-78), 3) := by decide +kernel
theorem dX9_addCells_83 : decode cX9_addCells 83 = .ok (.return_, 1) := by decide +kernel
theorem dX9_sortingCost_0 : decode cX9_sortingCost 0 = .ok (.aload_n 0, 1) := by decide +kernel
theorem dX9_sortingCost_1 : decode cX9_sortingCost 1 = .ok (.getfield 58, 3) := by decide +kernel
theorem dX9_sortingCost_4 : decode cX9_sortingCost 4 = .ok (.iconst 2, 1) := by decide +kernel
theorem dX9_sortingCost_5 : decode cX9_sortingCost 5 = .ok (.if_icmp .ne 7, 3) := by decide +kernel
theorem dX9_sortingCost_8 : decode cX9_sortingCost 8 = .ok (.iconst 2, 1) := by decide +kernel
theorem dX9_sortingCost_9 : decode cX9_sortingCost 9 = .ok (.goto 24, 3) := by decide +kernel
theorem dX9_sortingCost_12 : decode cX9_sortingCost 12 = .ok (.aload_n 0, 1) := by decide +kernel
theorem dX9_sortingCost_13 : decode cX9_sortingCost 13 = .ok (.getfield 58, 3) := by decide +kernel
theorem dX9_sortingCost_16 : decode cX9_sortingCost 16 = .ok (.iconst 3, 1) := by decide +kernel
theorem dX9_sortingCost_17 : decode cX9_sortingCost 17 = .ok (.if_icmp .eq 11, 3) := by decide +kernel
theorem dX9_sortingCost_20 : decode cX9_sortingCost 20 = .ok (.aload_n 0, 1) := by decide +kernel
theorem dX9_sortingCost_21 : decode cX9_sortingCost 21 = .ok (.getfield 58, 3) := by decide +kernel
theorem dX9_sortingCost_24 : decode cX9_sortingCost 24 = .ok (.iconst 4, 1) := by decide +kernel
theorem dX9_sortingCost_25 : decode cX9_sortingCost 25 = .ok (.if_icmp .ne 7, 3) := by decide +kernel
theorem dX9_sortingCost_28 : decode cX9_sortingCost 28 = .ok (.iconst 3, 1) := by decide +kernel
theorem dX9_sortingCost_29 : decode cX9_sortingCost 29 = .ok (.goto 4, 3) := by decide +kernel
theorem dX9_sortingCost_32 : decode cX9_sortingCost 32 = .ok (.iconst 0, 1) := by decide +kernel
theorem dX9_sortingCost_33 : decode cX9_sortingCost 33 = .ok (.istore_n 2, 1) := by decide +kernel
theorem dX9_sortingCost_34 : decode cX9_sortingCost 34 = .ok (.iconst 0, 1) := by decide +kernel
theorem dX9_sortingCost_35 : decode cX9_sortingCost 35 = .ok (.istore_n 3, 1) := by decide +kernel
theorem dX9_sortingCost_36 : decode cX9_sortingCost 36 = .ok (.iconst 0, 1) := by decide +kernel
theorem dX9_sortingCost_37 : decode cX9_sortingCost 37 = .ok (.istore 4, 2) := by decide +kernel
theorem dX9_sortingCost_39 : decode cX9_sortingCost 39 = .ok (.iload 4, 2) := by decide +kernel
theorem dX9_sortingCost_41 : decode cX9_sortingCost 41 = .ok (.aload_n 0, 1) := by decide +kernel
theorem dX9_sortingCost_42 : decode cX9_sortingCost 42 = .ok (.getfield 12, 3) := by decide +kernel
theorem dX9_sortingCost_45 : decode cX9_sortingCost 45 = .ok (.getfield 65, 3) := by decide +kernel
theorem dX9_sortingCost_48 : decode cX9_sortingCost 48 = .ok (.getfield 69, 3) := by decide +kernel
theorem dX9_sortingCost_51 : decode cX9_sortingCost 51 = .ok (.if_icmp .ge 22, 3) := by decide +kernel
theorem dX9_sortingCost_54 : decode cX9_sortingCost 54 = .ok (.aload_n 1, 1) := by decide +kernel
theorem dX9_sortingCost_55 : decode cX9_sortingCost 55 = .ok (.iload 4, 2) := by decide +kernel
theorem dX9_sortingCost_57 : decode cX9_sortingCost 57 = .ok (.invokevirtual 84, 3) := by decide +kernel
theorem dX9_sortingCost_60 : decode cX9_sortingCost 60 = .ok (.ifCond .ne 7, 3) := by decide +kernel
theorem dX9_sortingCost_63 : decode cX9_sortingCost 63 = .ok (.iload_n 3, 1) := by decide +kernel
theorem dX9_sortingCost_64 : decode cX9_sortingCost 64 = .ok (.iload_n 2, 1) := by decide +kernel
theorem dX9_sortingCost_65 : decode cX9_sortingCost 65 = .ok (.iadd, 1) := by decide +kernel
theorem dX9_sortingCost_66 : decode cX9_sortingCost 66 = .ok (.istore_n 3, 1) := by decide +kernel
theorem dX9_sortingCost_67 : decode cX9_sortingCost 67 = .ok (.iinc 4 1, 3) := by decide +kernel
theorem dX9_sortingCost_70 : decode cX9_sortingCost 70 = .ok (.goto (-31), 3) := by decide +kernel
theorem dX9_sortingCost_73 : decode cX9_sortingCost 73 = .ok (.iload_n 3, 1) := by decide +kernel
theorem dX9_sortingCost_74 : decode cX9_sortingCost 74 = .ok (.ireturn, 1) := by decide +kernel
theorem dX9_share_0 : decode cX9_share 0 = .ok (.iconst 0, 1) := by decide +kernel
theorem dX9_share_1 : decode cX9_share 1 = .ok (.istore 6, 2) := by decide +kernel
theorem dX9_share_3 : decode cX9_share 3 = .ok (.aload_n 0, 1) := by decide +kernel
theorem dX9_share_4 : decode cX9_share 4 = .ok (.getfield 12, 3) := by decide +kernel
theorem dX9_share_7 : decode cX9_share 7 = .ok (.getfield 29, 3) := by decide +kernel
theorem dX9_share_10 : decode cX9_share 10 = .ok (.aload_n 1, 1) := by decide +kernel
theorem dX9_share_11 : decode cX9_share 11 = .ok (.getfield 29, 3) := by decide +kernel
theorem dX9_share_14 : decode cX9_share 14 = .ok (.invokevirtual 87, 3) := by decide +kernel
theorem dX9_share_17 : decode cX9_share 17 = .ok (.iload_n 3, 1) := by decide +kernel
theorem dX9_share_18 : decode cX9_share 18 = .ok (.istore 7, 2) := by decide +kernel
theorem dX9_share_20 : decode cX9_share 20 = .ok (.iload 7, 2) := by decide +kernel
theorem dX9_share_22 : decode cX9_share 22 = .ok (.iload 5, 2) := by decide +kernel
theorem dX9_share_24 : decode cX9_share 24 = .ok (.if_icmp .ge 34, 3) := by decide +kernel
theorem dX9_share_27 : decode cX9_share 27 = .ok (.iload 6, 2) := by decide +kernel
theorem dX9_share_29 : decode cX9_share 29 = .ok (.aload_n 0, 1) := by decide +kernel
theorem dX9_share_30 : decode cX9_share 30 = .ok (.iload_n 2, 1) := by decide +kernel
theorem dX9_share_31 : decode cX9_share 31 = .ok (.aload_n 0, 1) := by decide +kernel
theorem dX9_share_32 : decode cX9_share 32 = .ok (.getfield 18, 3) := by decide +kernel
theorem dX9_share_35 : decode cX9_share 35 = .ok (.iload 7, 2) := by decide +kernel
theorem dX9_share_37 : decode cX9_share 37 = .ok (.iaload, 1) := by decide +kernel
theorem dX9_share_38 : decode cX9_share 38 = .ok (.invokevirtual 90, 3) := by decide +kernel
theorem dX9_share_41 : decode cX9_share 41 = .ok (.iadd, 1) := by decide +kernel
theorem dX9_share_42 : decode cX9_share 42 = .ok (.istore 6, 2) := by decide +kernel
theorem dX9_share_44 : decode cX9_share 44 = .ok (.iload 7, 2) := by decide +kernel
theorem dX9_share_46 : decode cX9_share 46 = .ok (.iconst 1, 1) := by decide +kernel
theorem dX9_share_47 : decode cX9_share 47 = .ok (.iload 4, 2) := by decide +kernel
theorem dX9_share_49 : decode cX9_share 49 = .ok (.invokestatic 45, 3) := by decide +kernel
theorem dX9_share_52 : decode cX9_share 52 = .ok (.iadd, 1) := by decide +kernel
theorem dX9_share_53 : decode cX9_share 53 = .ok (.istore 7, 2) := by decide +kernel
theorem dX9_share_55 : decode cX9_share 55 = .ok (.goto (-35), 3) := by decide +kernel
theorem dX9_share_58 : decode cX9_share 58 = .ok (.iload 6, 2) := by decide +kernel
theorem dX9_share_60 : decode cX9_share 60 = .ok (.ireturn, 1) := by decide +kernel
theorem dX9_fillCell_0 : decode cX9_fillCell 0 = .ok (.iconst 0, 1) := by decide +kernel
theorem dX9_fillCell_1 : decode cX9_fillCell 1 = .ok (.istore_n 3, 1) := by decide +kernel
theorem dX9_fillCell_2 : decode cX9_fillCell 2 = .ok (.aload_n 0, 1) := by decide +kernel
theorem dX9_fillCell_3 : decode cX9_fillCell 3 = .ok (.iconst 0, 1) := by decide +kernel
theorem dX9_fillCell_4 : decode cX9_fillCell 4 = .ok (.putfield 93, 3) := by decide +kernel
theorem dX9_fillCell_7 : decode cX9_fillCell 7 = .ok (.iconst 0, 1) := by decide +kernel
theorem dX9_fillCell_8 : decode cX9_fillCell 8 = .ok (.istore 4, 2) := by decide +kernel
theorem dX9_fillCell_10 : decode cX9_fillCell 10 = .ok (.iload 4, 2) := by decide +kernel
theorem dX9_fillCell_12 : decode cX9_fillCell 12 = .ok (.aload_n 0, 1) := by decide +kernel
theorem dX9_fillCell_13 : decode cX9_fillCell 13 = .ok (.getfield 12, 3) := by decide +kernel
theorem dX9_fillCell_16 : decode cX9_fillCell 16 = .ok (.getfield 65, 3) := by decide +kernel
theorem dX9_fillCell_19 : decode cX9_fillCell 19 = .ok (.getfield 69, 3) := by decide +kernel
theorem dX9_fillCell_22 : decode cX9_fillCell 22 = .ok (.if_icmp .ge 165, 3) := by decide +kernel
theorem dX9_fillCell_25 : decode cX9_fillCell 25 = .ok (.aload_n 0, 1) := by decide +kernel
theorem dX9_fillCell_26 : decode cX9_fillCell 26 = .ok (.getfield 12, 3) := by decide +kernel
theorem dX9_fillCell_29 : decode cX9_fillCell 29 = .ok (.getfield 29, 3) := by decide +kernel
theorem dX9_fillCell_32 : decode cX9_fillCell 32 = .ok (.iload 4, 2) := by decide +kernel
theorem dX9_fillCell_34 : decode cX9_fillCell 34 = .ok (.invokevirtual 84, 3) := by decide +kernel
theorem dX9_fillCell_37 : decode cX9_fillCell 37 = .ok (.ifCond .ne 144, 3) := by decide +kernel
theorem dX9_fillCell_40 : decode cX9_fillCell 40 = .ok (.aload_n 0, 1) := by decide +kernel
theorem dX9_fillCell_41 : decode cX9_fillCell 41 = .ok (.iload 4, 2) := by decide +kernel
theorem dX9_fillCell_43 : decode cX9_fillCell 43 = .ok (.iload_n 2, 1) := by decide +kernel
theorem dX9_fillCell_44 : decode cX9_fillCell 44 = .ok (.invokevirtual 96, 3) := by decide +kernel
theorem dX9_fillCell_47 : decode cX9_fillCell 47 = .ok (.ifCond .ne 6, 3) := by decide +kernel
theorem dX9_fillCell_50 : decode cX9_fillCell 50 = .ok (.goto 131, 3) := by decide +kernel
theorem dX9_fillCell_53 : decode cX9_fillCell 53 = .ok (.iconst 0, 1) := by decide +kernel
theorem dX9_fillCell_54 : decode cX9_fillCell 54 = .ok (.istore 5, 2) := by decide +kernel
theorem dX9_fillCell_56 : decode cX9_fillCell 56 = .ok (.iload 5, 2) := by decide +kernel
theorem dX9_fillCell_58 : decode cX9_fillCell 58 = .ok (.iconst 4, 1) := by decide +kernel
theorem dX9_fillCell_59 : decode cX9_fillCell 59 = .ok (.if_icmp .ge 122, 3) := by decide +kernel
theorem dX9_fillCell_62 : decode cX9_fillCell 62 = .ok (.aload_n 0, 1) := by decide +kernel
theorem dX9_fillCell_63 : decode cX9_fillCell 63 = .ok (.getfield 58, 3) := by decide +kernel
theorem dX9_fillCell_66 : decode cX9_fillCell 66 = .ok (.iconst 4, 1) := by decide +kernel
theorem dX9_fillCell_67 : decode cX9_fillCell 67 = .ok (.if_icmp .ne 17, 3) := by decide +kernel
theorem dX9_fillCell_70 : decode cX9_fillCell 70 = .ok (.aload_n 0, 1) := by decide +kernel
theorem dX9_fillCell_71 : decode cX9_fillCell 71 = .ok (.iload 4, 2) := by decide +kernel
theorem dX9_fillCell_73 : decode cX9_fillCell 73 = .ok (.iload 5, 2) := by decide +kernel
theorem dX9_fillCell_75 : decode cX9_fillCell 75 = .ok (.invokevirtual 100, 3) := by decide +kernel
theorem dX9_fillCell_78 : decode cX9_fillCell 78 = .ok (.ifCond .eq 6, 3) := by decide +kernel
theorem dX9_fillCell_81 : decode cX9_fillCell 81 = .ok (.goto 94, 3) := by decide +kernel
theorem dX9_fillCell_84 : decode cX9_fillCell 84 = .ok (.aload_n 0, 1) := by decide +kernel
theorem dX9_fillCell_85 : decode cX9_fillCell 85 = .ok (.getfield 12, 3) := by decide +kernel
theorem dX9_fillCell_88 : decode cX9_fillCell 88 = .ok (.getfield 65, 3) := by decide +kernel
theorem dX9_fillCell_91 : decode cX9_fillCell 91 = .ok (.aload_n 0, 1) := by decide +kernel
theorem dX9_fillCell_92 : decode cX9_fillCell 92 = .ok (.getfield 12, 3) := by decide +kernel
theorem dX9_fillCell_95 : decode cX9_fillCell 95 = .ok (.getfield 29, 3) := by decide +kernel
theorem dX9_fillCell_98 : decode cX9_fillCell 98 = .ok (.iload 4, 2) := by decide +kernel
theorem dX9_fillCell_100 : decode cX9_fillCell 100 = .ok (.iload 5, 2) := by decide +kernel
theorem dX9_fillCell_102 : decode cX9_fillCell 102 = .ok (.iload_n 2, 1) := by decide +kernel
theorem dX9_fillCell_103 : decode cX9_fillCell 103 = .ok (.invokevirtual 103, 3) := by decide +kernel
theorem dX9_fillCell_106 : decode cX9_fillCell 106 = .ok (.istore 6, 2) := by decide +kernel
theorem dX9_fillCell_108 : decode cX9_fillCell 108 = .ok (.iload_n 3, 1) := by decide +kernel
theorem dX9_fillCell_109 : decode cX9_fillCell 109 = .ok (.aload_n 0, 1) := by decide +kernel
theorem dX9_fillCell_110 : decode cX9_fillCell 110 = .ok (.getfield 12, 3) := by decide +kernel
theorem dX9_fillCell_113 : decode cX9_fillCell 113 = .ok (.iload_n 1, 1) := by decide +kernel
theorem dX9_fillCell_114 : decode cX9_fillCell 114 = .ok (.iload 4, 2) := by decide +kernel
theorem dX9_fillCell_116 : decode cX9_fillCell 116 = .ok (.iload_n 2, 1) := by decide +kernel
theorem dX9_fillCell_117 : decode cX9_fillCell 117 = .ok (.iload 6, 2) := by decide +kernel
theorem dX9_fillCell_119 : decode cX9_fillCell 119 = .ok (.invokevirtual 107, 3) := by decide +kernel
theorem dX9_fillCell_122 : decode cX9_fillCell 122 = .ok (.iadd, 1) := by decide +kernel
theorem dX9_fillCell_123 : decode cX9_fillCell 123 = .ok (.istore_n 3, 1) := by decide +kernel
theorem dX9_fillCell_124 : decode cX9_fillCell 124 = .ok (.iload 4, 2) := by decide +kernel
theorem dX9_fillCell_126 : decode cX9_fillCell 126 = .ok (.iload_n 2, 1) := by decide +kernel
theorem dX9_fillCell_127 : decode cX9_fillCell 127 = .ok (.if_icmp .ne 26, 3) := by decide +kernel
theorem dX9_fillCell_130 : decode cX9_fillCell 130 = .ok (.iload 5, 2) := by decide +kernel
theorem dX9_fillCell_132 : decode cX9_fillCell 132 = .ok (.ifCond .ne 21, 3) := by decide +kernel
theorem dX9_fillCell_135 : decode cX9_fillCell 135 = .ok (.aload_n 0, 1) := by decide +kernel
theorem dX9_fillCell_136 : decode cX9_fillCell 136 = .ok (.getfield 12, 3) := by decide +kernel
theorem dX9_fillCell_139 : decode cX9_fillCell 139 = .ok (.getfield 29, 3) := by decide +kernel
theorem dX9_fillCell_142 : decode cX9_fillCell 142 = .ok (.iload_n 2, 1) := by decide +kernel
theorem dX9_fillCell_143 : decode cX9_fillCell 143 = .ok (.iload 4, 2) := by decide +kernel
theorem dX9_fillCell_145 : decode cX9_fillCell 145 = .ok (.iload 5, 2) := by decide +kernel
theorem dX9_fillCell_147 : decode cX9_fillCell 147 = .ok (.iload_n 1, 1) := by decide +kernel
theorem dX9_fillCell_148 : decode cX9_fillCell 148 = .ok (.invokevirtual 111, 3) := by decide +kernel
theorem dX9_fillCell_151 : decode cX9_fillCell 151 = .ok (.iload_n 3, 1) := by decide +kernel
theorem dX9_fillCell_152 : decode cX9_fillCell 152 = .ok (.ireturn, 1) := by decide +kernel
theorem dX9_fillCell_153 : decode cX9_fillCell 153 = .ok (.aload_n 0, 1) := by decide +kernel
theorem dX9_fillCell_154 : decode cX9_fillCell 154 = .ok (.getfield 58, 3) := by decide +kernel
theorem dX9_fillCell_157 : decode cX9_fillCell 157 = .ok (.iconst 4, 1) := by decide +kernel
theorem dX9_fillCell_158 : decode cX9_fillCell 158 = .ok (.if_icmp .ne 17, 3) := by decide +kernel
theorem dX9_fillCell_161 : decode cX9_fillCell 161 = .ok (.iload 6, 2) := by decide +kernel
theorem dX9_fillCell_163 : decode cX9_fillCell 163 = .ok (.iconst 3, 1) := by decide +kernel
theorem dX9_fillCell_164 : decode cX9_fillCell 164 = .ok (.if_icmp .lt 11, 3) := by decide +kernel
theorem dX9_fillCell_167 : decode cX9_fillCell 167 = .ok (.aload_n 0, 1) := by decide +kernel
theorem dX9_fillCell_168 : decode cX9_fillCell 168 = .ok (.iload 4, 2) := by decide +kernel
theorem dX9_fillCell_170 : decode cX9_fillCell 170 = .ok (.iload 5, 2) := by decide +kernel
theorem dX9_fillCell_172 : decode cX9_fillCell 172 = .ok (.invokevirtual 115, 3) := by decide +kernel
theorem dX9_fillCell_175 : decode cX9_fillCell 175 = .ok (.iinc 5 1, 3) := by decide +kernel
theorem dX9_fillCell_178 : decode cX9_fillCell 178 = .ok (.goto (-122), 3) := by decide +kernel
theorem dX9_fillCell_181 : decode cX9_fillCell 181 = .ok (.iinc 4 1, 3) := by decide +kernel
theorem dX9_fillCell_184 : decode cX9_fillCell 184 = .ok (.goto (-174), 3) := by decide +kernel
theorem dX9_fillCell_187 : decode cX9_fillCell 187 = .ok (.iload_n 3, 1) := by decide +kernel
theorem dX9_fillCell_188 : decode cX9_fillCell 188 = .ok (.ireturn, 1) := by decide +kernel
theorem dX9_isChosen_0 : decode cX9_isChosen 0 = .ok (.aload_n 0, 1) := by decide +kernel
theorem dX9_isChosen_1 : decode cX9_isChosen 1 = .ok (.getfield 12, 3) := by decide +kernel
theorem dX9_isChosen_4 : decode cX9_isChosen 4 = .ok (.getfield 65, 3) := by decide +kernel
theorem dX9_isChosen_7 : decode cX9_isChosen 7 = .ok (.astore_n 3, 1) := by decide +kernel
theorem dX9_isChosen_8 : decode cX9_isChosen 8 = .ok (.aload_n 0, 1) := by decide +kernel
theorem dX9_isChosen_9 : decode cX9_isChosen 9 = .ok (.getfield 58, 3) := by decide +kernel
theorem dX9_isChosen_12 : decode cX9_isChosen 12 = .ok (.tableswitch 96 1 4 #[32, 56, 77, 77], 32) := by decide +kernel
theorem dX9_isChosen_44 : decode cX9_isChosen 44 = .ok (.aload_n 3, 1) := by decide +kernel
theorem dX9_isChosen_45 : decode cX9_isChosen 45 = .ok (.getfield 74, 3) := by decide +kernel
theorem dX9_isChosen_48 : decode cX9_isChosen 48 = .ok (.iload_n 1, 1) := by decide +kernel
theorem dX9_isChosen_49 : decode cX9_isChosen 49 = .ok (.baload, 1) := by decide +kernel
theorem dX9_isChosen_50 : decode cX9_isChosen 50 = .ok (.ifCond .ne 12, 3) := by decide +kernel
theorem dX9_isChosen_53 : decode cX9_isChosen 53 = .ok (.aload_n 3, 1) := by decide +kernel
theorem dX9_isChosen_54 : decode cX9_isChosen 54 = .ok (.getfield 74, 3) := by decide +kernel
theorem dX9_isChosen_57 : decode cX9_isChosen 57 = .ok (.iload_n 2, 1) := by decide +kernel
theorem dX9_isChosen_58 : decode cX9_isChosen 58 = .ok (.baload, 1) := by decide +kernel
theorem dX9_isChosen_59 : decode cX9_isChosen 59 = .ok (.ifCond .ne 7, 3) := by decide +kernel
theorem dX9_isChosen_62 : decode cX9_isChosen 62 = .ok (.iconst 1, 1) := by decide +kernel
theorem dX9_isChosen_63 : decode cX9_isChosen 63 = .ok (.goto 4, 3) := by decide +kernel
theorem dX9_isChosen_66 : decode cX9_isChosen 66 = .ok (.iconst 0, 1) := by decide +kernel
theorem dX9_isChosen_67 : decode cX9_isChosen 67 = .ok (.ireturn, 1) := by decide +kernel
theorem dX9_isChosen_68 : decode cX9_isChosen 68 = .ok (.aload_n 3, 1) := by decide +kernel
theorem dX9_isChosen_69 : decode cX9_isChosen 69 = .ok (.getfield 119, 3) := by decide +kernel
theorem dX9_isChosen_72 : decode cX9_isChosen 72 = .ok (.iload_n 1, 1) := by decide +kernel
theorem dX9_isChosen_73 : decode cX9_isChosen 73 = .ok (.iaload, 1) := by decide +kernel
theorem dX9_isChosen_74 : decode cX9_isChosen 74 = .ok (.aload_n 3, 1) := by decide +kernel
theorem dX9_isChosen_75 : decode cX9_isChosen 75 = .ok (.getfield 119, 3) := by decide +kernel
theorem dX9_isChosen_78 : decode cX9_isChosen 78 = .ok (.iload_n 2, 1) := by decide +kernel
theorem dX9_isChosen_79 : decode cX9_isChosen 79 = .ok (.iaload, 1) := by decide +kernel
theorem dX9_isChosen_80 : decode cX9_isChosen 80 = .ok (.if_icmp .ne 7, 3) := by decide +kernel
theorem dX9_isChosen_83 : decode cX9_isChosen 83 = .ok (.iconst 1, 1) := by decide +kernel
theorem dX9_isChosen_84 : decode cX9_isChosen 84 = .ok (.goto 4, 3) := by decide +kernel
theorem dX9_isChosen_87 : decode cX9_isChosen 87 = .ok (.iconst 0, 1) := by decide +kernel
theorem dX9_isChosen_88 : decode cX9_isChosen 88 = .ok (.ireturn, 1) := by decide +kernel
theorem dX9_isChosen_89 : decode cX9_isChosen 89 = .ok (.aload_n 3, 1) := by decide +kernel
theorem dX9_isChosen_90 : decode cX9_isChosen 90 = .ok (.iload_n 1, 1) := by decide +kernel
theorem dX9_isChosen_91 : decode cX9_isChosen 91 = .ok (.invokevirtual 122, 3) := by decide +kernel
theorem dX9_isChosen_94 : decode cX9_isChosen 94 = .ok (.aload_n 3, 1) := by decide +kernel
theorem dX9_isChosen_95 : decode cX9_isChosen 95 = .ok (.iload_n 2, 1) := by decide +kernel
theorem dX9_isChosen_96 : decode cX9_isChosen 96 = .ok (.invokevirtual 122, 3) := by decide +kernel
theorem dX9_isChosen_99 : decode cX9_isChosen 99 = .ok (.if_icmp .ne 7, 3) := by decide +kernel
theorem dX9_isChosen_102 : decode cX9_isChosen 102 = .ok (.iconst 1, 1) := by decide +kernel
theorem dX9_isChosen_103 : decode cX9_isChosen 103 = .ok (.goto 4, 3) := by decide +kernel
theorem dX9_isChosen_106 : decode cX9_isChosen 106 = .ok (.iconst 0, 1) := by decide +kernel
theorem dX9_isChosen_107 : decode cX9_isChosen 107 = .ok (.ireturn, 1) := by decide +kernel
theorem dX9_isChosen_108 : decode cX9_isChosen 108 = .ok (.iconst 1, 1) := by decide +kernel
theorem dX9_isChosen_109 : decode cX9_isChosen 109 = .ok (.ireturn, 1) := by decide +kernel
theorem dX9_mark_0 : decode cX9_mark 0 = .ok (.aload_n 0, 1) := by decide +kernel
theorem dX9_mark_1 : decode cX9_mark 1 = .ok (.getfield 22, 3) := by decide +kernel
theorem dX9_mark_4 : decode cX9_mark 4 = .ok (.aload_n 0, 1) := by decide +kernel
theorem dX9_mark_5 : decode cX9_mark 5 = .ok (.getfield 93, 3) := by decide +kernel
theorem dX9_mark_8 : decode cX9_mark 8 = .ok (.aload_n 0, 1) := by decide +kernel
theorem dX9_mark_9 : decode cX9_mark 9 = .ok (.getfield 12, 3) := by decide +kernel
theorem dX9_mark_12 : decode cX9_mark 12 = .ok (.getfield 65, 3) := by decide +kernel
theorem dX9_mark_15 : decode cX9_mark 15 = .ok (.iload_n 1, 1) := by decide +kernel
theorem dX9_mark_16 : decode cX9_mark 16 = .ok (.iload_n 2, 1) := by decide +kernel
theorem dX9_mark_17 : decode cX9_mark 17 = .ok (.invokevirtual 126, 3) := by decide +kernel
theorem dX9_mark_20 : decode cX9_mark 20 = .ok (.iastore, 1) := by decide +kernel
theorem dX9_mark_21 : decode cX9_mark 21 = .ok (.aload_n 0, 1) := by decide +kernel
theorem dX9_mark_22 : decode cX9_mark 22 = .ok (.dup, 1) := by decide +kernel
theorem dX9_mark_23 : decode cX9_mark 23 = .ok (.getfield 93, 3) := by decide +kernel
theorem dX9_mark_26 : decode cX9_mark 26 = .ok (.iconst 1, 1) := by decide +kernel
theorem dX9_mark_27 : decode cX9_mark 27 = .ok (.iadd, 1) := by decide +kernel
theorem dX9_mark_28 : decode cX9_mark 28 = .ok (.putfield 93, 3) := by decide +kernel
theorem dX9_mark_31 : decode cX9_mark 31 = .ok (.return_, 1) := by decide +kernel
theorem dX9_isMarked_0 : decode cX9_isMarked 0 = .ok (.aload_n 0, 1) := by decide +kernel
theorem dX9_isMarked_1 : decode cX9_isMarked 1 = .ok (.getfield 12, 3) := by decide +kernel
theorem dX9_isMarked_4 : decode cX9_isMarked 4 = .ok (.getfield 65, 3) := by decide +kernel
theorem dX9_isMarked_7 : decode cX9_isMarked 7 = .ok (.iload_n 1, 1) := by decide +kernel
theorem dX9_isMarked_8 : decode cX9_isMarked 8 = .ok (.iload_n 2, 1) := by decide +kernel
theorem dX9_isMarked_9 : decode cX9_isMarked 9 = .ok (.invokevirtual 126, 3) := by decide +kernel
theorem dX9_isMarked_12 : decode cX9_isMarked 12 = .ok (.istore_n 3, 1) := by decide +kernel
theorem dX9_isMarked_13 : decode cX9_isMarked 13 = .ok (.iconst 0, 1) := by decide +kernel
theorem dX9_isMarked_14 : decode cX9_isMarked 14 = .ok (.istore 4, 2) := by decide +kernel
theorem dX9_isMarked_16 : decode cX9_isMarked 16 = .ok (.iload 4, 2) := by decide +kernel
theorem dX9_isMarked_18 : decode cX9_isMarked 18 = .ok (.aload_n 0, 1) := by decide +kernel
theorem dX9_isMarked_19 : decode cX9_isMarked 19 = .ok (.getfield 93, 3) := by decide +kernel
theorem dX9_isMarked_22 : decode cX9_isMarked 22 = .ok (.if_icmp .ge 22, 3) := by decide +kernel
theorem dX9_isMarked_25 : decode cX9_isMarked 25 = .ok (.aload_n 0, 1) := by decide +kernel
theorem dX9_isMarked_26 : decode cX9_isMarked 26 = .ok (.getfield 22, 3) := by decide +kernel
theorem dX9_isMarked_29 : decode cX9_isMarked 29 = .ok (.iload 4, 2) := by decide +kernel
theorem dX9_isMarked_31 : decode cX9_isMarked 31 = .ok (.iaload, 1) := by decide +kernel
theorem dX9_isMarked_32 : decode cX9_isMarked 32 = .ok (.iload_n 3, 1) := by decide +kernel
theorem dX9_isMarked_33 : decode cX9_isMarked 33 = .ok (.if_icmp .ne 5, 3) := by decide +kernel
theorem dX9_isMarked_36 : decode cX9_isMarked 36 = .ok (.iconst 1, 1) := by decide +kernel
theorem dX9_isMarked_37 : decode cX9_isMarked 37 = .ok (.ireturn, 1) := by decide +kernel
theorem dX9_isMarked_38 : decode cX9_isMarked 38 = .ok (.iinc 4 1, 3) := by decide +kernel
theorem dX9_isMarked_41 : decode cX9_isMarked 41 = .ok (.goto (-25), 3) := by decide +kernel
theorem dX9_isMarked_44 : decode cX9_isMarked 44 = .ok (.iconst 0, 1) := by decide +kernel
theorem dX9_isMarked_45 : decode cX9_isMarked 45 = .ok (.ireturn, 1) := by decide +kernel
theorem dX10_init_0 : decode cX10_init 0 = .ok (.aload_n 0, 1) := by decide +kernel
theorem dX10_init_1 : decode cX10_init 1 = .ok (.invokespecial 1, 3) := by decide +kernel
theorem dX10_init_4 : decode cX10_init 4 = .ok (.aload_n 0, 1) := by decide +kernel
theorem dX10_init_5 : decode cX10_init 5 = .ok (.new 7, 3) := by decide +kernel
theorem dX10_init_8 : decode cX10_init 8 = .ok (.dup, 1) := by decide +kernel
theorem dX10_init_9 : decode cX10_init 9 = .ok (.invokespecial 9, 3) := by decide +kernel
theorem dX10_init_12 : decode cX10_init 12 = .ok (.putfield 10, 3) := by decide +kernel
theorem dX10_init_15 : decode cX10_init 15 = .ok (.aload_n 0, 1) := by decide +kernel
theorem dX10_init_16 : decode cX10_init 16 = .ok (.new 7, 3) := by decide +kernel
theorem dX10_init_19 : decode cX10_init 19 = .ok (.dup, 1) := by decide +kernel
theorem dX10_init_20 : decode cX10_init 20 = .ok (.invokespecial 9, 3) := by decide +kernel
theorem dX10_init_23 : decode cX10_init 23 = .ok (.putfield 16, 3) := by decide +kernel
theorem dX10_init_26 : decode cX10_init 26 = .ok (.aload_n 0, 1) := by decide +kernel
theorem dX10_init_27 : decode cX10_init 27 = .ok (.new 7, 3) := by decide +kernel
theorem dX10_init_30 : decode cX10_init 30 = .ok (.dup, 1) := by decide +kernel
theorem dX10_init_31 : decode cX10_init 31 = .ok (.invokespecial 9, 3) := by decide +kernel
theorem dX10_init_34 : decode cX10_init 34 = .ok (.putfield 19, 3) := by decide +kernel
theorem dX10_init_37 : decode cX10_init 37 = .ok (.aload_n 0, 1) := by decide +kernel
theorem dX10_init_38 : decode cX10_init 38 = .ok (.new 22, 3) := by decide +kernel
theorem dX10_init_41 : decode cX10_init 41 = .ok (.dup, 1) := by decide +kernel
theorem dX10_init_42 : decode cX10_init 42 = .ok (.invokespecial 24, 3) := by decide +kernel
theorem dX10_init_45 : decode cX10_init 45 = .ok (.putfield 25, 3) := by decide +kernel
theorem dX10_init_48 : decode cX10_init 48 = .ok (.aload_n 0, 1) := by decide +kernel
theorem dX10_init_49 : decode cX10_init 49 = .ok (.new 29, 3) := by decide +kernel
theorem dX10_init_52 : decode cX10_init 52 = .ok (.dup, 1) := by decide +kernel
theorem dX10_init_53 : decode cX10_init 53 = .ok (.invokespecial 31, 3) := by decide +kernel
theorem dX10_init_56 : decode cX10_init 56 = .ok (.putfield 32, 3) := by decide +kernel
theorem dX10_init_59 : decode cX10_init 59 = .ok (.aload_n 0, 1) := by decide +kernel
theorem dX10_init_60 : decode cX10_init 60 = .ok (.new 36, 3) := by decide +kernel
theorem dX10_init_63 : decode cX10_init 63 = .ok (.dup, 1) := by decide +kernel
theorem dX10_init_64 : decode cX10_init 64 = .ok (.invokespecial 38, 3) := by decide +kernel
theorem dX10_init_67 : decode cX10_init 67 = .ok (.putfield 39, 3) := by decide +kernel
theorem dX10_init_70 : decode cX10_init 70 = .ok (.aload_n 0, 1) := by decide +kernel
theorem dX10_init_71 : decode cX10_init 71 = .ok (.new 43, 3) := by decide +kernel
theorem dX10_init_74 : decode cX10_init 74 = .ok (.dup, 1) := by decide +kernel
theorem dX10_init_75 : decode cX10_init 75 = .ok (.invokespecial 45, 3) := by decide +kernel
theorem dX10_init_78 : decode cX10_init 78 = .ok (.putfield 46, 3) := by decide +kernel
theorem dX10_init_81 : decode cX10_init 81 = .ok (.aload_n 0, 1) := by decide +kernel
theorem dX10_init_82 : decode cX10_init 82 = .ok (.new 50, 3) := by decide +kernel
theorem dX10_init_85 : decode cX10_init 85 = .ok (.dup, 1) := by decide +kernel
theorem dX10_init_86 : decode cX10_init 86 = .ok (.invokespecial 52, 3) := by decide +kernel
theorem dX10_init_89 : decode cX10_init 89 = .ok (.putfield 53, 3) := by decide +kernel
theorem dX10_init_92 : decode cX10_init 92 = .ok (.aload_n 0, 1) := by decide +kernel
theorem dX10_init_93 : decode cX10_init 93 = .ok (.new 57, 3) := by decide +kernel
theorem dX10_init_96 : decode cX10_init 96 = .ok (.dup, 1) := by decide +kernel
theorem dX10_init_97 : decode cX10_init 97 = .ok (.invokespecial 59, 3) := by decide +kernel
theorem dX10_init_100 : decode cX10_init 100 = .ok (.putfield 60, 3) := by decide +kernel
theorem dX10_init_103 : decode cX10_init 103 = .ok (.aload_n 0, 1) := by decide +kernel
theorem dX10_init_104 : decode cX10_init 104 = .ok (.new 64, 3) := by decide +kernel
theorem dX10_init_107 : decode cX10_init 107 = .ok (.dup, 1) := by decide +kernel
theorem dX10_init_108 : decode cX10_init 108 = .ok (.invokespecial 66, 3) := by decide +kernel
theorem dX10_init_111 : decode cX10_init 111 = .ok (.putfield 67, 3) := by decide +kernel
theorem dX10_init_114 : decode cX10_init 114 = .ok (.aload_n 0, 1) := by decide +kernel
theorem dX10_init_115 : decode cX10_init 115 = .ok (.bipush 7, 2) := by decide +kernel
theorem dX10_init_117 : decode cX10_init 117 = .ok (.newarray .int, 2) := by decide +kernel
theorem dX10_init_119 : decode cX10_init 119 = .ok (.putfield 71, 3) := by decide +kernel
theorem dX10_init_122 : decode cX10_init 122 = .ok (.aload_n 0, 1) := by decide +kernel
theorem dX10_init_123 : decode cX10_init 123 = .ok (.iconst 0, 1) := by decide +kernel
theorem dX10_init_124 : decode cX10_init 124 = .ok (.putfield 75, 3) := by decide +kernel
theorem dX10_init_127 : decode cX10_init 127 = .ok (.aload_n 0, 1) := by decide +kernel
theorem dX10_init_128 : decode cX10_init 128 = .ok (.iconst 0, 1) := by decide +kernel
theorem dX10_init_129 : decode cX10_init 129 = .ok (.putfield 79, 3) := by decide +kernel
theorem dX10_init_132 : decode cX10_init 132 = .ok (.return_, 1) := by decide +kernel
theorem dX10_feed_0 : decode cX10_feed 0 = .ok (.iload_n 1, 1) := by decide +kernel
theorem dX10_feed_1 : decode cX10_feed 1 = .ok (.iconst 1, 1) := by decide +kernel
theorem dX10_feed_2 : decode cX10_feed 2 = .ok (.if_icmp .ge 10, 3) := by decide +kernel
theorem dX10_feed_5 : decode cX10_feed 5 = .ok (.aload_n 0, 1) := by decide +kernel
theorem dX10_feed_6 : decode cX10_feed 6 = .ok (.bipush (-4), 2) := by decide +kernel
theorem dX10_feed_8 : decode cX10_feed 8 = .ok (.invokevirtual 83, 3) := by decide +kernel
theorem dX10_feed_11 : decode cX10_feed 11 = .ok (.ireturn, 1) := by decide +kernel
theorem dX10_feed_12 : decode cX10_feed 12 = .ok (.iload_n 1, 1) := by decide +kernel
theorem dX10_feed_13 : decode cX10_feed 13 = .ok (.bipush 8, 2) := by decide +kernel
theorem dX10_feed_15 : decode cX10_feed 15 = .ok (.if_icmp .gt 17, 3) := by decide +kernel
theorem dX10_feed_18 : decode cX10_feed 18 = .ok (.aload_n 0, 1) := by decide +kernel
theorem dX10_feed_19 : decode cX10_feed 19 = .ok (.getfield 32, 3) := by decide +kernel
theorem dX10_feed_22 : decode cX10_feed 22 = .ok (.getfield 87, 3) := by decide +kernel
theorem dX10_feed_25 : decode cX10_feed 25 = .ok (.iload_n 1, 1) := by decide +kernel
theorem dX10_feed_26 : decode cX10_feed 26 = .ok (.iadd, 1) := by decide +kernel
theorem dX10_feed_27 : decode cX10_feed 27 = .ok (.bipush 64, 2) := by decide +kernel
theorem dX10_feed_29 : decode cX10_feed 29 = .ok (.if_icmp .le 10, 3) := by decide +kernel
theorem dX10_feed_32 : decode cX10_feed 32 = .ok (.aload_n 0, 1) := by decide +kernel
theorem dX10_feed_33 : decode cX10_feed 33 = .ok (.bipush (-6), 2) := by decide +kernel
theorem dX10_feed_35 : decode cX10_feed 35 = .ok (.invokevirtual 83, 3) := by decide +kernel
theorem dX10_feed_38 : decode cX10_feed 38 = .ok (.ireturn, 1) := by decide +kernel
theorem dX10_feed_39 : decode cX10_feed 39 = .ok (.aload_n 0, 1) := by decide +kernel
theorem dX10_feed_40 : decode cX10_feed 40 = .ok (.getfield 32, 3) := by decide +kernel
theorem dX10_feed_43 : decode cX10_feed 43 = .ok (.iload_n 1, 1) := by decide +kernel
theorem dX10_feed_44 : decode cX10_feed 44 = .ok (.lload_n 2, 1) := by decide +kernel
theorem dX10_feed_45 : decode cX10_feed 45 = .ok (.invokevirtual 90, 3) := by decide +kernel
theorem dX10_feed_48 : decode cX10_feed 48 = .ok (.aload_n 0, 1) := by decide +kernel
theorem dX10_feed_49 : decode cX10_feed 49 = .ok (.getfield 32, 3) := by decide +kernel
theorem dX10_feed_52 : decode cX10_feed 52 = .ok (.getfield 87, 3) := by decide +kernel
theorem dX10_feed_55 : decode cX10_feed 55 = .ok (.ireturn, 1) := by decide +kernel
theorem dX10_puzzle_0 : decode cX10_puzzle 0 = .ok (.aload_n 0, 1) := by decide +kernel
theorem dX10_puzzle_1 : decode cX10_puzzle 1 = .ok (.getfield 16, 3) := by decide +kernel
theorem dX10_puzzle_4 : decode cX10_puzzle 4 = .ok (.aload_n 0, 1) := by decide +kernel
theorem dX10_puzzle_5 : decode cX10_puzzle 5 = .ok (.getfield 10, 3) := by decide +kernel
theorem dX10_puzzle_8 : decode cX10_puzzle 8 = .ok (.invokevirtual 94, 3) := by decide +kernel
theorem dX10_puzzle_11 : decode cX10_puzzle 11 = .ok (.aload_n 0, 1) := by decide +kernel
theorem dX10_puzzle_12 : decode cX10_puzzle 12 = .ok (.getfield 32, 3) := by decide +kernel
theorem dX10_puzzle_15 : decode cX10_puzzle 15 = .ok (.aload_n 0, 1) := by decide +kernel
theorem dX10_puzzle_16 : decode cX10_puzzle 16 = .ok (.getfield 16, 3) := by decide +kernel
theorem dX10_puzzle_19 : decode cX10_puzzle 19 = .ok (.invokevirtual 98, 3) := by decide +kernel
theorem dX10_puzzle_22 : decode cX10_puzzle 22 = .ok (.istore_n 1, 1) := by decide +kernel
theorem dX10_puzzle_23 : decode cX10_puzzle 23 = .ok (.aload_n 0, 1) := by decide +kernel
theorem dX10_puzzle_24 : decode cX10_puzzle 24 = .ok (.getfield 32, 3) := by decide +kernel
theorem dX10_puzzle_27 : decode cX10_puzzle 27 = .ok (.iconst 0, 1) := by decide +kernel
theorem dX10_puzzle_28 : decode cX10_puzzle 28 = .ok (.putfield 87, 3) := by decide +kernel
theorem dX10_puzzle_31 : decode cX10_puzzle 31 = .ok (.iload_n 1, 1) := by decide +kernel
theorem dX10_puzzle_32 : decode cX10_puzzle 32 = .ok (.ifCond .le 22, 3) := by decide +kernel
theorem dX10_puzzle_35 : decode cX10_puzzle 35 = .ok (.aload_n 0, 1) := by decide +kernel
theorem dX10_puzzle_36 : decode cX10_puzzle 36 = .ok (.getfield 10, 3) := by decide +kernel
theorem dX10_puzzle_39 : decode cX10_puzzle 39 = .ok (.aload_n 0, 1) := by decide +kernel
theorem dX10_puzzle_40 : decode cX10_puzzle 40 = .ok (.getfield 16, 3) := by decide +kernel
theorem dX10_puzzle_43 : decode cX10_puzzle 43 = .ok (.invokevirtual 94, 3) := by decide +kernel
theorem dX10_puzzle_46 : decode cX10_puzzle 46 = .ok (.aload_n 0, 1) := by decide +kernel
theorem dX10_puzzle_47 : decode cX10_puzzle 47 = .ok (.getfield 46, 3) := by decide +kernel
theorem dX10_puzzle_50 : decode cX10_puzzle 50 = .ok (.iconst 0, 1) := by decide +kernel
theorem dX10_puzzle_51 : decode cX10_puzzle 51 = .ok (.putfield 102, 3) := by decide +kernel
theorem dX10_puzzle_54 : decode cX10_puzzle 54 = .ok (.iload_n 1, 1) := by decide +kernel
theorem dX10_puzzle_55 : decode cX10_puzzle 55 = .ok (.ireturn, 1) := by decide +kernel
theorem dX10_side_0 : decode cX10_side 0 = .ok (.aload_n 0, 1) := by decide +kernel
theorem dX10_side_1 : decode cX10_side 1 = .ok (.iload_n 1, 1) := by decide +kernel
theorem dX10_side_2 : decode cX10_side 2 = .ok (.invokevirtual 105, 3) := by decide +kernel
theorem dX10_side_5 : decode cX10_side 5 = .ok (.ifCond .ne 12, 3) := by decide +kernel
theorem dX10_side_8 : decode cX10_side 8 = .ok (.ldc 109, 2) := by decide +kernel
theorem dX10_side_10 : decode cX10_side 10 = .ok (.aload_n 0, 1) := by decide +kernel
theorem dX10_side_11 : decode cX10_side 11 = .ok (.iconst (-1), 1) := by decide +kernel
theorem dX10_side_12 : decode cX10_side 12 = .ok (.invokevirtual 83, 3) := by decide +kernel
theorem dX10_side_15 : decode cX10_side 15 = .ok (.isub, 1) := by decide +kernel
theorem dX10_side_16 : decode cX10_side 16 = .ok (.ireturn, 1) := by decide +kernel
theorem dX10_side_17 : decode cX10_side 17 = .ok (.aload_n 0, 1) := by decide +kernel
theorem dX10_side_18 : decode cX10_side 18 = .ok (.iload_n 2, 1) := by decide +kernel
theorem dX10_side_19 : decode cX10_side 19 = .ok (.invokevirtual 110, 3) := by decide +kernel
theorem dX10_side_22 : decode cX10_side 22 = .ok (.ifCond .eq 11, 3) := by decide +kernel
theorem dX10_side_25 : decode cX10_side 25 = .ok (.aload_n 0, 1) := by decide +kernel
theorem dX10_side_26 : decode cX10_side 26 = .ok (.iload_n 3, 1) := by decide +kernel
theorem dX10_side_27 : decode cX10_side 27 = .ok (.invokevirtual 110, 3) := by decide +kernel
theorem dX10_side_30 : decode cX10_side 30 = .ok (.ifCond .ne 13, 3) := by decide +kernel
theorem dX10_side_33 : decode cX10_side 33 = .ok (.ldc 109, 2) := by decide +kernel
theorem dX10_side_35 : decode cX10_side 35 = .ok (.aload_n 0, 1) := by decide +kernel
theorem dX10_side_36 : decode cX10_side 36 = .ok (.bipush (-2), 2) := by decide +kernel
theorem dX10_side_38 : decode cX10_side 38 = .ok (.invokevirtual 83, 3) := by decide +kernel
theorem dX10_side_41 : decode cX10_side 41 = .ok (.isub, 1) := by decide +kernel
theorem dX10_side_42 : decode cX10_side 42 = .ok (.ireturn, 1) := by decide +kernel
theorem dX10_side_43 : decode cX10_side 43 = .ok (.aload_n 0, 1) := by decide +kernel
theorem dX10_side_44 : decode cX10_side 44 = .ok (.getfield 10, 3) := by decide +kernel
theorem dX10_side_47 : decode cX10_side 47 = .ok (.getfield 113, 3) := by decide +kernel
theorem dX10_side_50 : decode cX10_side 50 = .ok (.iload_n 1, 1) := by decide +kernel
theorem dX10_side_51 : decode cX10_side 51 = .ok (.iload_n 2, 1) := by decide +kernel
theorem dX10_side_52 : decode cX10_side 52 = .ok (.iload_n 3, 1) := by decide +kernel
theorem dX10_side_53 : decode cX10_side 53 = .ok (.invokevirtual 117, 3) := by decide +kernel
theorem dX10_side_56 : decode cX10_side 56 = .ok (.ireturn, 1) := by decide +kernel
theorem dX10_colour_0 : decode cX10_colour 0 = .ok (.aload_n 0, 1) := by decide +kernel
theorem dX10_colour_1 : decode cX10_colour 1 = .ok (.iload_n 1, 1) := by decide +kernel
theorem dX10_colour_2 : decode cX10_colour 2 = .ok (.invokevirtual 105, 3) := by decide +kernel
theorem dX10_colour_5 : decode cX10_colour 5 = .ok (.ifCond .eq 18, 3) := by decide +kernel
theorem dX10_colour_8 : decode cX10_colour 8 = .ok (.aload_n 0, 1) := by decide +kernel
theorem dX10_colour_9 : decode cX10_colour 9 = .ok (.getfield 10, 3) := by decide +kernel
theorem dX10_colour_12 : decode cX10_colour 12 = .ok (.getfield 113, 3) := by decide +kernel
theorem dX10_colour_15 : decode cX10_colour 15 = .ok (.getfield 123, 3) := by decide +kernel
theorem dX10_colour_18 : decode cX10_colour 18 = .ok (.iload_n 1, 1) := by decide +kernel
theorem dX10_colour_19 : decode cX10_colour 19 = .ok (.iaload, 1) := by decide +kernel
theorem dX10_colour_20 : decode cX10_colour 20 = .ok (.goto 8, 3) := by decide +kernel
theorem dX10_colour_23 : decode cX10_colour 23 = .ok (.aload_n 0, 1) := by decide +kernel
theorem dX10_colour_24 : decode cX10_colour 24 = .ok (.iconst (-1), 1) := by decide +kernel
theorem dX10_colour_25 : decode cX10_colour 25 = .ok (.invokevirtual 83, 3) := by decide +kernel
theorem dX10_colour_28 : decode cX10_colour 28 = .ok (.ireturn, 1) := by decide +kernel
theorem dX10_person_0 : decode cX10_person 0 = .ok (.aload_n 0, 1) := by decide +kernel
theorem dX10_person_1 : decode cX10_person 1 = .ok (.iload_n 1, 1) := by decide +kernel
theorem dX10_person_2 : decode cX10_person 2 = .ok (.invokevirtual 126, 3) := by decide +kernel
theorem dX10_person_5 : decode cX10_person 5 = .ok (.ifCond .ne 9, 3) := by decide +kernel
theorem dX10_person_8 : decode cX10_person 8 = .ok (.aload_n 0, 1) := by decide +kernel
theorem dX10_person_9 : decode cX10_person 9 = .ok (.iconst (-1), 1) := by decide +kernel
theorem dX10_person_10 : decode cX10_person 10 = .ok (.invokevirtual 83, 3) := by decide +kernel
theorem dX10_person_13 : decode cX10_person 13 = .ok (.ireturn, 1) := by decide +kernel
theorem dX10_person_14 : decode cX10_person 14 = .ok (.iload_n 2, 1) := by decide +kernel
theorem dX10_person_15 : decode cX10_person 15 = .ok (.tableswitch 80 0 3 #[29, 42, 55, 67], 29) := by decide +kernel
theorem dX10_person_44 : decode cX10_person 44 = .ok (.aload_n 0, 1) := by decide +kernel
theorem dX10_person_45 : decode cX10_person 45 = .ok (.getfield 10, 3) := by decide +kernel
theorem dX10_person_48 : decode cX10_person 48 = .ok (.getfield 129, 3) := by decide +kernel
theorem dX10_person_51 : decode cX10_person 51 = .ok (.getfield 133, 3) := by decide +kernel
theorem dX10_person_54 : decode cX10_person 54 = .ok (.iload_n 1, 1) := by decide +kernel
theorem dX10_person_55 : decode cX10_person 55 = .ok (.iaload, 1) := by decide +kernel
theorem dX10_person_56 : decode cX10_person 56 = .ok (.ireturn, 1) := by decide +kernel
theorem dX10_person_57 : decode cX10_person 57 = .ok (.aload_n 0, 1) := by decide +kernel
theorem dX10_person_58 : decode cX10_person 58 = .ok (.getfield 10, 3) := by decide +kernel
theorem dX10_person_61 : decode cX10_person 61 = .ok (.getfield 129, 3) := by decide +kernel
theorem dX10_person_64 : decode cX10_person 64 = .ok (.getfield 138, 3) := by decide +kernel
theorem dX10_person_67 : decode cX10_person 67 = .ok (.iload_n 1, 1) := by decide +kernel
theorem dX10_person_68 : decode cX10_person 68 = .ok (.iaload, 1) := by decide +kernel
theorem dX10_person_69 : decode cX10_person 69 = .ok (.ireturn, 1) := by decide +kernel
theorem dX10_person_70 : decode cX10_person 70 = .ok (.aload_n 0, 1) := by decide +kernel
theorem dX10_person_71 : decode cX10_person 71 = .ok (.getfield 10, 3) := by decide +kernel
theorem dX10_person_74 : decode cX10_person 74 = .ok (.getfield 141, 3) := by decide +kernel
theorem dX10_person_77 : decode cX10_person 77 = .ok (.iload_n 1, 1) := by decide +kernel
theorem dX10_person_78 : decode cX10_person 78 = .ok (.invokevirtual 144, 3) := by decide +kernel
theorem dX10_person_81 : decode cX10_person 81 = .ok (.ireturn, 1) := by decide +kernel
theorem dX10_person_82 : decode cX10_person 82 = .ok (.aload_n 0, 1) := by decide +kernel
theorem dX10_person_83 : decode cX10_person 83 = .ok (.getfield 10, 3) := by decide +kernel
theorem dX10_person_86 : decode cX10_person 86 = .ok (.getfield 129, 3) := by decide +kernel
theorem dX10_person_89 : decode cX10_person 89 = .ok (.getfield 147, 3) := by decide +kernel
theorem dX10_person_92 : decode cX10_person 92 = .ok (.iload_n 1, 1) := by decide +kernel
theorem dX10_person_93 : decode cX10_person 93 = .ok (.iaload, 1) := by decide +kernel
theorem dX10_person_94 : decode cX10_person 94 = .ok (.ireturn, 1) := by decide +kernel
theorem dX10_person_95 : decode cX10_person 95 = .ok (.aload_n 0, 1) := by decide +kernel
theorem dX10_person_96 : decode cX10_person 96 = .ok (.bipush (-2), 2) := by decide +kernel
theorem dX10_person_98 : decode cX10_person 98 = .ok (.invokevirtual 83, 3) := by decide +kernel
theorem dX10_person_101 : decode cX10_person 101 = .ok (.ireturn, 1) := by decide +kernel
theorem dX10_laid_0 : decode cX10_laid 0 = .ok (.aload_n 0, 1) := by decide +kernel
theorem dX10_laid_1 : decode cX10_laid 1 = .ok (.iload_n 1, 1) := by decide +kernel
theorem dX10_laid_2 : decode cX10_laid 2 = .ok (.invokevirtual 105, 3) := by decide +kernel
theorem dX10_laid_5 : decode cX10_laid 5 = .ok (.ifCond .ne 9, 3) := by decide +kernel
theorem dX10_laid_8 : decode cX10_laid 8 = .ok (.aload_n 0, 1) := by decide +kernel
theorem dX10_laid_9 : decode cX10_laid 9 = .ok (.iconst (-1), 1) := by decide +kernel
theorem dX10_laid_10 : decode cX10_laid 10 = .ok (.invokevirtual 83, 3) := by decide +kernel
theorem dX10_laid_13 : decode cX10_laid 13 = .ok (.ireturn, 1) := by decide +kernel
theorem dX10_laid_14 : decode cX10_laid 14 = .ok (.iload_n 2, 1) := by decide +kernel
theorem dX10_laid_15 : decode cX10_laid 15 = .ok (.ifCond .lt 8, 3) := by decide +kernel
theorem dX10_laid_18 : decode cX10_laid 18 = .ok (.iload_n 2, 1) := by decide +kernel
theorem dX10_laid_19 : decode cX10_laid 19 = .ok (.iconst 2, 1) := by decide +kernel
theorem dX10_laid_20 : decode cX10_laid 20 = .ok (.if_icmp .le 10, 3) := by decide +kernel
theorem dX10_laid_23 : decode cX10_laid 23 = .ok (.aload_n 0, 1) := by decide +kernel
theorem dX10_laid_24 : decode cX10_laid 24 = .ok (.bipush (-2), 2) := by decide +kernel
theorem dX10_laid_26 : decode cX10_laid 26 = .ok (.invokevirtual 83, 3) := by decide +kernel
theorem dX10_laid_29 : decode cX10_laid 29 = .ok (.ireturn, 1) := by decide +kernel
theorem dX10_laid_30 : decode cX10_laid 30 = .ok (.aload_n 0, 1) := by decide +kernel
theorem dX10_laid_31 : decode cX10_laid 31 = .ok (.getfield 10, 3) := by decide +kernel
theorem dX10_laid_34 : decode cX10_laid 34 = .ok (.getfield 141, 3) := by decide +kernel
theorem dX10_laid_37 : decode cX10_laid 37 = .ok (.iload_n 1, 1) := by decide +kernel
theorem dX10_laid_38 : decode cX10_laid 38 = .ok (.invokevirtual 150, 3) := by decide +kernel
theorem dX10_laid_41 : decode cX10_laid 41 = .ok (.ifCond .ne 6, 3) := by decide +kernel
theorem dX10_laid_44 : decode cX10_laid 44 = .ok (.bipush (-9), 2) := by decide +kernel
theorem dX10_laid_46 : decode cX10_laid 46 = .ok (.ireturn, 1) := by decide +kernel
theorem dX10_laid_47 : decode cX10_laid 47 = .ok (.iload_n 2, 1) := by decide +kernel
theorem dX10_laid_48 : decode cX10_laid 48 = .ok (.ifCond .ne 16, 3) := by decide +kernel
theorem dX10_laid_51 : decode cX10_laid 51 = .ok (.aload_n 0, 1) := by decide +kernel
theorem dX10_laid_52 : decode cX10_laid 52 = .ok (.getfield 10, 3) := by decide +kernel
theorem dX10_laid_55 : decode cX10_laid 55 = .ok (.getfield 141, 3) := by decide +kernel
theorem dX10_laid_58 : decode cX10_laid 58 = .ok (.getfield 153, 3) := by decide +kernel
theorem dX10_laid_61 : decode cX10_laid 61 = .ok (.iload_n 1, 1) := by decide +kernel
theorem dX10_laid_62 : decode cX10_laid 62 = .ok (.iaload, 1) := by decide +kernel
theorem dX10_laid_63 : decode cX10_laid 63 = .ok (.ireturn, 1) := by decide +kernel
theorem dX10_laid_64 : decode cX10_laid 64 = .ok (.iload_n 2, 1) := by decide +kernel
theorem dX10_laid_65 : decode cX10_laid 65 = .ok (.iconst 1, 1) := by decide +kernel
theorem dX10_laid_66 : decode cX10_laid 66 = .ok (.if_icmp .ne 18, 3) := by decide +kernel
theorem dX10_laid_69 : decode cX10_laid 69 = .ok (.aload_n 0, 1) := by decide +kernel
theorem dX10_laid_70 : decode cX10_laid 70 = .ok (.getfield 10, 3) := by decide +kernel
theorem dX10_laid_73 : decode cX10_laid 73 = .ok (.getfield 141, 3) := by decide +kernel
theorem dX10_laid_76 : decode cX10_laid 76 = .ok (.getfield 156, 3) := by decide +kernel
theorem dX10_laid_79 : decode cX10_laid 79 = .ok (.iload_n 1, 1) := by decide +kernel
theorem dX10_laid_80 : decode cX10_laid 80 = .ok (.iaload, 1) := by decide +kernel
theorem dX10_laid_81 : decode cX10_laid 81 = .ok (.goto 15, 3) := by decide +kernel
theorem dX10_laid_84 : decode cX10_laid 84 = .ok (.aload_n 0, 1) := by decide +kernel
theorem dX10_laid_85 : decode cX10_laid 85 = .ok (.getfield 10, 3) := by decide +kernel
theorem dX10_laid_88 : decode cX10_laid 88 = .ok (.getfield 141, 3) := by decide +kernel
theorem dX10_laid_91 : decode cX10_laid 91 = .ok (.getfield 159, 3) := by decide +kernel
theorem dX10_laid_94 : decode cX10_laid 94 = .ok (.iload_n 1, 1) := by decide +kernel
theorem dX10_laid_95 : decode cX10_laid 95 = .ok (.iaload, 1) := by decide +kernel
theorem dX10_laid_96 : decode cX10_laid 96 = .ok (.ireturn, 1) := by decide +kernel
theorem dX10_fits_0 : decode cX10_fits 0 = .ok (.aload_n 0, 1) := by decide +kernel
theorem dX10_fits_1 : decode cX10_fits 1 = .ok (.iload_n 1, 1) := by decide +kernel
theorem dX10_fits_2 : decode cX10_fits 2 = .ok (.invokevirtual 105, 3) := by decide +kernel
theorem dX10_fits_5 : decode cX10_fits 5 = .ok (.ifCond .eq 11, 3) := by decide +kernel
theorem dX10_fits_8 : decode cX10_fits 8 = .ok (.aload_n 0, 1) := by decide +kernel
theorem dX10_fits_9 : decode cX10_fits 9 = .ok (.iload_n 3, 1) := by decide +kernel
theorem dX10_fits_10 : decode cX10_fits 10 = .ok (.invokevirtual 105, 3) := by decide +kernel
theorem dX10_fits_13 : decode cX10_fits 13 = .ok (.ifCond .ne 9, 3) := by decide +kernel
theorem dX10_fits_16 : decode cX10_fits 16 = .ok (.aload_n 0, 1) := by decide +kernel
theorem dX10_fits_17 : decode cX10_fits 17 = .ok (.iconst (-1), 1) := by decide +kernel
theorem dX10_fits_18 : decode cX10_fits 18 = .ok (.invokevirtual 83, 3) := by decide +kernel
theorem dX10_fits_21 : decode cX10_fits 21 = .ok (.ireturn, 1) := by decide +kernel
theorem dX10_fits_22 : decode cX10_fits 22 = .ok (.aload_n 0, 1) := by decide +kernel
theorem dX10_fits_23 : decode cX10_fits 23 = .ok (.iload_n 2, 1) := by decide +kernel
theorem dX10_fits_24 : decode cX10_fits 24 = .ok (.invokevirtual 110, 3) := by decide +kernel
theorem dX10_fits_27 : decode cX10_fits 27 = .ok (.ifCond .ne 10, 3) := by decide +kernel
theorem dX10_fits_30 : decode cX10_fits 30 = .ok (.aload_n 0, 1) := by decide +kernel
theorem dX10_fits_31 : decode cX10_fits 31 = .ok (.bipush (-2), 2) := by decide +kernel
theorem dX10_fits_33 : decode cX10_fits 33 = .ok (.invokevirtual 83, 3) := by decide +kernel
theorem dX10_fits_36 : decode cX10_fits 36 = .ok (.ireturn, 1) := by decide +kernel
theorem dX10_fits_37 : decode cX10_fits 37 = .ok (.aload_n 0, 1) := by decide +kernel
theorem dX10_fits_38 : decode cX10_fits 38 = .ok (.getfield 25, 3) := by decide +kernel
theorem dX10_fits_41 : decode cX10_fits 41 = .ok (.aload_n 0, 1) := by decide +kernel
theorem dX10_fits_42 : decode cX10_fits 42 = .ok (.getfield 10, 3) := by decide +kernel
theorem dX10_fits_45 : decode cX10_fits 45 = .ok (.getfield 141, 3) := by decide +kernel
theorem dX10_fits_48 : decode cX10_fits 48 = .ok (.invokevirtual 162, 3) := by decide +kernel
theorem dX10_fits_51 : decode cX10_fits 51 = .ok (.aload_n 0, 1) := by decide +kernel
theorem dX10_fits_52 : decode cX10_fits 52 = .ok (.getfield 25, 3) := by decide +kernel
theorem dX10_fits_55 : decode cX10_fits 55 = .ok (.iload_n 1, 1) := by decide +kernel
theorem dX10_fits_56 : decode cX10_fits 56 = .ok (.invokevirtual 165, 3) := by decide +kernel
theorem dX10_fits_59 : decode cX10_fits 59 = .ok (.aload_n 0, 1) := by decide +kernel
theorem dX10_fits_60 : decode cX10_fits 60 = .ok (.getfield 10, 3) := by decide +kernel
theorem dX10_fits_63 : decode cX10_fits 63 = .ok (.getfield 113, 3) := by decide +kernel
theorem dX10_fits_66 : decode cX10_fits 66 = .ok (.aload_n 0, 1) := by decide +kernel
theorem dX10_fits_67 : decode cX10_fits 67 = .ok (.getfield 25, 3) := by decide +kernel
theorem dX10_fits_70 : decode cX10_fits 70 = .ok (.iload_n 1, 1) := by decide +kernel
theorem dX10_fits_71 : decode cX10_fits 71 = .ok (.iload_n 2, 1) := by decide +kernel
theorem dX10_fits_72 : decode cX10_fits 72 = .ok (.iload_n 3, 1) := by decide +kernel
theorem dX10_fits_73 : decode cX10_fits 73 = .ok (.invokevirtual 169, 3) := by decide +kernel
theorem dX10_fits_76 : decode cX10_fits 76 = .ok (.ifCond .eq 7, 3) := by decide +kernel
theorem dX10_fits_79 : decode cX10_fits 79 = .ok (.iconst 1, 1) := by decide +kernel
theorem dX10_fits_80 : decode cX10_fits 80 = .ok (.goto 4, 3) := by decide +kernel
theorem dX10_fits_83 : decode cX10_fits 83 = .ok (.iconst 0, 1) := by decide +kernel
theorem dX10_fits_84 : decode cX10_fits 84 = .ok (.ireturn, 1) := by decide +kernel
theorem dX10_seconds_0 : decode cX10_seconds 0 = .ok (.aload_n 0, 1) := by decide +kernel
theorem dX10_seconds_1 : decode cX10_seconds 1 = .ok (.iload_n 1, 1) := by decide +kernel
theorem dX10_seconds_2 : decode cX10_seconds 2 = .ok (.iload_n 2, 1) := by decide +kernel
theorem dX10_seconds_3 : decode cX10_seconds 3 = .ok (.iload_n 3, 1) := by decide +kernel
theorem dX10_seconds_4 : decode cX10_seconds 4 = .ok (.iload 4, 2) := by decide +kernel
theorem dX10_seconds_6 : decode cX10_seconds 6 = .ok (.invokevirtual 173, 3) := by decide +kernel
theorem dX10_seconds_9 : decode cX10_seconds 9 = .ok (.istore 5, 2) := by decide +kernel
theorem dX10_seconds_11 : decode cX10_seconds 11 = .ok (.iload 5, 2) := by decide +kernel
theorem dX10_seconds_13 : decode cX10_seconds 13 = .ok (.ifCond .ne 22, 3) := by decide +kernel
theorem dX10_seconds_16 : decode cX10_seconds 16 = .ok (.aload_n 0, 1) := by decide +kernel
theorem dX10_seconds_17 : decode cX10_seconds 17 = .ok (.getfield 10, 3) := by decide +kernel
theorem dX10_seconds_20 : decode cX10_seconds 20 = .ok (.getfield 141, 3) := by decide +kernel
theorem dX10_seconds_23 : decode cX10_seconds 23 = .ok (.iload 4, 2) := by decide +kernel
theorem dX10_seconds_25 : decode cX10_seconds 25 = .ok (.invokevirtual 150, 3) := by decide +kernel
theorem dX10_seconds_28 : decode cX10_seconds 28 = .ok (.ifCond .eq 7, 3) := by decide +kernel
theorem dX10_seconds_31 : decode cX10_seconds 31 = .ok (.bipush (-3), 2) := by decide +kernel
theorem dX10_seconds_33 : decode cX10_seconds 33 = .ok (.istore 5, 2) := by decide +kernel
theorem dX10_seconds_35 : decode cX10_seconds 35 = .ok (.iload 5, 2) := by decide +kernel
theorem dX10_seconds_37 : decode cX10_seconds 37 = .ok (.ifCond .eq 10, 3) := by decide +kernel
theorem dX10_seconds_40 : decode cX10_seconds 40 = .ok (.aload_n 0, 1) := by decide +kernel
theorem dX10_seconds_41 : decode cX10_seconds 41 = .ok (.iload 5, 2) := by decide +kernel
theorem dX10_seconds_43 : decode cX10_seconds 43 = .ok (.invokevirtual 83, 3) := by decide +kernel
theorem dX10_seconds_46 : decode cX10_seconds 46 = .ok (.ireturn, 1) := by decide +kernel
theorem dX10_seconds_47 : decode cX10_seconds 47 = .ok (.aload_n 0, 1) := by decide +kernel
theorem dX10_seconds_48 : decode cX10_seconds 48 = .ok (.getfield 10, 3) := by decide +kernel
theorem dX10_seconds_51 : decode cX10_seconds 51 = .ok (.iload_n 1, 1) := by decide +kernel
theorem dX10_seconds_52 : decode cX10_seconds 52 = .ok (.iload_n 2, 1) := by decide +kernel
theorem dX10_seconds_53 : decode cX10_seconds 53 = .ok (.iload 4, 2) := by decide +kernel
theorem dX10_seconds_55 : decode cX10_seconds 55 = .ok (.aload_n 0, 1) := by decide +kernel
theorem dX10_seconds_56 : decode cX10_seconds 56 = .ok (.getfield 10, 3) := by decide +kernel
theorem dX10_seconds_59 : decode cX10_seconds 59 = .ok (.getfield 113, 3) := by decide +kernel
theorem dX10_seconds_62 : decode cX10_seconds 62 = .ok (.aload_n 0, 1) := by decide +kernel
theorem dX10_seconds_63 : decode cX10_seconds 63 = .ok (.getfield 10, 3) := by decide +kernel
theorem dX10_seconds_66 : decode cX10_seconds 66 = .ok (.getfield 141, 3) := by decide +kernel
theorem dX10_seconds_69 : decode cX10_seconds 69 = .ok (.iload_n 2, 1) := by decide +kernel
theorem dX10_seconds_70 : decode cX10_seconds 70 = .ok (.iload_n 3, 1) := by decide +kernel
theorem dX10_seconds_71 : decode cX10_seconds 71 = .ok (.iload 4, 2) := by decide +kernel
theorem dX10_seconds_73 : decode cX10_seconds 73 = .ok (.invokevirtual 177, 3) := by decide +kernel
theorem dX10_seconds_76 : decode cX10_seconds 76 = .ok (.invokevirtual 181, 3) := by decide +kernel
theorem dX10_seconds_79 : decode cX10_seconds 79 = .ok (.ireturn, 1) := by decide +kernel
theorem dX10_tryIt_0 : decode cX10_tryIt 0 = .ok (.aload_n 0, 1) := by decide +kernel
theorem dX10_tryIt_1 : decode cX10_tryIt 1 = .ok (.iload_n 1, 1) := by decide +kernel
theorem dX10_tryIt_2 : decode cX10_tryIt 2 = .ok (.iload_n 2, 1) := by decide +kernel
theorem dX10_tryIt_3 : decode cX10_tryIt 3 = .ok (.iload_n 3, 1) := by decide +kernel
theorem dX10_tryIt_4 : decode cX10_tryIt 4 = .ok (.iload 4, 2) := by decide +kernel
theorem dX10_tryIt_6 : decode cX10_tryIt 6 = .ok (.invokevirtual 173, 3) := by decide +kernel
theorem dX10_tryIt_9 : decode cX10_tryIt 9 = .ok (.istore 5, 2) := by decide +kernel
theorem dX10_tryIt_11 : decode cX10_tryIt 11 = .ok (.iload 5, 2) := by decide +kernel
theorem dX10_tryIt_13 : decode cX10_tryIt 13 = .ok (.ifCond .ne 36, 3) := by decide +kernel
theorem dX10_tryIt_16 : decode cX10_tryIt 16 = .ok (.aload_n 0, 1) := by decide +kernel
theorem dX10_tryIt_17 : decode cX10_tryIt 17 = .ok (.getfield 10, 3) := by decide +kernel
theorem dX10_tryIt_20 : decode cX10_tryIt 20 = .ok (.getfield 141, 3) := by decide +kernel
theorem dX10_tryIt_23 : decode cX10_tryIt 23 = .ok (.iload 4, 2) := by decide +kernel
theorem dX10_tryIt_25 : decode cX10_tryIt 25 = .ok (.invokevirtual 150, 3) := by decide +kernel
theorem dX10_tryIt_28 : decode cX10_tryIt 28 = .ok (.ifCond .ne 17, 3) := by decide +kernel
theorem dX10_tryIt_31 : decode cX10_tryIt 31 = .ok (.aload_n 0, 1) := by decide +kernel
theorem dX10_tryIt_32 : decode cX10_tryIt 32 = .ok (.getfield 10, 3) := by decide +kernel
theorem dX10_tryIt_35 : decode cX10_tryIt 35 = .ok (.getfield 141, 3) := by decide +kernel
theorem dX10_tryIt_38 : decode cX10_tryIt 38 = .ok (.iload_n 2, 1) := by decide +kernel
theorem dX10_tryIt_39 : decode cX10_tryIt 39 = .ok (.invokevirtual 184, 3) := by decide +kernel
theorem dX10_tryIt_42 : decode cX10_tryIt 42 = .ok (.ifCond .eq 7, 3) := by decide +kernel
theorem dX10_tryIt_45 : decode cX10_tryIt 45 = .ok (.bipush (-3), 2) := by decide +kernel
theorem dX10_tryIt_47 : decode cX10_tryIt 47 = .ok (.istore 5, 2) := by decide +kernel
theorem dX10_tryIt_49 : decode cX10_tryIt 49 = .ok (.iload 5, 2) := by decide +kernel
theorem dX10_tryIt_51 : decode cX10_tryIt 51 = .ok (.ifCond .eq 10, 3) := by decide +kernel
theorem dX10_tryIt_54 : decode cX10_tryIt 54 = .ok (.aload_n 0, 1) := by decide +kernel
theorem dX10_tryIt_55 : decode cX10_tryIt 55 = .ok (.iload 5, 2) := by decide +kernel
theorem dX10_tryIt_57 : decode cX10_tryIt 57 = .ok (.invokevirtual 83, 3) := by decide +kernel
theorem dX10_tryIt_60 : decode cX10_tryIt 60 = .ok (.ireturn, 1) := by decide +kernel
theorem dX10_tryIt_61 : decode cX10_tryIt 61 = .ok (.aload_n 0, 1) := by decide +kernel
theorem dX10_tryIt_62 : decode cX10_tryIt 62 = .ok (.getfield 10, 3) := by decide +kernel
theorem dX10_tryIt_65 : decode cX10_tryIt 65 = .ok (.getfield 113, 3) := by decide +kernel
theorem dX10_tryIt_68 : decode cX10_tryIt 68 = .ok (.aload_n 0, 1) := by decide +kernel
theorem dX10_tryIt_69 : decode cX10_tryIt 69 = .ok (.getfield 10, 3) := by decide +kernel
theorem dX10_tryIt_72 : decode cX10_tryIt 72 = .ok (.getfield 141, 3) := by decide +kernel
theorem dX10_tryIt_75 : decode cX10_tryIt 75 = .ok (.iload_n 2, 1) := by decide +kernel
theorem dX10_tryIt_76 : decode cX10_tryIt 76 = .ok (.iload_n 3, 1) := by decide +kernel
theorem dX10_tryIt_77 : decode cX10_tryIt 77 = .ok (.iload 4, 2) := by decide +kernel
theorem dX10_tryIt_79 : decode cX10_tryIt 79 = .ok (.invokevirtual 177, 3) := by decide +kernel
theorem dX10_tryIt_82 : decode cX10_tryIt 82 = .ok (.istore 6, 2) := by decide +kernel
theorem dX10_tryIt_84 : decode cX10_tryIt 84 = .ok (.aload_n 0, 1) := by decide +kernel
theorem dX10_tryIt_85 : decode cX10_tryIt 85 = .ok (.getfield 10, 3) := by decide +kernel
theorem dX10_tryIt_88 : decode cX10_tryIt 88 = .ok (.getfield 129, 3) := by decide +kernel
theorem dX10_tryIt_91 : decode cX10_tryIt 91 = .ok (.getfield 147, 3) := by decide +kernel
theorem dX10_tryIt_94 : decode cX10_tryIt 94 = .ok (.iload_n 1, 1) := by decide +kernel
theorem dX10_tryIt_95 : decode cX10_tryIt 95 = .ok (.dup2, 1) := by decide +kernel
theorem dX10_tryIt_96 : decode cX10_tryIt 96 = .ok (.iaload, 1) := by decide +kernel
theorem dX10_tryIt_97 : decode cX10_tryIt 97 = .ok (.aload_n 0, 1) := by decide +kernel
theorem dX10_tryIt_98 : decode cX10_tryIt 98 = .ok (.getfield 10, 3) := by decide +kernel
theorem dX10_tryIt_101 : decode cX10_tryIt 101 = .ok (.iload_n 1, 1) := by decide +kernel
theorem dX10_tryIt_102 : decode cX10_tryIt 102 = .ok (.iload_n 2, 1) := by decide +kernel
theorem dX10_tryIt_103 : decode cX10_tryIt 103 = .ok (.iload 4, 2) := by decide +kernel
theorem dX10_tryIt_105 : decode cX10_tryIt 105 = .ok (.iload 6, 2) := by decide +kernel
theorem dX10_tryIt_107 : decode cX10_tryIt 107 = .ok (.invokevirtual 181, 3) := by decide +kernel
theorem dX10_tryIt_110 : decode cX10_tryIt 110 = .ok (.iadd, 1) := by decide +kernel
theorem dX10_tryIt_111 : decode cX10_tryIt 111 = .ok (.iastore, 1) := by decide +kernel
theorem dX10_tryIt_112 : decode cX10_tryIt 112 = .ok (.aload_n 0, 1) := by decide +kernel
theorem dX10_tryIt_113 : decode cX10_tryIt 113 = .ok (.dup, 1) := by decide +kernel
theorem dX10_tryIt_114 : decode cX10_tryIt 114 = .ok (.getfield 79, 3) := by decide +kernel
theorem dX10_tryIt_117 : decode cX10_tryIt 117 = .ok (.iconst 1, 1) := by decide +kernel
theorem dX10_tryIt_118 : decode cX10_tryIt 118 = .ok (.iadd, 1) := by decide +kernel
theorem dX10_tryIt_119 : decode cX10_tryIt 119 = .ok (.putfield 79, 3) := by decide +kernel
theorem dX10_tryIt_122 : decode cX10_tryIt 122 = .ok (.iload 6, 2) := by decide +kernel
theorem dX10_tryIt_124 : decode cX10_tryIt 124 = .ok (.iconst 1, 1) := by decide +kernel
theorem dX10_tryIt_125 : decode cX10_tryIt 125 = .ok (.if_icmp .eq 9, 3) := by decide +kernel
theorem dX10_tryIt_128 : decode cX10_tryIt 128 = .ok (.iload 6, 2) := by decide +kernel
theorem dX10_tryIt_130 : decode cX10_tryIt 130 = .ok (.iconst 2, 1) := by decide +kernel
theorem dX10_tryIt_131 : decode cX10_tryIt 131 = .ok (.if_icmp .ne 18, 3) := by decide +kernel
theorem dX10_tryIt_134 : decode cX10_tryIt 134 = .ok (.aload_n 0, 1) := by decide +kernel
theorem dX10_tryIt_135 : decode cX10_tryIt 135 = .ok (.getfield 10, 3) := by decide +kernel
theorem dX10_tryIt_138 : decode cX10_tryIt 138 = .ok (.getfield 141, 3) := by decide +kernel
theorem dX10_tryIt_141 : decode cX10_tryIt 141 = .ok (.iload 4, 2) := by decide +kernel
theorem dX10_tryIt_143 : decode cX10_tryIt 143 = .ok (.iload_n 2, 1) := by decide +kernel
theorem dX10_tryIt_144 : decode cX10_tryIt 144 = .ok (.iload_n 3, 1) := by decide +kernel
theorem dX10_tryIt_145 : decode cX10_tryIt 145 = .ok (.iload_n 1, 1) := by decide +kernel
theorem dX10_tryIt_146 : decode cX10_tryIt 146 = .ok (.invokevirtual 187, 3) := by decide +kernel
theorem dX10_tryIt_149 : decode cX10_tryIt 149 = .ok (.iload 6, 2) := by decide +kernel
theorem dX10_tryIt_151 : decode cX10_tryIt 151 = .ok (.ireturn, 1) := by decide +kernel
theorem dX10_lift_0 : decode cX10_lift 0 = .ok (.aload_n 0, 1) := by decide +kernel
theorem dX10_lift_1 : decode cX10_lift 1 = .ok (.iload_n 1, 1) := by decide +kernel
theorem dX10_lift_2 : decode cX10_lift 2 = .ok (.invokevirtual 105, 3) := by decide +kernel
theorem dX10_lift_5 : decode cX10_lift 5 = .ok (.ifCond .ne 9, 3) := by decide +kernel
theorem dX10_lift_8 : decode cX10_lift 8 = .ok (.aload_n 0, 1) := by decide +kernel
theorem dX10_lift_9 : decode cX10_lift 9 = .ok (.iconst (-1), 1) := by decide +kernel
theorem dX10_lift_10 : decode cX10_lift 10 = .ok (.invokevirtual 83, 3) := by decide +kernel
theorem dX10_lift_13 : decode cX10_lift 13 = .ok (.ireturn, 1) := by decide +kernel
theorem dX10_lift_14 : decode cX10_lift 14 = .ok (.aload_n 0, 1) := by decide +kernel
theorem dX10_lift_15 : decode cX10_lift 15 = .ok (.getfield 10, 3) := by decide +kernel
theorem dX10_lift_18 : decode cX10_lift 18 = .ok (.getfield 141, 3) := by decide +kernel
theorem dX10_lift_21 : decode cX10_lift 21 = .ok (.iload_n 1, 1) := by decide +kernel
theorem dX10_lift_22 : decode cX10_lift 22 = .ok (.invokevirtual 150, 3) := by decide +kernel
theorem dX10_lift_25 : decode cX10_lift 25 = .ok (.ifCond .ne 10, 3) := by decide +kernel
theorem dX10_lift_28 : decode cX10_lift 28 = .ok (.aload_n 0, 1) := by decide +kernel
theorem dX10_lift_29 : decode cX10_lift 29 = .ok (.bipush (-3), 2) := by decide +kernel
theorem dX10_lift_31 : decode cX10_lift 31 = .ok (.invokevirtual 83, 3) := by decide +kernel
theorem dX10_lift_34 : decode cX10_lift 34 = .ok (.ireturn, 1) := by decide +kernel
theorem dX10_lift_35 : decode cX10_lift 35 = .ok (.aload_n 0, 1) := by decide +kernel
theorem dX10_lift_36 : decode cX10_lift 36 = .ok (.getfield 10, 3) := by decide +kernel
theorem dX10_lift_39 : decode cX10_lift 39 = .ok (.getfield 141, 3) := by decide +kernel
theorem dX10_lift_42 : decode cX10_lift 42 = .ok (.iload_n 1, 1) := by decide +kernel
theorem dX10_lift_43 : decode cX10_lift 43 = .ok (.invokevirtual 191, 3) := by decide +kernel
theorem dX10_lift_46 : decode cX10_lift 46 = .ok (.ireturn, 1) := by decide +kernel
theorem dX10_pocket_0 : decode cX10_pocket 0 = .ok (.aload_n 0, 1) := by decide +kernel
theorem dX10_pocket_1 : decode cX10_pocket 1 = .ok (.iload_n 1, 1) := by decide +kernel
theorem dX10_pocket_2 : decode cX10_pocket 2 = .ok (.invokevirtual 105, 3) := by decide +kernel
theorem dX10_pocket_5 : decode cX10_pocket 5 = .ok (.ifCond .ne 9, 3) := by decide +kernel
theorem dX10_pocket_8 : decode cX10_pocket 8 = .ok (.aload_n 0, 1) := by decide +kernel
theorem dX10_pocket_9 : decode cX10_pocket 9 = .ok (.iconst (-1), 1) := by decide +kernel
theorem dX10_pocket_10 : decode cX10_pocket 10 = .ok (.invokevirtual 83, 3) := by decide +kernel
theorem dX10_pocket_13 : decode cX10_pocket 13 = .ok (.ireturn, 1) := by decide +kernel
theorem dX10_pocket_14 : decode cX10_pocket 14 = .ok (.aload_n 0, 1) := by decide +kernel
theorem dX10_pocket_15 : decode cX10_pocket 15 = .ok (.getfield 10, 3) := by decide +kernel
theorem dX10_pocket_18 : decode cX10_pocket 18 = .ok (.getfield 141, 3) := by decide +kernel
theorem dX10_pocket_21 : decode cX10_pocket 21 = .ok (.iload_n 1, 1) := by decide +kernel
theorem dX10_pocket_22 : decode cX10_pocket 22 = .ok (.invokevirtual 184, 3) := by decide +kernel
theorem dX10_pocket_25 : decode cX10_pocket 25 = .ok (.ifCond .eq 10, 3) := by decide +kernel
theorem dX10_pocket_28 : decode cX10_pocket 28 = .ok (.aload_n 0, 1) := by decide +kernel
theorem dX10_pocket_29 : decode cX10_pocket 29 = .ok (.bipush (-3), 2) := by decide +kernel
theorem dX10_pocket_31 : decode cX10_pocket 31 = .ok (.invokevirtual 83, 3) := by decide +kernel
theorem dX10_pocket_34 : decode cX10_pocket 34 = .ok (.ireturn, 1) := by decide +kernel
theorem dX10_pocket_35 : decode cX10_pocket 35 = .ok (.aload_n 0, 1) := by decide +kernel
theorem dX10_pocket_36 : decode cX10_pocket 36 = .ok (.getfield 10, 3) := by decide +kernel
theorem dX10_pocket_39 : decode cX10_pocket 39 = .ok (.getfield 141, 3) := by decide +kernel
theorem dX10_pocket_42 : decode cX10_pocket 42 = .ok (.getfield 194, 3) := by decide +kernel
theorem dX10_pocket_45 : decode cX10_pocket 45 = .ok (.iload_n 1, 1) := by decide +kernel
theorem dX10_pocket_46 : decode cX10_pocket 46 = .ok (.iconst 1, 1) := by decide +kernel
theorem dX10_pocket_47 : decode cX10_pocket 47 = .ok (.bastore, 1) := by decide +kernel
theorem dX10_pocket_48 : decode cX10_pocket 48 = .ok (.aload_n 0, 1) := by decide +kernel
theorem dX10_pocket_49 : decode cX10_pocket 49 = .ok (.getfield 10, 3) := by decide +kernel
theorem dX10_pocket_52 : decode cX10_pocket 52 = .ok (.getfield 141, 3) := by decide +kernel
theorem dX10_pocket_55 : decode cX10_pocket 55 = .ok (.invokevirtual 198, 3) := by decide +kernel
theorem dX10_pocket_58 : decode cX10_pocket 58 = .ok (.ireturn, 1) := by decide +kernel
theorem dX10_find_0 : decode cX10_find 0 = .ok (.aload_n 0, 1) := by decide +kernel
theorem dX10_find_1 : decode cX10_find 1 = .ok (.iload_n 1, 1) := by decide +kernel
theorem dX10_find_2 : decode cX10_find 2 = .ok (.invokevirtual 105, 3) := by decide +kernel
theorem dX10_find_5 : decode cX10_find 5 = .ok (.ifCond .ne 9, 3) := by decide +kernel
theorem dX10_find_8 : decode cX10_find 8 = .ok (.aload_n 0, 1) := by decide +kernel
theorem dX10_find_9 : decode cX10_find 9 = .ok (.iconst (-1), 1) := by decide +kernel
theorem dX10_find_10 : decode cX10_find 10 = .ok (.invokevirtual 83, 3) := by decide +kernel
theorem dX10_find_13 : decode cX10_find 13 = .ok (.ireturn, 1) := by decide +kernel
theorem dX10_find_14 : decode cX10_find 14 = .ok (.aload_n 0, 1) := by decide +kernel
theorem dX10_find_15 : decode cX10_find 15 = .ok (.getfield 10, 3) := by decide +kernel
theorem dX10_find_18 : decode cX10_find 18 = .ok (.getfield 141, 3) := by decide +kernel
theorem dX10_find_21 : decode cX10_find 21 = .ok (.getfield 194, 3) := by decide +kernel
theorem dX10_find_24 : decode cX10_find 24 = .ok (.iload_n 1, 1) := by decide +kernel
theorem dX10_find_25 : decode cX10_find 25 = .ok (.baload, 1) := by decide +kernel
theorem dX10_find_26 : decode cX10_find 26 = .ok (.ifCond .ne 10, 3) := by decide +kernel
theorem dX10_find_29 : decode cX10_find 29 = .ok (.aload_n 0, 1) := by decide +kernel
theorem dX10_find_30 : decode cX10_find 30 = .ok (.bipush (-3), 2) := by decide +kernel
theorem dX10_find_32 : decode cX10_find 32 = .ok (.invokevirtual 83, 3) := by decide +kernel
theorem dX10_find_35 : decode cX10_find 35 = .ok (.ireturn, 1) := by decide +kernel
theorem dX10_find_36 : decode cX10_find 36 = .ok (.aload_n 0, 1) := by decide +kernel
theorem dX10_find_37 : decode cX10_find 37 = .ok (.getfield 10, 3) := by decide +kernel
theorem dX10_find_40 : decode cX10_find 40 = .ok (.getfield 141, 3) := by decide +kernel
theorem dX10_find_43 : decode cX10_find 43 = .ok (.getfield 194, 3) := by decide +kernel
theorem dX10_find_46 : decode cX10_find 46 = .ok (.iload_n 1, 1) := by decide +kernel
theorem dX10_find_47 : decode cX10_find 47 = .ok (.iconst 0, 1) := by decide +kernel
theorem dX10_find_48 : decode cX10_find 48 = .ok (.bastore, 1) := by decide +kernel
theorem dX10_find_49 : decode cX10_find 49 = .ok (.aload_n 0, 1) := by decide +kernel
theorem dX10_find_50 : decode cX10_find 50 = .ok (.getfield 10, 3) := by decide +kernel
theorem dX10_find_53 : decode cX10_find 53 = .ok (.getfield 141, 3) := by decide +kernel
theorem dX10_find_56 : decode cX10_find 56 = .ok (.invokevirtual 198, 3) := by decide +kernel
theorem dX10_find_59 : decode cX10_find 59 = .ok (.ireturn, 1) := by decide +kernel
theorem dX10_ways_0 : decode cX10_ways 0 = .ok (.iload_n 1, 1) := by decide +kernel
theorem dX10_ways_1 : decode cX10_ways 1 = .ok (.ifCond .lt 8, 3) := by decide +kernel
theorem dX10_ways_4 : decode cX10_ways 4 = .ok (.iload_n 1, 1) := by decide +kernel
theorem dX10_ways_5 : decode cX10_ways 5 = .ok (.iconst 1, 1) := by decide +kernel
theorem dX10_ways_6 : decode cX10_ways 6 = .ok (.if_icmp .le 10, 3) := by decide +kernel
theorem dX10_ways_9 : decode cX10_ways 9 = .ok (.aload_n 0, 1) := by decide +kernel
theorem dX10_ways_10 : decode cX10_ways 10 = .ok (.bipush (-2), 2) := by decide +kernel
theorem dX10_ways_12 : decode cX10_ways 12 = .ok (.invokevirtual 83, 3) := by decide +kernel
theorem dX10_ways_15 : decode cX10_ways 15 = .ok (.ireturn, 1) := by decide +kernel
theorem dX10_ways_16 : decode cX10_ways 16 = .ok (.aload_n 0, 1) := by decide +kernel
theorem dX10_ways_17 : decode cX10_ways 17 = .ok (.getfield 46, 3) := by decide +kernel
theorem dX10_ways_20 : decode cX10_ways 20 = .ok (.aload_n 0, 1) := by decide +kernel
theorem dX10_ways_21 : decode cX10_ways 21 = .ok (.getfield 10, 3) := by decide +kernel
theorem dX10_ways_24 : decode cX10_ways 24 = .ok (.getfield 113, 3) := by decide +kernel
theorem dX10_ways_27 : decode cX10_ways 27 = .ok (.invokevirtual 202, 3) := by decide +kernel
theorem dX10_ways_30 : decode cX10_ways 30 = .ok (.iload_n 1, 1) := by decide +kernel
theorem dX10_ways_31 : decode cX10_ways 31 = .ok (.iconst 1, 1) := by decide +kernel
theorem dX10_ways_32 : decode cX10_ways 32 = .ok (.if_icmp .ne 11, 3) := by decide +kernel
theorem dX10_ways_35 : decode cX10_ways 35 = .ok (.aload_n 0, 1) := by decide +kernel
theorem dX10_ways_36 : decode cX10_ways 36 = .ok (.getfield 46, 3) := by decide +kernel
theorem dX10_ways_39 : decode cX10_ways 39 = .ok (.getfield 206, 3) := by decide +kernel
theorem dX10_ways_42 : decode cX10_ways 42 = .ok (.ireturn, 1) := by decide +kernel
theorem dX10_ways_43 : decode cX10_ways 43 = .ok (.aload_n 0, 1) := by decide +kernel
theorem dX10_ways_44 : decode cX10_ways 44 = .ok (.getfield 46, 3) := by decide +kernel
theorem dX10_ways_47 : decode cX10_ways 47 = .ok (.getfield 206, 3) := by decide +kernel
theorem dX10_ways_50 : decode cX10_ways 50 = .ok (.sipush 20000, 3) := by decide +kernel
theorem dX10_ways_53 : decode cX10_ways 53 = .ok (.if_icmp .le 8, 3) := by decide +kernel
theorem dX10_ways_56 : decode cX10_ways 56 = .ok (.bipush (-9), 2) := by decide +kernel
theorem dX10_ways_58 : decode cX10_ways 58 = .ok (.goto 10, 3) := by decide +kernel
theorem dX10_ways_61 : decode cX10_ways 61 = .ok (.aload_n 0, 1) := by decide +kernel
theorem dX10_ways_62 : decode cX10_ways 62 = .ok (.getfield 46, 3) := by decide +kernel
theorem dX10_ways_65 : decode cX10_ways 65 = .ok (.getfield 209, 3) := by decide +kernel
theorem dX10_ways_68 : decode cX10_ways 68 = .ok (.ireturn, 1) := by decide +kernel
theorem dX10_first_0 : decode cX10_first 0 = .ok (.aload_n 0, 1) := by decide +kernel
theorem dX10_first_1 : decode cX10_first 1 = .ok (.iload_n 1, 1) := by decide +kernel
theorem dX10_first_2 : decode cX10_first 2 = .ok (.invokevirtual 105, 3) := by decide +kernel
theorem dX10_first_5 : decode cX10_first 5 = .ok (.ifCond .ne 9, 3) := by decide +kernel
theorem dX10_first_8 : decode cX10_first 8 = .ok (.aload_n 0, 1) := by decide +kernel
theorem dX10_first_9 : decode cX10_first 9 = .ok (.iconst (-1), 1) := by decide +kernel
theorem dX10_first_10 : decode cX10_first 10 = .ok (.invokevirtual 83, 3) := by decide +kernel
theorem dX10_first_13 : decode cX10_first 13 = .ok (.ireturn, 1) := by decide +kernel
theorem dX10_first_14 : decode cX10_first 14 = .ok (.iload_n 2, 1) := by decide +kernel
theorem dX10_first_15 : decode cX10_first 15 = .ok (.ifCond .lt 8, 3) := by decide +kernel
theorem dX10_first_18 : decode cX10_first 18 = .ok (.iload_n 2, 1) := by decide +kernel
theorem dX10_first_19 : decode cX10_first 19 = .ok (.iconst 1, 1) := by decide +kernel
theorem dX10_first_20 : decode cX10_first 20 = .ok (.if_icmp .le 10, 3) := by decide +kernel
theorem dX10_first_23 : decode cX10_first 23 = .ok (.aload_n 0, 1) := by decide +kernel
theorem dX10_first_24 : decode cX10_first 24 = .ok (.bipush (-2), 2) := by decide +kernel
theorem dX10_first_26 : decode cX10_first 26 = .ok (.invokevirtual 83, 3) := by decide +kernel
theorem dX10_first_29 : decode cX10_first 29 = .ok (.ireturn, 1) := by decide +kernel
theorem dX10_first_30 : decode cX10_first 30 = .ok (.aload_n 0, 1) := by decide +kernel
theorem dX10_first_31 : decode cX10_first 31 = .ok (.getfield 46, 3) := by decide +kernel
theorem dX10_first_34 : decode cX10_first 34 = .ok (.aload_n 0, 1) := by decide +kernel
theorem dX10_first_35 : decode cX10_first 35 = .ok (.getfield 10, 3) := by decide +kernel
theorem dX10_first_38 : decode cX10_first 38 = .ok (.getfield 113, 3) := by decide +kernel
theorem dX10_first_41 : decode cX10_first 41 = .ok (.invokevirtual 202, 3) := by decide +kernel
theorem dX10_first_44 : decode cX10_first 44 = .ok (.aload_n 0, 1) := by decide +kernel
theorem dX10_first_45 : decode cX10_first 45 = .ok (.getfield 46, 3) := by decide +kernel
theorem dX10_first_48 : decode cX10_first 48 = .ok (.getfield 209, 3) := by decide +kernel
theorem dX10_first_51 : decode cX10_first 51 = .ok (.ifCond .ne 6, 3) := by decide +kernel
theorem dX10_first_54 : decode cX10_first 54 = .ok (.bipush (-9), 2) := by decide +kernel
theorem dX10_first_56 : decode cX10_first 56 = .ok (.ireturn, 1) := by decide +kernel
theorem dX10_first_57 : decode cX10_first 57 = .ok (.iload_n 2, 1) := by decide +kernel
theorem dX10_first_58 : decode cX10_first 58 = .ok (.ifCond .ne 18, 3) := by decide +kernel
theorem dX10_first_61 : decode cX10_first 61 = .ok (.aload_n 0, 1) := by decide +kernel
theorem dX10_first_62 : decode cX10_first 62 = .ok (.getfield 46, 3) := by decide +kernel
theorem dX10_first_65 : decode cX10_first 65 = .ok (.getfield 212, 3) := by decide +kernel
theorem dX10_first_68 : decode cX10_first 68 = .ok (.getfield 153, 3) := by decide +kernel
theorem dX10_first_71 : decode cX10_first 71 = .ok (.iload_n 1, 1) := by decide +kernel
theorem dX10_first_72 : decode cX10_first 72 = .ok (.iaload, 1) := by decide +kernel
theorem dX10_first_73 : decode cX10_first 73 = .ok (.goto 15, 3) := by decide +kernel
theorem dX10_first_76 : decode cX10_first 76 = .ok (.aload_n 0, 1) := by decide +kernel
theorem dX10_first_77 : decode cX10_first 77 = .ok (.getfield 46, 3) := by decide +kernel
theorem dX10_first_80 : decode cX10_first 80 = .ok (.getfield 212, 3) := by decide +kernel
theorem dX10_first_83 : decode cX10_first 83 = .ok (.getfield 156, 3) := by decide +kernel
theorem dX10_first_86 : decode cX10_first 86 = .ok (.iload_n 1, 1) := by decide +kernel
theorem dX10_first_87 : decode cX10_first 87 = .ok (.iaload, 1) := by decide +kernel
theorem dX10_first_88 : decode cX10_first 88 = .ok (.ireturn, 1) := by decide +kernel
theorem dX10_done_0 : decode cX10_done 0 = .ok (.aload_n 0, 1) := by decide +kernel
theorem dX10_done_1 : decode cX10_done 1 = .ok (.iload_n 1, 1) := by decide +kernel
theorem dX10_done_2 : decode cX10_done 2 = .ok (.iload_n 2, 1) := by decide +kernel
theorem dX10_done_3 : decode cX10_done 3 = .ok (.invokevirtual 215, 3) := by decide +kernel
theorem dX10_done_6 : decode cX10_done 6 = .ok (.istore_n 3, 1) := by decide +kernel
theorem dX10_done_7 : decode cX10_done 7 = .ok (.iload_n 3, 1) := by decide +kernel
theorem dX10_done_8 : decode cX10_done 8 = .ok (.ifCond .ne 19, 3) := by decide +kernel
theorem dX10_done_11 : decode cX10_done 11 = .ok (.aload_n 0, 1) := by decide +kernel
theorem dX10_done_12 : decode cX10_done 12 = .ok (.getfield 53, 3) := by decide +kernel
theorem dX10_done_15 : decode cX10_done 15 = .ok (.aload_n 0, 1) := by decide +kernel
theorem dX10_done_16 : decode cX10_done 16 = .ok (.getfield 10, 3) := by decide +kernel
theorem dX10_done_19 : decode cX10_done 19 = .ok (.iload_n 1, 1) := by decide +kernel
theorem dX10_done_20 : decode cX10_done 20 = .ok (.iload_n 2, 1) := by decide +kernel
theorem dX10_done_21 : decode cX10_done 21 = .ok (.invokevirtual 219, 3) := by decide +kernel
theorem dX10_done_24 : decode cX10_done 24 = .ok (.goto 8, 3) := by decide +kernel
theorem dX10_done_27 : decode cX10_done 27 = .ok (.aload_n 0, 1) := by decide +kernel
theorem dX10_done_28 : decode cX10_done 28 = .ok (.iload_n 3, 1) := by decide +kernel
theorem dX10_done_29 : decode cX10_done 29 = .ok (.invokevirtual 83, 3) := by decide +kernel
theorem dX10_done_32 : decode cX10_done 32 = .ok (.ireturn, 1) := by decide +kernel
theorem dX10_half_0 : decode cX10_half 0 = .ok (.aload_n 0, 1) := by decide +kernel
theorem dX10_half_1 : decode cX10_half 1 = .ok (.iload_n 1, 1) := by decide +kernel
theorem dX10_half_2 : decode cX10_half 2 = .ok (.iload_n 2, 1) := by decide +kernel
theorem dX10_half_3 : decode cX10_half 3 = .ok (.invokevirtual 215, 3) := by decide +kernel
theorem dX10_half_6 : decode cX10_half 6 = .ok (.istore_n 3, 1) := by decide +kernel
theorem dX10_half_7 : decode cX10_half 7 = .ok (.iload_n 3, 1) := by decide +kernel
theorem dX10_half_8 : decode cX10_half 8 = .ok (.ifCond .ne 19, 3) := by decide +kernel
theorem dX10_half_11 : decode cX10_half 11 = .ok (.aload_n 0, 1) := by decide +kernel
theorem dX10_half_12 : decode cX10_half 12 = .ok (.getfield 53, 3) := by decide +kernel
theorem dX10_half_15 : decode cX10_half 15 = .ok (.aload_n 0, 1) := by decide +kernel
theorem dX10_half_16 : decode cX10_half 16 = .ok (.getfield 10, 3) := by decide +kernel
theorem dX10_half_19 : decode cX10_half 19 = .ok (.iload_n 1, 1) := by decide +kernel
theorem dX10_half_20 : decode cX10_half 20 = .ok (.iload_n 2, 1) := by decide +kernel
theorem dX10_half_21 : decode cX10_half 21 = .ok (.invokevirtual 223, 3) := by decide +kernel
theorem dX10_half_24 : decode cX10_half 24 = .ok (.goto 8, 3) := by decide +kernel
theorem dX10_half_27 : decode cX10_half 27 = .ok (.aload_n 0, 1) := by decide +kernel
theorem dX10_half_28 : decode cX10_half 28 = .ok (.iload_n 3, 1) := by decide +kernel
theorem dX10_half_29 : decode cX10_half 29 = .ok (.invokevirtual 83, 3) := by decide +kernel
theorem dX10_half_32 : decode cX10_half 32 = .ok (.ireturn, 1) := by decide +kernel
theorem dX10_bestRule_0 : decode cX10_bestRule 0 = .ok (.aload_n 0, 1) := by decide +kernel
theorem dX10_bestRule_1 : decode cX10_bestRule 1 = .ok (.iload_n 1, 1) := by decide +kernel
theorem dX10_bestRule_2 : decode cX10_bestRule 2 = .ok (.invokevirtual 126, 3) := by decide +kernel
theorem dX10_bestRule_5 : decode cX10_bestRule 5 = .ok (.ifCond .ne 9, 3) := by decide +kernel
theorem dX10_bestRule_8 : decode cX10_bestRule 8 = .ok (.aload_n 0, 1) := by decide +kernel
theorem dX10_bestRule_9 : decode cX10_bestRule 9 = .ok (.iconst (-1), 1) := by decide +kernel
theorem dX10_bestRule_10 : decode cX10_bestRule 10 = .ok (.invokevirtual 83, 3) := by decide +kernel
theorem dX10_bestRule_13 : decode cX10_bestRule 13 = .ok (.ireturn, 1) := by decide +kernel
theorem dX10_bestRule_14 : decode cX10_bestRule 14 = .ok (.iconst 0, 1) := by decide +kernel
theorem dX10_bestRule_15 : decode cX10_bestRule 15 = .ok (.istore_n 2, 1) := by decide +kernel
theorem dX10_bestRule_16 : decode cX10_bestRule 16 = .ok (.aload_n 0, 1) := by decide +kernel
theorem dX10_bestRule_17 : decode cX10_bestRule 17 = .ok (.getfield 53, 3) := by decide +kernel
theorem dX10_bestRule_20 : decode cX10_bestRule 20 = .ok (.aload_n 0, 1) := by decide +kernel
theorem dX10_bestRule_21 : decode cX10_bestRule 21 = .ok (.getfield 10, 3) := by decide +kernel
theorem dX10_bestRule_24 : decode cX10_bestRule 24 = .ok (.iconst 0, 1) := by decide +kernel
theorem dX10_bestRule_25 : decode cX10_bestRule 25 = .ok (.iload_n 1, 1) := by decide +kernel
theorem dX10_bestRule_26 : decode cX10_bestRule 26 = .ok (.invokevirtual 219, 3) := by decide +kernel
theorem dX10_bestRule_29 : decode cX10_bestRule 29 = .ok (.istore_n 3, 1) := by decide +kernel
theorem dX10_bestRule_30 : decode cX10_bestRule 30 = .ok (.iconst 1, 1) := by decide +kernel
theorem dX10_bestRule_31 : decode cX10_bestRule 31 = .ok (.istore 4, 2) := by decide +kernel
theorem dX10_bestRule_33 : decode cX10_bestRule 33 = .ok (.iload 4, 2) := by decide +kernel
theorem dX10_bestRule_35 : decode cX10_bestRule 35 = .ok (.iconst 5, 1) := by decide +kernel
theorem dX10_bestRule_36 : decode cX10_bestRule 36 = .ok (.if_icmp .ge 37, 3) := by decide +kernel
theorem dX10_bestRule_39 : decode cX10_bestRule 39 = .ok (.aload_n 0, 1) := by decide +kernel
theorem dX10_bestRule_40 : decode cX10_bestRule 40 = .ok (.getfield 53, 3) := by decide +kernel
theorem dX10_bestRule_43 : decode cX10_bestRule 43 = .ok (.aload_n 0, 1) := by decide +kernel
theorem dX10_bestRule_44 : decode cX10_bestRule 44 = .ok (.getfield 10, 3) := by decide +kernel
theorem dX10_bestRule_47 : decode cX10_bestRule 47 = .ok (.iload 4, 2) := by decide +kernel
theorem dX10_bestRule_49 : decode cX10_bestRule 49 = .ok (.iload_n 1, 1) := by decide +kernel
theorem dX10_bestRule_50 : decode cX10_bestRule 50 = .ok (.invokevirtual 219, 3) := by decide +kernel
theorem dX10_bestRule_53 : decode cX10_bestRule 53 = .ok (.istore 5, 2) := by decide +kernel
theorem dX10_bestRule_55 : decode cX10_bestRule 55 = .ok (.iload 5, 2) := by decide +kernel
theorem dX10_bestRule_57 : decode cX10_bestRule 57 = .ok (.iload_n 3, 1) := by decide +kernel
theorem dX10_bestRule_58 : decode cX10_bestRule 58 = .ok (.if_icmp .ge 9, 3) := by decide +kernel
theorem dX10_bestRule_61 : decode cX10_bestRule 61 = .ok (.iload 5, 2) := by decide +kernel
theorem dX10_bestRule_63 : decode cX10_bestRule 63 = .ok (.istore_n 3, 1) := by decide +kernel
theorem dX10_bestRule_64 : decode cX10_bestRule 64 = .ok (.iload 4, 2) := by decide +kernel
theorem dX10_bestRule_66 : decode cX10_bestRule 66 = .ok (.istore_n 2, 1) := by decide +kernel
theorem dX10_bestRule_67 : decode cX10_bestRule 67 = .ok (.iinc 4 1, 3) := by decide +kernel
theorem dX10_bestRule_70 : decode cX10_bestRule 70 = .ok (.goto (-37), 3) := by decide +kernel
theorem dX10_bestRule_73 : decode cX10_bestRule 73 = .ok (.iload_n 2, 1) := by decide +kernel
theorem dX10_bestRule_74 : decode cX10_bestRule 74 = .ok (.ireturn, 1) := by decide +kernel
theorem dX10_table_0 : decode cX10_table 0 = .ok (.aload_n 0, 1) := by decide +kernel
theorem dX10_table_1 : decode cX10_table 1 = .ok (.iload_n 1, 1) := by decide +kernel
theorem dX10_table_2 : decode cX10_table 2 = .ok (.invokevirtual 226, 3) := by decide +kernel
theorem dX10_table_5 : decode cX10_table 5 = .ok (.ifCond .ne 10, 3) := by decide +kernel
theorem dX10_table_8 : decode cX10_table 8 = .ok (.aload_n 0, 1) := by decide +kernel
theorem dX10_table_9 : decode cX10_table 9 = .ok (.bipush (-2), 2) := by decide +kernel
theorem dX10_table_11 : decode cX10_table 11 = .ok (.invokevirtual 83, 3) := by decide +kernel
theorem dX10_table_14 : decode cX10_table 14 = .ok (.ireturn, 1) := by decide +kernel
theorem dX10_table_15 : decode cX10_table 15 = .ok (.iload_n 2, 1) := by decide +kernel
theorem dX10_table_16 : decode cX10_table 16 = .ok (.iconst 1, 1) := by decide +kernel
theorem dX10_table_17 : decode cX10_table 17 = .ok (.if_icmp .ge 10, 3) := by decide +kernel
theorem dX10_table_20 : decode cX10_table 20 = .ok (.aload_n 0, 1) := by decide +kernel
theorem dX10_table_21 : decode cX10_table 21 = .ok (.bipush (-4), 2) := by decide +kernel
theorem dX10_table_23 : decode cX10_table 23 = .ok (.invokevirtual 83, 3) := by decide +kernel
theorem dX10_table_26 : decode cX10_table 26 = .ok (.ireturn, 1) := by decide +kernel
theorem dX10_table_27 : decode cX10_table 27 = .ok (.iload_n 2, 1) := by decide +kernel
theorem dX10_table_28 : decode cX10_table 28 = .ok (.aload_n 0, 1) := by decide +kernel
theorem dX10_table_29 : decode cX10_table 29 = .ok (.getfield 10, 3) := by decide +kernel
theorem dX10_table_32 : decode cX10_table 32 = .ok (.getfield 129, 3) := by decide +kernel
theorem dX10_table_35 : decode cX10_table 35 = .ok (.getfield 229, 3) := by decide +kernel
theorem dX10_table_38 : decode cX10_table 38 = .ok (.if_icmp .le 10, 3) := by decide +kernel
theorem dX10_table_41 : decode cX10_table 41 = .ok (.aload_n 0, 1) := by decide +kernel
theorem dX10_table_42 : decode cX10_table 42 = .ok (.bipush (-6), 2) := by decide +kernel
theorem dX10_table_44 : decode cX10_table 44 = .ok (.invokevirtual 83, 3) := by decide +kernel
theorem dX10_table_47 : decode cX10_table 47 = .ok (.ireturn, 1) := by decide +kernel
theorem dX10_table_48 : decode cX10_table 48 = .ok (.aload_n 0, 1) := by decide +kernel
theorem dX10_table_49 : decode cX10_table 49 = .ok (.getfield 53, 3) := by decide +kernel
theorem dX10_table_52 : decode cX10_table 52 = .ok (.aload_n 0, 1) := by decide +kernel
theorem dX10_table_53 : decode cX10_table 53 = .ok (.getfield 10, 3) := by decide +kernel
theorem dX10_table_56 : decode cX10_table 56 = .ok (.iload_n 1, 1) := by decide +kernel
theorem dX10_table_57 : decode cX10_table 57 = .ok (.iload_n 2, 1) := by decide +kernel
theorem dX10_table_58 : decode cX10_table 58 = .ok (.invokevirtual 232, 3) := by decide +kernel
theorem dX10_table_61 : decode cX10_table 61 = .ok (.ireturn, 1) := by decide +kernel
theorem dX10_line_0 : decode cX10_line 0 = .ok (.aload_n 0, 1) := by decide +kernel
theorem dX10_line_1 : decode cX10_line 1 = .ok (.iload_n 1, 1) := by decide +kernel
theorem dX10_line_2 : decode cX10_line 2 = .ok (.invokevirtual 226, 3) := by decide +kernel
theorem dX10_line_5 : decode cX10_line 5 = .ok (.ifCond .ne 10, 3) := by decide +kernel
theorem dX10_line_8 : decode cX10_line 8 = .ok (.aload_n 0, 1) := by decide +kernel
theorem dX10_line_9 : decode cX10_line 9 = .ok (.bipush (-2), 2) := by decide +kernel
theorem dX10_line_11 : decode cX10_line 11 = .ok (.invokevirtual 83, 3) := by decide +kernel
theorem dX10_line_14 : decode cX10_line 14 = .ok (.ireturn, 1) := by decide +kernel
theorem dX10_line_15 : decode cX10_line 15 = .ok (.aload_n 0, 1) := by decide +kernel
theorem dX10_line_16 : decode cX10_line 16 = .ok (.getfield 10, 3) := by decide +kernel
theorem dX10_line_19 : decode cX10_line 19 = .ok (.getfield 129, 3) := by decide +kernel
theorem dX10_line_22 : decode cX10_line 22 = .ok (.getfield 229, 3) := by decide +kernel
theorem dX10_line_25 : decode cX10_line 25 = .ok (.ifCond .ne 6, 3) := by decide +kernel
theorem dX10_line_28 : decode cX10_line 28 = .ok (.bipush (-9), 2) := by decide +kernel
theorem dX10_line_30 : decode cX10_line 30 = .ok (.ireturn, 1) := by decide +kernel
theorem dX10_line_31 : decode cX10_line 31 = .ok (.iconst 1, 1) := by decide +kernel
theorem dX10_line_32 : decode cX10_line 32 = .ok (.istore_n 2, 1) := by decide +kernel
theorem dX10_line_33 : decode cX10_line 33 = .ok (.aload_n 0, 1) := by decide +kernel
theorem dX10_line_34 : decode cX10_line 34 = .ok (.getfield 53, 3) := by decide +kernel
theorem dX10_line_37 : decode cX10_line 37 = .ok (.aload_n 0, 1) := by decide +kernel
theorem dX10_line_38 : decode cX10_line 38 = .ok (.getfield 10, 3) := by decide +kernel
theorem dX10_line_41 : decode cX10_line 41 = .ok (.iload_n 1, 1) := by decide +kernel
theorem dX10_line_42 : decode cX10_line 42 = .ok (.iconst 1, 1) := by decide +kernel
theorem dX10_line_43 : decode cX10_line 43 = .ok (.invokevirtual 232, 3) := by decide +kernel
theorem dX10_line_46 : decode cX10_line 46 = .ok (.istore_n 3, 1) := by decide +kernel
theorem dX10_line_47 : decode cX10_line 47 = .ok (.iconst 2, 1) := by decide +kernel
theorem dX10_line_48 : decode cX10_line 48 = .ok (.istore 4, 2) := by decide +kernel
theorem dX10_line_50 : decode cX10_line 50 = .ok (.iload 4, 2) := by decide +kernel
theorem dX10_line_52 : decode cX10_line 52 = .ok (.aload_n 0, 1) := by decide +kernel
theorem dX10_line_53 : decode cX10_line 53 = .ok (.getfield 10, 3) := by decide +kernel
theorem dX10_line_56 : decode cX10_line 56 = .ok (.getfield 129, 3) := by decide +kernel
theorem dX10_line_59 : decode cX10_line 59 = .ok (.getfield 229, 3) := by decide +kernel
theorem dX10_line_62 : decode cX10_line 62 = .ok (.if_icmp .gt 37, 3) := by decide +kernel
theorem dX10_line_65 : decode cX10_line 65 = .ok (.aload_n 0, 1) := by decide +kernel
theorem dX10_line_66 : decode cX10_line 66 = .ok (.getfield 53, 3) := by decide +kernel
theorem dX10_line_69 : decode cX10_line 69 = .ok (.aload_n 0, 1) := by decide +kernel
theorem dX10_line_70 : decode cX10_line 70 = .ok (.getfield 10, 3) := by decide +kernel
theorem dX10_line_73 : decode cX10_line 73 = .ok (.iload_n 1, 1) := by decide +kernel
theorem dX10_line_74 : decode cX10_line 74 = .ok (.iload 4, 2) := by decide +kernel
theorem dX10_line_76 : decode cX10_line 76 = .ok (.invokevirtual 232, 3) := by decide +kernel
theorem dX10_line_79 : decode cX10_line 79 = .ok (.istore 5, 2) := by decide +kernel
theorem dX10_line_81 : decode cX10_line 81 = .ok (.iload 5, 2) := by decide +kernel
theorem dX10_line_83 : decode cX10_line 83 = .ok (.iload_n 3, 1) := by decide +kernel
theorem dX10_line_84 : decode cX10_line 84 = .ok (.if_icmp .ge 9, 3) := by decide +kernel
theorem dX10_line_87 : decode cX10_line 87 = .ok (.iload 5, 2) := by decide +kernel
theorem dX10_line_89 : decode cX10_line 89 = .ok (.istore_n 3, 1) := by decide +kernel
theorem dX10_line_90 : decode cX10_line 90 = .ok (.iload 4, 2) := by decide +kernel
theorem dX10_line_92 : decode cX10_line 92 = .ok (.istore_n 2, 1) := by decide +kernel
theorem dX10_line_93 : decode cX10_line 93 = .ok (.iinc 4 1, 3) := by decide +kernel
theorem dX10_line_96 : decode cX10_line 96 = .ok (.goto (-46), 3) := by decide +kernel
theorem dX10_line_99 : decode cX10_line 99 = .ok (.iload_n 2, 1) := by decide +kernel
theorem dX10_line_100 : decode cX10_line 100 = .ok (.ireturn, 1) := by decide +kernel
theorem dX10_seems_0 : decode cX10_seems 0 = .ok (.aload_n 0, 1) := by decide +kernel
theorem dX10_seems_1 : decode cX10_seems 1 = .ok (.getfield 60, 3) := by decide +kernel
theorem dX10_seems_4 : decode cX10_seems 4 = .ok (.aload_n 0, 1) := by decide +kernel
theorem dX10_seems_5 : decode cX10_seems 5 = .ok (.getfield 10, 3) := by decide +kernel
theorem dX10_seems_8 : decode cX10_seems 8 = .ok (.getfield 113, 3) := by decide +kernel
theorem dX10_seems_11 : decode cX10_seems 11 = .ok (.aload_n 0, 1) := by decide +kernel
theorem dX10_seems_12 : decode cX10_seems 12 = .ok (.getfield 10, 3) := by decide +kernel
theorem dX10_seems_15 : decode cX10_seems 15 = .ok (.getfield 141, 3) := by decide +kernel
theorem dX10_seems_18 : decode cX10_seems 18 = .ok (.invokevirtual 235, 3) := by decide +kernel
theorem dX10_seems_21 : decode cX10_seems 21 = .ok (.ireturn, 1) := by decide +kernel
theorem dX10_wrong_0 : decode cX10_wrong 0 = .ok (.iconst 0, 1) := by decide +kernel
theorem dX10_wrong_1 : decode cX10_wrong 1 = .ok (.istore_n 1, 1) := by decide +kernel
theorem dX10_wrong_2 : decode cX10_wrong 2 = .ok (.iconst 0, 1) := by decide +kernel
theorem dX10_wrong_3 : decode cX10_wrong 3 = .ok (.istore_n 2, 1) := by decide +kernel
theorem dX10_wrong_4 : decode cX10_wrong 4 = .ok (.iload_n 2, 1) := by decide +kernel
theorem dX10_wrong_5 : decode cX10_wrong 5 = .ok (.aload_n 0, 1) := by decide +kernel
theorem dX10_wrong_6 : decode cX10_wrong 6 = .ok (.getfield 10, 3) := by decide +kernel
theorem dX10_wrong_9 : decode cX10_wrong 9 = .ok (.getfield 113, 3) := by decide +kernel
theorem dX10_wrong_12 : decode cX10_wrong 12 = .ok (.getfield 239, 3) := by decide +kernel
theorem dX10_wrong_15 : decode cX10_wrong 15 = .ok (.if_icmp .ge 26, 3) := by decide +kernel
theorem dX10_wrong_18 : decode cX10_wrong 18 = .ok (.aload_n 0, 1) := by decide +kernel
theorem dX10_wrong_19 : decode cX10_wrong 19 = .ok (.getfield 10, 3) := by decide +kernel
theorem dX10_wrong_22 : decode cX10_wrong 22 = .ok (.getfield 141, 3) := by decide +kernel
theorem dX10_wrong_25 : decode cX10_wrong 25 = .ok (.iload_n 2, 1) := by decide +kernel
theorem dX10_wrong_26 : decode cX10_wrong 26 = .ok (.invokevirtual 242, 3) := by decide +kernel
theorem dX10_wrong_29 : decode cX10_wrong 29 = .ok (.ifCond .ne 6, 3) := by decide +kernel
theorem dX10_wrong_32 : decode cX10_wrong 32 = .ok (.iinc 1 1, 3) := by decide +kernel
theorem dX10_wrong_35 : decode cX10_wrong 35 = .ok (.iinc 2 1, 3) := by decide +kernel
theorem dX10_wrong_38 : decode cX10_wrong 38 = .ok (.goto (-34), 3) := by decide +kernel
theorem dX10_wrong_41 : decode cX10_wrong 41 = .ok (.iload_n 1, 1) := by decide +kernel
theorem dX10_wrong_42 : decode cX10_wrong 42 = .ok (.ireturn, 1) := by decide +kernel
theorem dX10_falseOne_0 : decode cX10_falseOne 0 = .ok (.iconst 0, 1) := by decide +kernel
theorem dX10_falseOne_1 : decode cX10_falseOne 1 = .ok (.istore_n 1, 1) := by decide +kernel
theorem dX10_falseOne_2 : decode cX10_falseOne 2 = .ok (.iload_n 1, 1) := by decide +kernel
theorem dX10_falseOne_3 : decode cX10_falseOne 3 = .ok (.aload_n 0, 1) := by decide +kernel
theorem dX10_falseOne_4 : decode cX10_falseOne 4 = .ok (.getfield 10, 3) := by decide +kernel
theorem dX10_falseOne_7 : decode cX10_falseOne 7 = .ok (.getfield 113, 3) := by decide +kernel
theorem dX10_falseOne_10 : decode cX10_falseOne 10 = .ok (.getfield 239, 3) := by decide +kernel
theorem dX10_falseOne_13 : decode cX10_falseOne 13 = .ok (.if_icmp .ge 39, 3) := by decide +kernel
theorem dX10_falseOne_16 : decode cX10_falseOne 16 = .ok (.aload_n 0, 1) := by decide +kernel
theorem dX10_falseOne_17 : decode cX10_falseOne 17 = .ok (.getfield 10, 3) := by decide +kernel
theorem dX10_falseOne_20 : decode cX10_falseOne 20 = .ok (.getfield 141, 3) := by decide +kernel
theorem dX10_falseOne_23 : decode cX10_falseOne 23 = .ok (.iload_n 1, 1) := by decide +kernel
theorem dX10_falseOne_24 : decode cX10_falseOne 24 = .ok (.invokevirtual 150, 3) := by decide +kernel
theorem dX10_falseOne_27 : decode cX10_falseOne 27 = .ok (.ifCond .eq 19, 3) := by decide +kernel
theorem dX10_falseOne_30 : decode cX10_falseOne 30 = .ok (.aload_n 0, 1) := by decide +kernel
theorem dX10_falseOne_31 : decode cX10_falseOne 31 = .ok (.getfield 10, 3) := by decide +kernel
theorem dX10_falseOne_34 : decode cX10_falseOne 34 = .ok (.getfield 141, 3) := by decide +kernel
theorem dX10_falseOne_37 : decode cX10_falseOne 37 = .ok (.iload_n 1, 1) := by decide +kernel
theorem dX10_falseOne_38 : decode cX10_falseOne 38 = .ok (.invokevirtual 242, 3) := by decide +kernel
theorem dX10_falseOne_41 : decode cX10_falseOne 41 = .ok (.ifCond .ne 5, 3) := by decide +kernel
theorem dX10_falseOne_44 : decode cX10_falseOne 44 = .ok (.iload_n 1, 1) := by decide +kernel
theorem dX10_falseOne_45 : decode cX10_falseOne 45 = .ok (.ireturn, 1) := by decide +kernel
theorem dX10_falseOne_46 : decode cX10_falseOne 46 = .ok (.iinc 1 1, 3) := by decide +kernel
theorem dX10_falseOne_49 : decode cX10_falseOne 49 = .ok (.goto (-47), 3) := by decide +kernel
theorem dX10_falseOne_52 : decode cX10_falseOne 52 = .ok (.bipush (-9), 2) := by decide +kernel
theorem dX10_falseOne_54 : decode cX10_falseOne 54 = .ok (.ireturn, 1) := by decide +kernel
theorem dX10_over_0 : decode cX10_over 0 = .ok (.iconst 0, 1) := by decide +kernel
theorem dX10_over_1 : decode cX10_over 1 = .ok (.istore_n 1, 1) := by decide +kernel
theorem dX10_over_2 : decode cX10_over 2 = .ok (.iload_n 1, 1) := by decide +kernel
theorem dX10_over_3 : decode cX10_over 3 = .ok (.aload_n 0, 1) := by decide +kernel
theorem dX10_over_4 : decode cX10_over 4 = .ok (.getfield 10, 3) := by decide +kernel
theorem dX10_over_7 : decode cX10_over 7 = .ok (.getfield 113, 3) := by decide +kernel
theorem dX10_over_10 : decode cX10_over 10 = .ok (.getfield 239, 3) := by decide +kernel
theorem dX10_over_13 : decode cX10_over 13 = .ok (.if_icmp .ge 36, 3) := by decide +kernel
theorem dX10_over_16 : decode cX10_over 16 = .ok (.aload_n 0, 1) := by decide +kernel
theorem dX10_over_17 : decode cX10_over 17 = .ok (.getfield 10, 3) := by decide +kernel
theorem dX10_over_20 : decode cX10_over 20 = .ok (.getfield 141, 3) := by decide +kernel
theorem dX10_over_23 : decode cX10_over 23 = .ok (.iload_n 1, 1) := by decide +kernel
theorem dX10_over_24 : decode cX10_over 24 = .ok (.invokevirtual 184, 3) := by decide +kernel
theorem dX10_over_27 : decode cX10_over 27 = .ok (.ifCond .ne 16, 3) := by decide +kernel
theorem dX10_over_30 : decode cX10_over 30 = .ok (.aload_n 0, 1) := by decide +kernel
theorem dX10_over_31 : decode cX10_over 31 = .ok (.getfield 10, 3) := by decide +kernel
theorem dX10_over_34 : decode cX10_over 34 = .ok (.iload_n 1, 1) := by decide +kernel
theorem dX10_over_35 : decode cX10_over 35 = .ok (.invokevirtual 245, 3) := by decide +kernel
theorem dX10_over_38 : decode cX10_over 38 = .ok (.ifCond .ne 5, 3) := by decide +kernel
theorem dX10_over_41 : decode cX10_over 41 = .ok (.iload_n 1, 1) := by decide +kernel
theorem dX10_over_42 : decode cX10_over 42 = .ok (.ireturn, 1) := by decide +kernel
theorem dX10_over_43 : decode cX10_over 43 = .ok (.iinc 1 1, 3) := by decide +kernel
theorem dX10_over_46 : decode cX10_over 46 = .ok (.goto (-44), 3) := by decide +kernel
theorem dX10_over_49 : decode cX10_over 49 = .ok (.bipush (-9), 2) := by decide +kernel
theorem dX10_over_51 : decode cX10_over 51 = .ok (.ireturn, 1) := by decide +kernel
theorem dX10_balance_0 : decode cX10_balance 0 = .ok (.iload_n 1, 1) := by decide +kernel
theorem dX10_balance_1 : decode cX10_balance 1 = .ok (.iconst 1, 1) := by decide +kernel
theorem dX10_balance_2 : decode cX10_balance 2 = .ok (.if_icmp .lt 9, 3) := by decide +kernel
theorem dX10_balance_5 : decode cX10_balance 5 = .ok (.iload_n 1, 1) := by decide +kernel
theorem dX10_balance_6 : decode cX10_balance 6 = .ok (.bipush 9, 2) := by decide +kernel
theorem dX10_balance_8 : decode cX10_balance 8 = .ok (.if_icmp .le 12, 3) := by decide +kernel
theorem dX10_balance_11 : decode cX10_balance 11 = .ok (.ldc 109, 2) := by decide +kernel
theorem dX10_balance_13 : decode cX10_balance 13 = .ok (.aload_n 0, 1) := by decide +kernel
theorem dX10_balance_14 : decode cX10_balance 14 = .ok (.iconst (-1), 1) := by decide +kernel
theorem dX10_balance_15 : decode cX10_balance 15 = .ok (.invokevirtual 83, 3) := by decide +kernel
theorem dX10_balance_18 : decode cX10_balance 18 = .ok (.isub, 1) := by decide +kernel
theorem dX10_balance_19 : decode cX10_balance 19 = .ok (.ireturn, 1) := by decide +kernel
theorem dX10_balance_20 : decode cX10_balance 20 = .ok (.aload_n 0, 1) := by decide +kernel
theorem dX10_balance_21 : decode cX10_balance 21 = .ok (.getfield 60, 3) := by decide +kernel
theorem dX10_balance_24 : decode cX10_balance 24 = .ok (.aload_n 0, 1) := by decide +kernel
theorem dX10_balance_25 : decode cX10_balance 25 = .ok (.getfield 10, 3) := by decide +kernel
theorem dX10_balance_28 : decode cX10_balance 28 = .ok (.invokevirtual 248, 3) := by decide +kernel
theorem dX10_balance_31 : decode cX10_balance 31 = .ok (.aload_n 0, 1) := by decide +kernel
theorem dX10_balance_32 : decode cX10_balance 32 = .ok (.getfield 60, 3) := by decide +kernel
theorem dX10_balance_35 : decode cX10_balance 35 = .ok (.getfield 251, 3) := by decide +kernel
theorem dX10_balance_38 : decode cX10_balance 38 = .ok (.iload_n 1, 1) := by decide +kernel
theorem dX10_balance_39 : decode cX10_balance 39 = .ok (.iaload, 1) := by decide +kernel
theorem dX10_balance_40 : decode cX10_balance 40 = .ok (.ireturn, 1) := by decide +kernel
theorem dX10_lacks_0 : decode cX10_lacks 0 = .ok (.aload_n 0, 1) := by decide +kernel
theorem dX10_lacks_1 : decode cX10_lacks 1 = .ok (.getfield 60, 3) := by decide +kernel
theorem dX10_lacks_4 : decode cX10_lacks 4 = .ok (.aload_n 0, 1) := by decide +kernel
theorem dX10_lacks_5 : decode cX10_lacks 5 = .ok (.getfield 10, 3) := by decide +kernel
theorem dX10_lacks_8 : decode cX10_lacks 8 = .ok (.invokevirtual 248, 3) := by decide +kernel
theorem dX10_lacks_11 : decode cX10_lacks 11 = .ok (.aload_n 0, 1) := by decide +kernel
theorem dX10_lacks_12 : decode cX10_lacks 12 = .ok (.getfield 60, 3) := by decide +kernel
theorem dX10_lacks_15 : decode cX10_lacks 15 = .ok (.invokevirtual 254, 3) := by decide +kernel
theorem dX10_lacks_18 : decode cX10_lacks 18 = .ok (.ifCond .eq 7, 3) := by decide +kernel
theorem dX10_lacks_21 : decode cX10_lacks 21 = .ok (.iconst 1, 1) := by decide +kernel
theorem dX10_lacks_22 : decode cX10_lacks 22 = .ok (.goto 4, 3) := by decide +kernel
theorem dX10_lacks_25 : decode cX10_lacks 25 = .ok (.iconst 0, 1) := by decide +kernel
theorem dX10_lacks_26 : decode cX10_lacks 26 = .ok (.ireturn, 1) := by decide +kernel
theorem dX10_which_0 : decode cX10_which 0 = .ok (.aload_n 0, 1) := by decide +kernel
theorem dX10_which_1 : decode cX10_which 1 = .ok (.getfield 60, 3) := by decide +kernel
theorem dX10_which_4 : decode cX10_which 4 = .ok (.aload_n 0, 1) := by decide +kernel
theorem dX10_which_5 : decode cX10_which 5 = .ok (.getfield 10, 3) := by decide +kernel
theorem dX10_which_8 : decode cX10_which 8 = .ok (.invokevirtual 248, 3) := by decide +kernel
theorem dX10_which_11 : decode cX10_which 11 = .ok (.aload_n 0, 1) := by decide +kernel
theorem dX10_which_12 : decode cX10_which 12 = .ok (.getfield 60, 3) := by decide +kernel
theorem dX10_which_15 : decode cX10_which 15 = .ok (.invokevirtual 254, 3) := by decide +kernel
theorem dX10_which_18 : decode cX10_which 18 = .ok (.ifCond .eq 20, 3) := by decide +kernel
theorem dX10_which_21 : decode cX10_which 21 = .ok (.aload_n 0, 1) := by decide +kernel
theorem dX10_which_22 : decode cX10_which 22 = .ok (.getfield 60, 3) := by decide +kernel
theorem dX10_which_25 : decode cX10_which 25 = .ok (.aload_n 0, 1) := by decide +kernel
theorem dX10_which_26 : decode cX10_which 26 = .ok (.getfield 10, 3) := by decide +kernel
theorem dX10_which_29 : decode cX10_which 29 = .ok (.getfield 113, 3) := by decide +kernel
theorem dX10_which_32 : decode cX10_which 32 = .ok (.invokevirtual 258, 3) := by decide +kernel
theorem dX10_which_35 : decode cX10_which 35 = .ok (.goto 4, 3) := by decide +kernel
theorem dX10_which_38 : decode cX10_which 38 = .ok (.iconst 0, 1) := by decide +kernel
theorem dX10_which_39 : decode cX10_which 39 = .ok (.ireturn, 1) := by decide +kernel
theorem dX10_mine_0 : decode cX10_mine 0 = .ok (.aload_n 0, 1) := by decide +kernel
theorem dX10_mine_1 : decode cX10_mine 1 = .ok (.iload_n 1, 1) := by decide +kernel
theorem dX10_mine_2 : decode cX10_mine 2 = .ok (.invokevirtual 126, 3) := by decide +kernel
theorem dX10_mine_5 : decode cX10_mine 5 = .ok (.ifCond .ne 9, 3) := by decide +kernel
theorem dX10_mine_8 : decode cX10_mine 8 = .ok (.aload_n 0, 1) := by decide +kernel
theorem dX10_mine_9 : decode cX10_mine 9 = .ok (.iconst (-1), 1) := by decide +kernel
theorem dX10_mine_10 : decode cX10_mine 10 = .ok (.invokevirtual 83, 3) := by decide +kernel
theorem dX10_mine_13 : decode cX10_mine 13 = .ok (.ireturn, 1) := by decide +kernel
theorem dX10_mine_14 : decode cX10_mine 14 = .ok (.iload_n 2, 1) := by decide +kernel
theorem dX10_mine_15 : decode cX10_mine 15 = .ok (.ifCond .lt 8, 3) := by decide +kernel
theorem dX10_mine_18 : decode cX10_mine 18 = .ok (.iload_n 2, 1) := by decide +kernel
theorem dX10_mine_19 : decode cX10_mine 19 = .ok (.iconst 1, 1) := by decide +kernel
theorem dX10_mine_20 : decode cX10_mine 20 = .ok (.if_icmp .le 10, 3) := by decide +kernel
theorem dX10_mine_23 : decode cX10_mine 23 = .ok (.aload_n 0, 1) := by decide +kernel
theorem dX10_mine_24 : decode cX10_mine 24 = .ok (.bipush (-2), 2) := by decide +kernel
theorem dX10_mine_26 : decode cX10_mine 26 = .ok (.invokevirtual 83, 3) := by decide +kernel
theorem dX10_mine_29 : decode cX10_mine 29 = .ok (.ireturn, 1) := by decide +kernel
theorem dX10_mine_30 : decode cX10_mine 30 = .ok (.aload_n 0, 1) := by decide +kernel
theorem dX10_mine_31 : decode cX10_mine 31 = .ok (.getfield 10, 3) := by decide +kernel
theorem dX10_mine_34 : decode cX10_mine 34 = .ok (.getfield 129, 3) := by decide +kernel
theorem dX10_mine_37 : decode cX10_mine 37 = .ok (.invokevirtual 262, 3) := by decide +kernel
theorem dX10_mine_40 : decode cX10_mine 40 = .ok (.istore_n 3, 1) := by decide +kernel
theorem dX10_mine_41 : decode cX10_mine 41 = .ok (.iload_n 3, 1) := by decide +kernel
theorem dX10_mine_42 : decode cX10_mine 42 = .ok (.ifCond .ne 5, 3) := by decide +kernel
theorem dX10_mine_45 : decode cX10_mine 45 = .ok (.iload_n 2, 1) := by decide +kernel
theorem dX10_mine_46 : decode cX10_mine 46 = .ok (.ireturn, 1) := by decide +kernel
theorem dX10_mine_47 : decode cX10_mine 47 = .ok (.aload_n 0, 1) := by decide +kernel
theorem dX10_mine_48 : decode cX10_mine 48 = .ok (.getfield 10, 3) := by decide +kernel
theorem dX10_mine_51 : decode cX10_mine 51 = .ok (.getfield 129, 3) := by decide +kernel
theorem dX10_mine_54 : decode cX10_mine 54 = .ok (.getfield 147, 3) := by decide +kernel
theorem dX10_mine_57 : decode cX10_mine 57 = .ok (.iload_n 1, 1) := by decide +kernel
theorem dX10_mine_58 : decode cX10_mine 58 = .ok (.iaload, 1) := by decide +kernel
theorem dX10_mine_59 : decode cX10_mine 59 = .ok (.istore 4, 2) := by decide +kernel
theorem dX10_mine_61 : decode cX10_mine 61 = .ok (.iload 4, 2) := by decide +kernel
theorem dX10_mine_63 : decode cX10_mine 63 = .ok (.iload_n 3, 1) := by decide +kernel
theorem dX10_mine_64 : decode cX10_mine 64 = .ok (.invokestatic 265, 3) := by decide +kernel
theorem dX10_mine_67 : decode cX10_mine 67 = .ok (.istore 5, 2) := by decide +kernel
theorem dX10_mine_69 : decode cX10_mine 69 = .ok (.iload_n 2, 1) := by decide +kernel
theorem dX10_mine_70 : decode cX10_mine 70 = .ok (.ifCond .ne 11, 3) := by decide +kernel
theorem dX10_mine_73 : decode cX10_mine 73 = .ok (.iload 4, 2) := by decide +kernel
theorem dX10_mine_75 : decode cX10_mine 75 = .ok (.iload 5, 2) := by decide +kernel
theorem dX10_mine_77 : decode cX10_mine 77 = .ok (.idiv, 1) := by decide +kernel
theorem dX10_mine_78 : decode cX10_mine 78 = .ok (.goto 7, 3) := by decide +kernel
theorem dX10_mine_81 : decode cX10_mine 81 = .ok (.iload_n 3, 1) := by decide +kernel
theorem dX10_mine_82 : decode cX10_mine 82 = .ok (.iload 5, 2) := by decide +kernel
theorem dX10_mine_84 : decode cX10_mine 84 = .ok (.idiv, 1) := by decide +kernel
theorem dX10_mine_85 : decode cX10_mine 85 = .ok (.ireturn, 1) := by decide +kernel
theorem dX10_hardest_0 : decode cX10_hardest 0 = .ok (.iconst 0, 1) := by decide +kernel
theorem dX10_hardest_1 : decode cX10_hardest 1 = .ok (.istore_n 1, 1) := by decide +kernel
theorem dX10_hardest_2 : decode cX10_hardest 2 = .ok (.iconst (-1), 1) := by decide +kernel
theorem dX10_hardest_3 : decode cX10_hardest 3 = .ok (.istore_n 2, 1) := by decide +kernel
theorem dX10_hardest_4 : decode cX10_hardest 4 = .ok (.aload_n 0, 1) := by decide +kernel
theorem dX10_hardest_5 : decode cX10_hardest 5 = .ok (.getfield 16, 3) := by decide +kernel
theorem dX10_hardest_8 : decode cX10_hardest 8 = .ok (.aload_n 0, 1) := by decide +kernel
theorem dX10_hardest_9 : decode cX10_hardest 9 = .ok (.getfield 10, 3) := by decide +kernel
theorem dX10_hardest_12 : decode cX10_hardest 12 = .ok (.invokevirtual 94, 3) := by decide +kernel
theorem dX10_hardest_15 : decode cX10_hardest 15 = .ok (.aload_n 0, 1) := by decide +kernel
theorem dX10_hardest_16 : decode cX10_hardest 16 = .ok (.getfield 16, 3) := by decide +kernel
theorem dX10_hardest_19 : decode cX10_hardest 19 = .ok (.getfield 141, 3) := by decide +kernel
theorem dX10_hardest_22 : decode cX10_hardest 22 = .ok (.invokevirtual 268, 3) := by decide +kernel
theorem dX10_hardest_25 : decode cX10_hardest 25 = .ok (.iconst 1, 1) := by decide +kernel
theorem dX10_hardest_26 : decode cX10_hardest 26 = .ok (.istore_n 3, 1) := by decide +kernel
theorem dX10_hardest_27 : decode cX10_hardest 27 = .ok (.iload_n 3, 1) := by decide +kernel
theorem dX10_hardest_28 : decode cX10_hardest 28 = .ok (.bipush 6, 2) := by decide +kernel
theorem dX10_hardest_30 : decode cX10_hardest 30 = .ok (.if_icmp .gt 54, 3) := by decide +kernel
theorem dX10_hardest_33 : decode cX10_hardest 33 = .ok (.aload_n 0, 1) := by decide +kernel
theorem dX10_hardest_34 : decode cX10_hardest 34 = .ok (.getfield 16, 3) := by decide +kernel
theorem dX10_hardest_37 : decode cX10_hardest 37 = .ok (.getfield 113, 3) := by decide +kernel
theorem dX10_hardest_40 : decode cX10_hardest 40 = .ok (.iload_n 3, 1) := by decide +kernel
theorem dX10_hardest_41 : decode cX10_hardest 41 = .ok (.invokevirtual 271, 3) := by decide +kernel
theorem dX10_hardest_44 : decode cX10_hardest 44 = .ok (.aload_n 0, 1) := by decide +kernel
theorem dX10_hardest_45 : decode cX10_hardest 45 = .ok (.getfield 60, 3) := by decide +kernel
theorem dX10_hardest_48 : decode cX10_hardest 48 = .ok (.aload_n 0, 1) := by decide +kernel
theorem dX10_hardest_49 : decode cX10_hardest 49 = .ok (.getfield 16, 3) := by decide +kernel
theorem dX10_hardest_52 : decode cX10_hardest 52 = .ok (.getfield 113, 3) := by decide +kernel
theorem dX10_hardest_55 : decode cX10_hardest 55 = .ok (.aload_n 0, 1) := by decide +kernel
theorem dX10_hardest_56 : decode cX10_hardest 56 = .ok (.getfield 16, 3) := by decide +kernel
theorem dX10_hardest_59 : decode cX10_hardest 59 = .ok (.getfield 141, 3) := by decide +kernel
theorem dX10_hardest_62 : decode cX10_hardest 62 = .ok (.invokevirtual 235, 3) := by decide +kernel
theorem dX10_hardest_65 : decode cX10_hardest 65 = .ok (.istore 4, 2) := by decide +kernel
theorem dX10_hardest_67 : decode cX10_hardest 67 = .ok (.iload 4, 2) := by decide +kernel
theorem dX10_hardest_69 : decode cX10_hardest 69 = .ok (.iload_n 2, 1) := by decide +kernel
theorem dX10_hardest_70 : decode cX10_hardest 70 = .ok (.if_icmp .le 8, 3) := by decide +kernel
theorem dX10_hardest_73 : decode cX10_hardest 73 = .ok (.iload 4, 2) := by decide +kernel
theorem dX10_hardest_75 : decode cX10_hardest 75 = .ok (.istore_n 2, 1) := by decide +kernel
theorem dX10_hardest_76 : decode cX10_hardest 76 = .ok (.iload_n 3, 1) := by decide +kernel
theorem dX10_hardest_77 : decode cX10_hardest 77 = .ok (.istore_n 1, 1) := by decide +kernel
theorem dX10_hardest_78 : decode cX10_hardest 78 = .ok (.iinc 3 1, 3) := by decide +kernel
theorem dX10_hardest_81 : decode cX10_hardest 81 = .ok (.goto (-54), 3) := by decide +kernel
theorem dX10_hardest_84 : decode cX10_hardest 84 = .ok (.iload_n 1, 1) := by decide +kernel
theorem dX10_hardest_85 : decode cX10_hardest 85 = .ok (.ireturn, 1) := by decide +kernel
theorem dX10_keeper_0 : decode cX10_keeper 0 = .ok (.iload_n 1, 1) := by decide +kernel
theorem dX10_keeper_1 : decode cX10_keeper 1 = .ok (.ifCond .lt 8, 3) := by decide +kernel
theorem dX10_keeper_4 : decode cX10_keeper 4 = .ok (.iload_n 2, 1) := by decide +kernel
theorem dX10_keeper_5 : decode cX10_keeper 5 = .ok (.iconst 1, 1) := by decide +kernel
theorem dX10_keeper_6 : decode cX10_keeper 6 = .ok (.if_icmp .ge 10, 3) := by decide +kernel
theorem dX10_keeper_9 : decode cX10_keeper 9 = .ok (.aload_n 0, 1) := by decide +kernel
theorem dX10_keeper_10 : decode cX10_keeper 10 = .ok (.bipush (-4), 2) := by decide +kernel
theorem dX10_keeper_12 : decode cX10_keeper 12 = .ok (.invokevirtual 83, 3) := by decide +kernel
theorem dX10_keeper_15 : decode cX10_keeper 15 = .ok (.ireturn, 1) := by decide +kernel
theorem dX10_keeper_16 : decode cX10_keeper 16 = .ok (.iload_n 1, 1) := by decide +kernel
theorem dX10_keeper_17 : decode cX10_keeper 17 = .ok (.sipush 999, 3) := by decide +kernel
theorem dX10_keeper_20 : decode cX10_keeper 20 = .ok (.if_icmp .gt 9, 3) := by decide +kernel
theorem dX10_keeper_23 : decode cX10_keeper 23 = .ok (.iload_n 2, 1) := by decide +kernel
theorem dX10_keeper_24 : decode cX10_keeper 24 = .ok (.bipush 99, 2) := by decide +kernel
theorem dX10_keeper_26 : decode cX10_keeper 26 = .ok (.if_icmp .le 10, 3) := by decide +kernel
theorem dX10_keeper_29 : decode cX10_keeper 29 = .ok (.aload_n 0, 1) := by decide +kernel
theorem dX10_keeper_30 : decode cX10_keeper 30 = .ok (.bipush (-6), 2) := by decide +kernel
theorem dX10_keeper_32 : decode cX10_keeper 32 = .ok (.invokevirtual 83, 3) := by decide +kernel
theorem dX10_keeper_35 : decode cX10_keeper 35 = .ok (.ireturn, 1) := by decide +kernel
theorem dX10_keeper_36 : decode cX10_keeper 36 = .ok (.iload_n 1, 1) := by decide +kernel
theorem dX10_keeper_37 : decode cX10_keeper 37 = .ok (.iload_n 2, 1) := by decide +kernel
theorem dX10_keeper_38 : decode cX10_keeper 38 = .ok (.iconst 1, 1) := by decide +kernel
theorem dX10_keeper_39 : decode cX10_keeper 39 = .ok (.iadd, 1) := by decide +kernel
theorem dX10_keeper_40 : decode cX10_keeper 40 = .ok (.irem, 1) := by decide +kernel
theorem dX10_keeper_41 : decode cX10_keeper 41 = .ok (.ifCond .ne 7, 3) := by decide +kernel
theorem dX10_keeper_44 : decode cX10_keeper 44 = .ok (.iconst 0, 1) := by decide +kernel
theorem dX10_keeper_45 : decode cX10_keeper 45 = .ok (.goto 4, 3) := by decide +kernel
theorem dX10_keeper_48 : decode cX10_keeper 48 = .ok (.iconst 1, 1) := by decide +kernel
theorem dX10_keeper_49 : decode cX10_keeper 49 = .ok (.ireturn, 1) := by decide +kernel
theorem dX10_evening_0 : decode cX10_evening 0 = .ok (.iload_n 1, 1) := by decide +kernel
theorem dX10_evening_1 : decode cX10_evening 1 = .ok (.iconst 1, 1) := by decide +kernel
theorem dX10_evening_2 : decode cX10_evening 2 = .ok (.if_icmp .ge 10, 3) := by decide +kernel
theorem dX10_evening_5 : decode cX10_evening 5 = .ok (.aload_n 0, 1) := by decide +kernel
theorem dX10_evening_6 : decode cX10_evening 6 = .ok (.bipush (-4), 2) := by decide +kernel
theorem dX10_evening_8 : decode cX10_evening 8 = .ok (.invokevirtual 83, 3) := by decide +kernel
theorem dX10_evening_11 : decode cX10_evening 11 = .ok (.ireturn, 1) := by decide +kernel
theorem dX10_evening_12 : decode cX10_evening 12 = .ok (.iload_n 1, 1) := by decide +kernel
theorem dX10_evening_13 : decode cX10_evening 13 = .ok (.sipush 200, 3) := by decide +kernel
theorem dX10_evening_16 : decode cX10_evening 16 = .ok (.if_icmp .le 10, 3) := by decide +kernel
theorem dX10_evening_19 : decode cX10_evening 19 = .ok (.aload_n 0, 1) := by decide +kernel
theorem dX10_evening_20 : decode cX10_evening 20 = .ok (.bipush (-6), 2) := by decide +kernel
theorem dX10_evening_22 : decode cX10_evening 22 = .ok (.invokevirtual 83, 3) := by decide +kernel
theorem dX10_evening_25 : decode cX10_evening 25 = .ok (.ireturn, 1) := by decide +kernel
theorem dX10_evening_26 : decode cX10_evening 26 = .ok (.aload_n 0, 1) := by decide +kernel
theorem dX10_evening_27 : decode cX10_evening 27 = .ok (.getfield 10, 3) := by decide +kernel
theorem dX10_evening_30 : decode cX10_evening 30 = .ok (.getfield 129, 3) := by decide +kernel
theorem dX10_evening_33 : decode cX10_evening 33 = .ok (.getfield 229, 3) := by decide +kernel
theorem dX10_evening_36 : decode cX10_evening 36 = .ok (.ifCond .ne 10, 3) := by decide +kernel
theorem dX10_evening_39 : decode cX10_evening 39 = .ok (.aload_n 0, 1) := by decide +kernel
theorem dX10_evening_40 : decode cX10_evening 40 = .ok (.bipush (-3), 2) := by decide +kernel
theorem dX10_evening_42 : decode cX10_evening 42 = .ok (.invokevirtual 83, 3) := by decide +kernel
theorem dX10_evening_45 : decode cX10_evening 45 = .ok (.ireturn, 1) := by decide +kernel
theorem dX10_evening_46 : decode cX10_evening 46 = .ok (.aload_n 0, 1) := by decide +kernel
theorem dX10_evening_47 : decode cX10_evening 47 = .ok (.getfield 67, 3) := by decide +kernel
theorem dX10_evening_50 : decode cX10_evening 50 = .ok (.aload_n 0, 1) := by decide +kernel
theorem dX10_evening_51 : decode cX10_evening 51 = .ok (.getfield 10, 3) := by decide +kernel
theorem dX10_evening_54 : decode cX10_evening 54 = .ok (.iload_n 1, 1) := by decide +kernel
theorem dX10_evening_55 : decode cX10_evening 55 = .ok (.iload_n 2, 1) := by decide +kernel
theorem dX10_evening_56 : decode cX10_evening 56 = .ok (.invokevirtual 274, 3) := by decide +kernel
theorem dX10_evening_59 : decode cX10_evening 59 = .ok (.ireturn, 1) := by decide +kernel
theorem dX10_row_0 : decode cX10_row 0 = .ok (.iload_n 1, 1) := by decide +kernel
theorem dX10_row_1 : decode cX10_row 1 = .ok (.ifCond .ge 10, 3) := by decide +kernel
theorem dX10_row_4 : decode cX10_row 4 = .ok (.aload_n 0, 1) := by decide +kernel
theorem dX10_row_5 : decode cX10_row 5 = .ok (.bipush (-4), 2) := by decide +kernel
theorem dX10_row_7 : decode cX10_row 7 = .ok (.invokevirtual 83, 3) := by decide +kernel
theorem dX10_row_10 : decode cX10_row 10 = .ok (.ireturn, 1) := by decide +kernel
theorem dX10_row_11 : decode cX10_row 11 = .ok (.iload_n 1, 1) := by decide +kernel
theorem dX10_row_12 : decode cX10_row 12 = .ok (.bipush 99, 2) := by decide +kernel
theorem dX10_row_14 : decode cX10_row 14 = .ok (.if_icmp .gt 15, 3) := by decide +kernel
theorem dX10_row_17 : decode cX10_row 17 = .ok (.aload_n 0, 1) := by decide +kernel
theorem dX10_row_18 : decode cX10_row 18 = .ok (.getfield 39, 3) := by decide +kernel
theorem dX10_row_21 : decode cX10_row 21 = .ok (.getfield 277, 3) := by decide +kernel
theorem dX10_row_24 : decode cX10_row 24 = .ok (.bipush 16, 2) := by decide +kernel
theorem dX10_row_26 : decode cX10_row 26 = .ok (.if_icmp .lt 10, 3) := by decide +kernel
theorem dX10_row_29 : decode cX10_row 29 = .ok (.aload_n 0, 1) := by decide +kernel
theorem dX10_row_30 : decode cX10_row 30 = .ok (.bipush (-6), 2) := by decide +kernel
theorem dX10_row_32 : decode cX10_row 32 = .ok (.invokevirtual 83, 3) := by decide +kernel
theorem dX10_row_35 : decode cX10_row 35 = .ok (.ireturn, 1) := by decide +kernel
theorem dX10_row_36 : decode cX10_row 36 = .ok (.aload_n 0, 1) := by decide +kernel
theorem dX10_row_37 : decode cX10_row 37 = .ok (.getfield 39, 3) := by decide +kernel
theorem dX10_row_40 : decode cX10_row 40 = .ok (.iload_n 1, 1) := by decide +kernel
theorem dX10_row_41 : decode cX10_row 41 = .ok (.invokevirtual 278, 3) := by decide +kernel
theorem dX10_row_44 : decode cX10_row 44 = .ok (.ireturn, 1) := by decide +kernel
theorem dX10_judge_0 : decode cX10_judge 0 = .ok (.aload_n 0, 1) := by decide +kernel
theorem dX10_judge_1 : decode cX10_judge 1 = .ok (.getfield 39, 3) := by decide +kernel
theorem dX10_judge_4 : decode cX10_judge 4 = .ok (.aload_n 0, 1) := by decide +kernel
theorem dX10_judge_5 : decode cX10_judge 5 = .ok (.getfield 10, 3) := by decide +kernel
theorem dX10_judge_8 : decode cX10_judge 8 = .ok (.invokevirtual 281, 3) := by decide +kernel
theorem dX10_judge_11 : decode cX10_judge 11 = .ok (.istore_n 1, 1) := by decide +kernel
theorem dX10_judge_12 : decode cX10_judge 12 = .ok (.aload_n 0, 1) := by decide +kernel
theorem dX10_judge_13 : decode cX10_judge 13 = .ok (.getfield 39, 3) := by decide +kernel
theorem dX10_judge_16 : decode cX10_judge 16 = .ok (.iconst 0, 1) := by decide +kernel
theorem dX10_judge_17 : decode cX10_judge 17 = .ok (.putfield 277, 3) := by decide +kernel
theorem dX10_judge_20 : decode cX10_judge 20 = .ok (.iload_n 1, 1) := by decide +kernel
theorem dX10_judge_21 : decode cX10_judge 21 = .ok (.ireturn, 1) := by decide +kernel
theorem dX10_image_0 : decode cX10_image 0 = .ok (.aload_n 0, 1) := by decide +kernel
theorem dX10_image_1 : decode cX10_image 1 = .ok (.getfield 19, 3) := by decide +kernel
theorem dX10_image_4 : decode cX10_image 4 = .ok (.aload_n 0, 1) := by decide +kernel
theorem dX10_image_5 : decode cX10_image 5 = .ok (.getfield 10, 3) := by decide +kernel
theorem dX10_image_8 : decode cX10_image 8 = .ok (.invokevirtual 94, 3) := by decide +kernel
theorem dX10_image_11 : decode cX10_image 11 = .ok (.aload_n 0, 1) := by decide +kernel
theorem dX10_image_12 : decode cX10_image 12 = .ok (.iconst 1, 1) := by decide +kernel
theorem dX10_image_13 : decode cX10_image 13 = .ok (.putfield 75, 3) := by decide +kernel
theorem dX10_image_16 : decode cX10_image 16 = .ok (.aload_n 0, 1) := by decide +kernel
theorem dX10_image_17 : decode cX10_image 17 = .ok (.getfield 10, 3) := by decide +kernel
theorem dX10_image_20 : decode cX10_image 20 = .ok (.getfield 141, 3) := by decide +kernel
theorem dX10_image_23 : decode cX10_image 23 = .ok (.invokevirtual 284, 3) := by decide +kernel
theorem dX10_image_26 : decode cX10_image 26 = .ok (.ireturn, 1) := by decide +kernel
theorem dX10_on_0 : decode cX10_on 0 = .ok (.aload_n 0, 1) := by decide +kernel
theorem dX10_on_1 : decode cX10_on 1 = .ok (.getfield 75, 3) := by decide +kernel
theorem dX10_on_4 : decode cX10_on 4 = .ok (.ifCond .ne 10, 3) := by decide +kernel
theorem dX10_on_7 : decode cX10_on 7 = .ok (.aload_n 0, 1) := by decide +kernel
theorem dX10_on_8 : decode cX10_on 8 = .ok (.bipush (-3), 2) := by decide +kernel
theorem dX10_on_10 : decode cX10_on 10 = .ok (.invokevirtual 83, 3) := by decide +kernel
theorem dX10_on_13 : decode cX10_on 13 = .ok (.ireturn, 1) := by decide +kernel
theorem dX10_on_14 : decode cX10_on 14 = .ok (.aload_n 0, 1) := by decide +kernel
theorem dX10_on_15 : decode cX10_on 15 = .ok (.getfield 10, 3) := by decide +kernel
theorem dX10_on_18 : decode cX10_on 18 = .ok (.aload_n 0, 1) := by decide +kernel
theorem dX10_on_19 : decode cX10_on 19 = .ok (.getfield 19, 3) := by decide +kernel
theorem dX10_on_22 : decode cX10_on 22 = .ok (.invokevirtual 94, 3) := by decide +kernel
theorem dX10_on_25 : decode cX10_on 25 = .ok (.aload_n 0, 1) := by decide +kernel
theorem dX10_on_26 : decode cX10_on 26 = .ok (.getfield 46, 3) := by decide +kernel
theorem dX10_on_29 : decode cX10_on 29 = .ok (.iconst 0, 1) := by decide +kernel
theorem dX10_on_30 : decode cX10_on 30 = .ok (.putfield 102, 3) := by decide +kernel
theorem dX10_on_33 : decode cX10_on 33 = .ok (.aload_n 0, 1) := by decide +kernel
theorem dX10_on_34 : decode cX10_on 34 = .ok (.getfield 10, 3) := by decide +kernel
theorem dX10_on_37 : decode cX10_on 37 = .ok (.getfield 141, 3) := by decide +kernel
theorem dX10_on_40 : decode cX10_on 40 = .ok (.invokevirtual 284, 3) := by decide +kernel
theorem dX10_on_43 : decode cX10_on 43 = .ok (.ireturn, 1) := by decide +kernel
theorem dX10_count_0 : decode cX10_count 0 = .ok (.iload_n 1, 1) := by decide +kernel
theorem dX10_count_1 : decode cX10_count 1 = .ok (.bipush 11, 2) := by decide +kernel
theorem dX10_count_3 : decode cX10_count 3 = .ok (.if_icmp .lt 19, 3) := by decide +kernel
theorem dX10_count_6 : decode cX10_count 6 = .ok (.iload_n 1, 1) := by decide +kernel
theorem dX10_count_7 : decode cX10_count 7 = .ok (.bipush 16, 2) := by decide +kernel
theorem dX10_count_9 : decode cX10_count 9 = .ok (.if_icmp .gt 13, 3) := by decide +kernel
theorem dX10_count_12 : decode cX10_count 12 = .ok (.aload_n 0, 1) := by decide +kernel
theorem dX10_count_13 : decode cX10_count 13 = .ok (.getfield 71, 3) := by decide +kernel
theorem dX10_count_16 : decode cX10_count 16 = .ok (.iload_n 1, 1) := by decide +kernel
theorem dX10_count_17 : decode cX10_count 17 = .ok (.bipush 10, 2) := by decide +kernel
theorem dX10_count_19 : decode cX10_count 19 = .ok (.isub, 1) := by decide +kernel
theorem dX10_count_20 : decode cX10_count 20 = .ok (.iaload, 1) := by decide +kernel
theorem dX10_count_21 : decode cX10_count 21 = .ok (.ireturn, 1) := by decide +kernel
theorem dX10_count_22 : decode cX10_count 22 = .ok (.iload_n 1, 1) := by decide +kernel
theorem dX10_count_23 : decode cX10_count 23 = .ok (.tableswitch 136 0 8 #[49, 60, 71, 82, 93, 104, 115, 120, 128], 49) := by decide +kernel
theorem dX10_count_72 : decode cX10_count 72 = .ok (.aload_n 0, 1) := by decide +kernel
theorem dX10_count_73 : decode cX10_count 73 = .ok (.getfield 10, 3) := by decide +kernel
theorem dX10_count_76 : decode cX10_count 76 = .ok (.getfield 113, 3) := by decide +kernel
theorem dX10_count_79 : decode cX10_count 79 = .ok (.getfield 287, 3) := by decide +kernel
theorem dX10_count_82 : decode cX10_count 82 = .ok (.ireturn, 1) := by decide +kernel
theorem dX10_count_83 : decode cX10_count 83 = .ok (.aload_n 0, 1) := by decide +kernel
theorem dX10_count_84 : decode cX10_count 84 = .ok (.getfield 10, 3) := by decide +kernel
theorem dX10_count_87 : decode cX10_count 87 = .ok (.getfield 113, 3) := by decide +kernel
theorem dX10_count_90 : decode cX10_count 90 = .ok (.getfield 290, 3) := by decide +kernel
theorem dX10_count_93 : decode cX10_count 93 = .ok (.ireturn, 1) := by decide +kernel
theorem dX10_count_94 : decode cX10_count 94 = .ok (.aload_n 0, 1) := by decide +kernel
theorem dX10_count_95 : decode cX10_count 95 = .ok (.getfield 10, 3) := by decide +kernel
theorem dX10_count_98 : decode cX10_count 98 = .ok (.getfield 129, 3) := by decide +kernel
theorem dX10_count_101 : decode cX10_count 101 = .ok (.getfield 229, 3) := by decide +kernel
theorem dX10_count_104 : decode cX10_count 104 = .ok (.ireturn, 1) := by decide +kernel
theorem dX10_count_105 : decode cX10_count 105 = .ok (.aload_n 0, 1) := by decide +kernel
theorem dX10_count_106 : decode cX10_count 106 = .ok (.getfield 10, 3) := by decide +kernel
theorem dX10_count_109 : decode cX10_count 109 = .ok (.getfield 141, 3) := by decide +kernel
theorem dX10_count_112 : decode cX10_count 112 = .ok (.invokevirtual 284, 3) := by decide +kernel
theorem dX10_count_115 : decode cX10_count 115 = .ok (.ireturn, 1) := by decide +kernel
theorem dX10_count_116 : decode cX10_count 116 = .ok (.aload_n 0, 1) := by decide +kernel
theorem dX10_count_117 : decode cX10_count 117 = .ok (.getfield 10, 3) := by decide +kernel
theorem dX10_count_120 : decode cX10_count 120 = .ok (.getfield 141, 3) := by decide +kernel
theorem dX10_count_123 : decode cX10_count 123 = .ok (.invokevirtual 198, 3) := by decide +kernel
theorem dX10_count_126 : decode cX10_count 126 = .ok (.ireturn, 1) := by decide +kernel
theorem dX10_count_127 : decode cX10_count 127 = .ok (.aload_n 0, 1) := by decide +kernel
theorem dX10_count_128 : decode cX10_count 128 = .ok (.getfield 10, 3) := by decide +kernel
theorem dX10_count_131 : decode cX10_count 131 = .ok (.getfield 113, 3) := by decide +kernel
theorem dX10_count_134 : decode cX10_count 134 = .ok (.invokevirtual 293, 3) := by decide +kernel
theorem dX10_count_137 : decode cX10_count 137 = .ok (.ireturn, 1) := by decide +kernel
theorem dX10_count_138 : decode cX10_count 138 = .ok (.aload_n 0, 1) := by decide +kernel
theorem dX10_count_139 : decode cX10_count 139 = .ok (.getfield 79, 3) := by decide +kernel
theorem dX10_count_142 : decode cX10_count 142 = .ok (.ireturn, 1) := by decide +kernel
theorem dX10_count_143 : decode cX10_count 143 = .ok (.aload_n 0, 1) := by decide +kernel
theorem dX10_count_144 : decode cX10_count 144 = .ok (.getfield 39, 3) := by decide +kernel
theorem dX10_count_147 : decode cX10_count 147 = .ok (.getfield 277, 3) := by decide +kernel
theorem dX10_count_150 : decode cX10_count 150 = .ok (.ireturn, 1) := by decide +kernel
theorem dX10_count_151 : decode cX10_count 151 = .ok (.aload_n 0, 1) := by decide +kernel
theorem dX10_count_152 : decode cX10_count 152 = .ok (.getfield 32, 3) := by decide +kernel
theorem dX10_count_155 : decode cX10_count 155 = .ok (.getfield 87, 3) := by decide +kernel
theorem dX10_count_158 : decode cX10_count 158 = .ok (.ireturn, 1) := by decide +kernel
theorem dX10_count_159 : decode cX10_count 159 = .ok (.bipush (-9), 2) := by decide +kernel
theorem dX10_count_161 : decode cX10_count 161 = .ok (.ireturn, 1) := by decide +kernel
theorem dX10_refuse_0 : decode cX10_refuse 0 = .ok (.aload_n 0, 1) := by decide +kernel
theorem dX10_refuse_1 : decode cX10_refuse 1 = .ok (.getfield 71, 3) := by decide +kernel
theorem dX10_refuse_4 : decode cX10_refuse 4 = .ok (.iload_n 1, 1) := by decide +kernel
theorem dX10_refuse_5 : decode cX10_refuse 5 = .ok (.ineg, 1) := by decide +kernel
theorem dX10_refuse_6 : decode cX10_refuse 6 = .ok (.dup2, 1) := by decide +kernel
theorem dX10_refuse_7 : decode cX10_refuse 7 = .ok (.iaload, 1) := by decide +kernel
theorem dX10_refuse_8 : decode cX10_refuse 8 = .ok (.iconst 1, 1) := by decide +kernel
theorem dX10_refuse_9 : decode cX10_refuse 9 = .ok (.iadd, 1) := by decide +kernel
theorem dX10_refuse_10 : decode cX10_refuse 10 = .ok (.iastore, 1) := by decide +kernel
theorem dX10_refuse_11 : decode cX10_refuse 11 = .ok (.iload_n 1, 1) := by decide +kernel
theorem dX10_refuse_12 : decode cX10_refuse 12 = .ok (.ireturn, 1) := by decide +kernel
theorem dX10_isCell_0 : decode cX10_isCell 0 = .ok (.iload_n 1, 1) := by decide +kernel
theorem dX10_isCell_1 : decode cX10_isCell 1 = .ok (.ifCond .lt 21, 3) := by decide +kernel
theorem dX10_isCell_4 : decode cX10_isCell 4 = .ok (.iload_n 1, 1) := by decide +kernel
theorem dX10_isCell_5 : decode cX10_isCell 5 = .ok (.aload_n 0, 1) := by decide +kernel
theorem dX10_isCell_6 : decode cX10_isCell 6 = .ok (.getfield 10, 3) := by decide +kernel
theorem dX10_isCell_9 : decode cX10_isCell 9 = .ok (.getfield 113, 3) := by decide +kernel
theorem dX10_isCell_12 : decode cX10_isCell 12 = .ok (.getfield 239, 3) := by decide +kernel
theorem dX10_isCell_15 : decode cX10_isCell 15 = .ok (.if_icmp .ge 7, 3) := by decide +kernel
theorem dX10_isCell_18 : decode cX10_isCell 18 = .ok (.iconst 1, 1) := by decide +kernel
theorem dX10_isCell_19 : decode cX10_isCell 19 = .ok (.goto 4, 3) := by decide +kernel
theorem dX10_isCell_22 : decode cX10_isCell 22 = .ok (.iconst 0, 1) := by decide +kernel
theorem dX10_isCell_23 : decode cX10_isCell 23 = .ok (.ireturn, 1) := by decide +kernel
theorem dX10_isPerson_0 : decode cX10_isPerson 0 = .ok (.iload_n 1, 1) := by decide +kernel
theorem dX10_isPerson_1 : decode cX10_isPerson 1 = .ok (.ifCond .lt 21, 3) := by decide +kernel
theorem dX10_isPerson_4 : decode cX10_isPerson 4 = .ok (.iload_n 1, 1) := by decide +kernel
theorem dX10_isPerson_5 : decode cX10_isPerson 5 = .ok (.aload_n 0, 1) := by decide +kernel
theorem dX10_isPerson_6 : decode cX10_isPerson 6 = .ok (.getfield 10, 3) := by decide +kernel
theorem dX10_isPerson_9 : decode cX10_isPerson 9 = .ok (.getfield 129, 3) := by decide +kernel
theorem dX10_isPerson_12 : decode cX10_isPerson 12 = .ok (.getfield 229, 3) := by decide +kernel
theorem dX10_isPerson_15 : decode cX10_isPerson 15 = .ok (.if_icmp .ge 7, 3) := by decide +kernel
theorem dX10_isPerson_18 : decode cX10_isPerson 18 = .ok (.iconst 1, 1) := by decide +kernel
theorem dX10_isPerson_19 : decode cX10_isPerson 19 = .ok (.goto 4, 3) := by decide +kernel
theorem dX10_isPerson_22 : decode cX10_isPerson 22 = .ok (.iconst 0, 1) := by decide +kernel
theorem dX10_isPerson_23 : decode cX10_isPerson 23 = .ok (.ireturn, 1) := by decide +kernel
theorem dX10_isTurn_0 : decode cX10_isTurn 0 = .ok (.iload_n 1, 1) := by decide +kernel
theorem dX10_isTurn_1 : decode cX10_isTurn 1 = .ok (.ifCond .lt 12, 3) := by decide +kernel
theorem dX10_isTurn_4 : decode cX10_isTurn 4 = .ok (.iload_n 1, 1) := by decide +kernel
theorem dX10_isTurn_5 : decode cX10_isTurn 5 = .ok (.iconst 4, 1) := by decide +kernel
theorem dX10_isTurn_6 : decode cX10_isTurn 6 = .ok (.if_icmp .ge 7, 3) := by decide +kernel
theorem dX10_isTurn_9 : decode cX10_isTurn 9 = .ok (.iconst 1, 1) := by decide +kernel
theorem dX10_isTurn_10 : decode cX10_isTurn 10 = .ok (.goto 4, 3) := by decide +kernel
theorem dX10_isTurn_13 : decode cX10_isTurn 13 = .ok (.iconst 0, 1) := by decide +kernel
theorem dX10_isTurn_14 : decode cX10_isTurn 14 = .ok (.ireturn, 1) := by decide +kernel
theorem dX10_isRule_0 : decode cX10_isRule 0 = .ok (.iload_n 1, 1) := by decide +kernel
theorem dX10_isRule_1 : decode cX10_isRule 1 = .ok (.ifCond .lt 12, 3) := by decide +kernel
theorem dX10_isRule_4 : decode cX10_isRule 4 = .ok (.iload_n 1, 1) := by decide +kernel
theorem dX10_isRule_5 : decode cX10_isRule 5 = .ok (.iconst 5, 1) := by decide +kernel
theorem dX10_isRule_6 : decode cX10_isRule 6 = .ok (.if_icmp .ge 7, 3) := by decide +kernel
theorem dX10_isRule_9 : decode cX10_isRule 9 = .ok (.iconst 1, 1) := by decide +kernel
theorem dX10_isRule_10 : decode cX10_isRule 10 = .ok (.goto 4, 3) := by decide +kernel
theorem dX10_isRule_13 : decode cX10_isRule 13 = .ok (.iconst 0, 1) := by decide +kernel
theorem dX10_isRule_14 : decode cX10_isRule 14 = .ok (.ireturn, 1) := by decide +kernel
theorem dX10_refusalOfTry_0 : decode cX10_refusalOfTry 0 = .ok (.aload_n 0, 1) := by decide +kernel
theorem dX10_refusalOfTry_1 : decode cX10_refusalOfTry 1 = .ok (.iload_n 1, 1) := by decide +kernel
theorem dX10_refusalOfTry_2 : decode cX10_refusalOfTry 2 = .ok (.invokevirtual 126, 3) := by decide +kernel
theorem dX10_refusalOfTry_5 : decode cX10_refusalOfTry 5 = .ok (.ifCond .eq 20, 3) := by decide +kernel
theorem dX10_refusalOfTry_8 : decode cX10_refusalOfTry 8 = .ok (.aload_n 0, 1) := by decide +kernel
theorem dX10_refusalOfTry_9 : decode cX10_refusalOfTry 9 = .ok (.iload_n 2, 1) := by decide +kernel
theorem dX10_refusalOfTry_10 : decode cX10_refusalOfTry 10 = .ok (.invokevirtual 105, 3) := by decide +kernel
theorem dX10_refusalOfTry_13 : decode cX10_refusalOfTry 13 = .ok (.ifCond .eq 12, 3) := by decide +kernel
theorem dX10_refusalOfTry_16 : decode cX10_refusalOfTry 16 = .ok (.aload_n 0, 1) := by decide +kernel
theorem dX10_refusalOfTry_17 : decode cX10_refusalOfTry 17 = .ok (.iload 4, 2) := by decide +kernel
theorem dX10_refusalOfTry_19 : decode cX10_refusalOfTry 19 = .ok (.invokevirtual 105, 3) := by decide +kernel
theorem dX10_refusalOfTry_22 : decode cX10_refusalOfTry 22 = .ok (.ifCond .ne 5, 3) := by decide +kernel
theorem dX10_refusalOfTry_25 : decode cX10_refusalOfTry 25 = .ok (.iconst (-1), 1) := by decide +kernel
theorem dX10_refusalOfTry_26 : decode cX10_refusalOfTry 26 = .ok (.ireturn, 1) := by decide +kernel
theorem dX10_refusalOfTry_27 : decode cX10_refusalOfTry 27 = .ok (.aload_n 0, 1) := by decide +kernel
theorem dX10_refusalOfTry_28 : decode cX10_refusalOfTry 28 = .ok (.iload_n 3, 1) := by decide +kernel
theorem dX10_refusalOfTry_29 : decode cX10_refusalOfTry 29 = .ok (.invokevirtual 110, 3) := by decide +kernel
theorem dX10_refusalOfTry_32 : decode cX10_refusalOfTry 32 = .ok (.ifCond .eq 7, 3) := by decide +kernel
theorem dX10_refusalOfTry_35 : decode cX10_refusalOfTry 35 = .ok (.iconst 0, 1) := by decide +kernel
theorem dX10_refusalOfTry_36 : decode cX10_refusalOfTry 36 = .ok (.goto 5, 3) := by decide +kernel
theorem dX10_refusalOfTry_39 : decode cX10_refusalOfTry 39 = .ok (.bipush (-2), 2) := by decide +kernel
theorem dX10_refusalOfTry_41 : decode cX10_refusalOfTry 41 = .ok (.ireturn, 1) := by decide +kernel
theorem dX10_refusalOfPlan_0 : decode cX10_refusalOfPlan 0 = .ok (.aload_n 0, 1) := by decide +kernel
theorem dX10_refusalOfPlan_1 : decode cX10_refusalOfPlan 1 = .ok (.iload_n 1, 1) := by decide +kernel
theorem dX10_refusalOfPlan_2 : decode cX10_refusalOfPlan 2 = .ok (.invokevirtual 226, 3) := by decide +kernel
theorem dX10_refusalOfPlan_5 : decode cX10_refusalOfPlan 5 = .ok (.ifCond .ne 6, 3) := by decide +kernel
theorem dX10_refusalOfPlan_8 : decode cX10_refusalOfPlan 8 = .ok (.bipush (-2), 2) := by decide +kernel
theorem dX10_refusalOfPlan_10 : decode cX10_refusalOfPlan 10 = .ok (.ireturn, 1) := by decide +kernel
theorem dX10_refusalOfPlan_11 : decode cX10_refusalOfPlan 11 = .ok (.aload_n 0, 1) := by decide +kernel
theorem dX10_refusalOfPlan_12 : decode cX10_refusalOfPlan 12 = .ok (.iload_n 2, 1) := by decide +kernel
theorem dX10_refusalOfPlan_13 : decode cX10_refusalOfPlan 13 = .ok (.invokevirtual 126, 3) := by decide +kernel
theorem dX10_refusalOfPlan_16 : decode cX10_refusalOfPlan 16 = .ok (.ifCond .eq 7, 3) := by decide +kernel
theorem dX10_refusalOfPlan_19 : decode cX10_refusalOfPlan 19 = .ok (.iconst 0, 1) := by decide +kernel
theorem dX10_refusalOfPlan_20 : decode cX10_refusalOfPlan 20 = .ok (.goto 4, 3) := by decide +kernel
theorem dX10_refusalOfPlan_23 : decode cX10_refusalOfPlan 23 = .ok (.iconst (-1), 1) := by decide +kernel
theorem dX10_refusalOfPlan_24 : decode cX10_refusalOfPlan 24 = .ok (.ireturn, 1) := by decide +kernel
theorem dX11_init_0 : decode cX11_init 0 = .ok (.aload_n 0, 1) := by decide +kernel
theorem dX11_init_1 : decode cX11_init 1 = .ok (.invokespecial 1, 3) := by decide +kernel
theorem dX11_init_4 : decode cX11_init 4 = .ok (.aload_n 0, 1) := by decide +kernel
theorem dX11_init_5 : decode cX11_init 5 = .ok (.bipush 7, 2) := by decide +kernel
theorem dX11_init_7 : decode cX11_init 7 = .ok (.newarray .int, 2) := by decide +kernel
theorem dX11_init_9 : decode cX11_init 9 = .ok (.putfield 7, 3) := by decide +kernel
theorem dX11_init_12 : decode cX11_init 12 = .ok (.aload_n 0, 1) := by decide +kernel
theorem dX11_init_13 : decode cX11_init 13 = .ok (.bipush 16, 2) := by decide +kernel
theorem dX11_init_15 : decode cX11_init 15 = .ok (.newarray .int, 2) := by decide +kernel
theorem dX11_init_17 : decode cX11_init 17 = .ok (.putfield 13, 3) := by decide +kernel
theorem dX11_init_20 : decode cX11_init 20 = .ok (.aload_n 0, 1) := by decide +kernel
theorem dX11_init_21 : decode cX11_init 21 = .ok (.bipush 16, 2) := by decide +kernel
theorem dX11_init_23 : decode cX11_init 23 = .ok (.newarray .int, 2) := by decide +kernel
theorem dX11_init_25 : decode cX11_init 25 = .ok (.putfield 16, 3) := by decide +kernel
theorem dX11_init_28 : decode cX11_init 28 = .ok (.aload_n 0, 1) := by decide +kernel
theorem dX11_init_29 : decode cX11_init 29 = .ok (.bipush 16, 2) := by decide +kernel
theorem dX11_init_31 : decode cX11_init 31 = .ok (.newarray .int, 2) := by decide +kernel
theorem dX11_init_33 : decode cX11_init 33 = .ok (.putfield 19, 3) := by decide +kernel
theorem dX11_init_36 : decode cX11_init 36 = .ok (.aload_n 0, 1) := by decide +kernel
theorem dX11_init_37 : decode cX11_init 37 = .ok (.bipush 16, 2) := by decide +kernel
theorem dX11_init_39 : decode cX11_init 39 = .ok (.newarray .int, 2) := by decide +kernel
theorem dX11_init_41 : decode cX11_init 41 = .ok (.putfield 22, 3) := by decide +kernel
theorem dX11_init_44 : decode cX11_init 44 = .ok (.aload_n 0, 1) := by decide +kernel
theorem dX11_init_45 : decode cX11_init 45 = .ok (.bipush 16, 2) := by decide +kernel
theorem dX11_init_47 : decode cX11_init 47 = .ok (.newarray .int, 2) := by decide +kernel
theorem dX11_init_49 : decode cX11_init 49 = .ok (.putfield 25, 3) := by decide +kernel
theorem dX11_init_52 : decode cX11_init 52 = .ok (.aload_n 0, 1) := by decide +kernel
theorem dX11_init_53 : decode cX11_init 53 = .ok (.bipush 16, 2) := by decide +kernel
theorem dX11_init_55 : decode cX11_init 55 = .ok (.newarray .int, 2) := by decide +kernel
theorem dX11_init_57 : decode cX11_init 57 = .ok (.putfield 28, 3) := by decide +kernel
theorem dX11_init_60 : decode cX11_init 60 = .ok (.aload_n 0, 1) := by decide +kernel
theorem dX11_init_61 : decode cX11_init 61 = .ok (.bipush 16, 2) := by decide +kernel
theorem dX11_init_63 : decode cX11_init 63 = .ok (.newarray .int, 2) := by decide +kernel
theorem dX11_init_65 : decode cX11_init 65 = .ok (.putfield 31, 3) := by decide +kernel
theorem dX11_init_68 : decode cX11_init 68 = .ok (.aload_n 0, 1) := by decide +kernel
theorem dX11_init_69 : decode cX11_init 69 = .ok (.bipush 6, 2) := by decide +kernel
theorem dX11_init_71 : decode cX11_init 71 = .ok (.newarray .int, 2) := by decide +kernel
theorem dX11_init_73 : decode cX11_init 73 = .ok (.putfield 34, 3) := by decide +kernel
theorem dX11_init_76 : decode cX11_init 76 = .ok (.aload_n 0, 1) := by decide +kernel
theorem dX11_init_77 : decode cX11_init 77 = .ok (.bipush 6, 2) := by decide +kernel
theorem dX11_init_79 : decode cX11_init 79 = .ok (.newarray .int, 2) := by decide +kernel
theorem dX11_init_81 : decode cX11_init 81 = .ok (.putfield 37, 3) := by decide +kernel
theorem dX11_init_84 : decode cX11_init 84 = .ok (.aload_n 0, 1) := by decide +kernel
theorem dX11_init_85 : decode cX11_init 85 = .ok (.bipush 6, 2) := by decide +kernel
theorem dX11_init_87 : decode cX11_init 87 = .ok (.newarray .int, 2) := by decide +kernel
theorem dX11_init_89 : decode cX11_init 89 = .ok (.putfield 40, 3) := by decide +kernel
theorem dX11_init_92 : decode cX11_init 92 = .ok (.aload_n 0, 1) := by decide +kernel
theorem dX11_init_93 : decode cX11_init 93 = .ok (.bipush 64, 2) := by decide +kernel
theorem dX11_init_95 : decode cX11_init 95 = .ok (.newarray .int, 2) := by decide +kernel
theorem dX11_init_97 : decode cX11_init 97 = .ok (.putfield 43, 3) := by decide +kernel
theorem dX11_init_100 : decode cX11_init 100 = .ok (.aload_n 0, 1) := by decide +kernel
theorem dX11_init_101 : decode cX11_init 101 = .ok (.bipush 32, 2) := by decide +kernel
theorem dX11_init_103 : decode cX11_init 103 = .ok (.newarray .int, 2) := by decide +kernel
theorem dX11_init_105 : decode cX11_init 105 = .ok (.putfield 46, 3) := by decide +kernel
theorem dX11_init_108 : decode cX11_init 108 = .ok (.aload_n 0, 1) := by decide +kernel
theorem dX11_init_109 : decode cX11_init 109 = .ok (.bipush 32, 2) := by decide +kernel
theorem dX11_init_111 : decode cX11_init 111 = .ok (.newarray .int, 2) := by decide +kernel
theorem dX11_init_113 : decode cX11_init 113 = .ok (.putfield 49, 3) := by decide +kernel
theorem dX11_init_116 : decode cX11_init 116 = .ok (.aload_n 0, 1) := by decide +kernel
theorem dX11_init_117 : decode cX11_init 117 = .ok (.bipush 32, 2) := by decide +kernel
theorem dX11_init_119 : decode cX11_init 119 = .ok (.newarray .int, 2) := by decide +kernel
theorem dX11_init_121 : decode cX11_init 121 = .ok (.putfield 52, 3) := by decide +kernel
theorem dX11_init_124 : decode cX11_init 124 = .ok (.aload_n 0, 1) := by decide +kernel
theorem dX11_init_125 : decode cX11_init 125 = .ok (.bipush 32, 2) := by decide +kernel
theorem dX11_init_127 : decode cX11_init 127 = .ok (.newarray .int, 2) := by decide +kernel
theorem dX11_init_129 : decode cX11_init 129 = .ok (.putfield 55, 3) := by decide +kernel
theorem dX11_init_132 : decode cX11_init 132 = .ok (.aload_n 0, 1) := by decide +kernel
theorem dX11_init_133 : decode cX11_init 133 = .ok (.bipush 32, 2) := by decide +kernel
theorem dX11_init_135 : decode cX11_init 135 = .ok (.newarray .int, 2) := by decide +kernel
theorem dX11_init_137 : decode cX11_init 137 = .ok (.putfield 58, 3) := by decide +kernel
theorem dX11_init_140 : decode cX11_init 140 = .ok (.aload_n 0, 1) := by decide +kernel
theorem dX11_init_141 : decode cX11_init 141 = .ok (.sipush 500, 3) := by decide +kernel
theorem dX11_init_144 : decode cX11_init 144 = .ok (.newarray .int, 2) := by decide +kernel
theorem dX11_init_146 : decode cX11_init 146 = .ok (.putfield 61, 3) := by decide +kernel
theorem dX11_init_149 : decode cX11_init 149 = .ok (.aload_n 0, 1) := by decide +kernel
theorem dX11_init_150 : decode cX11_init 150 = .ok (.bipush 16, 2) := by decide +kernel
theorem dX11_init_152 : decode cX11_init 152 = .ok (.newarray .int, 2) := by decide +kernel
theorem dX11_init_154 : decode cX11_init 154 = .ok (.putfield 64, 3) := by decide +kernel
theorem dX11_init_157 : decode cX11_init 157 = .ok (.aload_n 0, 1) := by decide +kernel
theorem dX11_init_158 : decode cX11_init 158 = .ok (.bipush 16, 2) := by decide +kernel
theorem dX11_init_160 : decode cX11_init 160 = .ok (.newarray .int, 2) := by decide +kernel
theorem dX11_init_162 : decode cX11_init 162 = .ok (.putfield 67, 3) := by decide +kernel
theorem dX11_init_165 : decode cX11_init 165 = .ok (.aload_n 0, 1) := by decide +kernel
theorem dX11_init_166 : decode cX11_init 166 = .ok (.bipush 16, 2) := by decide +kernel
theorem dX11_init_168 : decode cX11_init 168 = .ok (.newarray .int, 2) := by decide +kernel
theorem dX11_init_170 : decode cX11_init 170 = .ok (.putfield 70, 3) := by decide +kernel
theorem dX11_init_173 : decode cX11_init 173 = .ok (.aload_n 0, 1) := by decide +kernel
theorem dX11_init_174 : decode cX11_init 174 = .ok (.bipush 64, 2) := by decide +kernel
theorem dX11_init_176 : decode cX11_init 176 = .ok (.newarray .int, 2) := by decide +kernel
theorem dX11_init_178 : decode cX11_init 178 = .ok (.putfield 73, 3) := by decide +kernel
theorem dX11_init_181 : decode cX11_init 181 = .ok (.aload_n 0, 1) := by decide +kernel
theorem dX11_init_182 : decode cX11_init 182 = .ok (.bipush 16, 2) := by decide +kernel
theorem dX11_init_184 : decode cX11_init 184 = .ok (.newarray .int, 2) := by decide +kernel
theorem dX11_init_186 : decode cX11_init 186 = .ok (.putfield 76, 3) := by decide +kernel
theorem dX11_init_189 : decode cX11_init 189 = .ok (.aload_n 0, 1) := by decide +kernel
theorem dX11_init_190 : decode cX11_init 190 = .ok (.iconst 3, 1) := by decide +kernel
theorem dX11_init_191 : decode cX11_init 191 = .ok (.iconst 3, 1) := by decide +kernel
theorem dX11_init_192 : decode cX11_init 192 = .ok (.invokevirtual 79, 3) := by decide +kernel
theorem dX11_init_195 : decode cX11_init 195 = .ok (.return_, 1) := by decide +kernel
theorem dX11_no_0 : decode cX11_no 0 = .ok (.aload_n 0, 1) := by decide +kernel
theorem dX11_no_1 : decode cX11_no 1 = .ok (.getfield 7, 3) := by decide +kernel
theorem dX11_no_4 : decode cX11_no 4 = .ok (.iload_n 1, 1) := by decide +kernel
theorem dX11_no_5 : decode cX11_no 5 = .ok (.ineg, 1) := by decide +kernel
theorem dX11_no_6 : decode cX11_no 6 = .ok (.dup2, 1) := by decide +kernel
theorem dX11_no_7 : decode cX11_no 7 = .ok (.iaload, 1) := by decide +kernel
theorem dX11_no_8 : decode cX11_no 8 = .ok (.iconst 1, 1) := by decide +kernel
theorem dX11_no_9 : decode cX11_no 9 = .ok (.iadd, 1) := by decide +kernel
theorem dX11_no_10 : decode cX11_no 10 = .ok (.iastore, 1) := by decide +kernel
theorem dX11_no_11 : decode cX11_no 11 = .ok (.iload_n 1, 1) := by decide +kernel
theorem dX11_no_12 : decode cX11_no 12 = .ok (.ireturn, 1) := by decide +kernel
theorem dX11_lower_0 : decode cX11_lower 0 = .ok (.aload_n 0, 1) := by decide +kernel
theorem dX11_lower_1 : decode cX11_lower 1 = .ok (.getfield 7, 3) := by decide +kernel
theorem dX11_lower_4 : decode cX11_lower 4 = .ok (.iload_n 1, 1) := by decide +kernel
theorem dX11_lower_5 : decode cX11_lower 5 = .ok (.ineg, 1) := by decide +kernel
theorem dX11_lower_6 : decode cX11_lower 6 = .ok (.dup2, 1) := by decide +kernel
theorem dX11_lower_7 : decode cX11_lower 7 = .ok (.iaload, 1) := by decide +kernel
theorem dX11_lower_8 : decode cX11_lower 8 = .ok (.iconst 1, 1) := by decide +kernel
theorem dX11_lower_9 : decode cX11_lower 9 = .ok (.iadd, 1) := by decide +kernel
theorem dX11_lower_10 : decode cX11_lower 10 = .ok (.iastore, 1) := by decide +kernel
theorem dX11_lower_11 : decode cX11_lower 11 = .ok (.ldc 83, 2) := by decide +kernel
theorem dX11_lower_13 : decode cX11_lower 13 = .ok (.iload_n 1, 1) := by decide +kernel
theorem dX11_lower_14 : decode cX11_lower 14 = .ok (.isub, 1) := by decide +kernel
theorem dX11_lower_15 : decode cX11_lower 15 = .ok (.ireturn, 1) := by decide +kernel
theorem dX11_isIn_0 : decode cX11_isIn 0 = .ok (.iload_n 0, 1) := by decide +kernel
theorem dX11_isIn_1 : decode cX11_isIn 1 = .ok (.iload_n 1, 1) := by decide +kernel
theorem dX11_isIn_2 : decode cX11_isIn 2 = .ok (.if_icmp .lt 12, 3) := by decide +kernel
theorem dX11_isIn_5 : decode cX11_isIn 5 = .ok (.iload_n 0, 1) := by decide +kernel
theorem dX11_isIn_6 : decode cX11_isIn 6 = .ok (.iload_n 2, 1) := by decide +kernel
theorem dX11_isIn_7 : decode cX11_isIn 7 = .ok (.if_icmp .gt 7, 3) := by decide +kernel
theorem dX11_isIn_10 : decode cX11_isIn 10 = .ok (.iconst 1, 1) := by decide +kernel
theorem dX11_isIn_11 : decode cX11_isIn 11 = .ok (.goto 4, 3) := by decide +kernel
theorem dX11_isIn_14 : decode cX11_isIn 14 = .ok (.iconst 0, 1) := by decide +kernel
theorem dX11_isIn_15 : decode cX11_isIn 15 = .ok (.ireturn, 1) := by decide +kernel
theorem dX11_bound_0 : decode cX11_bound 0 = .ok (.iload_n 0, 1) := by decide +kernel
theorem dX11_bound_1 : decode cX11_bound 1 = .ok (.iload_n 1, 1) := by decide +kernel
theorem dX11_bound_2 : decode cX11_bound 2 = .ok (.if_icmp .ge 8, 3) := by decide +kernel
theorem dX11_bound_5 : decode cX11_bound 5 = .ok (.bipush (-4), 2) := by decide +kernel
theorem dX11_bound_7 : decode cX11_bound 7 = .ok (.goto 14, 3) := by decide +kernel
theorem dX11_bound_10 : decode cX11_bound 10 = .ok (.iload_n 0, 1) := by decide +kernel
theorem dX11_bound_11 : decode cX11_bound 11 = .ok (.iload_n 2, 1) := by decide +kernel
theorem dX11_bound_12 : decode cX11_bound 12 = .ok (.if_icmp .le 8, 3) := by decide +kernel
theorem dX11_bound_15 : decode cX11_bound 15 = .ok (.bipush (-6), 2) := by decide +kernel
theorem dX11_bound_17 : decode cX11_bound 17 = .ok (.goto 4, 3) := by decide +kernel
theorem dX11_bound_20 : decode cX11_bound 20 = .ok (.iconst 0, 1) := by decide +kernel
theorem dX11_bound_21 : decode cX11_bound 21 = .ok (.ireturn, 1) := by decide +kernel
theorem dX11_cells_0 : decode cX11_cells 0 = .ok (.aload_n 0, 1) := by decide +kernel
theorem dX11_cells_1 : decode cX11_cells 1 = .ok (.getfield 84, 3) := by decide +kernel
theorem dX11_cells_4 : decode cX11_cells 4 = .ok (.aload_n 0, 1) := by decide +kernel
theorem dX11_cells_5 : decode cX11_cells 5 = .ok (.getfield 88, 3) := by decide +kernel
theorem dX11_cells_8 : decode cX11_cells 8 = .ok (.imul, 1) := by decide +kernel
theorem dX11_cells_9 : decode cX11_cells 9 = .ok (.ireturn, 1) := by decide +kernel
theorem dX11_anew_0 : decode cX11_anew 0 = .ok (.aload_n 0, 1) := by decide +kernel
theorem dX11_anew_1 : decode cX11_anew 1 = .ok (.iload_n 1, 1) := by decide +kernel
theorem dX11_anew_2 : decode cX11_anew 2 = .ok (.putfield 84, 3) := by decide +kernel
theorem dX11_anew_5 : decode cX11_anew 5 = .ok (.aload_n 0, 1) := by decide +kernel
theorem dX11_anew_6 : decode cX11_anew 6 = .ok (.iload_n 2, 1) := by decide +kernel
theorem dX11_anew_7 : decode cX11_anew 7 = .ok (.putfield 88, 3) := by decide +kernel
theorem dX11_anew_10 : decode cX11_anew 10 = .ok (.iconst 0, 1) := by decide +kernel
theorem dX11_anew_11 : decode cX11_anew 11 = .ok (.istore_n 3, 1) := by decide +kernel
theorem dX11_anew_12 : decode cX11_anew 12 = .ok (.iload_n 3, 1) := by decide +kernel
theorem dX11_anew_13 : decode cX11_anew 13 = .ok (.bipush 16, 2) := by decide +kernel
theorem dX11_anew_15 : decode cX11_anew 15 = .ok (.if_icmp .ge 44, 3) := by decide +kernel
theorem dX11_anew_18 : decode cX11_anew 18 = .ok (.aload_n 0, 1) := by decide +kernel
theorem dX11_anew_19 : decode cX11_anew 19 = .ok (.getfield 13, 3) := by decide +kernel
theorem dX11_anew_22 : decode cX11_anew 22 = .ok (.iload_n 3, 1) := by decide +kernel
theorem dX11_anew_23 : decode cX11_anew 23 = .ok (.iconst 1, 1) := by decide +kernel
theorem dX11_anew_24 : decode cX11_anew 24 = .ok (.iastore, 1) := by decide +kernel
theorem dX11_anew_25 : decode cX11_anew 25 = .ok (.aload_n 0, 1) := by decide +kernel
theorem dX11_anew_26 : decode cX11_anew 26 = .ok (.getfield 16, 3) := by decide +kernel
theorem dX11_anew_29 : decode cX11_anew 29 = .ok (.iload_n 3, 1) := by decide +kernel
theorem dX11_anew_30 : decode cX11_anew 30 = .ok (.iconst 1, 1) := by decide +kernel
theorem dX11_anew_31 : decode cX11_anew 31 = .ok (.iastore, 1) := by decide +kernel
theorem dX11_anew_32 : decode cX11_anew 32 = .ok (.aload_n 0, 1) := by decide +kernel
theorem dX11_anew_33 : decode cX11_anew 33 = .ok (.getfield 19, 3) := by decide +kernel
theorem dX11_anew_36 : decode cX11_anew 36 = .ok (.iload_n 3, 1) := by decide +kernel
theorem dX11_anew_37 : decode cX11_anew 37 = .ok (.iconst 0, 1) := by decide +kernel
theorem dX11_anew_38 : decode cX11_anew 38 = .ok (.iastore, 1) := by decide +kernel
theorem dX11_anew_39 : decode cX11_anew 39 = .ok (.aload_n 0, 1) := by decide +kernel
theorem dX11_anew_40 : decode cX11_anew 40 = .ok (.getfield 22, 3) := by decide +kernel
theorem dX11_anew_43 : decode cX11_anew 43 = .ok (.iload_n 3, 1) := by decide +kernel
theorem dX11_anew_44 : decode cX11_anew 44 = .ok (.iconst (-1), 1) := by decide +kernel
theorem dX11_anew_45 : decode cX11_anew 45 = .ok (.iastore, 1) := by decide +kernel
theorem dX11_anew_46 : decode cX11_anew 46 = .ok (.aload_n 0, 1) := by decide +kernel
theorem dX11_anew_47 : decode cX11_anew 47 = .ok (.getfield 31, 3) := by decide +kernel
theorem dX11_anew_50 : decode cX11_anew 50 = .ok (.iload_n 3, 1) := by decide +kernel
theorem dX11_anew_51 : decode cX11_anew 51 = .ok (.iconst 0, 1) := by decide +kernel
theorem dX11_anew_52 : decode cX11_anew 52 = .ok (.iastore, 1) := by decide +kernel
theorem dX11_anew_53 : decode cX11_anew 53 = .ok (.iinc 3 1, 3) := by decide +kernel
theorem dX11_anew_56 : decode cX11_anew 56 = .ok (.goto (-44), 3) := by decide +kernel
theorem dX11_anew_59 : decode cX11_anew 59 = .ok (.return_, 1) := by decide +kernel
theorem dX11_isCell_0 : decode cX11_isCell 0 = .ok (.iload_n 1, 1) := by decide +kernel
theorem dX11_isCell_1 : decode cX11_isCell 1 = .ok (.ifCond .lt 15, 3) := by decide +kernel
theorem dX11_isCell_4 : decode cX11_isCell 4 = .ok (.iload_n 1, 1) := by decide +kernel
theorem dX11_isCell_5 : decode cX11_isCell 5 = .ok (.aload_n 0, 1) := by decide +kernel
theorem dX11_isCell_6 : decode cX11_isCell 6 = .ok (.invokevirtual 91, 3) := by decide +kernel
theorem dX11_isCell_9 : decode cX11_isCell 9 = .ok (.if_icmp .ge 7, 3) := by decide +kernel
theorem dX11_isCell_12 : decode cX11_isCell 12 = .ok (.iconst 1, 1) := by decide +kernel
theorem dX11_isCell_13 : decode cX11_isCell 13 = .ok (.goto 4, 3) := by decide +kernel
theorem dX11_isCell_16 : decode cX11_isCell 16 = .ok (.iconst 0, 1) := by decide +kernel
theorem dX11_isCell_17 : decode cX11_isCell 17 = .ok (.ireturn, 1) := by decide +kernel
theorem dX11_isPerson_0 : decode cX11_isPerson 0 = .ok (.iload_n 1, 1) := by decide +kernel
theorem dX11_isPerson_1 : decode cX11_isPerson 1 = .ok (.ifCond .lt 15, 3) := by decide +kernel
theorem dX11_isPerson_4 : decode cX11_isPerson 4 = .ok (.iload_n 1, 1) := by decide +kernel
theorem dX11_isPerson_5 : decode cX11_isPerson 5 = .ok (.aload_n 0, 1) := by decide +kernel
theorem dX11_isPerson_6 : decode cX11_isPerson 6 = .ok (.getfield 95, 3) := by decide +kernel
theorem dX11_isPerson_9 : decode cX11_isPerson 9 = .ok (.if_icmp .ge 7, 3) := by decide +kernel
theorem dX11_isPerson_12 : decode cX11_isPerson 12 = .ok (.iconst 1, 1) := by decide +kernel
theorem dX11_isPerson_13 : decode cX11_isPerson 13 = .ok (.goto 4, 3) := by decide +kernel
theorem dX11_isPerson_16 : decode cX11_isPerson 16 = .ok (.iconst 0, 1) := by decide +kernel
theorem dX11_isPerson_17 : decode cX11_isPerson 17 = .ok (.ireturn, 1) := by decide +kernel
theorem dX11_beside_0 : decode cX11_beside 0 = .ok (.iload_n 2, 1) := by decide +kernel
theorem dX11_beside_1 : decode cX11_beside 1 = .ok (.tableswitch 93 0 2 #[27, 46, 69], 27) := by decide +kernel
theorem dX11_beside_28 : decode cX11_beside 28 = .ok (.iload_n 1, 1) := by decide +kernel
theorem dX11_beside_29 : decode cX11_beside 29 = .ok (.aload_n 0, 1) := by decide +kernel
theorem dX11_beside_30 : decode cX11_beside 30 = .ok (.getfield 88, 3) := by decide +kernel
theorem dX11_beside_33 : decode cX11_beside 33 = .ok (.if_icmp .lt 12, 3) := by decide +kernel
theorem dX11_beside_36 : decode cX11_beside 36 = .ok (.iload_n 1, 1) := by decide +kernel
theorem dX11_beside_37 : decode cX11_beside 37 = .ok (.aload_n 0, 1) := by decide +kernel
theorem dX11_beside_38 : decode cX11_beside 38 = .ok (.getfield 88, 3) := by decide +kernel
theorem dX11_beside_41 : decode cX11_beside 41 = .ok (.isub, 1) := by decide +kernel
theorem dX11_beside_42 : decode cX11_beside 42 = .ok (.goto 4, 3) := by decide +kernel
theorem dX11_beside_45 : decode cX11_beside 45 = .ok (.iconst (-1), 1) := by decide +kernel
theorem dX11_beside_46 : decode cX11_beside 46 = .ok (.ireturn, 1) := by decide +kernel
theorem dX11_beside_47 : decode cX11_beside 47 = .ok (.iload_n 1, 1) := by decide +kernel
theorem dX11_beside_48 : decode cX11_beside 48 = .ok (.aload_n 0, 1) := by decide +kernel
theorem dX11_beside_49 : decode cX11_beside 49 = .ok (.getfield 88, 3) := by decide +kernel
theorem dX11_beside_52 : decode cX11_beside 52 = .ok (.irem, 1) := by decide +kernel
theorem dX11_beside_53 : decode cX11_beside 53 = .ok (.iconst 1, 1) := by decide +kernel
theorem dX11_beside_54 : decode cX11_beside 54 = .ok (.iadd, 1) := by decide +kernel
theorem dX11_beside_55 : decode cX11_beside 55 = .ok (.aload_n 0, 1) := by decide +kernel
theorem dX11_beside_56 : decode cX11_beside 56 = .ok (.getfield 88, 3) := by decide +kernel
theorem dX11_beside_59 : decode cX11_beside 59 = .ok (.if_icmp .ge 9, 3) := by decide +kernel
theorem dX11_beside_62 : decode cX11_beside 62 = .ok (.iload_n 1, 1) := by decide +kernel
theorem dX11_beside_63 : decode cX11_beside 63 = .ok (.iconst 1, 1) := by decide +kernel
theorem dX11_beside_64 : decode cX11_beside 64 = .ok (.iadd, 1) := by decide +kernel
theorem dX11_beside_65 : decode cX11_beside 65 = .ok (.goto 4, 3) := by decide +kernel
theorem dX11_beside_68 : decode cX11_beside 68 = .ok (.iconst (-1), 1) := by decide +kernel
theorem dX11_beside_69 : decode cX11_beside 69 = .ok (.ireturn, 1) := by decide +kernel
theorem dX11_beside_70 : decode cX11_beside 70 = .ok (.iload_n 1, 1) := by decide +kernel
theorem dX11_beside_71 : decode cX11_beside 71 = .ok (.aload_n 0, 1) := by decide +kernel
theorem dX11_beside_72 : decode cX11_beside 72 = .ok (.getfield 88, 3) := by decide +kernel
theorem dX11_beside_75 : decode cX11_beside 75 = .ok (.iadd, 1) := by decide +kernel
theorem dX11_beside_76 : decode cX11_beside 76 = .ok (.aload_n 0, 1) := by decide +kernel
theorem dX11_beside_77 : decode cX11_beside 77 = .ok (.invokevirtual 91, 3) := by decide +kernel
theorem dX11_beside_80 : decode cX11_beside 80 = .ok (.if_icmp .ge 12, 3) := by decide +kernel
theorem dX11_beside_83 : decode cX11_beside 83 = .ok (.iload_n 1, 1) := by decide +kernel
theorem dX11_beside_84 : decode cX11_beside 84 = .ok (.aload_n 0, 1) := by decide +kernel
theorem dX11_beside_85 : decode cX11_beside 85 = .ok (.getfield 88, 3) := by decide +kernel
theorem dX11_beside_88 : decode cX11_beside 88 = .ok (.iadd, 1) := by decide +kernel
theorem dX11_beside_89 : decode cX11_beside 89 = .ok (.goto 4, 3) := by decide +kernel
theorem dX11_beside_92 : decode cX11_beside 92 = .ok (.iconst (-1), 1) := by decide +kernel
theorem dX11_beside_93 : decode cX11_beside 93 = .ok (.ireturn, 1) := by decide +kernel
theorem dX11_beside_94 : decode cX11_beside 94 = .ok (.iload_n 1, 1) := by decide +kernel
theorem dX11_beside_95 : decode cX11_beside 95 = .ok (.aload_n 0, 1) := by decide +kernel
theorem dX11_beside_96 : decode cX11_beside 96 = .ok (.getfield 88, 3) := by decide +kernel
theorem dX11_beside_99 : decode cX11_beside 99 = .ok (.irem, 1) := by decide +kernel
theorem dX11_beside_100 : decode cX11_beside 100 = .ok (.ifCond .le 9, 3) := by decide +kernel
theorem dX11_beside_103 : decode cX11_beside 103 = .ok (.iload_n 1, 1) := by decide +kernel
theorem dX11_beside_104 : decode cX11_beside 104 = .ok (.iconst 1, 1) := by decide +kernel
theorem dX11_beside_105 : decode cX11_beside 105 = .ok (.isub, 1) := by decide +kernel
theorem dX11_beside_106 : decode cX11_beside 106 = .ok (.goto 4, 3) := by decide +kernel
theorem dX11_beside_109 : decode cX11_beside 109 = .ok (.iconst (-1), 1) := by decide +kernel
theorem dX11_beside_110 : decode cX11_beside 110 = .ok (.ireturn, 1) := by decide +kernel
theorem dX11_sideOf_0 : decode cX11_sideOf 0 = .ok (.aload_n 0, 1) := by decide +kernel
theorem dX11_sideOf_1 : decode cX11_sideOf 1 = .ok (.iload_n 1, 1) := by decide +kernel
theorem dX11_sideOf_2 : decode cX11_sideOf 2 = .ok (.iload_n 2, 1) := by decide +kernel
theorem dX11_sideOf_3 : decode cX11_sideOf 3 = .ok (.invokevirtual 98, 3) := by decide +kernel
theorem dX11_sideOf_6 : decode cX11_sideOf 6 = .ok (.istore_n 3, 1) := by decide +kernel
theorem dX11_sideOf_7 : decode cX11_sideOf 7 = .ok (.iload_n 3, 1) := by decide +kernel
theorem dX11_sideOf_8 : decode cX11_sideOf 8 = .ok (.ifCond .ge 5, 3) := by decide +kernel
theorem dX11_sideOf_11 : decode cX11_sideOf 11 = .ok (.iconst 0, 1) := by decide +kernel
theorem dX11_sideOf_12 : decode cX11_sideOf 12 = .ok (.ireturn, 1) := by decide +kernel
theorem dX11_sideOf_13 : decode cX11_sideOf 13 = .ok (.iload_n 2, 1) := by decide +kernel
theorem dX11_sideOf_14 : decode cX11_sideOf 14 = .ok (.iconst 1, 1) := by decide +kernel
theorem dX11_sideOf_15 : decode cX11_sideOf 15 = .ok (.if_icmp .ne 12, 3) := by decide +kernel
theorem dX11_sideOf_18 : decode cX11_sideOf 18 = .ok (.aload_n 0, 1) := by decide +kernel
theorem dX11_sideOf_19 : decode cX11_sideOf 19 = .ok (.getfield 13, 3) := by decide +kernel
theorem dX11_sideOf_22 : decode cX11_sideOf 22 = .ok (.iload_n 1, 1) := by decide +kernel
theorem dX11_sideOf_23 : decode cX11_sideOf 23 = .ok (.iaload, 1) := by decide +kernel
theorem dX11_sideOf_24 : decode cX11_sideOf 24 = .ok (.goto 38, 3) := by decide +kernel
theorem dX11_sideOf_27 : decode cX11_sideOf 27 = .ok (.iload_n 2, 1) := by decide +kernel
theorem dX11_sideOf_28 : decode cX11_sideOf 28 = .ok (.iconst 2, 1) := by decide +kernel
theorem dX11_sideOf_29 : decode cX11_sideOf 29 = .ok (.if_icmp .ne 12, 3) := by decide +kernel
theorem dX11_sideOf_32 : decode cX11_sideOf 32 = .ok (.aload_n 0, 1) := by decide +kernel
theorem dX11_sideOf_33 : decode cX11_sideOf 33 = .ok (.getfield 16, 3) := by decide +kernel
theorem dX11_sideOf_36 : decode cX11_sideOf 36 = .ok (.iload_n 1, 1) := by decide +kernel
theorem dX11_sideOf_37 : decode cX11_sideOf 37 = .ok (.iaload, 1) := by decide +kernel
theorem dX11_sideOf_38 : decode cX11_sideOf 38 = .ok (.goto 24, 3) := by decide +kernel
theorem dX11_sideOf_41 : decode cX11_sideOf 41 = .ok (.iload_n 2, 1) := by decide +kernel
theorem dX11_sideOf_42 : decode cX11_sideOf 42 = .ok (.ifCond .ne 13, 3) := by decide +kernel
theorem dX11_sideOf_45 : decode cX11_sideOf 45 = .ok (.aload_n 0, 1) := by decide +kernel
theorem dX11_sideOf_46 : decode cX11_sideOf 46 = .ok (.getfield 16, 3) := by decide +kernel
theorem dX11_sideOf_49 : decode cX11_sideOf 49 = .ok (.iload_n 3, 1) := by decide +kernel
theorem dX11_sideOf_50 : decode cX11_sideOf 50 = .ok (.iaload, 1) := by decide +kernel
theorem dX11_sideOf_51 : decode cX11_sideOf 51 = .ok (.ineg, 1) := by decide +kernel
theorem dX11_sideOf_52 : decode cX11_sideOf 52 = .ok (.goto 10, 3) := by decide +kernel
theorem dX11_sideOf_55 : decode cX11_sideOf 55 = .ok (.aload_n 0, 1) := by decide +kernel
theorem dX11_sideOf_56 : decode cX11_sideOf 56 = .ok (.getfield 13, 3) := by decide +kernel
theorem dX11_sideOf_59 : decode cX11_sideOf 59 = .ok (.iload_n 3, 1) := by decide +kernel
theorem dX11_sideOf_60 : decode cX11_sideOf 60 = .ok (.iaload, 1) := by decide +kernel
theorem dX11_sideOf_61 : decode cX11_sideOf 61 = .ok (.ineg, 1) := by decide +kernel
theorem dX11_sideOf_62 : decode cX11_sideOf 62 = .ok (.ireturn, 1) := by decide +kernel
theorem dX11_turned_0 : decode cX11_turned 0 = .ok (.aload_n 0, 1) := by decide +kernel
theorem dX11_turned_1 : decode cX11_turned 1 = .ok (.iload_n 1, 1) := by decide +kernel
theorem dX11_turned_2 : decode cX11_turned 2 = .ok (.iload_n 3, 1) := by decide +kernel
theorem dX11_turned_3 : decode cX11_turned 3 = .ok (.iconst 4, 1) := by decide +kernel
theorem dX11_turned_4 : decode cX11_turned 4 = .ok (.iadd, 1) := by decide +kernel
theorem dX11_turned_5 : decode cX11_turned 5 = .ok (.iload_n 2, 1) := by decide +kernel
theorem dX11_turned_6 : decode cX11_turned 6 = .ok (.isub, 1) := by decide +kernel
theorem dX11_turned_7 : decode cX11_turned 7 = .ok (.iconst 4, 1) := by decide +kernel
theorem dX11_turned_8 : decode cX11_turned 8 = .ok (.irem, 1) := by decide +kernel
theorem dX11_turned_9 : decode cX11_turned 9 = .ok (.invokevirtual 102, 3) := by decide +kernel
theorem dX11_turned_12 : decode cX11_turned 12 = .ok (.ireturn, 1) := by decide +kernel
theorem dX11_isRim_0 : decode cX11_isRim 0 = .ok (.iconst 0, 1) := by decide +kernel
theorem dX11_isRim_1 : decode cX11_isRim 1 = .ok (.istore_n 2, 1) := by decide +kernel
theorem dX11_isRim_2 : decode cX11_isRim 2 = .ok (.iload_n 2, 1) := by decide +kernel
theorem dX11_isRim_3 : decode cX11_isRim 3 = .ok (.iconst 4, 1) := by decide +kernel
theorem dX11_isRim_4 : decode cX11_isRim 4 = .ok (.if_icmp .ge 20, 3) := by decide +kernel
theorem dX11_isRim_7 : decode cX11_isRim 7 = .ok (.aload_n 0, 1) := by decide +kernel
theorem dX11_isRim_8 : decode cX11_isRim 8 = .ok (.iload_n 1, 1) := by decide +kernel
theorem dX11_isRim_9 : decode cX11_isRim 9 = .ok (.iload_n 2, 1) := by decide +kernel
theorem dX11_isRim_10 : decode cX11_isRim 10 = .ok (.invokevirtual 98, 3) := by decide +kernel
theorem dX11_isRim_13 : decode cX11_isRim 13 = .ok (.ifCond .ge 5, 3) := by decide +kernel
theorem dX11_isRim_16 : decode cX11_isRim 16 = .ok (.iconst 1, 1) := by decide +kernel
theorem dX11_isRim_17 : decode cX11_isRim 17 = .ok (.ireturn, 1) := by decide +kernel
theorem dX11_isRim_18 : decode cX11_isRim 18 = .ok (.iinc 2 1, 3) := by decide +kernel
theorem dX11_isRim_21 : decode cX11_isRim 21 = .ok (.goto (-19), 3) := by decide +kernel
theorem dX11_isRim_24 : decode cX11_isRim 24 = .ok (.iconst 0, 1) := by decide +kernel
theorem dX11_isRim_25 : decode cX11_isRim 25 = .ok (.ireturn, 1) := by decide +kernel
theorem dX11_feed_0 : decode cX11_feed 0 = .ok (.iload_n 1, 1) := by decide +kernel
theorem dX11_feed_1 : decode cX11_feed 1 = .ok (.iconst 1, 1) := by decide +kernel
theorem dX11_feed_2 : decode cX11_feed 2 = .ok (.bipush 8, 2) := by decide +kernel
theorem dX11_feed_4 : decode cX11_feed 4 = .ok (.invokestatic 105, 3) := by decide +kernel
theorem dX11_feed_7 : decode cX11_feed 7 = .ok (.istore 4, 2) := by decide +kernel
theorem dX11_feed_9 : decode cX11_feed 9 = .ok (.iload 4, 2) := by decide +kernel
theorem dX11_feed_11 : decode cX11_feed 11 = .ok (.ifCond .ne 18, 3) := by decide +kernel
theorem dX11_feed_14 : decode cX11_feed 14 = .ok (.aload_n 0, 1) := by decide +kernel
theorem dX11_feed_15 : decode cX11_feed 15 = .ok (.getfield 109, 3) := by decide +kernel
theorem dX11_feed_18 : decode cX11_feed 18 = .ok (.iload_n 1, 1) := by decide +kernel
theorem dX11_feed_19 : decode cX11_feed 19 = .ok (.iadd, 1) := by decide +kernel
theorem dX11_feed_20 : decode cX11_feed 20 = .ok (.bipush 64, 2) := by decide +kernel
theorem dX11_feed_22 : decode cX11_feed 22 = .ok (.if_icmp .le 7, 3) := by decide +kernel
theorem dX11_feed_25 : decode cX11_feed 25 = .ok (.bipush (-6), 2) := by decide +kernel
theorem dX11_feed_27 : decode cX11_feed 27 = .ok (.istore 4, 2) := by decide +kernel
theorem dX11_feed_29 : decode cX11_feed 29 = .ok (.iload 4, 2) := by decide +kernel
theorem dX11_feed_31 : decode cX11_feed 31 = .ok (.ifCond .eq 10, 3) := by decide +kernel
theorem dX11_feed_34 : decode cX11_feed 34 = .ok (.aload_n 0, 1) := by decide +kernel
theorem dX11_feed_35 : decode cX11_feed 35 = .ok (.iload 4, 2) := by decide +kernel
theorem dX11_feed_37 : decode cX11_feed 37 = .ok (.invokevirtual 112, 3) := by decide +kernel
theorem dX11_feed_40 : decode cX11_feed 40 = .ok (.ireturn, 1) := by decide +kernel
theorem dX11_feed_41 : decode cX11_feed 41 = .ok (.iconst 0, 1) := by decide +kernel
theorem dX11_feed_42 : decode cX11_feed 42 = .ok (.istore 5, 2) := by decide +kernel
theorem dX11_feed_44 : decode cX11_feed 44 = .ok (.iload 5, 2) := by decide +kernel
theorem dX11_feed_46 : decode cX11_feed 46 = .ok (.iload_n 1, 1) := by decide +kernel
theorem dX11_feed_47 : decode cX11_feed 47 = .ok (.if_icmp .ge 40, 3) := by decide +kernel
theorem dX11_feed_50 : decode cX11_feed 50 = .ok (.aload_n 0, 1) := by decide +kernel
theorem dX11_feed_51 : decode cX11_feed 51 = .ok (.getfield 43, 3) := by decide +kernel
theorem dX11_feed_54 : decode cX11_feed 54 = .ok (.aload_n 0, 1) := by decide +kernel
theorem dX11_feed_55 : decode cX11_feed 55 = .ok (.getfield 109, 3) := by decide +kernel
theorem dX11_feed_58 : decode cX11_feed 58 = .ok (.lload_n 2, 1) := by decide +kernel
theorem dX11_feed_59 : decode cX11_feed 59 = .ok (.bipush 8, 2) := by decide +kernel
theorem dX11_feed_61 : decode cX11_feed 61 = .ok (.iload 5, 2) := by decide +kernel
theorem dX11_feed_63 : decode cX11_feed 63 = .ok (.imul, 1) := by decide +kernel
theorem dX11_feed_64 : decode cX11_feed 64 = .ok (.lshr, 1) := by decide +kernel
theorem dX11_feed_65 : decode cX11_feed 65 = .ok (.ldc2_w 116, 3) := by decide +kernel
theorem dX11_feed_68 : decode cX11_feed 68 = .ok (.land, 1) := by decide +kernel
theorem dX11_feed_69 : decode cX11_feed 69 = .ok (.l2i, 1) := by decide +kernel
theorem dX11_feed_70 : decode cX11_feed 70 = .ok (.iastore, 1) := by decide +kernel
theorem dX11_feed_71 : decode cX11_feed 71 = .ok (.aload_n 0, 1) := by decide +kernel
theorem dX11_feed_72 : decode cX11_feed 72 = .ok (.dup, 1) := by decide +kernel
theorem dX11_feed_73 : decode cX11_feed 73 = .ok (.getfield 109, 3) := by decide +kernel
theorem dX11_feed_76 : decode cX11_feed 76 = .ok (.iconst 1, 1) := by decide +kernel
theorem dX11_feed_77 : decode cX11_feed 77 = .ok (.iadd, 1) := by decide +kernel
theorem dX11_feed_78 : decode cX11_feed 78 = .ok (.putfield 109, 3) := by decide +kernel
theorem dX11_feed_81 : decode cX11_feed 81 = .ok (.iinc 5 1, 3) := by decide +kernel
theorem dX11_feed_84 : decode cX11_feed 84 = .ok (.goto (-40), 3) := by decide +kernel
theorem dX11_feed_87 : decode cX11_feed 87 = .ok (.aload_n 0, 1) := by decide +kernel
theorem dX11_feed_88 : decode cX11_feed 88 = .ok (.getfield 109, 3) := by decide +kernel
theorem dX11_feed_91 : decode cX11_feed 91 = .ok (.ireturn, 1) := by decide +kernel
theorem dX11_nextByte_0 : decode cX11_nextByte 0 = .ok (.aload_n 0, 1) := by decide +kernel
theorem dX11_nextByte_1 : decode cX11_nextByte 1 = .ok (.getfield 118, 3) := by decide +kernel
theorem dX11_nextByte_4 : decode cX11_nextByte 4 = .ok (.aload_n 0, 1) := by decide +kernel
theorem dX11_nextByte_5 : decode cX11_nextByte 5 = .ok (.getfield 109, 3) := by decide +kernel
theorem dX11_nextByte_8 : decode cX11_nextByte 8 = .ok (.if_icmp .ge 15, 3) := by decide +kernel
theorem dX11_nextByte_11 : decode cX11_nextByte 11 = .ok (.aload_n 0, 1) := by decide +kernel
theorem dX11_nextByte_12 : decode cX11_nextByte 12 = .ok (.getfield 43, 3) := by decide +kernel
theorem dX11_nextByte_15 : decode cX11_nextByte 15 = .ok (.aload_n 0, 1) := by decide +kernel
theorem dX11_nextByte_16 : decode cX11_nextByte 16 = .ok (.getfield 118, 3) := by decide +kernel
theorem dX11_nextByte_19 : decode cX11_nextByte 19 = .ok (.iaload, 1) := by decide +kernel
theorem dX11_nextByte_20 : decode cX11_nextByte 20 = .ok (.goto 4, 3) := by decide +kernel
theorem dX11_nextByte_23 : decode cX11_nextByte 23 = .ok (.iconst (-1), 1) := by decide +kernel
theorem dX11_nextByte_24 : decode cX11_nextByte 24 = .ok (.ireturn, 1) := by decide +kernel
theorem dX11_isNext_0 : decode cX11_isNext 0 = .ok (.aload_n 0, 1) := by decide +kernel
theorem dX11_isNext_1 : decode cX11_isNext 1 = .ok (.invokevirtual 121, 3) := by decide +kernel
theorem dX11_isNext_4 : decode cX11_isNext 4 = .ok (.iload_n 1, 1) := by decide +kernel
theorem dX11_isNext_5 : decode cX11_isNext 5 = .ok (.if_icmp .eq 5, 3) := by decide +kernel
theorem dX11_isNext_8 : decode cX11_isNext 8 = .ok (.iconst 0, 1) := by decide +kernel
theorem dX11_isNext_9 : decode cX11_isNext 9 = .ok (.ireturn, 1) := by decide +kernel
theorem dX11_isNext_10 : decode cX11_isNext 10 = .ok (.aload_n 0, 1) := by decide +kernel
theorem dX11_isNext_11 : decode cX11_isNext 11 = .ok (.dup, 1) := by decide +kernel
theorem dX11_isNext_12 : decode cX11_isNext 12 = .ok (.getfield 118, 3) := by decide +kernel
theorem dX11_isNext_15 : decode cX11_isNext 15 = .ok (.iconst 1, 1) := by decide +kernel
theorem dX11_isNext_16 : decode cX11_isNext 16 = .ok (.iadd, 1) := by decide +kernel
theorem dX11_isNext_17 : decode cX11_isNext 17 = .ok (.putfield 118, 3) := by decide +kernel
theorem dX11_isNext_20 : decode cX11_isNext 20 = .ok (.iconst 1, 1) := by decide +kernel
theorem dX11_isNext_21 : decode cX11_isNext 21 = .ok (.ireturn, 1) := by decide +kernel
theorem dX11_number_0 : decode cX11_number 0 = .ok (.aload_n 0, 1) := by decide +kernel
theorem dX11_number_1 : decode cX11_number 1 = .ok (.invokevirtual 121, 3) := by decide +kernel
theorem dX11_number_4 : decode cX11_number 4 = .ok (.bipush 48, 2) := by decide +kernel
theorem dX11_number_6 : decode cX11_number 6 = .ok (.bipush 57, 2) := by decide +kernel
theorem dX11_number_8 : decode cX11_number 8 = .ok (.invokestatic 124, 3) := by decide +kernel
theorem dX11_number_11 : decode cX11_number 11 = .ok (.ifCond .ne 5, 3) := by decide +kernel
theorem dX11_number_14 : decode cX11_number 14 = .ok (.iconst (-1), 1) := by decide +kernel
theorem dX11_number_15 : decode cX11_number 15 = .ok (.ireturn, 1) := by decide +kernel
theorem dX11_number_16 : decode cX11_number 16 = .ok (.iconst 0, 1) := by decide +kernel
theorem dX11_number_17 : decode cX11_number 17 = .ok (.istore_n 2, 1) := by decide +kernel
theorem dX11_number_18 : decode cX11_number 18 = .ok (.iconst 0, 1) := by decide +kernel
theorem dX11_number_19 : decode cX11_number 19 = .ok (.istore_n 3, 1) := by decide +kernel
theorem dX11_number_20 : decode cX11_number 20 = .ok (.iload_n 3, 1) := by decide +kernel
theorem dX11_number_21 : decode cX11_number 21 = .ok (.iload_n 1, 1) := by decide +kernel
theorem dX11_number_22 : decode cX11_number 22 = .ok (.if_icmp .ge 46, 3) := by decide +kernel
theorem dX11_number_25 : decode cX11_number 25 = .ok (.aload_n 0, 1) := by decide +kernel
theorem dX11_number_26 : decode cX11_number 26 = .ok (.invokevirtual 121, 3) := by decide +kernel
theorem dX11_number_29 : decode cX11_number 29 = .ok (.bipush 48, 2) := by decide +kernel
theorem dX11_number_31 : decode cX11_number 31 = .ok (.bipush 57, 2) := by decide +kernel
theorem dX11_number_33 : decode cX11_number 33 = .ok (.invokestatic 124, 3) := by decide +kernel
theorem dX11_number_36 : decode cX11_number 36 = .ok (.ifCond .eq 32, 3) := by decide +kernel
theorem dX11_number_39 : decode cX11_number 39 = .ok (.bipush 10, 2) := by decide +kernel
theorem dX11_number_41 : decode cX11_number 41 = .ok (.iload_n 2, 1) := by decide +kernel
theorem dX11_number_42 : decode cX11_number 42 = .ok (.imul, 1) := by decide +kernel
theorem dX11_number_43 : decode cX11_number 43 = .ok (.aload_n 0, 1) := by decide +kernel
theorem dX11_number_44 : decode cX11_number 44 = .ok (.invokevirtual 121, 3) := by decide +kernel
theorem dX11_number_47 : decode cX11_number 47 = .ok (.iadd, 1) := by decide +kernel
theorem dX11_number_48 : decode cX11_number 48 = .ok (.bipush 48, 2) := by decide +kernel
theorem dX11_number_50 : decode cX11_number 50 = .ok (.isub, 1) := by decide +kernel
theorem dX11_number_51 : decode cX11_number 51 = .ok (.istore_n 2, 1) := by decide +kernel
theorem dX11_number_52 : decode cX11_number 52 = .ok (.aload_n 0, 1) := by decide +kernel
theorem dX11_number_53 : decode cX11_number 53 = .ok (.dup, 1) := by decide +kernel
theorem dX11_number_54 : decode cX11_number 54 = .ok (.getfield 118, 3) := by decide +kernel
theorem dX11_number_57 : decode cX11_number 57 = .ok (.iconst 1, 1) := by decide +kernel
theorem dX11_number_58 : decode cX11_number 58 = .ok (.iadd, 1) := by decide +kernel
theorem dX11_number_59 : decode cX11_number 59 = .ok (.putfield 118, 3) := by decide +kernel
theorem dX11_number_62 : decode cX11_number 62 = .ok (.iinc 3 1, 3) := by decide +kernel
theorem dX11_number_65 : decode cX11_number 65 = .ok (.goto (-45), 3) := by decide +kernel
theorem dX11_number_68 : decode cX11_number 68 = .ok (.iload_n 2, 1) := by decide +kernel
theorem dX11_number_69 : decode cX11_number 69 = .ok (.ireturn, 1) := by decide +kernel
theorem dX11_kindOf_0 : decode cX11_kindOf 0 = .ok (.iload_n 0, 1) := by decide +kernel
theorem dX11_kindOf_1 : decode cX11_kindOf 1 = .ok (.lookupswitch 61 #[(99, 53), (101, 55), (102, 51), (108, 57), (115, 59)], 51) := by decide +kernel
theorem dX11_kindOf_52 : decode cX11_kindOf 52 = .ok (.iconst 0, 1) := by decide +kernel
theorem dX11_kindOf_53 : decode cX11_kindOf 53 = .ok (.ireturn, 1) := by decide +kernel
theorem dX11_kindOf_54 : decode cX11_kindOf 54 = .ok (.iconst 1, 1) := by decide +kernel
theorem dX11_kindOf_55 : decode cX11_kindOf 55 = .ok (.ireturn, 1) := by decide +kernel
theorem dX11_kindOf_56 : decode cX11_kindOf 56 = .ok (.iconst 2, 1) := by decide +kernel
theorem dX11_kindOf_57 : decode cX11_kindOf 57 = .ok (.ireturn, 1) := by decide +kernel
theorem dX11_kindOf_58 : decode cX11_kindOf 58 = .ok (.iconst 3, 1) := by decide +kernel
theorem dX11_kindOf_59 : decode cX11_kindOf 59 = .ok (.ireturn, 1) := by decide +kernel
theorem dX11_kindOf_60 : decode cX11_kindOf 60 = .ok (.iconst 4, 1) := by decide +kernel
theorem dX11_kindOf_61 : decode cX11_kindOf 61 = .ok (.ireturn, 1) := by decide +kernel
theorem dX11_kindOf_62 : decode cX11_kindOf 62 = .ok (.iconst (-1), 1) := by decide +kernel
theorem dX11_kindOf_63 : decode cX11_kindOf 63 = .ok (.ireturn, 1) := by decide +kernel
theorem dX11_readsEdge_0 : decode cX11_readsEdge 0 = .ok (.aload_n 0, 1) := by decide +kernel
theorem dX11_readsEdge_1 : decode cX11_readsEdge 1 = .ok (.getfield 52, 3) := by decide +kernel
theorem dX11_readsEdge_4 : decode cX11_readsEdge 4 = .ok (.iload_n 1, 1) := by decide +kernel
theorem dX11_readsEdge_5 : decode cX11_readsEdge 5 = .ok (.aload_n 0, 1) := by decide +kernel
theorem dX11_readsEdge_6 : decode cX11_readsEdge 6 = .ok (.iconst 2, 1) := by decide +kernel
theorem dX11_readsEdge_7 : decode cX11_readsEdge 7 = .ok (.invokevirtual 128, 3) := by decide +kernel
theorem dX11_readsEdge_10 : decode cX11_readsEdge 10 = .ok (.iastore, 1) := by decide +kernel
theorem dX11_readsEdge_11 : decode cX11_readsEdge 11 = .ok (.aload_n 0, 1) := by decide +kernel
theorem dX11_readsEdge_12 : decode cX11_readsEdge 12 = .ok (.getfield 52, 3) := by decide +kernel
theorem dX11_readsEdge_15 : decode cX11_readsEdge 15 = .ok (.iload_n 1, 1) := by decide +kernel
theorem dX11_readsEdge_16 : decode cX11_readsEdge 16 = .ok (.iaload, 1) := by decide +kernel
theorem dX11_readsEdge_17 : decode cX11_readsEdge 17 = .ok (.ifCond .ge 5, 3) := by decide +kernel
theorem dX11_readsEdge_20 : decode cX11_readsEdge 20 = .ok (.iconst 0, 1) := by decide +kernel
theorem dX11_readsEdge_21 : decode cX11_readsEdge 21 = .ok (.ireturn, 1) := by decide +kernel
theorem dX11_readsEdge_22 : decode cX11_readsEdge 22 = .ok (.aload_n 0, 1) := by decide +kernel
theorem dX11_readsEdge_23 : decode cX11_readsEdge 23 = .ok (.getfield 55, 3) := by decide +kernel
theorem dX11_readsEdge_26 : decode cX11_readsEdge 26 = .ok (.iload_n 1, 1) := by decide +kernel
theorem dX11_readsEdge_27 : decode cX11_readsEdge 27 = .ok (.aload_n 0, 1) := by decide +kernel
theorem dX11_readsEdge_28 : decode cX11_readsEdge 28 = .ok (.invokevirtual 121, 3) := by decide +kernel
theorem dX11_readsEdge_31 : decode cX11_readsEdge 31 = .ok (.bipush 114, 2) := by decide +kernel
theorem dX11_readsEdge_33 : decode cX11_readsEdge 33 = .ok (.if_icmp .ne 7, 3) := by decide +kernel
theorem dX11_readsEdge_36 : decode cX11_readsEdge 36 = .ok (.iconst 0, 1) := by decide +kernel
theorem dX11_readsEdge_37 : decode cX11_readsEdge 37 = .ok (.goto 17, 3) := by decide +kernel
theorem dX11_readsEdge_40 : decode cX11_readsEdge 40 = .ok (.aload_n 0, 1) := by decide +kernel
theorem dX11_readsEdge_41 : decode cX11_readsEdge 41 = .ok (.invokevirtual 121, 3) := by decide +kernel
theorem dX11_readsEdge_44 : decode cX11_readsEdge 44 = .ok (.bipush 100, 2) := by decide +kernel
theorem dX11_readsEdge_46 : decode cX11_readsEdge 46 = .ok (.if_icmp .ne 7, 3) := by decide +kernel
theorem dX11_readsEdge_49 : decode cX11_readsEdge 49 = .ok (.iconst 1, 1) := by decide +kernel
theorem dX11_readsEdge_50 : decode cX11_readsEdge 50 = .ok (.goto 4, 3) := by decide +kernel
theorem dX11_readsEdge_53 : decode cX11_readsEdge 53 = .ok (.iconst (-1), 1) := by decide +kernel
theorem dX11_readsEdge_54 : decode cX11_readsEdge 54 = .ok (.iastore, 1) := by decide +kernel
theorem dX11_readsEdge_55 : decode cX11_readsEdge 55 = .ok (.aload_n 0, 1) := by decide +kernel
theorem dX11_readsEdge_56 : decode cX11_readsEdge 56 = .ok (.getfield 55, 3) := by decide +kernel
theorem dX11_readsEdge_59 : decode cX11_readsEdge 59 = .ok (.iload_n 1, 1) := by decide +kernel
theorem dX11_readsEdge_60 : decode cX11_readsEdge 60 = .ok (.iaload, 1) := by decide +kernel
theorem dX11_readsEdge_61 : decode cX11_readsEdge 61 = .ok (.ifCond .ge 5, 3) := by decide +kernel
theorem dX11_readsEdge_64 : decode cX11_readsEdge 64 = .ok (.iconst 0, 1) := by decide +kernel
theorem dX11_readsEdge_65 : decode cX11_readsEdge 65 = .ok (.ireturn, 1) := by decide +kernel
