theorem wd1714 : Cond.fieldLink RX10 41 (TX10 5).1 (TX10 5).2.1 (TX10 5).2.2.1 ∈ gW := gW_in 1714 (by decide +kernel) (by decide +kernel)
theorem kfX10 : KF 13 RX10 TX10 18 tyX10 := ⟨by decide, by decide, rfl, gW_all (by decide +kernel), tyX10_ok, nmX10⟩
theorem dX10_thrown_0 : decode cX10_thrown 0 = .ok (.aload_n 0, 1) := by decide +kernel
theorem dX10_thrown_1 : decode cX10_thrown 1 = .ok (.getfield 41, 3) := by decide +kernel
theorem dX10_thrown_4 : decode cX10_thrown 4 = .ok (.ireturn, 1) := by decide +kernel
theorem dX10_isIn_0 : decode cX10_isIn 0 = .ok (.iload_n 0, 1) := by decide +kernel
theorem dX10_isIn_1 : decode cX10_isIn 1 = .ok (.iload_n 1, 1) := by decide +kernel
theorem dX10_isIn_2 : decode cX10_isIn 2 = .ok (.if_icmp .lt 12, 3) := by decide +kernel
theorem dX10_isIn_5 : decode cX10_isIn 5 = .ok (.iload_n 0, 1) := by decide +kernel
theorem dX10_isIn_6 : decode cX10_isIn 6 = .ok (.iload_n 2, 1) := by decide +kernel
theorem dX10_isIn_7 : decode cX10_isIn 7 = .ok (.if_icmp .gt 7, 3) := by decide +kernel
theorem dX10_isIn_10 : decode cX10_isIn 10 = .ok (.iconst 1, 1) := by decide +kernel
theorem dX10_isIn_11 : decode cX10_isIn 11 = .ok (.goto 4, 3) := by decide +kernel
theorem dX10_isIn_14 : decode cX10_isIn 14 = .ok (.iconst 0, 1) := by decide +kernel
theorem dX10_isIn_15 : decode cX10_isIn 15 = .ok (.ireturn, 1) := by decide +kernel
theorem dX10_between_0 : decode cX10_between 0 = .ok (.iload_n 0, 1) := by decide +kernel
theorem dX10_between_1 : decode cX10_between 1 = .ok (.iload_n 1, 1) := by decide +kernel
theorem dX10_between_2 : decode cX10_between 2 = .ok (.if_icmp .le 9, 3) := by decide +kernel
theorem dX10_between_5 : decode cX10_between 5 = .ok (.iload_n 0, 1) := by decide +kernel
theorem dX10_between_6 : decode cX10_between 6 = .ok (.iload_n 1, 1) := by decide +kernel
theorem dX10_between_7 : decode cX10_between 7 = .ok (.isub, 1) := by decide +kernel
theorem dX10_between_8 : decode cX10_between 8 = .ok (.goto 6, 3) := by decide +kernel
theorem dX10_between_11 : decode cX10_between 11 = .ok (.iload_n 1, 1) := by decide +kernel
theorem dX10_between_12 : decode cX10_between 12 = .ok (.iload_n 0, 1) := by decide +kernel
theorem dX10_between_13 : decode cX10_between 13 = .ok (.isub, 1) := by decide +kernel
theorem dX10_between_14 : decode cX10_between 14 = .ok (.ireturn, 1) := by decide +kernel
theorem dX10_copies_0 : decode cX10_copies 0 = .ok (.iconst 0, 1) := by decide +kernel
theorem dX10_copies_1 : decode cX10_copies 1 = .ok (.istore 4, 2) := by decide +kernel
theorem dX10_copies_3 : decode cX10_copies 3 = .ok (.iload 4, 2) := by decide +kernel
theorem dX10_copies_5 : decode cX10_copies 5 = .ok (.bipush 113, 2) := by decide +kernel
theorem dX10_copies_7 : decode cX10_copies 7 = .ok (.if_icmp .ge 21, 3) := by decide +kernel
theorem dX10_copies_10 : decode cX10_copies 10 = .ok (.aload_n 2, 1) := by decide +kernel
theorem dX10_copies_11 : decode cX10_copies 11 = .ok (.iload_n 3, 1) := by decide +kernel
theorem dX10_copies_12 : decode cX10_copies 12 = .ok (.iload 4, 2) := by decide +kernel
theorem dX10_copies_14 : decode cX10_copies 14 = .ok (.iadd, 1) := by decide +kernel
theorem dX10_copies_15 : decode cX10_copies 15 = .ok (.aload_n 0, 1) := by decide +kernel
theorem dX10_copies_16 : decode cX10_copies 16 = .ok (.iload_n 1, 1) := by decide +kernel
theorem dX10_copies_17 : decode cX10_copies 17 = .ok (.iload 4, 2) := by decide +kernel
theorem dX10_copies_19 : decode cX10_copies 19 = .ok (.iadd, 1) := by decide +kernel
theorem dX10_copies_20 : decode cX10_copies 20 = .ok (.iaload, 1) := by decide +kernel
theorem dX10_copies_21 : decode cX10_copies 21 = .ok (.iastore, 1) := by decide +kernel
theorem dX10_copies_22 : decode cX10_copies 22 = .ok (.iinc 4 1, 3) := by decide +kernel
theorem dX10_copies_25 : decode cX10_copies 25 = .ok (.goto (-22), 3) := by decide +kernel
theorem dX10_copies_28 : decode cX10_copies 28 = .ok (.return_, 1) := by decide +kernel
theorem wd1709 : Cond.fieldLink RX10 9 (TX10 0).1 (TX10 0).2.1 (TX10 0).2.2.1 ∈ gW := gW_in 1709 (by decide +kernel) (by decide +kernel)
theorem wd1710 : Cond.fieldLink RX10 13 (TX10 1).1 (TX10 1).2.1 (TX10 1).2.2.1 ∈ gW := gW_in 1710 (by decide +kernel) (by decide +kernel)
theorem wd1778 : Cond.code yX10_copies cX10_copies 5 none ∈ gW := gW_in 1778 (by decide +kernel) (by decide +kernel)
theorem wd92 : Cond.initialized RX10 ∈ gW := gW_in 92 (by decide +kernel) (by decide +kernel)
theorem mvX10_copies : MV yX10_copies cX10_copies 5 none 4 := ⟨wd1778, wd92, by decide +kernel, by decide +kernel, by decide +kernel, by decide⟩
theorem wd1777 : Cond.static yX10_copies ∈ gW := gW_in 1777 (by decide +kernel) (by decide +kernel)
theorem wd1776 : Cond.methodLink RX10 44 yX10_copies ∈ gW := gW_in 1776 (by decide +kernel) (by decide +kernel)
theorem dX10_keeps_0 : decode cX10_keeps 0 = .ok (.aload_n 0, 1) := by decide +kernel
theorem dX10_keeps_1 : decode cX10_keeps 1 = .ok (.getfield 9, 3) := by decide +kernel
theorem dX10_keeps_4 : decode cX10_keeps 4 = .ok (.iconst 0, 1) := by decide +kernel
theorem dX10_keeps_5 : decode cX10_keeps 5 = .ok (.aload_n 0, 1) := by decide +kernel
theorem dX10_keeps_6 : decode cX10_keeps 6 = .ok (.getfield 13, 3) := by decide +kernel
theorem dX10_keeps_9 : decode cX10_keeps 9 = .ok (.iconst 0, 1) := by decide +kernel
theorem dX10_keeps_10 : decode cX10_keeps 10 = .ok (.invokestatic 44, 3) := by decide +kernel
theorem dX10_keeps_13 : decode cX10_keeps 13 = .ok (.aload_n 0, 1) := by decide +kernel
theorem dX10_keeps_14 : decode cX10_keeps 14 = .ok (.iconst 0, 1) := by decide +kernel
theorem dX10_keeps_15 : decode cX10_keeps 15 = .ok (.putfield 41, 3) := by decide +kernel
theorem dX10_keeps_18 : decode cX10_keeps 18 = .ok (.return_, 1) := by decide +kernel
theorem wd1713 : Cond.fieldLink RX10 48 (TX10 4).1 (TX10 4).2.1 (TX10 4).2.2.1 ∈ gW := gW_in 1713 (by decide +kernel) (by decide +kernel)
theorem wd1712 : Cond.fieldLink RX10 19 (TX10 3).1 (TX10 3).2.1 (TX10 3).2.2.1 ∈ gW := gW_in 1712 (by decide +kernel) (by decide +kernel)
theorem dX10_ends_0 : decode cX10_ends 0 = .ok (.aload_n 0, 1) := by decide +kernel
theorem dX10_ends_1 : decode cX10_ends 1 = .ok (.getfield 41, 3) := by decide +kernel
theorem dX10_ends_4 : decode cX10_ends 4 = .ok (.ifCond .eq 5, 3) := by decide +kernel
theorem dX10_ends_7 : decode cX10_ends 7 = .ok (.iconst 0, 1) := by decide +kernel
theorem dX10_ends_8 : decode cX10_ends 8 = .ok (.ireturn, 1) := by decide +kernel
theorem dX10_ends_9 : decode cX10_ends 9 = .ok (.aload_n 0, 1) := by decide +kernel
theorem dX10_ends_10 : decode cX10_ends 10 = .ok (.getfield 48, 3) := by decide +kernel
theorem dX10_ends_13 : decode cX10_ends 13 = .ok (.bipush 8, 2) := by decide +kernel
theorem dX10_ends_15 : decode cX10_ends 15 = .ok (.if_icmp .ne 48, 3) := by decide +kernel
theorem dX10_ends_18 : decode cX10_ends 18 = .ok (.iconst 1, 1) := by decide +kernel
theorem dX10_ends_19 : decode cX10_ends 19 = .ok (.istore_n 2, 1) := by decide +kernel
theorem dX10_ends_20 : decode cX10_ends 20 = .ok (.iload_n 2, 1) := by decide +kernel
theorem dX10_ends_21 : decode cX10_ends 21 = .ok (.bipush 8, 2) := by decide +kernel
theorem dX10_ends_23 : decode cX10_ends 23 = .ok (.if_icmp .ge 30, 3) := by decide +kernel
theorem dX10_ends_26 : decode cX10_ends 26 = .ok (.aload_n 0, 1) := by decide +kernel
theorem dX10_ends_27 : decode cX10_ends 27 = .ok (.getfield 19, 3) := by decide +kernel
theorem dX10_ends_30 : decode cX10_ends 30 = .ok (.bipush 113, 2) := by decide +kernel
theorem dX10_ends_32 : decode cX10_ends 32 = .ok (.iload_n 2, 1) := by decide +kernel
theorem dX10_ends_33 : decode cX10_ends 33 = .ok (.imul, 1) := by decide +kernel
theorem dX10_ends_34 : decode cX10_ends 34 = .ok (.aload_n 0, 1) := by decide +kernel
theorem dX10_ends_35 : decode cX10_ends 35 = .ok (.getfield 19, 3) := by decide +kernel
theorem dX10_ends_38 : decode cX10_ends 38 = .ok (.bipush 113, 2) := by decide +kernel
theorem dX10_ends_40 : decode cX10_ends 40 = .ok (.iload_n 2, 1) := by decide +kernel
theorem dX10_ends_41 : decode cX10_ends 41 = .ok (.iconst 1, 1) := by decide +kernel
theorem dX10_ends_42 : decode cX10_ends 42 = .ok (.isub, 1) := by decide +kernel
theorem dX10_ends_43 : decode cX10_ends 43 = .ok (.imul, 1) := by decide +kernel
theorem dX10_ends_44 : decode cX10_ends 44 = .ok (.invokestatic 44, 3) := by decide +kernel
theorem dX10_ends_47 : decode cX10_ends 47 = .ok (.iinc 2 1, 3) := by decide +kernel
theorem dX10_ends_50 : decode cX10_ends 50 = .ok (.goto (-30), 3) := by decide +kernel
theorem dX10_ends_53 : decode cX10_ends 53 = .ok (.aload_n 0, 1) := by decide +kernel
theorem dX10_ends_54 : decode cX10_ends 54 = .ok (.dup, 1) := by decide +kernel
theorem dX10_ends_55 : decode cX10_ends 55 = .ok (.getfield 48, 3) := by decide +kernel
theorem dX10_ends_58 : decode cX10_ends 58 = .ok (.iconst 1, 1) := by decide +kernel
theorem dX10_ends_59 : decode cX10_ends 59 = .ok (.isub, 1) := by decide +kernel
theorem dX10_ends_60 : decode cX10_ends 60 = .ok (.putfield 48, 3) := by decide +kernel
theorem dX10_ends_63 : decode cX10_ends 63 = .ok (.aload_n 0, 1) := by decide +kernel
theorem dX10_ends_64 : decode cX10_ends 64 = .ok (.getfield 13, 3) := by decide +kernel
theorem dX10_ends_67 : decode cX10_ends 67 = .ok (.iconst 0, 1) := by decide +kernel
theorem dX10_ends_68 : decode cX10_ends 68 = .ok (.aload_n 0, 1) := by decide +kernel
theorem dX10_ends_69 : decode cX10_ends 69 = .ok (.getfield 19, 3) := by decide +kernel
theorem dX10_ends_72 : decode cX10_ends 72 = .ok (.bipush 113, 2) := by decide +kernel
theorem dX10_ends_74 : decode cX10_ends 74 = .ok (.aload_n 0, 1) := by decide +kernel
theorem dX10_ends_75 : decode cX10_ends 75 = .ok (.getfield 48, 3) := by decide +kernel
theorem dX10_ends_78 : decode cX10_ends 78 = .ok (.imul, 1) := by decide +kernel
theorem dX10_ends_79 : decode cX10_ends 79 = .ok (.invokestatic 44, 3) := by decide +kernel
theorem dX10_ends_82 : decode cX10_ends 82 = .ok (.aload_n 0, 1) := by decide +kernel
theorem dX10_ends_83 : decode cX10_ends 83 = .ok (.dup, 1) := by decide +kernel
theorem dX10_ends_84 : decode cX10_ends 84 = .ok (.getfield 48, 3) := by decide +kernel
theorem dX10_ends_87 : decode cX10_ends 87 = .ok (.iconst 1, 1) := by decide +kernel
theorem dX10_ends_88 : decode cX10_ends 88 = .ok (.iadd, 1) := by decide +kernel
theorem dX10_ends_89 : decode cX10_ends 89 = .ok (.putfield 48, 3) := by decide +kernel
theorem dX10_ends_92 : decode cX10_ends 92 = .ok (.iload_n 1, 1) := by decide +kernel
theorem dX10_ends_93 : decode cX10_ends 93 = .ok (.ireturn, 1) := by decide +kernel
theorem dX10_isThrown_0 : decode cX10_isThrown 0 = .ok (.aload_n 0, 1) := by decide +kernel
theorem dX10_isThrown_1 : decode cX10_isThrown 1 = .ok (.iload_n 1, 1) := by decide +kernel
theorem dX10_isThrown_2 : decode cX10_isThrown 2 = .ok (.ifCond .eq 7, 3) := by decide +kernel
theorem dX10_isThrown_5 : decode cX10_isThrown 5 = .ok (.iload_n 2, 1) := by decide +kernel
theorem dX10_isThrown_6 : decode cX10_isThrown 6 = .ok (.goto 4, 3) := by decide +kernel
theorem dX10_isThrown_9 : decode cX10_isThrown 9 = .ok (.iconst 0, 1) := by decide +kernel
theorem dX10_isThrown_10 : decode cX10_isThrown 10 = .ok (.putfield 41, 3) := by decide +kernel
theorem dX10_isThrown_13 : decode cX10_isThrown 13 = .ok (.iload_n 1, 1) := by decide +kernel
theorem dX10_isThrown_14 : decode cX10_isThrown 14 = .ok (.ireturn, 1) := by decide +kernel
theorem wd1788 : Cond.code yX10_isIn cX10_isIn 3 (some .boolean) ∈ gW := gW_in 1788 (by decide +kernel) (by decide +kernel)
theorem mvX10_isIn : MV yX10_isIn cX10_isIn 3 (some .boolean) 3 := ⟨wd1788, wd92, by decide +kernel, by decide +kernel, by decide +kernel, by decide⟩
theorem wd1787 : Cond.static yX10_isIn ∈ gW := gW_in 1787 (by decide +kernel) (by decide +kernel)
theorem wd1786 : Cond.methodLink RX10 51 yX10_isIn ∈ gW := gW_in 1786 (by decide +kernel) (by decide +kernel)
theorem dX10_isPlace_0 : decode cX10_isPlace 0 = .ok (.iload_n 0, 1) := by decide +kernel
theorem dX10_isPlace_1 : decode cX10_isPlace 1 = .ok (.iconst 0, 1) := by decide +kernel
theorem dX10_isPlace_2 : decode cX10_isPlace 2 = .ok (.bipush 60, 2) := by decide +kernel
theorem dX10_isPlace_4 : decode cX10_isPlace 4 = .ok (.invokestatic 51, 3) := by decide +kernel
theorem dX10_isPlace_7 : decode cX10_isPlace 7 = .ok (.ifCond .eq 17, 3) := by decide +kernel
theorem dX10_isPlace_10 : decode cX10_isPlace 10 = .ok (.iload_n 1, 1) := by decide +kernel
theorem dX10_isPlace_11 : decode cX10_isPlace 11 = .ok (.iconst 0, 1) := by decide +kernel
theorem dX10_isPlace_12 : decode cX10_isPlace 12 = .ok (.bipush 60, 2) := by decide +kernel
theorem dX10_isPlace_14 : decode cX10_isPlace 14 = .ok (.invokestatic 51, 3) := by decide +kernel
theorem dX10_isPlace_17 : decode cX10_isPlace 17 = .ok (.ifCond .eq 7, 3) := by decide +kernel
theorem dX10_isPlace_20 : decode cX10_isPlace 20 = .ok (.iconst 1, 1) := by decide +kernel
theorem dX10_isPlace_21 : decode cX10_isPlace 21 = .ok (.goto 4, 3) := by decide +kernel
theorem dX10_isPlace_24 : decode cX10_isPlace 24 = .ok (.iconst 0, 1) := by decide +kernel
theorem dX10_isPlace_25 : decode cX10_isPlace 25 = .ok (.ireturn, 1) := by decide +kernel
theorem dX10_isPoint_0 : decode cX10_isPoint 0 = .ok (.iload_n 1, 1) := by decide +kernel
theorem dX10_isPoint_1 : decode cX10_isPoint 1 = .ok (.iconst 0, 1) := by decide +kernel
theorem dX10_isPoint_2 : decode cX10_isPoint 2 = .ok (.aload_n 0, 1) := by decide +kernel
theorem dX10_isPoint_3 : decode cX10_isPoint 3 = .ok (.getfield 9, 3) := by decide +kernel
theorem dX10_isPoint_6 : decode cX10_isPoint 6 = .ok (.iconst 0, 1) := by decide +kernel
theorem dX10_isPoint_7 : decode cX10_isPoint 7 = .ok (.iaload, 1) := by decide +kernel
theorem dX10_isPoint_8 : decode cX10_isPoint 8 = .ok (.iconst 1, 1) := by decide +kernel
theorem dX10_isPoint_9 : decode cX10_isPoint 9 = .ok (.isub, 1) := by decide +kernel
theorem dX10_isPoint_10 : decode cX10_isPoint 10 = .ok (.invokestatic 51, 3) := by decide +kernel
theorem dX10_isPoint_13 : decode cX10_isPoint 13 = .ok (.ireturn, 1) := by decide +kernel
theorem dX10_isPilot_0 : decode cX10_isPilot 0 = .ok (.iload_n 1, 1) := by decide +kernel
theorem dX10_isPilot_1 : decode cX10_isPilot 1 = .ok (.iconst 0, 1) := by decide +kernel
theorem dX10_isPilot_2 : decode cX10_isPilot 2 = .ok (.aload_n 0, 1) := by decide +kernel
theorem dX10_isPilot_3 : decode cX10_isPilot 3 = .ok (.getfield 9, 3) := by decide +kernel
theorem dX10_isPilot_6 : decode cX10_isPilot 6 = .ok (.iconst 4, 1) := by decide +kernel
theorem dX10_isPilot_7 : decode cX10_isPilot 7 = .ok (.iaload, 1) := by decide +kernel
theorem dX10_isPilot_8 : decode cX10_isPilot 8 = .ok (.iconst 1, 1) := by decide +kernel
theorem dX10_isPilot_9 : decode cX10_isPilot 9 = .ok (.isub, 1) := by decide +kernel
theorem dX10_isPilot_10 : decode cX10_isPilot 10 = .ok (.invokestatic 51, 3) := by decide +kernel
theorem dX10_isPilot_13 : decode cX10_isPilot 13 = .ok (.ireturn, 1) := by decide +kernel
theorem dX10_of_0 : decode cX10_of 0 = .ok (.aload_n 0, 1) := by decide +kernel
theorem dX10_of_1 : decode cX10_of 1 = .ok (.getfield 9, 3) := by decide +kernel
theorem dX10_of_4 : decode cX10_of 4 = .ok (.bipush 59, 2) := by decide +kernel
theorem dX10_of_6 : decode cX10_of 6 = .ok (.bipush 9, 2) := by decide +kernel
theorem dX10_of_8 : decode cX10_of 8 = .ok (.iload_n 1, 1) := by decide +kernel
theorem dX10_of_9 : decode cX10_of 9 = .ok (.imul, 1) := by decide +kernel
theorem dX10_of_10 : decode cX10_of 10 = .ok (.iadd, 1) := by decide +kernel
theorem dX10_of_11 : decode cX10_of 11 = .ok (.iload_n 2, 1) := by decide +kernel
theorem dX10_of_12 : decode cX10_of 12 = .ok (.iadd, 1) := by decide +kernel
theorem dX10_of_13 : decode cX10_of 13 = .ok (.iaload, 1) := by decide +kernel
theorem dX10_of_14 : decode cX10_of 14 = .ok (.ireturn, 1) := by decide +kernel
theorem dX10_sets_0 : decode cX10_sets 0 = .ok (.aload_n 0, 1) := by decide +kernel
theorem dX10_sets_1 : decode cX10_sets 1 = .ok (.getfield 9, 3) := by decide +kernel
theorem dX10_sets_4 : decode cX10_sets 4 = .ok (.bipush 59, 2) := by decide +kernel
theorem dX10_sets_6 : decode cX10_sets 6 = .ok (.bipush 9, 2) := by decide +kernel
theorem dX10_sets_8 : decode cX10_sets 8 = .ok (.iload_n 1, 1) := by decide +kernel
theorem dX10_sets_9 : decode cX10_sets 9 = .ok (.imul, 1) := by decide +kernel
theorem dX10_sets_10 : decode cX10_sets 10 = .ok (.iadd, 1) := by decide +kernel
theorem dX10_sets_11 : decode cX10_sets 11 = .ok (.iload_n 2, 1) := by decide +kernel
theorem dX10_sets_12 : decode cX10_sets 12 = .ok (.iadd, 1) := by decide +kernel
theorem dX10_sets_13 : decode cX10_sets 13 = .ok (.iload_n 3, 1) := by decide +kernel
theorem dX10_sets_14 : decode cX10_sets 14 = .ok (.iastore, 1) := by decide +kernel
theorem dX10_sets_15 : decode cX10_sets 15 = .ok (.return_, 1) := by decide +kernel
theorem dX10_pointX_0 : decode cX10_pointX 0 = .ok (.aload_n 0, 1) := by decide +kernel
theorem dX10_pointX_1 : decode cX10_pointX 1 = .ok (.getfield 9, 3) := by decide +kernel
theorem dX10_pointX_4 : decode cX10_pointX 4 = .ok (.bipush 7, 2) := by decide +kernel
theorem dX10_pointX_6 : decode cX10_pointX 6 = .ok (.iconst 2, 1) := by decide +kernel
theorem dX10_pointX_7 : decode cX10_pointX 7 = .ok (.iload_n 1, 1) := by decide +kernel
theorem dX10_pointX_8 : decode cX10_pointX 8 = .ok (.imul, 1) := by decide +kernel
theorem dX10_pointX_9 : decode cX10_pointX 9 = .ok (.iadd, 1) := by decide +kernel
theorem dX10_pointX_10 : decode cX10_pointX 10 = .ok (.iaload, 1) := by decide +kernel
theorem dX10_pointX_11 : decode cX10_pointX 11 = .ok (.ireturn, 1) := by decide +kernel
theorem dX10_pointY_0 : decode cX10_pointY 0 = .ok (.aload_n 0, 1) := by decide +kernel
theorem dX10_pointY_1 : decode cX10_pointY 1 = .ok (.getfield 9, 3) := by decide +kernel
theorem dX10_pointY_4 : decode cX10_pointY 4 = .ok (.bipush 7, 2) := by decide +kernel
theorem dX10_pointY_6 : decode cX10_pointY 6 = .ok (.iconst 2, 1) := by decide +kernel
theorem dX10_pointY_7 : decode cX10_pointY 7 = .ok (.iload_n 1, 1) := by decide +kernel
theorem dX10_pointY_8 : decode cX10_pointY 8 = .ok (.imul, 1) := by decide +kernel
theorem dX10_pointY_9 : decode cX10_pointY 9 = .ok (.iadd, 1) := by decide +kernel
theorem dX10_pointY_10 : decode cX10_pointY 10 = .ok (.iconst 1, 1) := by decide +kernel
theorem dX10_pointY_11 : decode cX10_pointY 11 = .ok (.iadd, 1) := by decide +kernel
theorem dX10_pointY_12 : decode cX10_pointY 12 = .ok (.iaload, 1) := by decide +kernel
theorem dX10_pointY_13 : decode cX10_pointY 13 = .ok (.ireturn, 1) := by decide +kernel
theorem wd1828 : Cond.code yX10_pointX cX10_pointX 2 (some .int) ∈ gW := gW_in 1828 (by decide +kernel) (by decide +kernel)
theorem mvX10_pointX : MV yX10_pointX cX10_pointX 2 (some .int) 1 := ⟨wd1828, wd92, by decide +kernel, by decide +kernel, by decide +kernel, by decide⟩
theorem wd1827 : Cond.instanceMethod yX10_pointX ∈ gW := gW_in 1827 (by decide +kernel) (by decide +kernel)
theorem wd32 : Cond.selects yX10_pointX.cls yX10_pointX yX10_pointX ∈ gW := gW_in 32 (by decide +kernel) (by decide +kernel)
theorem wd1825 : Cond.methodLink RX10 55 yX10_pointX ∈ gW := gW_in 1825 (by decide +kernel) (by decide +kernel)
theorem wd1831 : Cond.code yX10_between cX10_between 2 (some .int) ∈ gW := gW_in 1831 (by decide +kernel) (by decide +kernel)
theorem mvX10_between : MV yX10_between cX10_between 2 (some .int) 2 := ⟨wd1831, wd92, by decide +kernel, by decide +kernel, by decide +kernel, by decide⟩
theorem wd1830 : Cond.static yX10_between ∈ gW := gW_in 1830 (by decide +kernel) (by decide +kernel)
theorem wd1829 : Cond.methodLink RX10 59 yX10_between ∈ gW := gW_in 1829 (by decide +kernel) (by decide +kernel)
theorem wd1835 : Cond.code yX10_pointY cX10_pointY 2 (some .int) ∈ gW := gW_in 1835 (by decide +kernel) (by decide +kernel)
theorem mvX10_pointY : MV yX10_pointY cX10_pointY 2 (some .int) 1 := ⟨wd1835, wd92, by decide +kernel, by decide +kernel, by decide +kernel, by decide⟩
theorem wd1834 : Cond.instanceMethod yX10_pointY ∈ gW := gW_in 1834 (by decide +kernel) (by decide +kernel)
theorem wd33 : Cond.selects yX10_pointY.cls yX10_pointY yX10_pointY ∈ gW := gW_in 33 (by decide +kernel) (by decide +kernel)
theorem wd1832 : Cond.methodLink RX10 63 yX10_pointY ∈ gW := gW_in 1832 (by decide +kernel) (by decide +kernel)
theorem dX10_apart_0 : decode cX10_apart 0 = .ok (.aload_n 0, 1) := by decide +kernel
theorem dX10_apart_1 : decode cX10_apart 1 = .ok (.iload_n 1, 1) := by decide +kernel
theorem dX10_apart_2 : decode cX10_apart 2 = .ok (.invokevirtual 55, 3) := by decide +kernel
theorem dX10_apart_5 : decode cX10_apart 5 = .ok (.aload_n 0, 1) := by decide +kernel
theorem dX10_apart_6 : decode cX10_apart 6 = .ok (.iload_n 2, 1) := by decide +kernel
theorem dX10_apart_7 : decode cX10_apart 7 = .ok (.invokevirtual 55, 3) := by decide +kernel
theorem dX10_apart_10 : decode cX10_apart 10 = .ok (.invokestatic 59, 3) := by decide +kernel
theorem dX10_apart_13 : decode cX10_apart 13 = .ok (.aload_n 0, 1) := by decide +kernel
theorem dX10_apart_14 : decode cX10_apart 14 = .ok (.iload_n 1, 1) := by decide +kernel
theorem dX10_apart_15 : decode cX10_apart 15 = .ok (.invokevirtual 63, 3) := by decide +kernel
theorem dX10_apart_18 : decode cX10_apart 18 = .ok (.aload_n 0, 1) := by decide +kernel
theorem dX10_apart_19 : decode cX10_apart 19 = .ok (.iload_n 2, 1) := by decide +kernel
theorem dX10_apart_20 : decode cX10_apart 20 = .ok (.invokevirtual 63, 3) := by decide +kernel
theorem dX10_apart_23 : decode cX10_apart 23 = .ok (.invokestatic 59, 3) := by decide +kernel
theorem dX10_apart_26 : decode cX10_apart 26 = .ok (.iadd, 1) := by decide +kernel
theorem dX10_apart_27 : decode cX10_apart 27 = .ok (.ireturn, 1) := by decide +kernel
theorem dX10_inTask_0 : decode cX10_inTask 0 = .ok (.aload_n 0, 1) := by decide +kernel
theorem dX10_inTask_1 : decode cX10_inTask 1 = .ok (.getfield 9, 3) := by decide +kernel
theorem dX10_inTask_4 : decode cX10_inTask 4 = .ok (.bipush 23, 2) := by decide +kernel
theorem dX10_inTask_6 : decode cX10_inTask 6 = .ok (.iload_n 1, 1) := by decide +kernel
theorem dX10_inTask_7 : decode cX10_inTask 7 = .ok (.iadd, 1) := by decide +kernel
theorem dX10_inTask_8 : decode cX10_inTask 8 = .ok (.iaload, 1) := by decide +kernel
theorem dX10_inTask_9 : decode cX10_inTask 9 = .ok (.ireturn, 1) := by decide +kernel
theorem wd1820 : Cond.code yX10_inTask cX10_inTask 2 (some .int) ∈ gW := gW_in 1820 (by decide +kernel) (by decide +kernel)
theorem mvX10_inTask : MV yX10_inTask cX10_inTask 2 (some .int) 1 := ⟨wd1820, wd92, by decide +kernel, by decide +kernel, by decide +kernel, by decide⟩
theorem wd1819 : Cond.instanceMethod yX10_inTask ∈ gW := gW_in 1819 (by decide +kernel) (by decide +kernel)
theorem wd30 : Cond.selects yX10_inTask.cls yX10_inTask yX10_inTask ∈ gW := gW_in 30 (by decide +kernel) (by decide +kernel)
theorem wd1817 : Cond.methodLink RX10 66 yX10_inTask ∈ gW := gW_in 1817 (by decide +kernel) (by decide +kernel)
theorem wd1824 : Cond.code yX10_apart cX10_apart 3 (some .int) ∈ gW := gW_in 1824 (by decide +kernel) (by decide +kernel)
theorem mvX10_apart : MV yX10_apart cX10_apart 3 (some .int) 2 := ⟨wd1824, wd92, by decide +kernel, by decide +kernel, by decide +kernel, by decide⟩
theorem wd1823 : Cond.instanceMethod yX10_apart ∈ gW := gW_in 1823 (by decide +kernel) (by decide +kernel)
theorem wd31 : Cond.selects yX10_apart.cls yX10_apart yX10_apart ∈ gW := gW_in 31 (by decide +kernel) (by decide +kernel)
theorem wd1821 : Cond.methodLink RX10 69 yX10_apart ∈ gW := gW_in 1821 (by decide +kernel) (by decide +kernel)
theorem dX10_leg_0 : decode cX10_leg 0 = .ok (.aload_n 0, 1) := by decide +kernel
theorem dX10_leg_1 : decode cX10_leg 1 = .ok (.aload_n 0, 1) := by decide +kernel
theorem dX10_leg_2 : decode cX10_leg 2 = .ok (.iload_n 1, 1) := by decide +kernel
theorem dX10_leg_3 : decode cX10_leg 3 = .ok (.invokevirtual 66, 3) := by decide +kernel
theorem dX10_leg_6 : decode cX10_leg 6 = .ok (.aload_n 0, 1) := by decide +kernel
theorem dX10_leg_7 : decode cX10_leg 7 = .ok (.iload_n 1, 1) := by decide +kernel
theorem dX10_leg_8 : decode cX10_leg 8 = .ok (.iconst 1, 1) := by decide +kernel
theorem dX10_leg_9 : decode cX10_leg 9 = .ok (.iadd, 1) := by decide +kernel
theorem dX10_leg_10 : decode cX10_leg 10 = .ok (.invokevirtual 66, 3) := by decide +kernel
theorem dX10_leg_13 : decode cX10_leg 13 = .ok (.invokevirtual 69, 3) := by decide +kernel
theorem dX10_leg_16 : decode cX10_leg 16 = .ok (.ireturn, 1) := by decide +kernel
theorem wd1965 : Cond.code yX10_leg cX10_leg 2 (some .int) ∈ gW := gW_in 1965 (by decide +kernel) (by decide +kernel)
theorem mvX10_leg : MV yX10_leg cX10_leg 2 (some .int) 1 := ⟨wd1965, wd92, by decide +kernel, by decide +kernel, by decide +kernel, by decide⟩
theorem wd1964 : Cond.instanceMethod yX10_leg ∈ gW := gW_in 1964 (by decide +kernel) (by decide +kernel)
theorem wd55 : Cond.selects yX10_leg.cls yX10_leg yX10_leg ∈ gW := gW_in 55 (by decide +kernel) (by decide +kernel)
theorem wd1962 : Cond.methodLink RX10 72 yX10_leg ∈ gW := gW_in 1962 (by decide +kernel) (by decide +kernel)
theorem dX10_legs_0 : decode cX10_legs 0 = .ok (.iconst 0, 1) := by decide +kernel
theorem dX10_legs_1 : decode cX10_legs 1 = .ok (.istore_n 2, 1) := by decide +kernel
theorem dX10_legs_2 : decode cX10_legs 2 = .ok (.iconst 0, 1) := by decide +kernel
theorem dX10_legs_3 : decode cX10_legs 3 = .ok (.istore_n 3, 1) := by decide +kernel
theorem dX10_legs_4 : decode cX10_legs 4 = .ok (.iload_n 3, 1) := by decide +kernel
theorem dX10_legs_5 : decode cX10_legs 5 = .ok (.iload_n 1, 1) := by decide +kernel
theorem dX10_legs_6 : decode cX10_legs 6 = .ok (.if_icmp .ge 17, 3) := by decide +kernel
theorem dX10_legs_9 : decode cX10_legs 9 = .ok (.iload_n 2, 1) := by decide +kernel
theorem dX10_legs_10 : decode cX10_legs 10 = .ok (.aload_n 0, 1) := by decide +kernel
theorem dX10_legs_11 : decode cX10_legs 11 = .ok (.iload_n 3, 1) := by decide +kernel
theorem dX10_legs_12 : decode cX10_legs 12 = .ok (.invokevirtual 72, 3) := by decide +kernel
theorem dX10_legs_15 : decode cX10_legs 15 = .ok (.iadd, 1) := by decide +kernel
theorem dX10_legs_16 : decode cX10_legs 16 = .ok (.istore_n 2, 1) := by decide +kernel
theorem dX10_legs_17 : decode cX10_legs 17 = .ok (.iinc 3 1, 3) := by decide +kernel
theorem dX10_legs_20 : decode cX10_legs 20 = .ok (.goto (-16), 3) := by decide +kernel
theorem dX10_legs_23 : decode cX10_legs 23 = .ok (.iload_n 2, 1) := by decide +kernel
theorem dX10_legs_24 : decode cX10_legs 24 = .ok (.ireturn, 1) := by decide +kernel
theorem wd1961 : Cond.code yX10_legs cX10_legs 4 (some .int) ∈ gW := gW_in 1961 (by decide +kernel) (by decide +kernel)
theorem mvX10_legs : MV yX10_legs cX10_legs 4 (some .int) 1 := ⟨wd1961, wd92, by decide +kernel, by decide +kernel, by decide +kernel, by decide⟩
theorem wd1960 : Cond.instanceMethod yX10_legs ∈ gW := gW_in 1960 (by decide +kernel) (by decide +kernel)
theorem wd54 : Cond.selects yX10_legs.cls yX10_legs yX10_legs ∈ gW := gW_in 54 (by decide +kernel) (by decide +kernel)
theorem wd1958 : Cond.methodLink RX10 75 yX10_legs ∈ gW := gW_in 1958 (by decide +kernel) (by decide +kernel)
theorem dX10_whole_0 : decode cX10_whole 0 = .ok (.aload_n 0, 1) := by decide +kernel
theorem dX10_whole_1 : decode cX10_whole 1 = .ok (.getfield 9, 3) := by decide +kernel
theorem dX10_whole_4 : decode cX10_whole 4 = .ok (.iconst 1, 1) := by decide +kernel
theorem dX10_whole_5 : decode cX10_whole 5 = .ok (.iaload, 1) := by decide +kernel
theorem dX10_whole_6 : decode cX10_whole 6 = .ok (.iconst 2, 1) := by decide +kernel
theorem dX10_whole_7 : decode cX10_whole 7 = .ok (.if_icmp .ge 7, 3) := by decide +kernel
theorem dX10_whole_10 : decode cX10_whole 10 = .ok (.iconst 0, 1) := by decide +kernel
theorem dX10_whole_11 : decode cX10_whole 11 = .ok (.goto 15, 3) := by decide +kernel
theorem dX10_whole_14 : decode cX10_whole 14 = .ok (.aload_n 0, 1) := by decide +kernel
theorem dX10_whole_15 : decode cX10_whole 15 = .ok (.aload_n 0, 1) := by decide +kernel
theorem dX10_whole_16 : decode cX10_whole 16 = .ok (.getfield 9, 3) := by decide +kernel
theorem dX10_whole_19 : decode cX10_whole 19 = .ok (.iconst 1, 1) := by decide +kernel
theorem dX10_whole_20 : decode cX10_whole 20 = .ok (.iaload, 1) := by decide +kernel
theorem dX10_whole_21 : decode cX10_whole 21 = .ok (.iconst 1, 1) := by decide +kernel
theorem dX10_whole_22 : decode cX10_whole 22 = .ok (.isub, 1) := by decide +kernel
theorem dX10_whole_23 : decode cX10_whole 23 = .ok (.invokevirtual 75, 3) := by decide +kernel
theorem dX10_whole_26 : decode cX10_whole 26 = .ok (.ireturn, 1) := by decide +kernel
theorem wd1816 : Cond.code yX10_of cX10_of 3 (some .int) ∈ gW := gW_in 1816 (by decide +kernel) (by decide +kernel)
theorem mvX10_of : MV yX10_of cX10_of 3 (some .int) 2 := ⟨wd1816, wd92, by decide +kernel, by decide +kernel, by decide +kernel, by decide⟩
theorem wd1815 : Cond.instanceMethod yX10_of ∈ gW := gW_in 1815 (by decide +kernel) (by decide +kernel)
theorem wd29 : Cond.selects yX10_of.cls yX10_of yX10_of ∈ gW := gW_in 29 (by decide +kernel) (by decide +kernel)
theorem wd1813 : Cond.methodLink RX10 78 yX10_of ∈ gW := gW_in 1813 (by decide +kernel) (by decide +kernel)
theorem dX10_planning_0 : decode cX10_planning 0 = .ok (.iconst 0, 1) := by decide +kernel
theorem dX10_planning_1 : decode cX10_planning 1 = .ok (.istore_n 1, 1) := by decide +kernel
theorem dX10_planning_2 : decode cX10_planning 2 = .ok (.iload_n 1, 1) := by decide +kernel
theorem dX10_planning_3 : decode cX10_planning 3 = .ok (.aload_n 0, 1) := by decide +kernel
theorem dX10_planning_4 : decode cX10_planning 4 = .ok (.getfield 9, 3) := by decide +kernel
theorem dX10_planning_7 : decode cX10_planning 7 = .ok (.iconst 4, 1) := by decide +kernel
theorem dX10_planning_8 : decode cX10_planning 8 = .ok (.iaload, 1) := by decide +kernel
theorem dX10_planning_9 : decode cX10_planning 9 = .ok (.if_icmp .ge 20, 3) := by decide +kernel
theorem dX10_planning_12 : decode cX10_planning 12 = .ok (.aload_n 0, 1) := by decide +kernel
theorem dX10_planning_13 : decode cX10_planning 13 = .ok (.iload_n 1, 1) := by decide +kernel
theorem dX10_planning_14 : decode cX10_planning 14 = .ok (.iconst 1, 1) := by decide +kernel
theorem dX10_planning_15 : decode cX10_planning 15 = .ok (.invokevirtual 78, 3) := by decide +kernel
theorem dX10_planning_18 : decode cX10_planning 18 = .ok (.ifCond .eq 5, 3) := by decide +kernel
theorem dX10_planning_21 : decode cX10_planning 21 = .ok (.iconst 0, 1) := by decide +kernel
theorem dX10_planning_22 : decode cX10_planning 22 = .ok (.ireturn, 1) := by decide +kernel
theorem dX10_planning_23 : decode cX10_planning 23 = .ok (.iinc 1 1, 3) := by decide +kernel
theorem dX10_planning_26 : decode cX10_planning 26 = .ok (.goto (-24), 3) := by decide +kernel
theorem dX10_planning_29 : decode cX10_planning 29 = .ok (.iconst 1, 1) := by decide +kernel
theorem dX10_planning_30 : decode cX10_planning 30 = .ok (.ireturn, 1) := by decide +kernel
theorem wd1785 : Cond.code yX10_isPlace cX10_isPlace 2 (some .boolean) ∈ gW := gW_in 1785 (by decide +kernel) (by decide +kernel)
theorem mvX10_isPlace : MV yX10_isPlace cX10_isPlace 2 (some .boolean) 2 := ⟨wd1785, wd92, by decide +kernel, by decide +kernel, by decide +kernel, by decide⟩
theorem wd1784 : Cond.static yX10_isPlace ∈ gW := gW_in 1784 (by decide +kernel) (by decide +kernel)
theorem wd1783 : Cond.methodLink RX10 81 yX10_isPlace ∈ gW := gW_in 1783 (by decide +kernel) (by decide +kernel)
theorem wd1792 : Cond.code yX10_isThrown cX10_isThrown 3 (some .boolean) ∈ gW := gW_in 1792 (by decide +kernel) (by decide +kernel)
theorem mvX10_isThrown : MV yX10_isThrown cX10_isThrown 3 (some .boolean) 2 := ⟨wd1792, wd92, by decide +kernel, by decide +kernel, by decide +kernel, by decide⟩
theorem wd1791 : Cond.instanceMethod yX10_isThrown ∈ gW := gW_in 1791 (by decide +kernel) (by decide +kernel)
theorem wd24 : Cond.selects yX10_isThrown.cls yX10_isThrown yX10_isThrown ∈ gW := gW_in 24 (by decide +kernel) (by decide +kernel)
theorem wd1789 : Cond.methodLink RX10 85 yX10_isThrown ∈ gW := gW_in 1789 (by decide +kernel) (by decide +kernel)
theorem dX10_points_0 : decode cX10_points 0 = .ok (.aload_n 0, 1) := by decide +kernel
theorem dX10_points_1 : decode cX10_points 1 = .ok (.iload_n 1, 1) := by decide +kernel
theorem dX10_points_2 : decode cX10_points 2 = .ok (.iload_n 2, 1) := by decide +kernel
theorem dX10_points_3 : decode cX10_points 3 = .ok (.invokestatic 81, 3) := by decide +kernel
theorem dX10_points_6 : decode cX10_points 6 = .ok (.ifCond .ne 7, 3) := by decide +kernel
theorem dX10_points_9 : decode cX10_points 9 = .ok (.iconst 1, 1) := by decide +kernel
theorem dX10_points_10 : decode cX10_points 10 = .ok (.goto 4, 3) := by decide +kernel
theorem dX10_points_13 : decode cX10_points 13 = .ok (.iconst 0, 1) := by decide +kernel
theorem dX10_points_14 : decode cX10_points 14 = .ok (.iconst 1, 1) := by decide +kernel
theorem dX10_points_15 : decode cX10_points 15 = .ok (.invokevirtual 85, 3) := by decide +kernel
theorem dX10_points_18 : decode cX10_points 18 = .ok (.ifCond .ne 27, 3) := by decide +kernel
theorem dX10_points_21 : decode cX10_points 21 = .ok (.aload_n 0, 1) := by decide +kernel
theorem dX10_points_22 : decode cX10_points 22 = .ok (.aload_n 0, 1) := by decide +kernel
theorem dX10_points_23 : decode cX10_points 23 = .ok (.getfield 9, 3) := by decide +kernel
theorem dX10_points_26 : decode cX10_points 26 = .ok (.iconst 0, 1) := by decide +kernel
theorem dX10_points_27 : decode cX10_points 27 = .ok (.iaload, 1) := by decide +kernel
theorem dX10_points_28 : decode cX10_points 28 = .ok (.bipush 8, 2) := by decide +kernel
theorem dX10_points_30 : decode cX10_points 30 = .ok (.if_icmp .ne 7, 3) := by decide +kernel
theorem dX10_points_33 : decode cX10_points 33 = .ok (.iconst 1, 1) := by decide +kernel
theorem dX10_points_34 : decode cX10_points 34 = .ok (.goto 4, 3) := by decide +kernel
theorem dX10_points_37 : decode cX10_points 37 = .ok (.iconst 0, 1) := by decide +kernel
theorem dX10_points_38 : decode cX10_points 38 = .ok (.iconst 2, 1) := by decide +kernel
theorem dX10_points_39 : decode cX10_points 39 = .ok (.invokevirtual 85, 3) := by decide +kernel
theorem dX10_points_42 : decode cX10_points 42 = .ok (.ifCond .eq 5, 3) := by decide +kernel
theorem dX10_points_45 : decode cX10_points 45 = .ok (.iconst 0, 1) := by decide +kernel
theorem dX10_points_46 : decode cX10_points 46 = .ok (.ireturn, 1) := by decide +kernel
theorem dX10_points_47 : decode cX10_points 47 = .ok (.aload_n 0, 1) := by decide +kernel
theorem dX10_points_48 : decode cX10_points 48 = .ok (.getfield 9, 3) := by decide +kernel
theorem dX10_points_51 : decode cX10_points 51 = .ok (.bipush 7, 2) := by decide +kernel
theorem dX10_points_53 : decode cX10_points 53 = .ok (.iconst 2, 1) := by decide +kernel
theorem dX10_points_54 : decode cX10_points 54 = .ok (.aload_n 0, 1) := by decide +kernel
theorem dX10_points_55 : decode cX10_points 55 = .ok (.getfield 9, 3) := by decide +kernel
theorem dX10_points_58 : decode cX10_points 58 = .ok (.iconst 0, 1) := by decide +kernel
theorem dX10_points_59 : decode cX10_points 59 = .ok (.iaload, 1) := by decide +kernel
theorem dX10_points_60 : decode cX10_points 60 = .ok (.imul, 1) := by decide +kernel
theorem dX10_points_61 : decode cX10_points 61 = .ok (.iadd, 1) := by decide +kernel
theorem dX10_points_62 : decode cX10_points 62 = .ok (.iload_n 1, 1) := by decide +kernel
theorem dX10_points_63 : decode cX10_points 63 = .ok (.iastore, 1) := by decide +kernel
theorem dX10_points_64 : decode cX10_points 64 = .ok (.aload_n 0, 1) := by decide +kernel
theorem dX10_points_65 : decode cX10_points 65 = .ok (.getfield 9, 3) := by decide +kernel
theorem dX10_points_68 : decode cX10_points 68 = .ok (.bipush 7, 2) := by decide +kernel
theorem dX10_points_70 : decode cX10_points 70 = .ok (.iconst 2, 1) := by decide +kernel
theorem dX10_points_71 : decode cX10_points 71 = .ok (.aload_n 0, 1) := by decide +kernel
theorem dX10_points_72 : decode cX10_points 72 = .ok (.getfield 9, 3) := by decide +kernel
theorem dX10_points_75 : decode cX10_points 75 = .ok (.iconst 0, 1) := by decide +kernel
theorem dX10_points_76 : decode cX10_points 76 = .ok (.iaload, 1) := by decide +kernel
theorem dX10_points_77 : decode cX10_points 77 = .ok (.imul, 1) := by decide +kernel
theorem dX10_points_78 : decode cX10_points 78 = .ok (.iadd, 1) := by decide +kernel
theorem dX10_points_79 : decode cX10_points 79 = .ok (.iconst 1, 1) := by decide +kernel
theorem dX10_points_80 : decode cX10_points 80 = .ok (.iadd, 1) := by decide +kernel
theorem dX10_points_81 : decode cX10_points 81 = .ok (.iload_n 2, 1) := by decide +kernel
theorem dX10_points_82 : decode cX10_points 82 = .ok (.iastore, 1) := by decide +kernel
theorem dX10_points_83 : decode cX10_points 83 = .ok (.aload_n 0, 1) := by decide +kernel
theorem dX10_points_84 : decode cX10_points 84 = .ok (.getfield 9, 3) := by decide +kernel
theorem dX10_points_87 : decode cX10_points 87 = .ok (.iconst 0, 1) := by decide +kernel
theorem dX10_points_88 : decode cX10_points 88 = .ok (.dup2, 1) := by decide +kernel
theorem dX10_points_89 : decode cX10_points 89 = .ok (.iaload, 1) := by decide +kernel
theorem dX10_points_90 : decode cX10_points 90 = .ok (.iconst 1, 1) := by decide +kernel
theorem dX10_points_91 : decode cX10_points 91 = .ok (.iadd, 1) := by decide +kernel
theorem dX10_points_92 : decode cX10_points 92 = .ok (.iastore, 1) := by decide +kernel
theorem dX10_points_93 : decode cX10_points 93 = .ok (.aload_n 0, 1) := by decide +kernel
theorem dX10_points_94 : decode cX10_points 94 = .ok (.getfield 9, 3) := by decide +kernel
theorem dX10_points_97 : decode cX10_points 97 = .ok (.iconst 0, 1) := by decide +kernel
theorem dX10_points_98 : decode cX10_points 98 = .ok (.iaload, 1) := by decide +kernel
theorem dX10_points_99 : decode cX10_points 99 = .ok (.iconst 1, 1) := by decide +kernel
theorem dX10_points_100 : decode cX10_points 100 = .ok (.isub, 1) := by decide +kernel
theorem dX10_points_101 : decode cX10_points 101 = .ok (.ireturn, 1) := by decide +kernel
theorem wd1775 : Cond.code yX10_keeps cX10_keeps 1 none ∈ gW := gW_in 1775 (by decide +kernel) (by decide +kernel)
theorem mvX10_keeps : MV yX10_keeps cX10_keeps 1 none 0 := ⟨wd1775, wd92, by decide +kernel, by decide +kernel, by decide +kernel, by decide⟩
theorem wd1774 : Cond.instanceMethod yX10_keeps ∈ gW := gW_in 1774 (by decide +kernel) (by decide +kernel)
theorem wd22 : Cond.selects yX10_keeps.cls yX10_keeps yX10_keeps ∈ gW := gW_in 22 (by decide +kernel) (by decide +kernel)
theorem wd1772 : Cond.methodLink RX10 89 yX10_keeps ∈ gW := gW_in 1772 (by decide +kernel) (by decide +kernel)
theorem wd1782 : Cond.code yX10_points cX10_points 3 (some .int) ∈ gW := gW_in 1782 (by decide +kernel) (by decide +kernel)
theorem mvX10_points : MV yX10_points cX10_points 3 (some .int) 2 := ⟨wd1782, wd92, by decide +kernel, by decide +kernel, by decide +kernel, by decide⟩
theorem wd1781 : Cond.instanceMethod yX10_points ∈ gW := gW_in 1781 (by decide +kernel) (by decide +kernel)
theorem wd23 : Cond.selects yX10_points.cls yX10_points yX10_points ∈ gW := gW_in 23 (by decide +kernel) (by decide +kernel)
theorem wd1779 : Cond.methodLink RX10 92 yX10_points ∈ gW := gW_in 1779 (by decide +kernel) (by decide +kernel)
theorem wd1796 : Cond.code yX10_ends cX10_ends 3 (some .int) ∈ gW := gW_in 1796 (by decide +kernel) (by decide +kernel)
theorem mvX10_ends : MV yX10_ends cX10_ends 3 (some .int) 1 := ⟨wd1796, wd92, by decide +kernel, by decide +kernel, by decide +kernel, by decide⟩
theorem wd1795 : Cond.instanceMethod yX10_ends ∈ gW := gW_in 1795 (by decide +kernel) (by decide +kernel)
theorem wd25 : Cond.selects yX10_ends.cls yX10_ends yX10_ends ∈ gW := gW_in 25 (by decide +kernel) (by decide +kernel)
theorem wd1793 : Cond.methodLink RX10 95 yX10_ends ∈ gW := gW_in 1793 (by decide +kernel) (by decide +kernel)
theorem dX10_addPoint_0 : decode cX10_addPoint 0 = .ok (.aload_n 0, 1) := by decide +kernel
theorem dX10_addPoint_1 : decode cX10_addPoint 1 = .ok (.invokevirtual 89, 3) := by decide +kernel
theorem dX10_addPoint_4 : decode cX10_addPoint 4 = .ok (.aload_n 0, 1) := by decide +kernel
theorem dX10_addPoint_5 : decode cX10_addPoint 5 = .ok (.aload_n 0, 1) := by decide +kernel
theorem dX10_addPoint_6 : decode cX10_addPoint 6 = .ok (.iload_n 1, 1) := by decide +kernel
theorem dX10_addPoint_7 : decode cX10_addPoint 7 = .ok (.iload_n 2, 1) := by decide +kernel
theorem dX10_addPoint_8 : decode cX10_addPoint 8 = .ok (.invokevirtual 92, 3) := by decide +kernel
theorem dX10_addPoint_11 : decode cX10_addPoint 11 = .ok (.invokevirtual 95, 3) := by decide +kernel
theorem dX10_addPoint_14 : decode cX10_addPoint 14 = .ok (.ireturn, 1) := by decide +kernel
theorem wd1808 : Cond.code yX10_isPoint cX10_isPoint 2 (some .boolean) ∈ gW := gW_in 1808 (by decide +kernel) (by decide +kernel)
theorem mvX10_isPoint : MV yX10_isPoint cX10_isPoint 2 (some .boolean) 1 := ⟨wd1808, wd92, by decide +kernel, by decide +kernel, by decide +kernel, by decide⟩
theorem wd1807 : Cond.instanceMethod yX10_isPoint ∈ gW := gW_in 1807 (by decide +kernel) (by decide +kernel)
theorem wd27 : Cond.selects yX10_isPoint.cls yX10_isPoint yX10_isPoint ∈ gW := gW_in 27 (by decide +kernel) (by decide +kernel)
theorem wd1805 : Cond.methodLink RX10 98 yX10_isPoint ∈ gW := gW_in 1805 (by decide +kernel) (by decide +kernel)
theorem wd1812 : Cond.code yX10_planning cX10_planning 2 (some .boolean) ∈ gW := gW_in 1812 (by decide +kernel) (by decide +kernel)
theorem mvX10_planning : MV yX10_planning cX10_planning 2 (some .boolean) 0 := ⟨wd1812, wd92, by decide +kernel, by decide +kernel, by decide +kernel, by decide⟩
theorem wd1811 : Cond.instanceMethod yX10_planning ∈ gW := gW_in 1811 (by decide +kernel) (by decide +kernel)
theorem wd28 : Cond.selects yX10_planning.cls yX10_planning yX10_planning ∈ gW := gW_in 28 (by decide +kernel) (by decide +kernel)
theorem wd1809 : Cond.methodLink RX10 102 yX10_planning ∈ gW := gW_in 1809 (by decide +kernel) (by decide +kernel)
theorem dX10_tasks_0 : decode cX10_tasks 0 = .ok (.aload_n 0, 1) := by decide +kernel
theorem dX10_tasks_1 : decode cX10_tasks 1 = .ok (.aload_n 0, 1) := by decide +kernel
theorem dX10_tasks_2 : decode cX10_tasks 2 = .ok (.iload_n 1, 1) := by decide +kernel
theorem dX10_tasks_3 : decode cX10_tasks 3 = .ok (.invokevirtual 98, 3) := by decide +kernel
theorem dX10_tasks_6 : decode cX10_tasks 6 = .ok (.ifCond .ne 7, 3) := by decide +kernel
theorem dX10_tasks_9 : decode cX10_tasks 9 = .ok (.iconst 1, 1) := by decide +kernel
theorem dX10_tasks_10 : decode cX10_tasks 10 = .ok (.goto 4, 3) := by decide +kernel
theorem dX10_tasks_13 : decode cX10_tasks 13 = .ok (.iconst 0, 1) := by decide +kernel
theorem dX10_tasks_14 : decode cX10_tasks 14 = .ok (.iconst 1, 1) := by decide +kernel
theorem dX10_tasks_15 : decode cX10_tasks 15 = .ok (.invokevirtual 85, 3) := by decide +kernel
theorem dX10_tasks_18 : decode cX10_tasks 18 = .ok (.ifCond .ne 76, 3) := by decide +kernel
theorem dX10_tasks_21 : decode cX10_tasks 21 = .ok (.aload_n 0, 1) := by decide +kernel
theorem dX10_tasks_22 : decode cX10_tasks 22 = .ok (.aload_n 0, 1) := by decide +kernel
theorem dX10_tasks_23 : decode cX10_tasks 23 = .ok (.invokevirtual 102, 3) := by decide +kernel
theorem dX10_tasks_26 : decode cX10_tasks 26 = .ok (.ifCond .eq 14, 3) := by decide +kernel
theorem dX10_tasks_29 : decode cX10_tasks 29 = .ok (.aload_n 0, 1) := by decide +kernel
theorem dX10_tasks_30 : decode cX10_tasks 30 = .ok (.getfield 9, 3) := by decide +kernel
theorem dX10_tasks_33 : decode cX10_tasks 33 = .ok (.iconst 1, 1) := by decide +kernel
theorem dX10_tasks_34 : decode cX10_tasks 34 = .ok (.iaload, 1) := by decide +kernel
theorem dX10_tasks_35 : decode cX10_tasks 35 = .ok (.bipush 6, 2) := by decide +kernel
theorem dX10_tasks_37 : decode cX10_tasks 37 = .ok (.if_icmp .ne 7, 3) := by decide +kernel
theorem dX10_tasks_40 : decode cX10_tasks 40 = .ok (.iconst 1, 1) := by decide +kernel
theorem dX10_tasks_41 : decode cX10_tasks 41 = .ok (.goto 4, 3) := by decide +kernel
theorem dX10_tasks_44 : decode cX10_tasks 44 = .ok (.iconst 0, 1) := by decide +kernel
theorem dX10_tasks_45 : decode cX10_tasks 45 = .ok (.iconst 2, 1) := by decide +kernel
theorem dX10_tasks_46 : decode cX10_tasks 46 = .ok (.invokevirtual 85, 3) := by decide +kernel
theorem dX10_tasks_49 : decode cX10_tasks 49 = .ok (.ifCond .ne 45, 3) := by decide +kernel
theorem dX10_tasks_52 : decode cX10_tasks 52 = .ok (.aload_n 0, 1) := by decide +kernel
theorem dX10_tasks_53 : decode cX10_tasks 53 = .ok (.aload_n 0, 1) := by decide +kernel
theorem dX10_tasks_54 : decode cX10_tasks 54 = .ok (.getfield 9, 3) := by decide +kernel
theorem dX10_tasks_57 : decode cX10_tasks 57 = .ok (.iconst 1, 1) := by decide +kernel
theorem dX10_tasks_58 : decode cX10_tasks 58 = .ok (.iaload, 1) := by decide +kernel
theorem dX10_tasks_59 : decode cX10_tasks 59 = .ok (.ifCond .le 27, 3) := by decide +kernel
theorem dX10_tasks_62 : decode cX10_tasks 62 = .ok (.aload_n 0, 1) := by decide +kernel
theorem dX10_tasks_63 : decode cX10_tasks 63 = .ok (.aload_n 0, 1) := by decide +kernel
theorem dX10_tasks_64 : decode cX10_tasks 64 = .ok (.aload_n 0, 1) := by decide +kernel
theorem dX10_tasks_65 : decode cX10_tasks 65 = .ok (.getfield 9, 3) := by decide +kernel
theorem dX10_tasks_68 : decode cX10_tasks 68 = .ok (.iconst 1, 1) := by decide +kernel
theorem dX10_tasks_69 : decode cX10_tasks 69 = .ok (.iaload, 1) := by decide +kernel
theorem dX10_tasks_70 : decode cX10_tasks 70 = .ok (.iconst 1, 1) := by decide +kernel
theorem dX10_tasks_71 : decode cX10_tasks 71 = .ok (.isub, 1) := by decide +kernel
theorem dX10_tasks_72 : decode cX10_tasks 72 = .ok (.invokevirtual 66, 3) := by decide +kernel
theorem dX10_tasks_75 : decode cX10_tasks 75 = .ok (.iload_n 1, 1) := by decide +kernel
theorem dX10_tasks_76 : decode cX10_tasks 76 = .ok (.invokevirtual 69, 3) := by decide +kernel
theorem dX10_tasks_79 : decode cX10_tasks 79 = .ok (.ifCond .ne 7, 3) := by decide +kernel
theorem dX10_tasks_82 : decode cX10_tasks 82 = .ok (.iconst 1, 1) := by decide +kernel
theorem dX10_tasks_83 : decode cX10_tasks 83 = .ok (.goto 4, 3) := by decide +kernel
theorem dX10_tasks_86 : decode cX10_tasks 86 = .ok (.iconst 0, 1) := by decide +kernel
theorem dX10_tasks_87 : decode cX10_tasks 87 = .ok (.iconst 3, 1) := by decide +kernel
theorem dX10_tasks_88 : decode cX10_tasks 88 = .ok (.invokevirtual 85, 3) := by decide +kernel
theorem dX10_tasks_91 : decode cX10_tasks 91 = .ok (.ifCond .eq 5, 3) := by decide +kernel
theorem dX10_tasks_94 : decode cX10_tasks 94 = .ok (.iconst 0, 1) := by decide +kernel
theorem dX10_tasks_95 : decode cX10_tasks 95 = .ok (.ireturn, 1) := by decide +kernel
theorem dX10_tasks_96 : decode cX10_tasks 96 = .ok (.aload_n 0, 1) := by decide +kernel
theorem dX10_tasks_97 : decode cX10_tasks 97 = .ok (.getfield 9, 3) := by decide +kernel
theorem dX10_tasks_100 : decode cX10_tasks 100 = .ok (.bipush 23, 2) := by decide +kernel
theorem dX10_tasks_102 : decode cX10_tasks 102 = .ok (.aload_n 0, 1) := by decide +kernel
theorem dX10_tasks_103 : decode cX10_tasks 103 = .ok (.getfield 9, 3) := by decide +kernel
theorem dX10_tasks_106 : decode cX10_tasks 106 = .ok (.iconst 1, 1) := by decide +kernel
theorem dX10_tasks_107 : decode cX10_tasks 107 = .ok (.iaload, 1) := by decide +kernel
theorem dX10_tasks_108 : decode cX10_tasks 108 = .ok (.iadd, 1) := by decide +kernel
theorem dX10_tasks_109 : decode cX10_tasks 109 = .ok (.iload_n 1, 1) := by decide +kernel
theorem dX10_tasks_110 : decode cX10_tasks 110 = .ok (.iastore, 1) := by decide +kernel
theorem dX10_tasks_111 : decode cX10_tasks 111 = .ok (.aload_n 0, 1) := by decide +kernel
theorem dX10_tasks_112 : decode cX10_tasks 112 = .ok (.getfield 9, 3) := by decide +kernel
theorem dX10_tasks_115 : decode cX10_tasks 115 = .ok (.iconst 1, 1) := by decide +kernel
theorem dX10_tasks_116 : decode cX10_tasks 116 = .ok (.dup2, 1) := by decide +kernel
theorem dX10_tasks_117 : decode cX10_tasks 117 = .ok (.iaload, 1) := by decide +kernel
theorem dX10_tasks_118 : decode cX10_tasks 118 = .ok (.iconst 1, 1) := by decide +kernel
theorem dX10_tasks_119 : decode cX10_tasks 119 = .ok (.iadd, 1) := by decide +kernel
theorem dX10_tasks_120 : decode cX10_tasks 120 = .ok (.iastore, 1) := by decide +kernel
theorem dX10_tasks_121 : decode cX10_tasks 121 = .ok (.aload_n 0, 1) := by decide +kernel
theorem dX10_tasks_122 : decode cX10_tasks 122 = .ok (.getfield 9, 3) := by decide +kernel
theorem dX10_tasks_125 : decode cX10_tasks 125 = .ok (.iconst 1, 1) := by decide +kernel
theorem dX10_tasks_126 : decode cX10_tasks 126 = .ok (.iaload, 1) := by decide +kernel
theorem dX10_tasks_127 : decode cX10_tasks 127 = .ok (.ireturn, 1) := by decide +kernel
theorem wd1804 : Cond.code yX10_tasks cX10_tasks 2 (some .int) ∈ gW := gW_in 1804 (by decide +kernel) (by decide +kernel)
theorem mvX10_tasks : MV yX10_tasks cX10_tasks 2 (some .int) 1 := ⟨wd1804, wd92, by decide +kernel, by decide +kernel, by decide +kernel, by decide⟩
theorem wd1803 : Cond.instanceMethod yX10_tasks ∈ gW := gW_in 1803 (by decide +kernel) (by decide +kernel)
theorem wd26 : Cond.selects yX10_tasks.cls yX10_tasks yX10_tasks ∈ gW := gW_in 26 (by decide +kernel) (by decide +kernel)
theorem wd1801 : Cond.methodLink RX10 106 yX10_tasks ∈ gW := gW_in 1801 (by decide +kernel) (by decide +kernel)
theorem dX10_addTaskPoint_0 : decode cX10_addTaskPoint 0 = .ok (.aload_n 0, 1) := by decide +kernel
theorem dX10_addTaskPoint_1 : decode cX10_addTaskPoint 1 = .ok (.invokevirtual 89, 3) := by decide +kernel
theorem dX10_addTaskPoint_4 : decode cX10_addTaskPoint 4 = .ok (.aload_n 0, 1) := by decide +kernel
theorem dX10_addTaskPoint_5 : decode cX10_addTaskPoint 5 = .ok (.aload_n 0, 1) := by decide +kernel
theorem dX10_addTaskPoint_6 : decode cX10_addTaskPoint 6 = .ok (.iload_n 1, 1) := by decide +kernel
theorem dX10_addTaskPoint_7 : decode cX10_addTaskPoint 7 = .ok (.invokevirtual 106, 3) := by decide +kernel
theorem dX10_addTaskPoint_10 : decode cX10_addTaskPoint 10 = .ok (.invokevirtual 95, 3) := by decide +kernel
theorem dX10_addTaskPoint_13 : decode cX10_addTaskPoint 13 = .ok (.ireturn, 1) := by decide +kernel
theorem dX10_clears_0 : decode cX10_clears 0 = .ok (.aload_n 0, 1) := by decide +kernel
theorem dX10_clears_1 : decode cX10_clears 1 = .ok (.aload_n 0, 1) := by decide +kernel
theorem dX10_clears_2 : decode cX10_clears 2 = .ok (.invokevirtual 102, 3) := by decide +kernel
theorem dX10_clears_5 : decode cX10_clears 5 = .ok (.ifCond .ne 7, 3) := by decide +kernel
theorem dX10_clears_8 : decode cX10_clears 8 = .ok (.iconst 1, 1) := by decide +kernel
theorem dX10_clears_9 : decode cX10_clears 9 = .ok (.goto 4, 3) := by decide +kernel
theorem dX10_clears_12 : decode cX10_clears 12 = .ok (.iconst 0, 1) := by decide +kernel
theorem dX10_clears_13 : decode cX10_clears 13 = .ok (.iconst 1, 1) := by decide +kernel
theorem dX10_clears_14 : decode cX10_clears 14 = .ok (.invokevirtual 85, 3) := by decide +kernel
theorem dX10_clears_17 : decode cX10_clears 17 = .ok (.ifCond .eq 5, 3) := by decide +kernel
theorem dX10_clears_20 : decode cX10_clears 20 = .ok (.iconst 0, 1) := by decide +kernel
theorem dX10_clears_21 : decode cX10_clears 21 = .ok (.ireturn, 1) := by decide +kernel
theorem dX10_clears_22 : decode cX10_clears 22 = .ok (.aload_n 0, 1) := by decide +kernel
theorem dX10_clears_23 : decode cX10_clears 23 = .ok (.getfield 9, 3) := by decide +kernel
theorem dX10_clears_26 : decode cX10_clears 26 = .ok (.iconst 1, 1) := by decide +kernel
theorem dX10_clears_27 : decode cX10_clears 27 = .ok (.iaload, 1) := by decide +kernel
theorem dX10_clears_28 : decode cX10_clears 28 = .ok (.istore_n 1, 1) := by decide +kernel
theorem dX10_clears_29 : decode cX10_clears 29 = .ok (.iconst 0, 1) := by decide +kernel
theorem dX10_clears_30 : decode cX10_clears 30 = .ok (.istore_n 2, 1) := by decide +kernel
theorem dX10_clears_31 : decode cX10_clears 31 = .ok (.iload_n 2, 1) := by decide +kernel
theorem dX10_clears_32 : decode cX10_clears 32 = .ok (.bipush 6, 2) := by decide +kernel
theorem dX10_clears_34 : decode cX10_clears 34 = .ok (.if_icmp .ge 19, 3) := by decide +kernel
theorem dX10_clears_37 : decode cX10_clears 37 = .ok (.aload_n 0, 1) := by decide +kernel
theorem dX10_clears_38 : decode cX10_clears 38 = .ok (.getfield 9, 3) := by decide +kernel
theorem dX10_clears_41 : decode cX10_clears 41 = .ok (.bipush 23, 2) := by decide +kernel
theorem dX10_clears_43 : decode cX10_clears 43 = .ok (.iload_n 2, 1) := by decide +kernel
theorem dX10_clears_44 : decode cX10_clears 44 = .ok (.iadd, 1) := by decide +kernel
theorem dX10_clears_45 : decode cX10_clears 45 = .ok (.iconst 0, 1) := by decide +kernel
theorem dX10_clears_46 : decode cX10_clears 46 = .ok (.iastore, 1) := by decide +kernel
theorem dX10_clears_47 : decode cX10_clears 47 = .ok (.iinc 2 1, 3) := by decide +kernel
theorem dX10_clears_50 : decode cX10_clears 50 = .ok (.goto (-19), 3) := by decide +kernel
theorem dX10_clears_53 : decode cX10_clears 53 = .ok (.aload_n 0, 1) := by decide +kernel
theorem dX10_clears_54 : decode cX10_clears 54 = .ok (.getfield 9, 3) := by decide +kernel
theorem dX10_clears_57 : decode cX10_clears 57 = .ok (.iconst 1, 1) := by decide +kernel
theorem dX10_clears_58 : decode cX10_clears 58 = .ok (.iconst 0, 1) := by decide +kernel
theorem dX10_clears_59 : decode cX10_clears 59 = .ok (.iastore, 1) := by decide +kernel
theorem dX10_clears_60 : decode cX10_clears 60 = .ok (.iload_n 1, 1) := by decide +kernel
theorem dX10_clears_61 : decode cX10_clears 61 = .ok (.ireturn, 1) := by decide +kernel
theorem wd1843 : Cond.code yX10_clears cX10_clears 3 (some .int) ∈ gW := gW_in 1843 (by decide +kernel) (by decide +kernel)
theorem mvX10_clears : MV yX10_clears cX10_clears 3 (some .int) 0 := ⟨wd1843, wd92, by decide +kernel, by decide +kernel, by decide +kernel, by decide⟩
theorem wd1842 : Cond.instanceMethod yX10_clears ∈ gW := gW_in 1842 (by decide +kernel) (by decide +kernel)
theorem wd34 : Cond.selects yX10_clears.cls yX10_clears yX10_clears ∈ gW := gW_in 34 (by decide +kernel) (by decide +kernel)
theorem wd1840 : Cond.methodLink RX10 109 yX10_clears ∈ gW := gW_in 1840 (by decide +kernel) (by decide +kernel)
theorem dX10_clearTask_0 : decode cX10_clearTask 0 = .ok (.aload_n 0, 1) := by decide +kernel
theorem dX10_clearTask_1 : decode cX10_clearTask 1 = .ok (.invokevirtual 89, 3) := by decide +kernel
theorem dX10_clearTask_4 : decode cX10_clearTask 4 = .ok (.aload_n 0, 1) := by decide +kernel
theorem dX10_clearTask_5 : decode cX10_clearTask 5 = .ok (.aload_n 0, 1) := by decide +kernel
theorem dX10_clearTask_6 : decode cX10_clearTask 6 = .ok (.invokevirtual 109, 3) := by decide +kernel
theorem dX10_clearTask_9 : decode cX10_clearTask 9 = .ok (.invokevirtual 95, 3) := by decide +kernel
theorem dX10_clearTask_12 : decode cX10_clearTask 12 = .ok (.ireturn, 1) := by decide +kernel
theorem dX10_thermals_0 : decode cX10_thermals 0 = .ok (.aload_n 0, 1) := by decide +kernel
theorem dX10_thermals_1 : decode cX10_thermals 1 = .ok (.iload_n 1, 1) := by decide +kernel
theorem dX10_thermals_2 : decode cX10_thermals 2 = .ok (.iload_n 2, 1) := by decide +kernel
theorem dX10_thermals_3 : decode cX10_thermals 3 = .ok (.invokestatic 81, 3) := by decide +kernel
theorem dX10_thermals_6 : decode cX10_thermals 6 = .ok (.ifCond .eq 12, 3) := by decide +kernel
theorem dX10_thermals_9 : decode cX10_thermals 9 = .ok (.iload_n 3, 1) := by decide +kernel
theorem dX10_thermals_10 : decode cX10_thermals 10 = .ok (.iconst 1, 1) := by decide +kernel
theorem dX10_thermals_11 : decode cX10_thermals 11 = .ok (.iconst 5, 1) := by decide +kernel
theorem dX10_thermals_12 : decode cX10_thermals 12 = .ok (.invokestatic 51, 3) := by decide +kernel
theorem dX10_thermals_15 : decode cX10_thermals 15 = .ok (.ifCond .ne 7, 3) := by decide +kernel
theorem dX10_thermals_18 : decode cX10_thermals 18 = .ok (.iconst 1, 1) := by decide +kernel
theorem dX10_thermals_19 : decode cX10_thermals 19 = .ok (.goto 4, 3) := by decide +kernel
theorem dX10_thermals_22 : decode cX10_thermals 22 = .ok (.iconst 0, 1) := by decide +kernel
theorem dX10_thermals_23 : decode cX10_thermals 23 = .ok (.iconst 1, 1) := by decide +kernel
theorem dX10_thermals_24 : decode cX10_thermals 24 = .ok (.invokevirtual 85, 3) := by decide +kernel
theorem dX10_thermals_27 : decode cX10_thermals 27 = .ok (.ifCond .ne 27, 3) := by decide +kernel
theorem dX10_thermals_30 : decode cX10_thermals 30 = .ok (.aload_n 0, 1) := by decide +kernel
theorem dX10_thermals_31 : decode cX10_thermals 31 = .ok (.aload_n 0, 1) := by decide +kernel
theorem dX10_thermals_32 : decode cX10_thermals 32 = .ok (.getfield 9, 3) := by decide +kernel
theorem dX10_thermals_35 : decode cX10_thermals 35 = .ok (.iconst 2, 1) := by decide +kernel
theorem dX10_thermals_36 : decode cX10_thermals 36 = .ok (.iaload, 1) := by decide +kernel
theorem dX10_thermals_37 : decode cX10_thermals 37 = .ok (.bipush 6, 2) := by decide +kernel
theorem dX10_thermals_39 : decode cX10_thermals 39 = .ok (.if_icmp .ne 7, 3) := by decide +kernel
theorem dX10_thermals_42 : decode cX10_thermals 42 = .ok (.iconst 1, 1) := by decide +kernel
theorem dX10_thermals_43 : decode cX10_thermals 43 = .ok (.goto 4, 3) := by decide +kernel
theorem dX10_thermals_46 : decode cX10_thermals 46 = .ok (.iconst 0, 1) := by decide +kernel
theorem dX10_thermals_47 : decode cX10_thermals 47 = .ok (.iconst 2, 1) := by decide +kernel
theorem dX10_thermals_48 : decode cX10_thermals 48 = .ok (.invokevirtual 85, 3) := by decide +kernel
theorem dX10_thermals_51 : decode cX10_thermals 51 = .ok (.ifCond .eq 5, 3) := by decide +kernel
theorem dX10_thermals_54 : decode cX10_thermals 54 = .ok (.iconst 0, 1) := by decide +kernel
theorem dX10_thermals_55 : decode cX10_thermals 55 = .ok (.ireturn, 1) := by decide +kernel
theorem dX10_thermals_56 : decode cX10_thermals 56 = .ok (.bipush 29, 2) := by decide +kernel
theorem dX10_thermals_58 : decode cX10_thermals 58 = .ok (.iconst 3, 1) := by decide +kernel
theorem dX10_thermals_59 : decode cX10_thermals 59 = .ok (.aload_n 0, 1) := by decide +kernel
theorem dX10_thermals_60 : decode cX10_thermals 60 = .ok (.getfield 9, 3) := by decide +kernel
theorem dX10_thermals_63 : decode cX10_thermals 63 = .ok (.iconst 2, 1) := by decide +kernel
theorem dX10_thermals_64 : decode cX10_thermals 64 = .ok (.iaload, 1) := by decide +kernel
theorem dX10_thermals_65 : decode cX10_thermals 65 = .ok (.imul, 1) := by decide +kernel
theorem dX10_thermals_66 : decode cX10_thermals 66 = .ok (.iadd, 1) := by decide +kernel
theorem dX10_thermals_67 : decode cX10_thermals 67 = .ok (.istore 4, 2) := by decide +kernel
theorem dX10_thermals_69 : decode cX10_thermals 69 = .ok (.aload_n 0, 1) := by decide +kernel
theorem dX10_thermals_70 : decode cX10_thermals 70 = .ok (.getfield 9, 3) := by decide +kernel
theorem dX10_thermals_73 : decode cX10_thermals 73 = .ok (.iload 4, 2) := by decide +kernel
theorem dX10_thermals_75 : decode cX10_thermals 75 = .ok (.iload_n 1, 1) := by decide +kernel
theorem dX10_thermals_76 : decode cX10_thermals 76 = .ok (.iastore, 1) := by decide +kernel
theorem dX10_thermals_77 : decode cX10_thermals 77 = .ok (.aload_n 0, 1) := by decide +kernel
theorem dX10_thermals_78 : decode cX10_thermals 78 = .ok (.getfield 9, 3) := by decide +kernel
theorem dX10_thermals_81 : decode cX10_thermals 81 = .ok (.iload 4, 2) := by decide +kernel
theorem dX10_thermals_83 : decode cX10_thermals 83 = .ok (.iconst 1, 1) := by decide +kernel
theorem dX10_thermals_84 : decode cX10_thermals 84 = .ok (.iadd, 1) := by decide +kernel
theorem dX10_thermals_85 : decode cX10_thermals 85 = .ok (.iload_n 2, 1) := by decide +kernel
theorem dX10_thermals_86 : decode cX10_thermals 86 = .ok (.iastore, 1) := by decide +kernel
theorem dX10_thermals_87 : decode cX10_thermals 87 = .ok (.aload_n 0, 1) := by decide +kernel
theorem dX10_thermals_88 : decode cX10_thermals 88 = .ok (.getfield 9, 3) := by decide +kernel
theorem dX10_thermals_91 : decode cX10_thermals 91 = .ok (.iload 4, 2) := by decide +kernel
theorem dX10_thermals_93 : decode cX10_thermals 93 = .ok (.iconst 2, 1) := by decide +kernel
theorem dX10_thermals_94 : decode cX10_thermals 94 = .ok (.iadd, 1) := by decide +kernel
theorem dX10_thermals_95 : decode cX10_thermals 95 = .ok (.iload_n 3, 1) := by decide +kernel
theorem dX10_thermals_96 : decode cX10_thermals 96 = .ok (.iastore, 1) := by decide +kernel
theorem dX10_thermals_97 : decode cX10_thermals 97 = .ok (.aload_n 0, 1) := by decide +kernel
theorem dX10_thermals_98 : decode cX10_thermals 98 = .ok (.getfield 9, 3) := by decide +kernel
theorem dX10_thermals_101 : decode cX10_thermals 101 = .ok (.iconst 2, 1) := by decide +kernel
theorem dX10_thermals_102 : decode cX10_thermals 102 = .ok (.dup2, 1) := by decide +kernel
theorem dX10_thermals_103 : decode cX10_thermals 103 = .ok (.iaload, 1) := by decide +kernel
theorem dX10_thermals_104 : decode cX10_thermals 104 = .ok (.iconst 1, 1) := by decide +kernel
theorem dX10_thermals_105 : decode cX10_thermals 105 = .ok (.iadd, 1) := by decide +kernel
theorem dX10_thermals_106 : decode cX10_thermals 106 = .ok (.iastore, 1) := by decide +kernel
theorem dX10_thermals_107 : decode cX10_thermals 107 = .ok (.aload_n 0, 1) := by decide +kernel
theorem dX10_thermals_108 : decode cX10_thermals 108 = .ok (.getfield 9, 3) := by decide +kernel
theorem dX10_thermals_111 : decode cX10_thermals 111 = .ok (.iconst 2, 1) := by decide +kernel
theorem dX10_thermals_112 : decode cX10_thermals 112 = .ok (.iaload, 1) := by decide +kernel
theorem dX10_thermals_113 : decode cX10_thermals 113 = .ok (.ireturn, 1) := by decide +kernel
theorem wd1851 : Cond.code yX10_thermals cX10_thermals 5 (some .int) ∈ gW := gW_in 1851 (by decide +kernel) (by decide +kernel)
theorem mvX10_thermals : MV yX10_thermals cX10_thermals 5 (some .int) 3 := ⟨wd1851, wd92, by decide +kernel, by decide +kernel, by decide +kernel, by decide⟩
theorem wd1850 : Cond.instanceMethod yX10_thermals ∈ gW := gW_in 1850 (by decide +kernel) (by decide +kernel)
theorem wd35 : Cond.selects yX10_thermals.cls yX10_thermals yX10_thermals ∈ gW := gW_in 35 (by decide +kernel) (by decide +kernel)
theorem wd1848 : Cond.methodLink RX10 113 yX10_thermals ∈ gW := gW_in 1848 (by decide +kernel) (by decide +kernel)
theorem dX10_addThermal_0 : decode cX10_addThermal 0 = .ok (.aload_n 0, 1) := by decide +kernel
theorem dX10_addThermal_1 : decode cX10_addThermal 1 = .ok (.invokevirtual 89, 3) := by decide +kernel
theorem dX10_addThermal_4 : decode cX10_addThermal 4 = .ok (.aload_n 0, 1) := by decide +kernel
theorem dX10_addThermal_5 : decode cX10_addThermal 5 = .ok (.aload_n 0, 1) := by decide +kernel
theorem dX10_addThermal_6 : decode cX10_addThermal 6 = .ok (.iload_n 1, 1) := by decide +kernel
theorem dX10_addThermal_7 : decode cX10_addThermal 7 = .ok (.iload_n 2, 1) := by decide +kernel
theorem dX10_addThermal_8 : decode cX10_addThermal 8 = .ok (.iload_n 3, 1) := by decide +kernel
theorem dX10_addThermal_9 : decode cX10_addThermal 9 = .ok (.invokevirtual 113, 3) := by decide +kernel
theorem dX10_addThermal_12 : decode cX10_addThermal 12 = .ok (.invokevirtual 95, 3) := by decide +kernel
theorem dX10_addThermal_15 : decode cX10_addThermal 15 = .ok (.ireturn, 1) := by decide +kernel
theorem dX10_bases_0 : decode cX10_bases 0 = .ok (.aload_n 0, 1) := by decide +kernel
theorem dX10_bases_1 : decode cX10_bases 1 = .ok (.iload_n 1, 1) := by decide +kernel
theorem dX10_bases_2 : decode cX10_bases 2 = .ok (.sipush 500, 3) := by decide +kernel
theorem dX10_bases_5 : decode cX10_bases 5 = .ok (.sipush 3000, 3) := by decide +kernel
theorem dX10_bases_8 : decode cX10_bases 8 = .ok (.invokestatic 51, 3) := by decide +kernel
theorem dX10_bases_11 : decode cX10_bases 11 = .ok (.ifCond .ne 7, 3) := by decide +kernel
theorem dX10_bases_14 : decode cX10_bases 14 = .ok (.iconst 1, 1) := by decide +kernel
theorem dX10_bases_15 : decode cX10_bases 15 = .ok (.goto 4, 3) := by decide +kernel
theorem dX10_bases_18 : decode cX10_bases 18 = .ok (.iconst 0, 1) := by decide +kernel
theorem dX10_bases_19 : decode cX10_bases 19 = .ok (.iconst 1, 1) := by decide +kernel
theorem dX10_bases_20 : decode cX10_bases 20 = .ok (.invokevirtual 85, 3) := by decide +kernel
theorem dX10_bases_23 : decode cX10_bases 23 = .ok (.ifCond .eq 5, 3) := by decide +kernel
theorem dX10_bases_26 : decode cX10_bases 26 = .ok (.iconst 0, 1) := by decide +kernel
theorem dX10_bases_27 : decode cX10_bases 27 = .ok (.ireturn, 1) := by decide +kernel
theorem dX10_bases_28 : decode cX10_bases 28 = .ok (.aload_n 0, 1) := by decide +kernel
theorem dX10_bases_29 : decode cX10_bases 29 = .ok (.getfield 9, 3) := by decide +kernel
theorem dX10_bases_32 : decode cX10_bases 32 = .ok (.iconst 5, 1) := by decide +kernel
theorem dX10_bases_33 : decode cX10_bases 33 = .ok (.iaload, 1) := by decide +kernel
theorem dX10_bases_34 : decode cX10_bases 34 = .ok (.istore_n 2, 1) := by decide +kernel
theorem dX10_bases_35 : decode cX10_bases 35 = .ok (.aload_n 0, 1) := by decide +kernel
theorem dX10_bases_36 : decode cX10_bases 36 = .ok (.getfield 9, 3) := by decide +kernel
theorem dX10_bases_39 : decode cX10_bases 39 = .ok (.iconst 5, 1) := by decide +kernel
theorem dX10_bases_40 : decode cX10_bases 40 = .ok (.iload_n 1, 1) := by decide +kernel
theorem dX10_bases_41 : decode cX10_bases 41 = .ok (.iastore, 1) := by decide +kernel
theorem dX10_bases_42 : decode cX10_bases 42 = .ok (.iload_n 2, 1) := by decide +kernel
theorem dX10_bases_43 : decode cX10_bases 43 = .ok (.ireturn, 1) := by decide +kernel
theorem wd1859 : Cond.code yX10_bases cX10_bases 3 (some .int) ∈ gW := gW_in 1859 (by decide +kernel) (by decide +kernel)
theorem mvX10_bases : MV yX10_bases cX10_bases 3 (some .int) 1 := ⟨wd1859, wd92, by decide +kernel, by decide +kernel, by decide +kernel, by decide⟩
theorem wd1858 : Cond.instanceMethod yX10_bases ∈ gW := gW_in 1858 (by decide +kernel) (by decide +kernel)
theorem wd36 : Cond.selects yX10_bases.cls yX10_bases yX10_bases ∈ gW := gW_in 36 (by decide +kernel) (by decide +kernel)
theorem wd1856 : Cond.methodLink RX10 117 yX10_bases ∈ gW := gW_in 1856 (by decide +kernel) (by decide +kernel)
theorem dX10_setCloudBase_0 : decode cX10_setCloudBase 0 = .ok (.aload_n 0, 1) := by decide +kernel
theorem dX10_setCloudBase_1 : decode cX10_setCloudBase 1 = .ok (.invokevirtual 89, 3) := by decide +kernel
theorem dX10_setCloudBase_4 : decode cX10_setCloudBase 4 = .ok (.aload_n 0, 1) := by decide +kernel
theorem dX10_setCloudBase_5 : decode cX10_setCloudBase 5 = .ok (.aload_n 0, 1) := by decide +kernel
theorem dX10_setCloudBase_6 : decode cX10_setCloudBase 6 = .ok (.iload_n 1, 1) := by decide +kernel
theorem dX10_setCloudBase_7 : decode cX10_setCloudBase 7 = .ok (.invokevirtual 117, 3) := by decide +kernel
theorem dX10_setCloudBase_10 : decode cX10_setCloudBase 10 = .ok (.invokevirtual 95, 3) := by decide +kernel
theorem dX10_setCloudBase_13 : decode cX10_setCloudBase 13 = .ok (.ireturn, 1) := by decide +kernel
theorem dX10_areas_0 : decode cX10_areas 0 = .ok (.aload_n 0, 1) := by decide +kernel
theorem dX10_areas_1 : decode cX10_areas 1 = .ok (.iload_n 1, 1) := by decide +kernel
theorem dX10_areas_2 : decode cX10_areas 2 = .ok (.iload_n 2, 1) := by decide +kernel
theorem dX10_areas_3 : decode cX10_areas 3 = .ok (.invokestatic 81, 3) := by decide +kernel
theorem dX10_areas_6 : decode cX10_areas 6 = .ok (.ifCond .eq 24, 3) := by decide +kernel
theorem dX10_areas_9 : decode cX10_areas 9 = .ok (.iload_n 3, 1) := by decide +kernel
theorem dX10_areas_10 : decode cX10_areas 10 = .ok (.iload_n 1, 1) := by decide +kernel
theorem dX10_areas_11 : decode cX10_areas 11 = .ok (.bipush 60, 2) := by decide +kernel
theorem dX10_areas_13 : decode cX10_areas 13 = .ok (.invokestatic 51, 3) := by decide +kernel
theorem dX10_areas_16 : decode cX10_areas 16 = .ok (.ifCond .eq 14, 3) := by decide +kernel
theorem dX10_areas_19 : decode cX10_areas 19 = .ok (.iload 4, 2) := by decide +kernel
theorem dX10_areas_21 : decode cX10_areas 21 = .ok (.iload_n 2, 1) := by decide +kernel
theorem dX10_areas_22 : decode cX10_areas 22 = .ok (.bipush 60, 2) := by decide +kernel
theorem dX10_areas_24 : decode cX10_areas 24 = .ok (.invokestatic 51, 3) := by decide +kernel
theorem dX10_areas_27 : decode cX10_areas 27 = .ok (.ifCond .ne 7, 3) := by decide +kernel
theorem dX10_areas_30 : decode cX10_areas 30 = .ok (.iconst 1, 1) := by decide +kernel
theorem dX10_areas_31 : decode cX10_areas 31 = .ok (.goto 4, 3) := by decide +kernel
theorem dX10_areas_34 : decode cX10_areas 34 = .ok (.iconst 0, 1) := by decide +kernel
theorem dX10_areas_35 : decode cX10_areas 35 = .ok (.iconst 1, 1) := by decide +kernel
theorem dX10_areas_36 : decode cX10_areas 36 = .ok (.invokevirtual 85, 3) := by decide +kernel
theorem dX10_areas_39 : decode cX10_areas 39 = .ok (.ifCond .ne 26, 3) := by decide +kernel
theorem dX10_areas_42 : decode cX10_areas 42 = .ok (.aload_n 0, 1) := by decide +kernel
theorem dX10_areas_43 : decode cX10_areas 43 = .ok (.aload_n 0, 1) := by decide +kernel
theorem dX10_areas_44 : decode cX10_areas 44 = .ok (.getfield 9, 3) := by decide +kernel
theorem dX10_areas_47 : decode cX10_areas 47 = .ok (.iconst 3, 1) := by decide +kernel
theorem dX10_areas_48 : decode cX10_areas 48 = .ok (.iaload, 1) := by decide +kernel
theorem dX10_areas_49 : decode cX10_areas 49 = .ok (.iconst 3, 1) := by decide +kernel
theorem dX10_areas_50 : decode cX10_areas 50 = .ok (.if_icmp .ne 7, 3) := by decide +kernel
theorem dX10_areas_53 : decode cX10_areas 53 = .ok (.iconst 1, 1) := by decide +kernel
theorem dX10_areas_54 : decode cX10_areas 54 = .ok (.goto 4, 3) := by decide +kernel
theorem dX10_areas_57 : decode cX10_areas 57 = .ok (.iconst 0, 1) := by decide +kernel
theorem dX10_areas_58 : decode cX10_areas 58 = .ok (.iconst 2, 1) := by decide +kernel
theorem dX10_areas_59 : decode cX10_areas 59 = .ok (.invokevirtual 85, 3) := by decide +kernel
theorem dX10_areas_62 : decode cX10_areas 62 = .ok (.ifCond .eq 5, 3) := by decide +kernel
theorem dX10_areas_65 : decode cX10_areas 65 = .ok (.iconst 0, 1) := by decide +kernel
theorem dX10_areas_66 : decode cX10_areas 66 = .ok (.ireturn, 1) := by decide +kernel
theorem dX10_areas_67 : decode cX10_areas 67 = .ok (.bipush 47, 2) := by decide +kernel
theorem dX10_areas_69 : decode cX10_areas 69 = .ok (.iconst 4, 1) := by decide +kernel
theorem dX10_areas_70 : decode cX10_areas 70 = .ok (.aload_n 0, 1) := by decide +kernel
theorem dX10_areas_71 : decode cX10_areas 71 = .ok (.getfield 9, 3) := by decide +kernel
theorem dX10_areas_74 : decode cX10_areas 74 = .ok (.iconst 3, 1) := by decide +kernel
theorem dX10_areas_75 : decode cX10_areas 75 = .ok (.iaload, 1) := by decide +kernel
theorem dX10_areas_76 : decode cX10_areas 76 = .ok (.imul, 1) := by decide +kernel
theorem dX10_areas_77 : decode cX10_areas 77 = .ok (.iadd, 1) := by decide +kernel
theorem dX10_areas_78 : decode cX10_areas 78 = .ok (.istore 5, 2) := by decide +kernel
theorem dX10_areas_80 : decode cX10_areas 80 = .ok (.aload_n 0, 1) := by decide +kernel
theorem dX10_areas_81 : decode cX10_areas 81 = .ok (.getfield 9, 3) := by decide +kernel
theorem dX10_areas_84 : decode cX10_areas 84 = .ok (.iload 5, 2) := by decide +kernel
theorem dX10_areas_86 : decode cX10_areas 86 = .ok (.iload_n 1, 1) := by decide +kernel
theorem dX10_areas_87 : decode cX10_areas 87 = .ok (.iastore, 1) := by decide +kernel
theorem dX10_areas_88 : decode cX10_areas 88 = .ok (.aload_n 0, 1) := by decide +kernel
theorem dX10_areas_89 : decode cX10_areas 89 = .ok (.getfield 9, 3) := by decide +kernel
theorem dX10_areas_92 : decode cX10_areas 92 = .ok (.iload 5, 2) := by decide +kernel
theorem dX10_areas_94 : decode cX10_areas 94 = .ok (.iconst 1, 1) := by decide +kernel
theorem dX10_areas_95 : decode cX10_areas 95 = .ok (.iadd, 1) := by decide +kernel
theorem dX10_areas_96 : decode cX10_areas 96 = .ok (.iload_n 2, 1) := by decide +kernel
theorem dX10_areas_97 : decode cX10_areas 97 = .ok (.iastore, 1) := by decide +kernel
theorem dX10_areas_98 : decode cX10_areas 98 = .ok (.aload_n 0, 1) := by decide +kernel
theorem dX10_areas_99 : decode cX10_areas 99 = .ok (.getfield 9, 3) := by decide +kernel
theorem dX10_areas_102 : decode cX10_areas 102 = .ok (.iload 5, 2) := by decide +kernel
theorem dX10_areas_104 : decode cX10_areas 104 = .ok (.iconst 2, 1) := by decide +kernel
theorem dX10_areas_105 : decode cX10_areas 105 = .ok (.iadd, 1) := by decide +kernel
theorem dX10_areas_106 : decode cX10_areas 106 = .ok (.iload_n 3, 1) := by decide +kernel
theorem dX10_areas_107 : decode cX10_areas 107 = .ok (.iastore, 1) := by decide +kernel
theorem dX10_areas_108 : decode cX10_areas 108 = .ok (.aload_n 0, 1) := by decide +kernel
theorem dX10_areas_109 : decode cX10_areas 109 = .ok (.getfield 9, 3) := by decide +kernel
theorem dX10_areas_112 : decode cX10_areas 112 = .ok (.iload 5, 2) := by decide +kernel
theorem dX10_areas_114 : decode cX10_areas 114 = .ok (.iconst 3, 1) := by decide +kernel
theorem dX10_areas_115 : decode cX10_areas 115 = .ok (.iadd, 1) := by decide +kernel
theorem dX10_areas_116 : decode cX10_areas 116 = .ok (.iload 4, 2) := by decide +kernel
theorem dX10_areas_118 : decode cX10_areas 118 = .ok (.iastore, 1) := by decide +kernel
theorem dX10_areas_119 : decode cX10_areas 119 = .ok (.aload_n 0, 1) := by decide +kernel
theorem dX10_areas_120 : decode cX10_areas 120 = .ok (.getfield 9, 3) := by decide +kernel
theorem dX10_areas_123 : decode cX10_areas 123 = .ok (.iconst 3, 1) := by decide +kernel
theorem dX10_areas_124 : decode cX10_areas 124 = .ok (.dup2, 1) := by decide +kernel
theorem dX10_areas_125 : decode cX10_areas 125 = .ok (.iaload, 1) := by decide +kernel
theorem dX10_areas_126 : decode cX10_areas 126 = .ok (.iconst 1, 1) := by decide +kernel
theorem dX10_areas_127 : decode cX10_areas 127 = .ok (.iadd, 1) := by decide +kernel
theorem dX10_areas_128 : decode cX10_areas 128 = .ok (.iastore, 1) := by decide +kernel
theorem dX10_areas_129 : decode cX10_areas 129 = .ok (.aload_n 0, 1) := by decide +kernel
theorem dX10_areas_130 : decode cX10_areas 130 = .ok (.getfield 9, 3) := by decide +kernel
theorem dX10_areas_133 : decode cX10_areas 133 = .ok (.iconst 3, 1) := by decide +kernel
theorem dX10_areas_134 : decode cX10_areas 134 = .ok (.iaload, 1) := by decide +kernel
theorem dX10_areas_135 : decode cX10_areas 135 = .ok (.ireturn, 1) := by decide +kernel
theorem wd1867 : Cond.code yX10_areas cX10_areas 6 (some .int) ∈ gW := gW_in 1867 (by decide +kernel) (by decide +kernel)
theorem mvX10_areas : MV yX10_areas cX10_areas 6 (some .int) 4 := ⟨wd1867, wd92, by decide +kernel, by decide +kernel, by decide +kernel, by decide⟩
theorem wd1866 : Cond.instanceMethod yX10_areas ∈ gW := gW_in 1866 (by decide +kernel) (by decide +kernel)
theorem wd37 : Cond.selects yX10_areas.cls yX10_areas yX10_areas ∈ gW := gW_in 37 (by decide +kernel) (by decide +kernel)
theorem wd1864 : Cond.methodLink RX10 120 yX10_areas ∈ gW := gW_in 1864 (by decide +kernel) (by decide +kernel)
theorem dX10_addArea_0 : decode cX10_addArea 0 = .ok (.aload_n 0, 1) := by decide +kernel
theorem dX10_addArea_1 : decode cX10_addArea 1 = .ok (.invokevirtual 89, 3) := by decide +kernel
theorem dX10_addArea_4 : decode cX10_addArea 4 = .ok (.aload_n 0, 1) := by decide +kernel
theorem dX10_addArea_5 : decode cX10_addArea 5 = .ok (.aload_n 0, 1) := by decide +kernel
theorem dX10_addArea_6 : decode cX10_addArea 6 = .ok (.iload_n 1, 1) := by decide +kernel
theorem dX10_addArea_7 : decode cX10_addArea 7 = .ok (.iload_n 2, 1) := by decide +kernel
theorem dX10_addArea_8 : decode cX10_addArea 8 = .ok (.iload_n 3, 1) := by decide +kernel
theorem dX10_addArea_9 : decode cX10_addArea 9 = .ok (.iload 4, 2) := by decide +kernel
theorem dX10_addArea_11 : decode cX10_addArea 11 = .ok (.invokevirtual 120, 3) := by decide +kernel
theorem dX10_addArea_14 : decode cX10_addArea 14 = .ok (.invokevirtual 95, 3) := by decide +kernel
theorem dX10_addArea_17 : decode cX10_addArea 17 = .ok (.ireturn, 1) := by decide +kernel
theorem dX10_restricted_0 : decode cX10_restricted 0 = .ok (.iconst 0, 1) := by decide +kernel
theorem dX10_restricted_1 : decode cX10_restricted 1 = .ok (.istore_n 3, 1) := by decide +kernel
theorem dX10_restricted_2 : decode cX10_restricted 2 = .ok (.iload_n 3, 1) := by decide +kernel
theorem dX10_restricted_3 : decode cX10_restricted 3 = .ok (.aload_n 0, 1) := by decide +kernel
theorem dX10_restricted_4 : decode cX10_restricted 4 = .ok (.getfield 9, 3) := by decide +kernel
theorem dX10_restricted_7 : decode cX10_restricted 7 = .ok (.iconst 3, 1) := by decide +kernel
theorem dX10_restricted_8 : decode cX10_restricted 8 = .ok (.iaload, 1) := by decide +kernel
theorem dX10_restricted_9 : decode cX10_restricted 9 = .ok (.if_icmp .ge 67, 3) := by decide +kernel
theorem dX10_restricted_12 : decode cX10_restricted 12 = .ok (.bipush 47, 2) := by decide +kernel
theorem dX10_restricted_14 : decode cX10_restricted 14 = .ok (.iconst 4, 1) := by decide +kernel
theorem dX10_restricted_15 : decode cX10_restricted 15 = .ok (.iload_n 3, 1) := by decide +kernel
theorem dX10_restricted_16 : decode cX10_restricted 16 = .ok (.imul, 1) := by decide +kernel
theorem dX10_restricted_17 : decode cX10_restricted 17 = .ok (.iadd, 1) := by decide +kernel
theorem dX10_restricted_18 : decode cX10_restricted 18 = .ok (.istore 4, 2) := by decide +kernel
theorem dX10_restricted_20 : decode cX10_restricted 20 = .ok (.iload_n 1, 1) := by decide +kernel
theorem dX10_restricted_21 : decode cX10_restricted 21 = .ok (.aload_n 0, 1) := by decide +kernel
theorem dX10_restricted_22 : decode cX10_restricted 22 = .ok (.getfield 9, 3) := by decide +kernel
theorem dX10_restricted_25 : decode cX10_restricted 25 = .ok (.iload 4, 2) := by decide +kernel
theorem dX10_restricted_27 : decode cX10_restricted 27 = .ok (.iaload, 1) := by decide +kernel
theorem dX10_restricted_28 : decode cX10_restricted 28 = .ok (.aload_n 0, 1) := by decide +kernel
theorem dX10_restricted_29 : decode cX10_restricted 29 = .ok (.getfield 9, 3) := by decide +kernel
theorem dX10_restricted_32 : decode cX10_restricted 32 = .ok (.iload 4, 2) := by decide +kernel
theorem dX10_restricted_34 : decode cX10_restricted 34 = .ok (.iconst 2, 1) := by decide +kernel
theorem dX10_restricted_35 : decode cX10_restricted 35 = .ok (.iadd, 1) := by decide +kernel
theorem dX10_restricted_36 : decode cX10_restricted 36 = .ok (.iaload, 1) := by decide +kernel
theorem dX10_restricted_37 : decode cX10_restricted 37 = .ok (.invokestatic 51, 3) := by decide +kernel
theorem dX10_restricted_40 : decode cX10_restricted 40 = .ok (.ifCond .eq 30, 3) := by decide +kernel
theorem dX10_restricted_43 : decode cX10_restricted 43 = .ok (.iload_n 2, 1) := by decide +kernel
theorem dX10_restricted_44 : decode cX10_restricted 44 = .ok (.aload_n 0, 1) := by decide +kernel
theorem dX10_restricted_45 : decode cX10_restricted 45 = .ok (.getfield 9, 3) := by decide +kernel
theorem dX10_restricted_48 : decode cX10_restricted 48 = .ok (.iload 4, 2) := by decide +kernel
theorem dX10_restricted_50 : decode cX10_restricted 50 = .ok (.iconst 1, 1) := by decide +kernel
theorem dX10_restricted_51 : decode cX10_restricted 51 = .ok (.iadd, 1) := by decide +kernel
theorem dX10_restricted_52 : decode cX10_restricted 52 = .ok (.iaload, 1) := by decide +kernel
theorem dX10_restricted_53 : decode cX10_restricted 53 = .ok (.aload_n 0, 1) := by decide +kernel
theorem dX10_restricted_54 : decode cX10_restricted 54 = .ok (.getfield 9, 3) := by decide +kernel
theorem dX10_restricted_57 : decode cX10_restricted 57 = .ok (.iload 4, 2) := by decide +kernel
theorem dX10_restricted_59 : decode cX10_restricted 59 = .ok (.iconst 3, 1) := by decide +kernel
theorem dX10_restricted_60 : decode cX10_restricted 60 = .ok (.iadd, 1) := by decide +kernel
theorem dX10_restricted_61 : decode cX10_restricted 61 = .ok (.iaload, 1) := by decide +kernel
theorem dX10_restricted_62 : decode cX10_restricted 62 = .ok (.invokestatic 51, 3) := by decide +kernel
theorem dX10_restricted_65 : decode cX10_restricted 65 = .ok (.ifCond .eq 5, 3) := by decide +kernel
theorem dX10_restricted_68 : decode cX10_restricted 68 = .ok (.iconst 1, 1) := by decide +kernel
theorem dX10_restricted_69 : decode cX10_restricted 69 = .ok (.ireturn, 1) := by decide +kernel
theorem dX10_restricted_70 : decode cX10_restricted 70 = .ok (.iinc 3 1, 3) := by decide +kernel
theorem dX10_restricted_73 : decode cX10_restricted 73 = .ok (.goto (-71), 3) := by decide +kernel
theorem dX10_restricted_76 : decode cX10_restricted 76 = .ok (.iconst 0, 1) := by decide +kernel
theorem dX10_restricted_77 : decode cX10_restricted 77 = .ok (.ireturn, 1) := by decide +kernel
theorem dX10_lifted_0 : decode cX10_lifted 0 = .ok (.iconst 0, 1) := by decide +kernel
theorem dX10_lifted_1 : decode cX10_lifted 1 = .ok (.istore_n 3, 1) := by decide +kernel
theorem dX10_lifted_2 : decode cX10_lifted 2 = .ok (.iconst 0, 1) := by decide +kernel
theorem dX10_lifted_3 : decode cX10_lifted 3 = .ok (.istore 4, 2) := by decide +kernel
theorem dX10_lifted_5 : decode cX10_lifted 5 = .ok (.iload 4, 2) := by decide +kernel
theorem dX10_lifted_7 : decode cX10_lifted 7 = .ok (.aload_n 0, 1) := by decide +kernel
theorem dX10_lifted_8 : decode cX10_lifted 8 = .ok (.getfield 9, 3) := by decide +kernel
theorem dX10_lifted_11 : decode cX10_lifted 11 = .ok (.iconst 2, 1) := by decide +kernel
theorem dX10_lifted_12 : decode cX10_lifted 12 = .ok (.iaload, 1) := by decide +kernel
theorem dX10_lifted_13 : decode cX10_lifted 13 = .ok (.if_icmp .ge 86, 3) := by decide +kernel
theorem dX10_lifted_16 : decode cX10_lifted 16 = .ok (.bipush 29, 2) := by decide +kernel
theorem dX10_lifted_18 : decode cX10_lifted 18 = .ok (.iconst 3, 1) := by decide +kernel
theorem dX10_lifted_19 : decode cX10_lifted 19 = .ok (.iload 4, 2) := by decide +kernel
theorem dX10_lifted_21 : decode cX10_lifted 21 = .ok (.imul, 1) := by decide +kernel
theorem dX10_lifted_22 : decode cX10_lifted 22 = .ok (.iadd, 1) := by decide +kernel
theorem dX10_lifted_23 : decode cX10_lifted 23 = .ok (.istore 5, 2) := by decide +kernel
theorem dX10_lifted_25 : decode cX10_lifted 25 = .ok (.iload_n 1, 1) := by decide +kernel
theorem dX10_lifted_26 : decode cX10_lifted 26 = .ok (.aload_n 0, 1) := by decide +kernel
theorem dX10_lifted_27 : decode cX10_lifted 27 = .ok (.getfield 9, 3) := by decide +kernel
theorem dX10_lifted_30 : decode cX10_lifted 30 = .ok (.iload 5, 2) := by decide +kernel
theorem dX10_lifted_32 : decode cX10_lifted 32 = .ok (.iaload, 1) := by decide +kernel
theorem dX10_lifted_33 : decode cX10_lifted 33 = .ok (.invokestatic 59, 3) := by decide +kernel
theorem dX10_lifted_36 : decode cX10_lifted 36 = .ok (.iload_n 2, 1) := by decide +kernel
theorem dX10_lifted_37 : decode cX10_lifted 37 = .ok (.aload_n 0, 1) := by decide +kernel
theorem dX10_lifted_38 : decode cX10_lifted 38 = .ok (.getfield 9, 3) := by decide +kernel
theorem dX10_lifted_41 : decode cX10_lifted 41 = .ok (.iload 5, 2) := by decide +kernel
theorem dX10_lifted_43 : decode cX10_lifted 43 = .ok (.iconst 1, 1) := by decide +kernel
theorem dX10_lifted_44 : decode cX10_lifted 44 = .ok (.iadd, 1) := by decide +kernel
theorem dX10_lifted_45 : decode cX10_lifted 45 = .ok (.iaload, 1) := by decide +kernel
theorem dX10_lifted_46 : decode cX10_lifted 46 = .ok (.invokestatic 59, 3) := by decide +kernel
theorem dX10_lifted_49 : decode cX10_lifted 49 = .ok (.iadd, 1) := by decide +kernel
theorem dX10_lifted_50 : decode cX10_lifted 50 = .ok (.iconst 2, 1) := by decide +kernel
theorem dX10_lifted_51 : decode cX10_lifted 51 = .ok (.if_icmp .gt 7, 3) := by decide +kernel
theorem dX10_lifted_54 : decode cX10_lifted 54 = .ok (.iconst 1, 1) := by decide +kernel
theorem dX10_lifted_55 : decode cX10_lifted 55 = .ok (.goto 4, 3) := by decide +kernel
theorem dX10_lifted_58 : decode cX10_lifted 58 = .ok (.iconst 0, 1) := by decide +kernel
theorem dX10_lifted_59 : decode cX10_lifted 59 = .ok (.istore 6, 2) := by decide +kernel
theorem dX10_lifted_61 : decode cX10_lifted 61 = .ok (.iload 6, 2) := by decide +kernel
theorem dX10_lifted_63 : decode cX10_lifted 63 = .ok (.ifCond .eq 28, 3) := by decide +kernel
theorem dX10_lifted_66 : decode cX10_lifted 66 = .ok (.aload_n 0, 1) := by decide +kernel
theorem dX10_lifted_67 : decode cX10_lifted 67 = .ok (.getfield 9, 3) := by decide +kernel
theorem dX10_lifted_70 : decode cX10_lifted 70 = .ok (.iload 5, 2) := by decide +kernel
theorem dX10_lifted_72 : decode cX10_lifted 72 = .ok (.iconst 2, 1) := by decide +kernel
theorem dX10_lifted_73 : decode cX10_lifted 73 = .ok (.iadd, 1) := by decide +kernel
theorem dX10_lifted_74 : decode cX10_lifted 74 = .ok (.iaload, 1) := by decide +kernel
theorem dX10_lifted_75 : decode cX10_lifted 75 = .ok (.iload_n 3, 1) := by decide +kernel
theorem dX10_lifted_76 : decode cX10_lifted 76 = .ok (.if_icmp .le 15, 3) := by decide +kernel
theorem dX10_lifted_79 : decode cX10_lifted 79 = .ok (.aload_n 0, 1) := by decide +kernel
theorem dX10_lifted_80 : decode cX10_lifted 80 = .ok (.getfield 9, 3) := by decide +kernel
theorem dX10_lifted_83 : decode cX10_lifted 83 = .ok (.iload 5, 2) := by decide +kernel
theorem dX10_lifted_85 : decode cX10_lifted 85 = .ok (.iconst 2, 1) := by decide +kernel
theorem dX10_lifted_86 : decode cX10_lifted 86 = .ok (.iadd, 1) := by decide +kernel
theorem dX10_lifted_87 : decode cX10_lifted 87 = .ok (.iaload, 1) := by decide +kernel
theorem dX10_lifted_88 : decode cX10_lifted 88 = .ok (.goto 4, 3) := by decide +kernel
theorem dX10_lifted_91 : decode cX10_lifted 91 = .ok (.iload_n 3, 1) := by decide +kernel
theorem dX10_lifted_92 : decode cX10_lifted 92 = .ok (.istore_n 3, 1) := by decide +kernel
theorem dX10_lifted_93 : decode cX10_lifted 93 = .ok (.iinc 4 1, 3) := by decide +kernel
theorem dX10_lifted_96 : decode cX10_lifted 96 = .ok (.goto (-91), 3) := by decide +kernel
theorem dX10_lifted_99 : decode cX10_lifted 99 = .ok (.iload_n 3, 1) := by decide +kernel
theorem dX10_lifted_100 : decode cX10_lifted 100 = .ok (.ireturn, 1) := by decide +kernel
theorem wd1879 : Cond.code yX10_sets cX10_sets 4 none ∈ gW := gW_in 1879 (by decide +kernel) (by decide +kernel)
theorem mvX10_sets : MV yX10_sets cX10_sets 4 none 3 := ⟨wd1879, wd92, by decide +kernel, by decide +kernel, by decide +kernel, by decide⟩
theorem wd1878 : Cond.instanceMethod yX10_sets ∈ gW := gW_in 1878 (by decide +kernel) (by decide +kernel)
theorem wd39 : Cond.selects yX10_sets.cls yX10_sets yX10_sets ∈ gW := gW_in 39 (by decide +kernel) (by decide +kernel)
theorem wd1876 : Cond.methodLink RX10 124 yX10_sets ∈ gW := gW_in 1876 (by decide +kernel) (by decide +kernel)
theorem dX10_pilots_0 : decode cX10_pilots 0 = .ok (.aload_n 0, 1) := by decide +kernel
theorem dX10_pilots_1 : decode cX10_pilots 1 = .ok (.iload_n 1, 1) := by decide +kernel
theorem dX10_pilots_2 : decode cX10_pilots 2 = .ok (.bipush 20, 2) := by decide +kernel
theorem dX10_pilots_4 : decode cX10_pilots 4 = .ok (.bipush 60, 2) := by decide +kernel
theorem dX10_pilots_6 : decode cX10_pilots 6 = .ok (.invokestatic 51, 3) := by decide +kernel
theorem dX10_pilots_9 : decode cX10_pilots 9 = .ok (.ifCond .ne 7, 3) := by decide +kernel
theorem dX10_pilots_12 : decode cX10_pilots 12 = .ok (.iconst 1, 1) := by decide +kernel
theorem dX10_pilots_13 : decode cX10_pilots 13 = .ok (.goto 4, 3) := by decide +kernel
theorem dX10_pilots_16 : decode cX10_pilots 16 = .ok (.iconst 0, 1) := by decide +kernel
theorem dX10_pilots_17 : decode cX10_pilots 17 = .ok (.iconst 1, 1) := by decide +kernel
theorem dX10_pilots_18 : decode cX10_pilots 18 = .ok (.invokevirtual 85, 3) := by decide +kernel
theorem dX10_pilots_21 : decode cX10_pilots 21 = .ok (.ifCond .ne 27, 3) := by decide +kernel
theorem dX10_pilots_24 : decode cX10_pilots 24 = .ok (.aload_n 0, 1) := by decide +kernel
theorem dX10_pilots_25 : decode cX10_pilots 25 = .ok (.aload_n 0, 1) := by decide +kernel
theorem dX10_pilots_26 : decode cX10_pilots 26 = .ok (.getfield 9, 3) := by decide +kernel
theorem dX10_pilots_29 : decode cX10_pilots 29 = .ok (.iconst 4, 1) := by decide +kernel
theorem dX10_pilots_30 : decode cX10_pilots 30 = .ok (.iaload, 1) := by decide +kernel
theorem dX10_pilots_31 : decode cX10_pilots 31 = .ok (.bipush 6, 2) := by decide +kernel
theorem dX10_pilots_33 : decode cX10_pilots 33 = .ok (.if_icmp .ne 7, 3) := by decide +kernel
theorem dX10_pilots_36 : decode cX10_pilots 36 = .ok (.iconst 1, 1) := by decide +kernel
theorem dX10_pilots_37 : decode cX10_pilots 37 = .ok (.goto 4, 3) := by decide +kernel
theorem dX10_pilots_40 : decode cX10_pilots 40 = .ok (.iconst 0, 1) := by decide +kernel
theorem dX10_pilots_41 : decode cX10_pilots 41 = .ok (.iconst 2, 1) := by decide +kernel
theorem dX10_pilots_42 : decode cX10_pilots 42 = .ok (.invokevirtual 85, 3) := by decide +kernel
theorem dX10_pilots_45 : decode cX10_pilots 45 = .ok (.ifCond .eq 5, 3) := by decide +kernel
theorem dX10_pilots_48 : decode cX10_pilots 48 = .ok (.iconst 0, 1) := by decide +kernel
theorem dX10_pilots_49 : decode cX10_pilots 49 = .ok (.ireturn, 1) := by decide +kernel
theorem dX10_pilots_50 : decode cX10_pilots 50 = .ok (.aload_n 0, 1) := by decide +kernel
theorem dX10_pilots_51 : decode cX10_pilots 51 = .ok (.aload_n 0, 1) := by decide +kernel
theorem dX10_pilots_52 : decode cX10_pilots 52 = .ok (.getfield 9, 3) := by decide +kernel
theorem dX10_pilots_55 : decode cX10_pilots 55 = .ok (.iconst 4, 1) := by decide +kernel
theorem dX10_pilots_56 : decode cX10_pilots 56 = .ok (.iaload, 1) := by decide +kernel
theorem dX10_pilots_57 : decode cX10_pilots 57 = .ok (.iconst 0, 1) := by decide +kernel
theorem dX10_pilots_58 : decode cX10_pilots 58 = .ok (.iload_n 1, 1) := by decide +kernel
theorem dX10_pilots_59 : decode cX10_pilots 59 = .ok (.invokevirtual 124, 3) := by decide +kernel
theorem dX10_pilots_62 : decode cX10_pilots 62 = .ok (.aload_n 0, 1) := by decide +kernel
theorem dX10_pilots_63 : decode cX10_pilots 63 = .ok (.getfield 9, 3) := by decide +kernel
theorem dX10_pilots_66 : decode cX10_pilots 66 = .ok (.iconst 4, 1) := by decide +kernel
theorem dX10_pilots_67 : decode cX10_pilots 67 = .ok (.dup2, 1) := by decide +kernel
theorem dX10_pilots_68 : decode cX10_pilots 68 = .ok (.iaload, 1) := by decide +kernel
theorem dX10_pilots_69 : decode cX10_pilots 69 = .ok (.iconst 1, 1) := by decide +kernel
theorem dX10_pilots_70 : decode cX10_pilots 70 = .ok (.iadd, 1) := by decide +kernel
theorem dX10_pilots_71 : decode cX10_pilots 71 = .ok (.iastore, 1) := by decide +kernel
theorem dX10_pilots_72 : decode cX10_pilots 72 = .ok (.aload_n 0, 1) := by decide +kernel
theorem dX10_pilots_73 : decode cX10_pilots 73 = .ok (.getfield 9, 3) := by decide +kernel
theorem dX10_pilots_76 : decode cX10_pilots 76 = .ok (.iconst 4, 1) := by decide +kernel
theorem dX10_pilots_77 : decode cX10_pilots 77 = .ok (.iaload, 1) := by decide +kernel
theorem dX10_pilots_78 : decode cX10_pilots 78 = .ok (.iconst 1, 1) := by decide +kernel
theorem dX10_pilots_79 : decode cX10_pilots 79 = .ok (.isub, 1) := by decide +kernel
theorem dX10_pilots_80 : decode cX10_pilots 80 = .ok (.ireturn, 1) := by decide +kernel
theorem wd1875 : Cond.code yX10_pilots cX10_pilots 2 (some .int) ∈ gW := gW_in 1875 (by decide +kernel) (by decide +kernel)
theorem mvX10_pilots : MV yX10_pilots cX10_pilots 2 (some .int) 1 := ⟨wd1875, wd92, by decide +kernel, by decide +kernel, by decide +kernel, by decide⟩
theorem wd1874 : Cond.instanceMethod yX10_pilots ∈ gW := gW_in 1874 (by decide +kernel) (by decide +kernel)
theorem wd38 : Cond.selects yX10_pilots.cls yX10_pilots yX10_pilots ∈ gW := gW_in 38 (by decide +kernel) (by decide +kernel)
theorem wd1872 : Cond.methodLink RX10 128 yX10_pilots ∈ gW := gW_in 1872 (by decide +kernel) (by decide +kernel)
theorem dX10_addPilot_0 : decode cX10_addPilot 0 = .ok (.aload_n 0, 1) := by decide +kernel
theorem dX10_addPilot_1 : decode cX10_addPilot 1 = .ok (.invokevirtual 89, 3) := by decide +kernel
theorem dX10_addPilot_4 : decode cX10_addPilot 4 = .ok (.aload_n 0, 1) := by decide +kernel
theorem dX10_addPilot_5 : decode cX10_addPilot 5 = .ok (.aload_n 0, 1) := by decide +kernel
theorem dX10_addPilot_6 : decode cX10_addPilot 6 = .ok (.iload_n 1, 1) := by decide +kernel
theorem dX10_addPilot_7 : decode cX10_addPilot 7 = .ok (.invokevirtual 128, 3) := by decide +kernel
theorem dX10_addPilot_10 : decode cX10_addPilot 10 = .ok (.invokevirtual 95, 3) := by decide +kernel
theorem dX10_addPilot_13 : decode cX10_addPilot 13 = .ok (.ireturn, 1) := by decide +kernel
theorem dX10_inState_0 : decode cX10_inState 0 = .ok (.iconst 0, 1) := by decide +kernel
theorem dX10_inState_1 : decode cX10_inState 1 = .ok (.istore_n 2, 1) := by decide +kernel
theorem dX10_inState_2 : decode cX10_inState 2 = .ok (.iconst 0, 1) := by decide +kernel
theorem dX10_inState_3 : decode cX10_inState 3 = .ok (.istore_n 3, 1) := by decide +kernel
theorem dX10_inState_4 : decode cX10_inState 4 = .ok (.iload_n 3, 1) := by decide +kernel
theorem dX10_inState_5 : decode cX10_inState 5 = .ok (.aload_n 0, 1) := by decide +kernel
theorem dX10_inState_6 : decode cX10_inState 6 = .ok (.getfield 9, 3) := by decide +kernel
theorem dX10_inState_9 : decode cX10_inState 9 = .ok (.iconst 4, 1) := by decide +kernel
theorem dX10_inState_10 : decode cX10_inState 10 = .ok (.iaload, 1) := by decide +kernel
theorem dX10_inState_11 : decode cX10_inState 11 = .ok (.if_icmp .ge 27, 3) := by decide +kernel
theorem dX10_inState_14 : decode cX10_inState 14 = .ok (.iload_n 2, 1) := by decide +kernel
theorem dX10_inState_15 : decode cX10_inState 15 = .ok (.aload_n 0, 1) := by decide +kernel
theorem dX10_inState_16 : decode cX10_inState 16 = .ok (.iload_n 3, 1) := by decide +kernel
theorem dX10_inState_17 : decode cX10_inState 17 = .ok (.iconst 1, 1) := by decide +kernel
theorem dX10_inState_18 : decode cX10_inState 18 = .ok (.invokevirtual 78, 3) := by decide +kernel
theorem dX10_inState_21 : decode cX10_inState 21 = .ok (.iload_n 1, 1) := by decide +kernel
theorem dX10_inState_22 : decode cX10_inState 22 = .ok (.if_icmp .ne 7, 3) := by decide +kernel
theorem dX10_inState_25 : decode cX10_inState 25 = .ok (.iconst 1, 1) := by decide +kernel
theorem dX10_inState_26 : decode cX10_inState 26 = .ok (.goto 4, 3) := by decide +kernel
theorem dX10_inState_29 : decode cX10_inState 29 = .ok (.iconst 0, 1) := by decide +kernel
theorem dX10_inState_30 : decode cX10_inState 30 = .ok (.iadd, 1) := by decide +kernel
theorem dX10_inState_31 : decode cX10_inState 31 = .ok (.istore_n 2, 1) := by decide +kernel
theorem dX10_inState_32 : decode cX10_inState 32 = .ok (.iinc 3 1, 3) := by decide +kernel
theorem dX10_inState_35 : decode cX10_inState 35 = .ok (.goto (-31), 3) := by decide +kernel
theorem dX10_inState_38 : decode cX10_inState 38 = .ok (.iload_n 2, 1) := by decide +kernel
theorem dX10_inState_39 : decode cX10_inState 39 = .ok (.ireturn, 1) := by decide +kernel
theorem wd1891 : Cond.code yX10_isPilot cX10_isPilot 2 (some .boolean) ∈ gW := gW_in 1891 (by decide +kernel) (by decide +kernel)
theorem mvX10_isPilot : MV yX10_isPilot cX10_isPilot 2 (some .boolean) 1 := ⟨wd1891, wd92, by decide +kernel, by decide +kernel, by decide +kernel, by decide⟩
theorem wd1890 : Cond.instanceMethod yX10_isPilot ∈ gW := gW_in 1890 (by decide +kernel) (by decide +kernel)
theorem wd41 : Cond.selects yX10_isPilot.cls yX10_isPilot yX10_isPilot ∈ gW := gW_in 41 (by decide +kernel) (by decide +kernel)
theorem wd1888 : Cond.methodLink RX10 131 yX10_isPilot ∈ gW := gW_in 1888 (by decide +kernel) (by decide +kernel)
theorem wd1895 : Cond.code yX10_inState cX10_inState 4 (some .int) ∈ gW := gW_in 1895 (by decide +kernel) (by decide +kernel)
theorem mvX10_inState : MV yX10_inState cX10_inState 4 (some .int) 1 := ⟨wd1895, wd92, by decide +kernel, by decide +kernel, by decide +kernel, by decide⟩
theorem wd1894 : Cond.instanceMethod yX10_inState ∈ gW := gW_in 1894 (by decide +kernel) (by decide +kernel)
theorem wd42 : Cond.selects yX10_inState.cls yX10_inState yX10_inState ∈ gW := gW_in 42 (by decide +kernel) (by decide +kernel)
theorem wd1892 : Cond.methodLink RX10 134 yX10_inState ∈ gW := gW_in 1892 (by decide +kernel) (by decide +kernel)
theorem dX10_launches_0 : decode cX10_launches 0 = .ok (.aload_n 0, 1) := by decide +kernel
theorem dX10_launches_1 : decode cX10_launches 1 = .ok (.aload_n 0, 1) := by decide +kernel
theorem dX10_launches_2 : decode cX10_launches 2 = .ok (.iload_n 1, 1) := by decide +kernel
theorem dX10_launches_3 : decode cX10_launches 3 = .ok (.invokevirtual 131, 3) := by decide +kernel
theorem dX10_launches_6 : decode cX10_launches 6 = .ok (.ifCond .ne 7, 3) := by decide +kernel
theorem dX10_launches_9 : decode cX10_launches 9 = .ok (.iconst 1, 1) := by decide +kernel
theorem dX10_launches_10 : decode cX10_launches 10 = .ok (.goto 4, 3) := by decide +kernel
theorem dX10_launches_13 : decode cX10_launches 13 = .ok (.iconst 0, 1) := by decide +kernel
theorem dX10_launches_14 : decode cX10_launches 14 = .ok (.iconst 1, 1) := by decide +kernel
theorem dX10_launches_15 : decode cX10_launches 15 = .ok (.invokevirtual 85, 3) := by decide +kernel
theorem dX10_launches_18 : decode cX10_launches 18 = .ok (.ifCond .ne 48, 3) := by decide +kernel
theorem dX10_launches_21 : decode cX10_launches 21 = .ok (.aload_n 0, 1) := by decide +kernel
theorem dX10_launches_22 : decode cX10_launches 22 = .ok (.aload_n 0, 1) := by decide +kernel
theorem dX10_launches_23 : decode cX10_launches 23 = .ok (.iload_n 1, 1) := by decide +kernel
theorem dX10_launches_24 : decode cX10_launches 24 = .ok (.iconst 1, 1) := by decide +kernel
theorem dX10_launches_25 : decode cX10_launches 25 = .ok (.invokevirtual 78, 3) := by decide +kernel
theorem dX10_launches_28 : decode cX10_launches 28 = .ok (.ifCond .eq 7, 3) := by decide +kernel
theorem dX10_launches_31 : decode cX10_launches 31 = .ok (.iconst 1, 1) := by decide +kernel
theorem dX10_launches_32 : decode cX10_launches 32 = .ok (.goto 4, 3) := by decide +kernel
theorem dX10_launches_35 : decode cX10_launches 35 = .ok (.iconst 0, 1) := by decide +kernel
theorem dX10_launches_36 : decode cX10_launches 36 = .ok (.iconst 2, 1) := by decide +kernel
theorem dX10_launches_37 : decode cX10_launches 37 = .ok (.invokevirtual 85, 3) := by decide +kernel
theorem dX10_launches_40 : decode cX10_launches 40 = .ok (.ifCond .ne 26, 3) := by decide +kernel
theorem dX10_launches_43 : decode cX10_launches 43 = .ok (.aload_n 0, 1) := by decide +kernel
theorem dX10_launches_44 : decode cX10_launches 44 = .ok (.aload_n 0, 1) := by decide +kernel
theorem dX10_launches_45 : decode cX10_launches 45 = .ok (.getfield 9, 3) := by decide +kernel
theorem dX10_launches_48 : decode cX10_launches 48 = .ok (.iconst 1, 1) := by decide +kernel
theorem dX10_launches_49 : decode cX10_launches 49 = .ok (.iaload, 1) := by decide +kernel
theorem dX10_launches_50 : decode cX10_launches 50 = .ok (.iconst 2, 1) := by decide +kernel
theorem dX10_launches_51 : decode cX10_launches 51 = .ok (.if_icmp .ge 7, 3) := by decide +kernel
theorem dX10_launches_54 : decode cX10_launches 54 = .ok (.iconst 1, 1) := by decide +kernel
theorem dX10_launches_55 : decode cX10_launches 55 = .ok (.goto 4, 3) := by decide +kernel
theorem dX10_launches_58 : decode cX10_launches 58 = .ok (.iconst 0, 1) := by decide +kernel
theorem dX10_launches_59 : decode cX10_launches 59 = .ok (.iconst 3, 1) := by decide +kernel
theorem dX10_launches_60 : decode cX10_launches 60 = .ok (.invokevirtual 85, 3) := by decide +kernel
theorem dX10_launches_63 : decode cX10_launches 63 = .ok (.ifCond .eq 5, 3) := by decide +kernel
theorem dX10_launches_66 : decode cX10_launches 66 = .ok (.iconst 0, 1) := by decide +kernel
theorem dX10_launches_67 : decode cX10_launches 67 = .ok (.ireturn, 1) := by decide +kernel
theorem dX10_launches_68 : decode cX10_launches 68 = .ok (.aload_n 0, 1) := by decide +kernel
theorem dX10_launches_69 : decode cX10_launches 69 = .ok (.iload_n 1, 1) := by decide +kernel
theorem dX10_launches_70 : decode cX10_launches 70 = .ok (.iconst 1, 1) := by decide +kernel
theorem dX10_launches_71 : decode cX10_launches 71 = .ok (.iconst 1, 1) := by decide +kernel
theorem dX10_launches_72 : decode cX10_launches 72 = .ok (.invokevirtual 124, 3) := by decide +kernel
theorem dX10_launches_75 : decode cX10_launches 75 = .ok (.aload_n 0, 1) := by decide +kernel
theorem dX10_launches_76 : decode cX10_launches 76 = .ok (.iload_n 1, 1) := by decide +kernel
theorem dX10_launches_77 : decode cX10_launches 77 = .ok (.iconst 2, 1) := by decide +kernel
theorem dX10_launches_78 : decode cX10_launches 78 = .ok (.aload_n 0, 1) := by decide +kernel
theorem dX10_launches_79 : decode cX10_launches 79 = .ok (.aload_n 0, 1) := by decide +kernel
theorem dX10_launches_80 : decode cX10_launches 80 = .ok (.iconst 0, 1) := by decide +kernel
theorem dX10_launches_81 : decode cX10_launches 81 = .ok (.invokevirtual 66, 3) := by decide +kernel
theorem dX10_launches_84 : decode cX10_launches 84 = .ok (.invokevirtual 55, 3) := by decide +kernel
theorem dX10_launches_87 : decode cX10_launches 87 = .ok (.invokevirtual 124, 3) := by decide +kernel
theorem dX10_launches_90 : decode cX10_launches 90 = .ok (.aload_n 0, 1) := by decide +kernel
theorem dX10_launches_91 : decode cX10_launches 91 = .ok (.iload_n 1, 1) := by decide +kernel
theorem dX10_launches_92 : decode cX10_launches 92 = .ok (.iconst 3, 1) := by decide +kernel
theorem dX10_launches_93 : decode cX10_launches 93 = .ok (.aload_n 0, 1) := by decide +kernel
theorem dX10_launches_94 : decode cX10_launches 94 = .ok (.aload_n 0, 1) := by decide +kernel
theorem dX10_launches_95 : decode cX10_launches 95 = .ok (.iconst 0, 1) := by decide +kernel
theorem dX10_launches_96 : decode cX10_launches 96 = .ok (.invokevirtual 66, 3) := by decide +kernel
theorem dX10_launches_99 : decode cX10_launches 99 = .ok (.invokevirtual 63, 3) := by decide +kernel
theorem dX10_launches_102 : decode cX10_launches 102 = .ok (.invokevirtual 124, 3) := by decide +kernel
theorem dX10_launches_105 : decode cX10_launches 105 = .ok (.aload_n 0, 1) := by decide +kernel
theorem dX10_launches_106 : decode cX10_launches 106 = .ok (.iload_n 1, 1) := by decide +kernel
theorem dX10_launches_107 : decode cX10_launches 107 = .ok (.iconst 4, 1) := by decide +kernel
theorem dX10_launches_108 : decode cX10_launches 108 = .ok (.sipush 1000, 3) := by decide +kernel
theorem dX10_launches_111 : decode cX10_launches 111 = .ok (.invokevirtual 124, 3) := by decide +kernel
theorem dX10_launches_114 : decode cX10_launches 114 = .ok (.aload_n 0, 1) := by decide +kernel
theorem dX10_launches_115 : decode cX10_launches 115 = .ok (.iload_n 1, 1) := by decide +kernel
theorem dX10_launches_116 : decode cX10_launches 116 = .ok (.iconst 5, 1) := by decide +kernel
theorem dX10_launches_117 : decode cX10_launches 117 = .ok (.iconst 0, 1) := by decide +kernel
theorem dX10_launches_118 : decode cX10_launches 118 = .ok (.invokevirtual 124, 3) := by decide +kernel
theorem dX10_launches_121 : decode cX10_launches 121 = .ok (.aload_n 0, 1) := by decide +kernel
theorem dX10_launches_122 : decode cX10_launches 122 = .ok (.iload_n 1, 1) := by decide +kernel
theorem dX10_launches_123 : decode cX10_launches 123 = .ok (.bipush 6, 2) := by decide +kernel
theorem dX10_launches_125 : decode cX10_launches 125 = .ok (.iconst 0, 1) := by decide +kernel
theorem dX10_launches_126 : decode cX10_launches 126 = .ok (.invokevirtual 124, 3) := by decide +kernel
theorem dX10_launches_129 : decode cX10_launches 129 = .ok (.aload_n 0, 1) := by decide +kernel
theorem dX10_launches_130 : decode cX10_launches 130 = .ok (.iload_n 1, 1) := by decide +kernel
theorem dX10_launches_131 : decode cX10_launches 131 = .ok (.bipush 7, 2) := by decide +kernel
theorem dX10_launches_133 : decode cX10_launches 133 = .ok (.iconst 1, 1) := by decide +kernel
theorem dX10_launches_134 : decode cX10_launches 134 = .ok (.invokevirtual 124, 3) := by decide +kernel
theorem dX10_launches_137 : decode cX10_launches 137 = .ok (.aload_n 0, 1) := by decide +kernel
theorem dX10_launches_138 : decode cX10_launches 138 = .ok (.iconst 1, 1) := by decide +kernel
theorem dX10_launches_139 : decode cX10_launches 139 = .ok (.invokevirtual 134, 3) := by decide +kernel
theorem dX10_launches_142 : decode cX10_launches 142 = .ok (.ireturn, 1) := by decide +kernel
theorem wd1887 : Cond.code yX10_launches cX10_launches 2 (some .int) ∈ gW := gW_in 1887 (by decide +kernel) (by decide +kernel)
theorem mvX10_launches : MV yX10_launches cX10_launches 2 (some .int) 1 := ⟨wd1887, wd92, by decide +kernel, by decide +kernel, by decide +kernel, by decide⟩
theorem wd1886 : Cond.instanceMethod yX10_launches ∈ gW := gW_in 1886 (by decide +kernel) (by decide +kernel)
theorem wd40 : Cond.selects yX10_launches.cls yX10_launches yX10_launches ∈ gW := gW_in 40 (by decide +kernel) (by decide +kernel)
theorem wd1884 : Cond.methodLink RX10 137 yX10_launches ∈ gW := gW_in 1884 (by decide +kernel) (by decide +kernel)
theorem dX10_launch_0 : decode cX10_launch 0 = .ok (.aload_n 0, 1) := by decide +kernel
theorem dX10_launch_1 : decode cX10_launch 1 = .ok (.invokevirtual 89, 3) := by decide +kernel
theorem dX10_launch_4 : decode cX10_launch 4 = .ok (.aload_n 0, 1) := by decide +kernel
theorem dX10_launch_5 : decode cX10_launch 5 = .ok (.aload_n 0, 1) := by decide +kernel
theorem dX10_launch_6 : decode cX10_launch 6 = .ok (.iload_n 1, 1) := by decide +kernel
theorem dX10_launch_7 : decode cX10_launch 7 = .ok (.invokevirtual 137, 3) := by decide +kernel
theorem dX10_launch_10 : decode cX10_launch 10 = .ok (.invokevirtual 95, 3) := by decide +kernel
theorem dX10_launch_13 : decode cX10_launch 13 = .ok (.ireturn, 1) := by decide +kernel
theorem dX10_stepX_0 : decode cX10_stepX 0 = .ok (.iload_n 0, 1) := by decide +kernel
theorem dX10_stepX_1 : decode cX10_stepX 1 = .ok (.iconst 1, 1) := by decide +kernel
theorem dX10_stepX_2 : decode cX10_stepX 2 = .ok (.if_icmp .ne 7, 3) := by decide +kernel
theorem dX10_stepX_5 : decode cX10_stepX 5 = .ok (.iconst 1, 1) := by decide +kernel
theorem dX10_stepX_6 : decode cX10_stepX 6 = .ok (.goto 13, 3) := by decide +kernel
theorem dX10_stepX_9 : decode cX10_stepX 9 = .ok (.iload_n 0, 1) := by decide +kernel
theorem dX10_stepX_10 : decode cX10_stepX 10 = .ok (.iconst 3, 1) := by decide +kernel
theorem dX10_stepX_11 : decode cX10_stepX 11 = .ok (.if_icmp .ne 7, 3) := by decide +kernel
theorem dX10_stepX_14 : decode cX10_stepX 14 = .ok (.iconst (-1), 1) := by decide +kernel
theorem dX10_stepX_15 : decode cX10_stepX 15 = .ok (.goto 4, 3) := by decide +kernel
theorem dX10_stepX_18 : decode cX10_stepX 18 = .ok (.iconst 0, 1) := by decide +kernel
theorem dX10_stepX_19 : decode cX10_stepX 19 = .ok (.ireturn, 1) := by decide +kernel
theorem dX10_stepY_0 : decode cX10_stepY 0 = .ok (.iload_n 0, 1) := by decide +kernel
theorem dX10_stepY_1 : decode cX10_stepY 1 = .ok (.ifCond .ne 7, 3) := by decide +kernel
theorem dX10_stepY_4 : decode cX10_stepY 4 = .ok (.iconst 1, 1) := by decide +kernel
theorem dX10_stepY_5 : decode cX10_stepY 5 = .ok (.goto 13, 3) := by decide +kernel
theorem dX10_stepY_8 : decode cX10_stepY 8 = .ok (.iload_n 0, 1) := by decide +kernel
theorem dX10_stepY_9 : decode cX10_stepY 9 = .ok (.iconst 2, 1) := by decide +kernel
theorem dX10_stepY_10 : decode cX10_stepY 10 = .ok (.if_icmp .ne 7, 3) := by decide +kernel
theorem dX10_stepY_13 : decode cX10_stepY 13 = .ok (.iconst (-1), 1) := by decide +kernel
theorem dX10_stepY_14 : decode cX10_stepY 14 = .ok (.goto 4, 3) := by decide +kernel
theorem dX10_stepY_17 : decode cX10_stepY 17 = .ok (.iconst 0, 1) := by decide +kernel
theorem dX10_stepY_18 : decode cX10_stepY 18 = .ok (.ireturn, 1) := by decide +kernel
theorem dX10_sinkOf_0 : decode cX10_sinkOf 0 = .ok (.sipush 1000, 3) := by decide +kernel
theorem dX10_sinkOf_3 : decode cX10_sinkOf 3 = .ok (.aload_n 0, 1) := by decide +kernel
theorem dX10_sinkOf_4 : decode cX10_sinkOf 4 = .ok (.iload_n 1, 1) := by decide +kernel
theorem dX10_sinkOf_5 : decode cX10_sinkOf 5 = .ok (.iconst 0, 1) := by decide +kernel
theorem dX10_sinkOf_6 : decode cX10_sinkOf 6 = .ok (.invokevirtual 78, 3) := by decide +kernel
theorem dX10_sinkOf_9 : decode cX10_sinkOf 9 = .ok (.idiv, 1) := by decide +kernel
theorem dX10_sinkOf_10 : decode cX10_sinkOf 10 = .ok (.ireturn, 1) := by decide +kernel
theorem dX10_isThere_0 : decode cX10_isThere 0 = .ok (.aload_n 0, 1) := by decide +kernel
theorem dX10_isThere_1 : decode cX10_isThere 1 = .ok (.iload_n 1, 1) := by decide +kernel
theorem dX10_isThere_2 : decode cX10_isThere 2 = .ok (.iconst 2, 1) := by decide +kernel
theorem dX10_isThere_3 : decode cX10_isThere 3 = .ok (.invokevirtual 78, 3) := by decide +kernel
theorem dX10_isThere_6 : decode cX10_isThere 6 = .ok (.aload_n 0, 1) := by decide +kernel
theorem dX10_isThere_7 : decode cX10_isThere 7 = .ok (.iload_n 2, 1) := by decide +kernel
theorem dX10_isThere_8 : decode cX10_isThere 8 = .ok (.invokevirtual 55, 3) := by decide +kernel
theorem dX10_isThere_11 : decode cX10_isThere 11 = .ok (.if_icmp .ne 21, 3) := by decide +kernel
theorem dX10_isThere_14 : decode cX10_isThere 14 = .ok (.aload_n 0, 1) := by decide +kernel
theorem dX10_isThere_15 : decode cX10_isThere 15 = .ok (.iload_n 1, 1) := by decide +kernel
theorem dX10_isThere_16 : decode cX10_isThere 16 = .ok (.iconst 3, 1) := by decide +kernel
theorem dX10_isThere_17 : decode cX10_isThere 17 = .ok (.invokevirtual 78, 3) := by decide +kernel
theorem dX10_isThere_20 : decode cX10_isThere 20 = .ok (.aload_n 0, 1) := by decide +kernel
theorem dX10_isThere_21 : decode cX10_isThere 21 = .ok (.iload_n 2, 1) := by decide +kernel
theorem dX10_isThere_22 : decode cX10_isThere 22 = .ok (.invokevirtual 63, 3) := by decide +kernel
theorem dX10_isThere_25 : decode cX10_isThere 25 = .ok (.if_icmp .ne 7, 3) := by decide +kernel
theorem dX10_isThere_28 : decode cX10_isThere 28 = .ok (.iconst 1, 1) := by decide +kernel
theorem dX10_isThere_29 : decode cX10_isThere 29 = .ok (.goto 4, 3) := by decide +kernel
theorem dX10_isThere_32 : decode cX10_isThere 32 = .ok (.iconst 0, 1) := by decide +kernel
theorem dX10_isThere_33 : decode cX10_isThere 33 = .ok (.ireturn, 1) := by decide +kernel
theorem wd1906 : Cond.code yX10_stepX cX10_stepX 1 (some .int) ∈ gW := gW_in 1906 (by decide +kernel) (by decide +kernel)
theorem mvX10_stepX : MV yX10_stepX cX10_stepX 1 (some .int) 1 := ⟨wd1906, wd92, by decide +kernel, by decide +kernel, by decide +kernel, by decide⟩
theorem wd1905 : Cond.static yX10_stepX ∈ gW := gW_in 1905 (by decide +kernel) (by decide +kernel)
theorem wd1904 : Cond.methodLink RX10 140 yX10_stepX ∈ gW := gW_in 1904 (by decide +kernel) (by decide +kernel)
theorem wd1909 : Cond.code yX10_stepY cX10_stepY 1 (some .int) ∈ gW := gW_in 1909 (by decide +kernel) (by decide +kernel)
theorem mvX10_stepY : MV yX10_stepY cX10_stepY 1 (some .int) 1 := ⟨wd1909, wd92, by decide +kernel, by decide +kernel, by decide +kernel, by decide⟩
theorem wd1908 : Cond.static yX10_stepY ∈ gW := gW_in 1908 (by decide +kernel) (by decide +kernel)
theorem wd1907 : Cond.methodLink RX10 143 yX10_stepY ∈ gW := gW_in 1907 (by decide +kernel) (by decide +kernel)
theorem wd1917 : Cond.code yX10_sinkOf cX10_sinkOf 2 (some .int) ∈ gW := gW_in 1917 (by decide +kernel) (by decide +kernel)
theorem mvX10_sinkOf : MV yX10_sinkOf cX10_sinkOf 2 (some .int) 1 := ⟨wd1917, wd92, by decide +kernel, by decide +kernel, by decide +kernel, by decide⟩
theorem wd1916 : Cond.instanceMethod yX10_sinkOf ∈ gW := gW_in 1916 (by decide +kernel) (by decide +kernel)
theorem wd45 : Cond.selects yX10_sinkOf.cls yX10_sinkOf yX10_sinkOf ∈ gW := gW_in 45 (by decide +kernel) (by decide +kernel)
theorem wd1914 : Cond.methodLink RX10 146 yX10_sinkOf ∈ gW := gW_in 1914 (by decide +kernel) (by decide +kernel)
theorem wd1921 : Cond.code yX10_restricted cX10_restricted 5 (some .boolean) ∈ gW := gW_in 1921 (by decide +kernel) (by decide +kernel)
theorem mvX10_restricted : MV yX10_restricted cX10_restricted 5 (some .boolean) 2 := ⟨wd1921, wd92, by decide +kernel, by decide +kernel, by decide +kernel, by decide⟩
theorem wd1920 : Cond.instanceMethod yX10_restricted ∈ gW := gW_in 1920 (by decide +kernel) (by decide +kernel)
theorem wd46 : Cond.selects yX10_restricted.cls yX10_restricted yX10_restricted ∈ gW := gW_in 46 (by decide +kernel) (by decide +kernel)
theorem wd1918 : Cond.methodLink RX10 149 yX10_restricted ∈ gW := gW_in 1918 (by decide +kernel) (by decide +kernel)
theorem wd1925 : Cond.code yX10_isThere cX10_isThere 3 (some .boolean) ∈ gW := gW_in 1925 (by decide +kernel) (by decide +kernel)
theorem mvX10_isThere : MV yX10_isThere cX10_isThere 3 (some .boolean) 2 := ⟨wd1925, wd92, by decide +kernel, by decide +kernel, by decide +kernel, by decide⟩
theorem wd1924 : Cond.instanceMethod yX10_isThere ∈ gW := gW_in 1924 (by decide +kernel) (by decide +kernel)
theorem wd47 : Cond.selects yX10_isThere.cls yX10_isThere yX10_isThere ∈ gW := gW_in 47 (by decide +kernel) (by decide +kernel)
theorem wd1922 : Cond.methodLink RX10 152 yX10_isThere ∈ gW := gW_in 1922 (by decide +kernel) (by decide +kernel)
theorem dX10_kilometre_0 : decode cX10_kilometre 0 = .ok (.aload_n 0, 1) := by decide +kernel
theorem dX10_kilometre_1 : decode cX10_kilometre 1 = .ok (.iload_n 1, 1) := by decide +kernel
theorem dX10_kilometre_2 : decode cX10_kilometre 2 = .ok (.iconst 2, 1) := by decide +kernel
theorem dX10_kilometre_3 : decode cX10_kilometre 3 = .ok (.aload_n 0, 1) := by decide +kernel
theorem dX10_kilometre_4 : decode cX10_kilometre 4 = .ok (.iload_n 1, 1) := by decide +kernel
theorem dX10_kilometre_5 : decode cX10_kilometre 5 = .ok (.iconst 2, 1) := by decide +kernel
theorem dX10_kilometre_6 : decode cX10_kilometre 6 = .ok (.invokevirtual 78, 3) := by decide +kernel
theorem dX10_kilometre_9 : decode cX10_kilometre 9 = .ok (.iload_n 2, 1) := by decide +kernel
theorem dX10_kilometre_10 : decode cX10_kilometre 10 = .ok (.invokestatic 140, 3) := by decide +kernel
theorem dX10_kilometre_13 : decode cX10_kilometre 13 = .ok (.iadd, 1) := by decide +kernel
theorem dX10_kilometre_14 : decode cX10_kilometre 14 = .ok (.invokevirtual 124, 3) := by decide +kernel
theorem dX10_kilometre_17 : decode cX10_kilometre 17 = .ok (.aload_n 0, 1) := by decide +kernel
theorem dX10_kilometre_18 : decode cX10_kilometre 18 = .ok (.iload_n 1, 1) := by decide +kernel
theorem dX10_kilometre_19 : decode cX10_kilometre 19 = .ok (.iconst 3, 1) := by decide +kernel
theorem dX10_kilometre_20 : decode cX10_kilometre 20 = .ok (.aload_n 0, 1) := by decide +kernel
theorem dX10_kilometre_21 : decode cX10_kilometre 21 = .ok (.iload_n 1, 1) := by decide +kernel
theorem dX10_kilometre_22 : decode cX10_kilometre 22 = .ok (.iconst 3, 1) := by decide +kernel
theorem dX10_kilometre_23 : decode cX10_kilometre 23 = .ok (.invokevirtual 78, 3) := by decide +kernel
theorem dX10_kilometre_26 : decode cX10_kilometre 26 = .ok (.iload_n 2, 1) := by decide +kernel
theorem dX10_kilometre_27 : decode cX10_kilometre 27 = .ok (.invokestatic 143, 3) := by decide +kernel
theorem dX10_kilometre_30 : decode cX10_kilometre 30 = .ok (.iadd, 1) := by decide +kernel
theorem dX10_kilometre_31 : decode cX10_kilometre 31 = .ok (.invokevirtual 124, 3) := by decide +kernel
theorem dX10_kilometre_34 : decode cX10_kilometre 34 = .ok (.aload_n 0, 1) := by decide +kernel
theorem dX10_kilometre_35 : decode cX10_kilometre 35 = .ok (.iload_n 1, 1) := by decide +kernel
theorem dX10_kilometre_36 : decode cX10_kilometre 36 = .ok (.iconst 5, 1) := by decide +kernel
theorem dX10_kilometre_37 : decode cX10_kilometre 37 = .ok (.aload_n 0, 1) := by decide +kernel
theorem dX10_kilometre_38 : decode cX10_kilometre 38 = .ok (.iload_n 1, 1) := by decide +kernel
theorem dX10_kilometre_39 : decode cX10_kilometre 39 = .ok (.iconst 5, 1) := by decide +kernel
theorem dX10_kilometre_40 : decode cX10_kilometre 40 = .ok (.invokevirtual 78, 3) := by decide +kernel
theorem dX10_kilometre_43 : decode cX10_kilometre 43 = .ok (.iconst 1, 1) := by decide +kernel
theorem dX10_kilometre_44 : decode cX10_kilometre 44 = .ok (.iadd, 1) := by decide +kernel
theorem dX10_kilometre_45 : decode cX10_kilometre 45 = .ok (.invokevirtual 124, 3) := by decide +kernel
theorem dX10_kilometre_48 : decode cX10_kilometre 48 = .ok (.aload_n 0, 1) := by decide +kernel
theorem dX10_kilometre_49 : decode cX10_kilometre 49 = .ok (.iload_n 1, 1) := by decide +kernel
theorem dX10_kilometre_50 : decode cX10_kilometre 50 = .ok (.iconst 4, 1) := by decide +kernel
theorem dX10_kilometre_51 : decode cX10_kilometre 51 = .ok (.invokevirtual 78, 3) := by decide +kernel
theorem dX10_kilometre_54 : decode cX10_kilometre 54 = .ok (.aload_n 0, 1) := by decide +kernel
theorem dX10_kilometre_55 : decode cX10_kilometre 55 = .ok (.iload_n 1, 1) := by decide +kernel
theorem dX10_kilometre_56 : decode cX10_kilometre 56 = .ok (.invokevirtual 146, 3) := by decide +kernel
theorem dX10_kilometre_59 : decode cX10_kilometre 59 = .ok (.isub, 1) := by decide +kernel
theorem dX10_kilometre_60 : decode cX10_kilometre 60 = .ok (.istore_n 3, 1) := by decide +kernel
theorem dX10_kilometre_61 : decode cX10_kilometre 61 = .ok (.aload_n 0, 1) := by decide +kernel
theorem dX10_kilometre_62 : decode cX10_kilometre 62 = .ok (.iload_n 1, 1) := by decide +kernel
theorem dX10_kilometre_63 : decode cX10_kilometre 63 = .ok (.iconst 4, 1) := by decide +kernel
theorem dX10_kilometre_64 : decode cX10_kilometre 64 = .ok (.iload_n 3, 1) := by decide +kernel
theorem dX10_kilometre_65 : decode cX10_kilometre 65 = .ok (.ifCond .ge 7, 3) := by decide +kernel
theorem dX10_kilometre_68 : decode cX10_kilometre 68 = .ok (.iconst 0, 1) := by decide +kernel
theorem dX10_kilometre_69 : decode cX10_kilometre 69 = .ok (.goto 4, 3) := by decide +kernel
theorem dX10_kilometre_72 : decode cX10_kilometre 72 = .ok (.iload_n 3, 1) := by decide +kernel
theorem dX10_kilometre_73 : decode cX10_kilometre 73 = .ok (.invokevirtual 124, 3) := by decide +kernel
theorem dX10_kilometre_76 : decode cX10_kilometre 76 = .ok (.aload_n 0, 1) := by decide +kernel
theorem dX10_kilometre_77 : decode cX10_kilometre 77 = .ok (.aload_n 0, 1) := by decide +kernel
theorem dX10_kilometre_78 : decode cX10_kilometre 78 = .ok (.iload_n 1, 1) := by decide +kernel
theorem dX10_kilometre_79 : decode cX10_kilometre 79 = .ok (.iconst 2, 1) := by decide +kernel
theorem dX10_kilometre_80 : decode cX10_kilometre 80 = .ok (.invokevirtual 78, 3) := by decide +kernel
theorem dX10_kilometre_83 : decode cX10_kilometre 83 = .ok (.aload_n 0, 1) := by decide +kernel
theorem dX10_kilometre_84 : decode cX10_kilometre 84 = .ok (.iload_n 1, 1) := by decide +kernel
theorem dX10_kilometre_85 : decode cX10_kilometre 85 = .ok (.iconst 3, 1) := by decide +kernel
theorem dX10_kilometre_86 : decode cX10_kilometre 86 = .ok (.invokevirtual 78, 3) := by decide +kernel
theorem dX10_kilometre_89 : decode cX10_kilometre 89 = .ok (.invokevirtual 149, 3) := by decide +kernel
theorem dX10_kilometre_92 : decode cX10_kilometre 92 = .ok (.ifCond .eq 20, 3) := by decide +kernel
theorem dX10_kilometre_95 : decode cX10_kilometre 95 = .ok (.aload_n 0, 1) := by decide +kernel
theorem dX10_kilometre_96 : decode cX10_kilometre 96 = .ok (.iload_n 1, 1) := by decide +kernel
theorem dX10_kilometre_97 : decode cX10_kilometre 97 = .ok (.bipush 6, 2) := by decide +kernel
theorem dX10_kilometre_99 : decode cX10_kilometre 99 = .ok (.aload_n 0, 1) := by decide +kernel
theorem dX10_kilometre_100 : decode cX10_kilometre 100 = .ok (.iload_n 1, 1) := by decide +kernel
theorem dX10_kilometre_101 : decode cX10_kilometre 101 = .ok (.bipush 6, 2) := by decide +kernel
theorem dX10_kilometre_103 : decode cX10_kilometre 103 = .ok (.invokevirtual 78, 3) := by decide +kernel
theorem dX10_kilometre_106 : decode cX10_kilometre 106 = .ok (.bipush 10, 2) := by decide +kernel
theorem dX10_kilometre_108 : decode cX10_kilometre 108 = .ok (.iadd, 1) := by decide +kernel
theorem dX10_kilometre_109 : decode cX10_kilometre 109 = .ok (.invokevirtual 124, 3) := by decide +kernel
theorem dX10_kilometre_112 : decode cX10_kilometre 112 = .ok (.aload_n 0, 1) := by decide +kernel
theorem dX10_kilometre_113 : decode cX10_kilometre 113 = .ok (.iload_n 1, 1) := by decide +kernel
theorem dX10_kilometre_114 : decode cX10_kilometre 114 = .ok (.aload_n 0, 1) := by decide +kernel
theorem dX10_kilometre_115 : decode cX10_kilometre 115 = .ok (.aload_n 0, 1) := by decide +kernel
theorem dX10_kilometre_116 : decode cX10_kilometre 116 = .ok (.iload_n 1, 1) := by decide +kernel
theorem dX10_kilometre_117 : decode cX10_kilometre 117 = .ok (.bipush 7, 2) := by decide +kernel
theorem dX10_kilometre_119 : decode cX10_kilometre 119 = .ok (.invokevirtual 78, 3) := by decide +kernel
theorem dX10_kilometre_122 : decode cX10_kilometre 122 = .ok (.invokevirtual 66, 3) := by decide +kernel
theorem dX10_kilometre_125 : decode cX10_kilometre 125 = .ok (.invokevirtual 152, 3) := by decide +kernel
theorem dX10_kilometre_128 : decode cX10_kilometre 128 = .ok (.ifCond .eq 19, 3) := by decide +kernel
theorem dX10_kilometre_131 : decode cX10_kilometre 131 = .ok (.aload_n 0, 1) := by decide +kernel
theorem dX10_kilometre_132 : decode cX10_kilometre 132 = .ok (.iload_n 1, 1) := by decide +kernel
theorem dX10_kilometre_133 : decode cX10_kilometre 133 = .ok (.bipush 7, 2) := by decide +kernel
theorem dX10_kilometre_135 : decode cX10_kilometre 135 = .ok (.aload_n 0, 1) := by decide +kernel
theorem dX10_kilometre_136 : decode cX10_kilometre 136 = .ok (.iload_n 1, 1) := by decide +kernel
theorem dX10_kilometre_137 : decode cX10_kilometre 137 = .ok (.bipush 7, 2) := by decide +kernel
theorem dX10_kilometre_139 : decode cX10_kilometre 139 = .ok (.invokevirtual 78, 3) := by decide +kernel
theorem dX10_kilometre_142 : decode cX10_kilometre 142 = .ok (.iconst 1, 1) := by decide +kernel
theorem dX10_kilometre_143 : decode cX10_kilometre 143 = .ok (.iadd, 1) := by decide +kernel
theorem dX10_kilometre_144 : decode cX10_kilometre 144 = .ok (.invokevirtual 124, 3) := by decide +kernel
theorem dX10_kilometre_147 : decode cX10_kilometre 147 = .ok (.aload_n 0, 1) := by decide +kernel
theorem dX10_kilometre_148 : decode cX10_kilometre 148 = .ok (.iload_n 1, 1) := by decide +kernel
theorem dX10_kilometre_149 : decode cX10_kilometre 149 = .ok (.bipush 7, 2) := by decide +kernel
theorem dX10_kilometre_151 : decode cX10_kilometre 151 = .ok (.invokevirtual 78, 3) := by decide +kernel
theorem dX10_kilometre_154 : decode cX10_kilometre 154 = .ok (.aload_n 0, 1) := by decide +kernel
theorem dX10_kilometre_155 : decode cX10_kilometre 155 = .ok (.getfield 9, 3) := by decide +kernel
theorem dX10_kilometre_158 : decode cX10_kilometre 158 = .ok (.iconst 1, 1) := by decide +kernel
theorem dX10_kilometre_159 : decode cX10_kilometre 159 = .ok (.iaload, 1) := by decide +kernel
theorem dX10_kilometre_160 : decode cX10_kilometre 160 = .ok (.if_icmp .ne 13, 3) := by decide +kernel
theorem dX10_kilometre_163 : decode cX10_kilometre 163 = .ok (.aload_n 0, 1) := by decide +kernel
theorem dX10_kilometre_164 : decode cX10_kilometre 164 = .ok (.iload_n 1, 1) := by decide +kernel
theorem dX10_kilometre_165 : decode cX10_kilometre 165 = .ok (.iconst 1, 1) := by decide +kernel
theorem dX10_kilometre_166 : decode cX10_kilometre 166 = .ok (.iconst 3, 1) := by decide +kernel
theorem dX10_kilometre_167 : decode cX10_kilometre 167 = .ok (.invokevirtual 124, 3) := by decide +kernel
theorem dX10_kilometre_170 : decode cX10_kilometre 170 = .ok (.goto 19, 3) := by decide +kernel
theorem dX10_kilometre_173 : decode cX10_kilometre 173 = .ok (.aload_n 0, 1) := by decide +kernel
theorem dX10_kilometre_174 : decode cX10_kilometre 174 = .ok (.iload_n 1, 1) := by decide +kernel
theorem dX10_kilometre_175 : decode cX10_kilometre 175 = .ok (.iconst 4, 1) := by decide +kernel
theorem dX10_kilometre_176 : decode cX10_kilometre 176 = .ok (.invokevirtual 78, 3) := by decide +kernel
theorem dX10_kilometre_179 : decode cX10_kilometre 179 = .ok (.ifCond .ne 10, 3) := by decide +kernel
theorem dX10_kilometre_182 : decode cX10_kilometre 182 = .ok (.aload_n 0, 1) := by decide +kernel
theorem dX10_kilometre_183 : decode cX10_kilometre 183 = .ok (.iload_n 1, 1) := by decide +kernel
theorem dX10_kilometre_184 : decode cX10_kilometre 184 = .ok (.iconst 1, 1) := by decide +kernel
theorem dX10_kilometre_185 : decode cX10_kilometre 185 = .ok (.iconst 2, 1) := by decide +kernel
theorem dX10_kilometre_186 : decode cX10_kilometre 186 = .ok (.invokevirtual 124, 3) := by decide +kernel
theorem dX10_kilometre_189 : decode cX10_kilometre 189 = .ok (.return_, 1) := by decide +kernel
theorem wd1913 : Cond.code yX10_kilometre cX10_kilometre 4 none ∈ gW := gW_in 1913 (by decide +kernel) (by decide +kernel)
theorem mvX10_kilometre : MV yX10_kilometre cX10_kilometre 4 none 2 := ⟨wd1913, wd92, by decide +kernel, by decide +kernel, by decide +kernel, by decide⟩
theorem wd1912 : Cond.instanceMethod yX10_kilometre ∈ gW := gW_in 1912 (by decide +kernel) (by decide +kernel)
theorem wd44 : Cond.selects yX10_kilometre.cls yX10_kilometre yX10_kilometre ∈ gW := gW_in 44 (by decide +kernel) (by decide +kernel)
theorem wd1910 : Cond.methodLink RX10 155 yX10_kilometre ∈ gW := gW_in 1910 (by decide +kernel) (by decide +kernel)
theorem dX10_flies_0 : decode cX10_flies 0 = .ok (.aload_n 0, 1) := by decide +kernel
theorem dX10_flies_1 : decode cX10_flies 1 = .ok (.aload_n 0, 1) := by decide +kernel
theorem dX10_flies_2 : decode cX10_flies 2 = .ok (.iload_n 1, 1) := by decide +kernel
theorem dX10_flies_3 : decode cX10_flies 3 = .ok (.invokevirtual 131, 3) := by decide +kernel
theorem dX10_flies_6 : decode cX10_flies 6 = .ok (.ifCond .ne 7, 3) := by decide +kernel
theorem dX10_flies_9 : decode cX10_flies 9 = .ok (.iconst 1, 1) := by decide +kernel
theorem dX10_flies_10 : decode cX10_flies 10 = .ok (.goto 4, 3) := by decide +kernel
theorem dX10_flies_13 : decode cX10_flies 13 = .ok (.iconst 0, 1) := by decide +kernel
theorem dX10_flies_14 : decode cX10_flies 14 = .ok (.iconst 1, 1) := by decide +kernel
theorem dX10_flies_15 : decode cX10_flies 15 = .ok (.invokevirtual 85, 3) := by decide +kernel
theorem dX10_flies_18 : decode cX10_flies 18 = .ok (.ifCond .ne 58, 3) := by decide +kernel
theorem dX10_flies_21 : decode cX10_flies 21 = .ok (.aload_n 0, 1) := by decide +kernel
theorem dX10_flies_22 : decode cX10_flies 22 = .ok (.iload_n 2, 1) := by decide +kernel
theorem dX10_flies_23 : decode cX10_flies 23 = .ok (.iconst 0, 1) := by decide +kernel
theorem dX10_flies_24 : decode cX10_flies 24 = .ok (.iconst 3, 1) := by decide +kernel
theorem dX10_flies_25 : decode cX10_flies 25 = .ok (.invokestatic 51, 3) := by decide +kernel
theorem dX10_flies_28 : decode cX10_flies 28 = .ok (.ifCond .eq 13, 3) := by decide +kernel
theorem dX10_flies_31 : decode cX10_flies 31 = .ok (.iload_n 3, 1) := by decide +kernel
theorem dX10_flies_32 : decode cX10_flies 32 = .ok (.iconst 1, 1) := by decide +kernel
theorem dX10_flies_33 : decode cX10_flies 33 = .ok (.bipush 60, 2) := by decide +kernel
theorem dX10_flies_35 : decode cX10_flies 35 = .ok (.invokestatic 51, 3) := by decide +kernel
theorem dX10_flies_38 : decode cX10_flies 38 = .ok (.ifCond .ne 7, 3) := by decide +kernel
theorem dX10_flies_41 : decode cX10_flies 41 = .ok (.iconst 1, 1) := by decide +kernel
theorem dX10_flies_42 : decode cX10_flies 42 = .ok (.goto 4, 3) := by decide +kernel
theorem dX10_flies_45 : decode cX10_flies 45 = .ok (.iconst 0, 1) := by decide +kernel
theorem dX10_flies_46 : decode cX10_flies 46 = .ok (.iconst 2, 1) := by decide +kernel
theorem dX10_flies_47 : decode cX10_flies 47 = .ok (.invokevirtual 85, 3) := by decide +kernel
theorem dX10_flies_50 : decode cX10_flies 50 = .ok (.ifCond .ne 26, 3) := by decide +kernel
theorem dX10_flies_53 : decode cX10_flies 53 = .ok (.aload_n 0, 1) := by decide +kernel
theorem dX10_flies_54 : decode cX10_flies 54 = .ok (.aload_n 0, 1) := by decide +kernel
theorem dX10_flies_55 : decode cX10_flies 55 = .ok (.iload_n 1, 1) := by decide +kernel
theorem dX10_flies_56 : decode cX10_flies 56 = .ok (.iconst 1, 1) := by decide +kernel
theorem dX10_flies_57 : decode cX10_flies 57 = .ok (.invokevirtual 78, 3) := by decide +kernel
theorem dX10_flies_60 : decode cX10_flies 60 = .ok (.iconst 1, 1) := by decide +kernel
theorem dX10_flies_61 : decode cX10_flies 61 = .ok (.if_icmp .eq 7, 3) := by decide +kernel
theorem dX10_flies_64 : decode cX10_flies 64 = .ok (.iconst 1, 1) := by decide +kernel
theorem dX10_flies_65 : decode cX10_flies 65 = .ok (.goto 4, 3) := by decide +kernel
theorem dX10_flies_68 : decode cX10_flies 68 = .ok (.iconst 0, 1) := by decide +kernel
theorem dX10_flies_69 : decode cX10_flies 69 = .ok (.iconst 3, 1) := by decide +kernel
theorem dX10_flies_70 : decode cX10_flies 70 = .ok (.invokevirtual 85, 3) := by decide +kernel
theorem dX10_flies_73 : decode cX10_flies 73 = .ok (.ifCond .eq 5, 3) := by decide +kernel
theorem dX10_flies_76 : decode cX10_flies 76 = .ok (.iconst 0, 1) := by decide +kernel
theorem dX10_flies_77 : decode cX10_flies 77 = .ok (.ireturn, 1) := by decide +kernel
theorem dX10_flies_78 : decode cX10_flies 78 = .ok (.aload_n 0, 1) := by decide +kernel
theorem dX10_flies_79 : decode cX10_flies 79 = .ok (.aload_n 0, 1) := by decide +kernel
theorem dX10_flies_80 : decode cX10_flies 80 = .ok (.iload_n 1, 1) := by decide +kernel
theorem dX10_flies_81 : decode cX10_flies 81 = .ok (.iconst 2, 1) := by decide +kernel
theorem dX10_flies_82 : decode cX10_flies 82 = .ok (.invokevirtual 78, 3) := by decide +kernel
theorem dX10_flies_85 : decode cX10_flies 85 = .ok (.iload_n 3, 1) := by decide +kernel
theorem dX10_flies_86 : decode cX10_flies 86 = .ok (.iload_n 2, 1) := by decide +kernel
theorem dX10_flies_87 : decode cX10_flies 87 = .ok (.invokestatic 140, 3) := by decide +kernel
theorem dX10_flies_90 : decode cX10_flies 90 = .ok (.imul, 1) := by decide +kernel
theorem dX10_flies_91 : decode cX10_flies 91 = .ok (.iadd, 1) := by decide +kernel
theorem dX10_flies_92 : decode cX10_flies 92 = .ok (.aload_n 0, 1) := by decide +kernel
theorem dX10_flies_93 : decode cX10_flies 93 = .ok (.iload_n 1, 1) := by decide +kernel
theorem dX10_flies_94 : decode cX10_flies 94 = .ok (.iconst 3, 1) := by decide +kernel
theorem dX10_flies_95 : decode cX10_flies 95 = .ok (.invokevirtual 78, 3) := by decide +kernel
theorem dX10_flies_98 : decode cX10_flies 98 = .ok (.iload_n 3, 1) := by decide +kernel
theorem dX10_flies_99 : decode cX10_flies 99 = .ok (.iload_n 2, 1) := by decide +kernel
theorem dX10_flies_100 : decode cX10_flies 100 = .ok (.invokestatic 143, 3) := by decide +kernel
theorem dX10_flies_103 : decode cX10_flies 103 = .ok (.imul, 1) := by decide +kernel
theorem dX10_flies_104 : decode cX10_flies 104 = .ok (.iadd, 1) := by decide +kernel
theorem dX10_flies_105 : decode cX10_flies 105 = .ok (.invokestatic 81, 3) := by decide +kernel
theorem dX10_flies_108 : decode cX10_flies 108 = .ok (.ifCond .ne 7, 3) := by decide +kernel
theorem dX10_flies_111 : decode cX10_flies 111 = .ok (.iconst 1, 1) := by decide +kernel
theorem dX10_flies_112 : decode cX10_flies 112 = .ok (.goto 4, 3) := by decide +kernel
theorem dX10_flies_115 : decode cX10_flies 115 = .ok (.iconst 0, 1) := by decide +kernel
theorem dX10_flies_116 : decode cX10_flies 116 = .ok (.iconst 4, 1) := by decide +kernel
theorem dX10_flies_117 : decode cX10_flies 117 = .ok (.invokevirtual 85, 3) := by decide +kernel
theorem dX10_flies_120 : decode cX10_flies 120 = .ok (.ifCond .eq 5, 3) := by decide +kernel
theorem dX10_flies_123 : decode cX10_flies 123 = .ok (.iconst 0, 1) := by decide +kernel
theorem dX10_flies_124 : decode cX10_flies 124 = .ok (.ireturn, 1) := by decide +kernel
theorem dX10_flies_125 : decode cX10_flies 125 = .ok (.iconst 0, 1) := by decide +kernel
theorem dX10_flies_126 : decode cX10_flies 126 = .ok (.istore 4, 2) := by decide +kernel
theorem dX10_flies_128 : decode cX10_flies 128 = .ok (.iload 4, 2) := by decide +kernel
theorem dX10_flies_130 : decode cX10_flies 130 = .ok (.iload_n 3, 1) := by decide +kernel
theorem dX10_flies_131 : decode cX10_flies 131 = .ok (.if_icmp .ge 25, 3) := by decide +kernel
theorem dX10_flies_134 : decode cX10_flies 134 = .ok (.aload_n 0, 1) := by decide +kernel
theorem dX10_flies_135 : decode cX10_flies 135 = .ok (.iload_n 1, 1) := by decide +kernel
theorem dX10_flies_136 : decode cX10_flies 136 = .ok (.iconst 1, 1) := by decide +kernel
theorem dX10_flies_137 : decode cX10_flies 137 = .ok (.invokevirtual 78, 3) := by decide +kernel
theorem dX10_flies_140 : decode cX10_flies 140 = .ok (.iconst 1, 1) := by decide +kernel
theorem dX10_flies_141 : decode cX10_flies 141 = .ok (.if_icmp .ne 15, 3) := by decide +kernel
theorem dX10_flies_144 : decode cX10_flies 144 = .ok (.aload_n 0, 1) := by decide +kernel
theorem dX10_flies_145 : decode cX10_flies 145 = .ok (.iload_n 1, 1) := by decide +kernel
theorem dX10_flies_146 : decode cX10_flies 146 = .ok (.iload_n 2, 1) := by decide +kernel
theorem dX10_flies_147 : decode cX10_flies 147 = .ok (.invokevirtual 155, 3) := by decide +kernel
theorem dX10_flies_150 : decode cX10_flies 150 = .ok (.iinc 4 1, 3) := by decide +kernel
theorem dX10_flies_153 : decode cX10_flies 153 = .ok (.goto (-25), 3) := by decide +kernel
theorem dX10_flies_156 : decode cX10_flies 156 = .ok (.iload 4, 2) := by decide +kernel
theorem dX10_flies_158 : decode cX10_flies 158 = .ok (.ireturn, 1) := by decide +kernel
theorem wd1903 : Cond.code yX10_flies cX10_flies 5 (some .int) ∈ gW := gW_in 1903 (by decide +kernel) (by decide +kernel)
theorem mvX10_flies : MV yX10_flies cX10_flies 5 (some .int) 3 := ⟨wd1903, wd92, by decide +kernel, by decide +kernel, by decide +kernel, by decide⟩
theorem wd1902 : Cond.instanceMethod yX10_flies ∈ gW := gW_in 1902 (by decide +kernel) (by decide +kernel)
theorem wd43 : Cond.selects yX10_flies.cls yX10_flies yX10_flies ∈ gW := gW_in 43 (by decide +kernel) (by decide +kernel)
theorem wd1900 : Cond.methodLink RX10 159 yX10_flies ∈ gW := gW_in 1900 (by decide +kernel) (by decide +kernel)
theorem dX10_fly_0 : decode cX10_fly 0 = .ok (.aload_n 0, 1) := by decide +kernel
theorem dX10_fly_1 : decode cX10_fly 1 = .ok (.invokevirtual 89, 3) := by decide +kernel
theorem dX10_fly_4 : decode cX10_fly 4 = .ok (.aload_n 0, 1) := by decide +kernel
theorem dX10_fly_5 : decode cX10_fly 5 = .ok (.aload_n 0, 1) := by decide +kernel
theorem dX10_fly_6 : decode cX10_fly 6 = .ok (.iload_n 1, 1) := by decide +kernel
theorem dX10_fly_7 : decode cX10_fly 7 = .ok (.iload_n 2, 1) := by decide +kernel
theorem dX10_fly_8 : decode cX10_fly 8 = .ok (.iload_n 3, 1) := by decide +kernel
theorem dX10_fly_9 : decode cX10_fly 9 = .ok (.invokevirtual 159, 3) := by decide +kernel
theorem dX10_fly_12 : decode cX10_fly 12 = .ok (.invokevirtual 95, 3) := by decide +kernel
theorem dX10_fly_15 : decode cX10_fly 15 = .ok (.ireturn, 1) := by decide +kernel
theorem wd1937 : Cond.code yX10_lifted cX10_lifted 7 (some .int) ∈ gW := gW_in 1937 (by decide +kernel) (by decide +kernel)
theorem mvX10_lifted : MV yX10_lifted cX10_lifted 7 (some .int) 2 := ⟨wd1937, wd92, by decide +kernel, by decide +kernel, by decide +kernel, by decide⟩
theorem wd1936 : Cond.instanceMethod yX10_lifted ∈ gW := gW_in 1936 (by decide +kernel) (by decide +kernel)
theorem wd49 : Cond.selects yX10_lifted.cls yX10_lifted yX10_lifted ∈ gW := gW_in 49 (by decide +kernel) (by decide +kernel)
theorem wd1934 : Cond.methodLink RX10 162 yX10_lifted ∈ gW := gW_in 1934 (by decide +kernel) (by decide +kernel)
theorem dX10_climbs_0 : decode cX10_climbs 0 = .ok (.aload_n 0, 1) := by decide +kernel
theorem dX10_climbs_1 : decode cX10_climbs 1 = .ok (.aload_n 0, 1) := by decide +kernel
theorem dX10_climbs_2 : decode cX10_climbs 2 = .ok (.iload_n 1, 1) := by decide +kernel
theorem dX10_climbs_3 : decode cX10_climbs 3 = .ok (.invokevirtual 131, 3) := by decide +kernel
theorem dX10_climbs_6 : decode cX10_climbs 6 = .ok (.ifCond .ne 7, 3) := by decide +kernel
theorem dX10_climbs_9 : decode cX10_climbs 9 = .ok (.iconst 1, 1) := by decide +kernel
theorem dX10_climbs_10 : decode cX10_climbs 10 = .ok (.goto 4, 3) := by decide +kernel
theorem dX10_climbs_13 : decode cX10_climbs 13 = .ok (.iconst 0, 1) := by decide +kernel
theorem dX10_climbs_14 : decode cX10_climbs 14 = .ok (.iconst 1, 1) := by decide +kernel
theorem dX10_climbs_15 : decode cX10_climbs 15 = .ok (.invokevirtual 85, 3) := by decide +kernel
theorem dX10_climbs_18 : decode cX10_climbs 18 = .ok (.ifCond .ne 49, 3) := by decide +kernel
theorem dX10_climbs_21 : decode cX10_climbs 21 = .ok (.aload_n 0, 1) := by decide +kernel
theorem dX10_climbs_22 : decode cX10_climbs 22 = .ok (.iload_n 2, 1) := by decide +kernel
theorem dX10_climbs_23 : decode cX10_climbs 23 = .ok (.iconst 1, 1) := by decide +kernel
theorem dX10_climbs_24 : decode cX10_climbs 24 = .ok (.bipush 30, 2) := by decide +kernel
theorem dX10_climbs_26 : decode cX10_climbs 26 = .ok (.invokestatic 51, 3) := by decide +kernel
theorem dX10_climbs_29 : decode cX10_climbs 29 = .ok (.ifCond .ne 7, 3) := by decide +kernel
theorem dX10_climbs_32 : decode cX10_climbs 32 = .ok (.iconst 1, 1) := by decide +kernel
theorem dX10_climbs_33 : decode cX10_climbs 33 = .ok (.goto 4, 3) := by decide +kernel
theorem dX10_climbs_36 : decode cX10_climbs 36 = .ok (.iconst 0, 1) := by decide +kernel
theorem dX10_climbs_37 : decode cX10_climbs 37 = .ok (.iconst 2, 1) := by decide +kernel
theorem dX10_climbs_38 : decode cX10_climbs 38 = .ok (.invokevirtual 85, 3) := by decide +kernel
theorem dX10_climbs_41 : decode cX10_climbs 41 = .ok (.ifCond .ne 26, 3) := by decide +kernel
theorem dX10_climbs_44 : decode cX10_climbs 44 = .ok (.aload_n 0, 1) := by decide +kernel
theorem dX10_climbs_45 : decode cX10_climbs 45 = .ok (.aload_n 0, 1) := by decide +kernel
theorem dX10_climbs_46 : decode cX10_climbs 46 = .ok (.iload_n 1, 1) := by decide +kernel
theorem dX10_climbs_47 : decode cX10_climbs 47 = .ok (.iconst 1, 1) := by decide +kernel
theorem dX10_climbs_48 : decode cX10_climbs 48 = .ok (.invokevirtual 78, 3) := by decide +kernel
theorem dX10_climbs_51 : decode cX10_climbs 51 = .ok (.iconst 1, 1) := by decide +kernel
theorem dX10_climbs_52 : decode cX10_climbs 52 = .ok (.if_icmp .eq 7, 3) := by decide +kernel
theorem dX10_climbs_55 : decode cX10_climbs 55 = .ok (.iconst 1, 1) := by decide +kernel
theorem dX10_climbs_56 : decode cX10_climbs 56 = .ok (.goto 4, 3) := by decide +kernel
theorem dX10_climbs_59 : decode cX10_climbs 59 = .ok (.iconst 0, 1) := by decide +kernel
theorem dX10_climbs_60 : decode cX10_climbs 60 = .ok (.iconst 3, 1) := by decide +kernel
theorem dX10_climbs_61 : decode cX10_climbs 61 = .ok (.invokevirtual 85, 3) := by decide +kernel
theorem dX10_climbs_64 : decode cX10_climbs 64 = .ok (.ifCond .eq 5, 3) := by decide +kernel
theorem dX10_climbs_67 : decode cX10_climbs 67 = .ok (.iconst 0, 1) := by decide +kernel
theorem dX10_climbs_68 : decode cX10_climbs 68 = .ok (.ireturn, 1) := by decide +kernel
theorem dX10_climbs_69 : decode cX10_climbs 69 = .ok (.aload_n 0, 1) := by decide +kernel
theorem dX10_climbs_70 : decode cX10_climbs 70 = .ok (.aload_n 0, 1) := by decide +kernel
theorem dX10_climbs_71 : decode cX10_climbs 71 = .ok (.iload_n 1, 1) := by decide +kernel
theorem dX10_climbs_72 : decode cX10_climbs 72 = .ok (.iconst 2, 1) := by decide +kernel
theorem dX10_climbs_73 : decode cX10_climbs 73 = .ok (.invokevirtual 78, 3) := by decide +kernel
theorem dX10_climbs_76 : decode cX10_climbs 76 = .ok (.aload_n 0, 1) := by decide +kernel
theorem dX10_climbs_77 : decode cX10_climbs 77 = .ok (.iload_n 1, 1) := by decide +kernel
theorem dX10_climbs_78 : decode cX10_climbs 78 = .ok (.iconst 3, 1) := by decide +kernel
theorem dX10_climbs_79 : decode cX10_climbs 79 = .ok (.invokevirtual 78, 3) := by decide +kernel
theorem dX10_climbs_82 : decode cX10_climbs 82 = .ok (.invokevirtual 162, 3) := by decide +kernel
theorem dX10_climbs_85 : decode cX10_climbs 85 = .ok (.istore_n 3, 1) := by decide +kernel
theorem dX10_climbs_86 : decode cX10_climbs 86 = .ok (.aload_n 0, 1) := by decide +kernel
theorem dX10_climbs_87 : decode cX10_climbs 87 = .ok (.iload_n 3, 1) := by decide +kernel
theorem dX10_climbs_88 : decode cX10_climbs 88 = .ok (.ifCond .ne 7, 3) := by decide +kernel
theorem dX10_climbs_91 : decode cX10_climbs 91 = .ok (.iconst 1, 1) := by decide +kernel
theorem dX10_climbs_92 : decode cX10_climbs 92 = .ok (.goto 4, 3) := by decide +kernel
theorem dX10_climbs_95 : decode cX10_climbs 95 = .ok (.iconst 0, 1) := by decide +kernel
theorem dX10_climbs_96 : decode cX10_climbs 96 = .ok (.iconst 4, 1) := by decide +kernel
theorem dX10_climbs_97 : decode cX10_climbs 97 = .ok (.invokevirtual 85, 3) := by decide +kernel
theorem dX10_climbs_100 : decode cX10_climbs 100 = .ok (.ifCond .eq 5, 3) := by decide +kernel
theorem dX10_climbs_103 : decode cX10_climbs 103 = .ok (.iconst 0, 1) := by decide +kernel
theorem dX10_climbs_104 : decode cX10_climbs 104 = .ok (.ireturn, 1) := by decide +kernel
theorem dX10_climbs_105 : decode cX10_climbs 105 = .ok (.aload_n 0, 1) := by decide +kernel
theorem dX10_climbs_106 : decode cX10_climbs 106 = .ok (.iload_n 1, 1) := by decide +kernel
theorem dX10_climbs_107 : decode cX10_climbs 107 = .ok (.iconst 4, 1) := by decide +kernel
theorem dX10_climbs_108 : decode cX10_climbs 108 = .ok (.invokevirtual 78, 3) := by decide +kernel
theorem dX10_climbs_111 : decode cX10_climbs 111 = .ok (.istore 4, 2) := by decide +kernel
theorem dX10_climbs_113 : decode cX10_climbs 113 = .ok (.iload 4, 2) := by decide +kernel
theorem dX10_climbs_115 : decode cX10_climbs 115 = .ok (.bipush 60, 2) := by decide +kernel
theorem dX10_climbs_117 : decode cX10_climbs 117 = .ok (.iload_n 3, 1) := by decide +kernel
theorem dX10_climbs_118 : decode cX10_climbs 118 = .ok (.imul, 1) := by decide +kernel
theorem dX10_climbs_119 : decode cX10_climbs 119 = .ok (.iload_n 2, 1) := by decide +kernel
theorem dX10_climbs_120 : decode cX10_climbs 120 = .ok (.imul, 1) := by decide +kernel
theorem dX10_climbs_121 : decode cX10_climbs 121 = .ok (.iadd, 1) := by decide +kernel
theorem dX10_climbs_122 : decode cX10_climbs 122 = .ok (.istore 5, 2) := by decide +kernel
theorem dX10_climbs_124 : decode cX10_climbs 124 = .ok (.aload_n 0, 1) := by decide +kernel
theorem dX10_climbs_125 : decode cX10_climbs 125 = .ok (.iload_n 1, 1) := by decide +kernel
theorem dX10_climbs_126 : decode cX10_climbs 126 = .ok (.iconst 4, 1) := by decide +kernel
theorem dX10_climbs_127 : decode cX10_climbs 127 = .ok (.iload 4, 2) := by decide +kernel
theorem dX10_climbs_129 : decode cX10_climbs 129 = .ok (.aload_n 0, 1) := by decide +kernel
theorem dX10_climbs_130 : decode cX10_climbs 130 = .ok (.getfield 9, 3) := by decide +kernel
theorem dX10_climbs_133 : decode cX10_climbs 133 = .ok (.iconst 5, 1) := by decide +kernel
theorem dX10_climbs_134 : decode cX10_climbs 134 = .ok (.iaload, 1) := by decide +kernel
theorem dX10_climbs_135 : decode cX10_climbs 135 = .ok (.if_icmp .le 8, 3) := by decide +kernel
theorem dX10_climbs_138 : decode cX10_climbs 138 = .ok (.iload 4, 2) := by decide +kernel
theorem dX10_climbs_140 : decode cX10_climbs 140 = .ok (.goto 25, 3) := by decide +kernel
theorem dX10_climbs_143 : decode cX10_climbs 143 = .ok (.iload 5, 2) := by decide +kernel
theorem dX10_climbs_145 : decode cX10_climbs 145 = .ok (.aload_n 0, 1) := by decide +kernel
theorem dX10_climbs_146 : decode cX10_climbs 146 = .ok (.getfield 9, 3) := by decide +kernel
theorem dX10_climbs_149 : decode cX10_climbs 149 = .ok (.iconst 5, 1) := by decide +kernel
theorem dX10_climbs_150 : decode cX10_climbs 150 = .ok (.iaload, 1) := by decide +kernel
theorem dX10_climbs_151 : decode cX10_climbs 151 = .ok (.if_icmp .le 12, 3) := by decide +kernel
theorem dX10_climbs_154 : decode cX10_climbs 154 = .ok (.aload_n 0, 1) := by decide +kernel
theorem dX10_climbs_155 : decode cX10_climbs 155 = .ok (.getfield 9, 3) := by decide +kernel
theorem dX10_climbs_158 : decode cX10_climbs 158 = .ok (.iconst 5, 1) := by decide +kernel
theorem dX10_climbs_159 : decode cX10_climbs 159 = .ok (.iaload, 1) := by decide +kernel
theorem dX10_climbs_160 : decode cX10_climbs 160 = .ok (.goto 5, 3) := by decide +kernel
theorem dX10_climbs_163 : decode cX10_climbs 163 = .ok (.iload 5, 2) := by decide +kernel
theorem dX10_climbs_165 : decode cX10_climbs 165 = .ok (.invokevirtual 124, 3) := by decide +kernel
theorem dX10_climbs_168 : decode cX10_climbs 168 = .ok (.aload_n 0, 1) := by decide +kernel
theorem dX10_climbs_169 : decode cX10_climbs 169 = .ok (.iload_n 1, 1) := by decide +kernel
theorem dX10_climbs_170 : decode cX10_climbs 170 = .ok (.iconst 5, 1) := by decide +kernel
theorem dX10_climbs_171 : decode cX10_climbs 171 = .ok (.aload_n 0, 1) := by decide +kernel
theorem dX10_climbs_172 : decode cX10_climbs 172 = .ok (.iload_n 1, 1) := by decide +kernel
theorem dX10_climbs_173 : decode cX10_climbs 173 = .ok (.iconst 5, 1) := by decide +kernel
theorem dX10_climbs_174 : decode cX10_climbs 174 = .ok (.invokevirtual 78, 3) := by decide +kernel
theorem dX10_climbs_177 : decode cX10_climbs 177 = .ok (.iload_n 2, 1) := by decide +kernel
theorem dX10_climbs_178 : decode cX10_climbs 178 = .ok (.iadd, 1) := by decide +kernel
theorem dX10_climbs_179 : decode cX10_climbs 179 = .ok (.invokevirtual 124, 3) := by decide +kernel
theorem dX10_climbs_182 : decode cX10_climbs 182 = .ok (.aload_n 0, 1) := by decide +kernel
theorem dX10_climbs_183 : decode cX10_climbs 183 = .ok (.iload_n 1, 1) := by decide +kernel
theorem dX10_climbs_184 : decode cX10_climbs 184 = .ok (.iconst 4, 1) := by decide +kernel
theorem dX10_climbs_185 : decode cX10_climbs 185 = .ok (.invokevirtual 78, 3) := by decide +kernel
theorem dX10_climbs_188 : decode cX10_climbs 188 = .ok (.ireturn, 1) := by decide +kernel
theorem wd1933 : Cond.code yX10_climbs cX10_climbs 6 (some .int) ∈ gW := gW_in 1933 (by decide +kernel) (by decide +kernel)
theorem mvX10_climbs : MV yX10_climbs cX10_climbs 6 (some .int) 2 := ⟨wd1933, wd92, by decide +kernel, by decide +kernel, by decide +kernel, by decide⟩
theorem wd1932 : Cond.instanceMethod yX10_climbs ∈ gW := gW_in 1932 (by decide +kernel) (by decide +kernel)
theorem wd48 : Cond.selects yX10_climbs.cls yX10_climbs yX10_climbs ∈ gW := gW_in 48 (by decide +kernel) (by decide +kernel)
theorem wd1930 : Cond.methodLink RX10 165 yX10_climbs ∈ gW := gW_in 1930 (by decide +kernel) (by decide +kernel)
theorem dX10_climb_0 : decode cX10_climb 0 = .ok (.aload_n 0, 1) := by decide +kernel
theorem dX10_climb_1 : decode cX10_climb 1 = .ok (.invokevirtual 89, 3) := by decide +kernel
theorem dX10_climb_4 : decode cX10_climb 4 = .ok (.aload_n 0, 1) := by decide +kernel
theorem dX10_climb_5 : decode cX10_climb 5 = .ok (.aload_n 0, 1) := by decide +kernel
theorem dX10_climb_6 : decode cX10_climb 6 = .ok (.iload_n 1, 1) := by decide +kernel
theorem dX10_climb_7 : decode cX10_climb 7 = .ok (.iload_n 2, 1) := by decide +kernel
theorem dX10_climb_8 : decode cX10_climb 8 = .ok (.invokevirtual 165, 3) := by decide +kernel
theorem dX10_climb_11 : decode cX10_climb 11 = .ok (.invokevirtual 95, 3) := by decide +kernel
theorem dX10_climb_14 : decode cX10_climb 14 = .ok (.ireturn, 1) := by decide +kernel
theorem dX10_toNext_0 : decode cX10_toNext 0 = .ok (.aload_n 0, 1) := by decide +kernel
theorem dX10_toNext_1 : decode cX10_toNext 1 = .ok (.aload_n 0, 1) := by decide +kernel
theorem dX10_toNext_2 : decode cX10_toNext 2 = .ok (.iload_n 1, 1) := by decide +kernel
theorem dX10_toNext_3 : decode cX10_toNext 3 = .ok (.bipush 7, 2) := by decide +kernel
theorem dX10_toNext_5 : decode cX10_toNext 5 = .ok (.invokevirtual 78, 3) := by decide +kernel
theorem dX10_toNext_8 : decode cX10_toNext 8 = .ok (.invokevirtual 66, 3) := by decide +kernel
theorem dX10_toNext_11 : decode cX10_toNext 11 = .ok (.istore_n 2, 1) := by decide +kernel
theorem dX10_toNext_12 : decode cX10_toNext 12 = .ok (.aload_n 0, 1) := by decide +kernel
theorem dX10_toNext_13 : decode cX10_toNext 13 = .ok (.iload_n 1, 1) := by decide +kernel
theorem dX10_toNext_14 : decode cX10_toNext 14 = .ok (.iconst 2, 1) := by decide +kernel
theorem dX10_toNext_15 : decode cX10_toNext 15 = .ok (.invokevirtual 78, 3) := by decide +kernel
theorem dX10_toNext_18 : decode cX10_toNext 18 = .ok (.aload_n 0, 1) := by decide +kernel
theorem dX10_toNext_19 : decode cX10_toNext 19 = .ok (.iload_n 2, 1) := by decide +kernel
theorem dX10_toNext_20 : decode cX10_toNext 20 = .ok (.invokevirtual 55, 3) := by decide +kernel
theorem dX10_toNext_23 : decode cX10_toNext 23 = .ok (.invokestatic 59, 3) := by decide +kernel
theorem dX10_toNext_26 : decode cX10_toNext 26 = .ok (.aload_n 0, 1) := by decide +kernel
theorem dX10_toNext_27 : decode cX10_toNext 27 = .ok (.iload_n 1, 1) := by decide +kernel
theorem dX10_toNext_28 : decode cX10_toNext 28 = .ok (.iconst 3, 1) := by decide +kernel
theorem dX10_toNext_29 : decode cX10_toNext 29 = .ok (.invokevirtual 78, 3) := by decide +kernel
theorem dX10_toNext_32 : decode cX10_toNext 32 = .ok (.aload_n 0, 1) := by decide +kernel
theorem dX10_toNext_33 : decode cX10_toNext 33 = .ok (.iload_n 2, 1) := by decide +kernel
theorem dX10_toNext_34 : decode cX10_toNext 34 = .ok (.invokevirtual 63, 3) := by decide +kernel
theorem dX10_toNext_37 : decode cX10_toNext 37 = .ok (.invokestatic 59, 3) := by decide +kernel
theorem dX10_toNext_40 : decode cX10_toNext 40 = .ok (.iadd, 1) := by decide +kernel
theorem dX10_toNext_41 : decode cX10_toNext 41 = .ok (.ireturn, 1) := by decide +kernel
theorem wd1969 : Cond.code yX10_toNext cX10_toNext 3 (some .int) ∈ gW := gW_in 1969 (by decide +kernel) (by decide +kernel)
theorem mvX10_toNext : MV yX10_toNext cX10_toNext 3 (some .int) 1 := ⟨wd1969, wd92, by decide +kernel, by decide +kernel, by decide +kernel, by decide⟩
theorem wd1968 : Cond.instanceMethod yX10_toNext ∈ gW := gW_in 1968 (by decide +kernel) (by decide +kernel)
theorem wd56 : Cond.selects yX10_toNext.cls yX10_toNext yX10_toNext ∈ gW := gW_in 56 (by decide +kernel) (by decide +kernel)
theorem wd1966 : Cond.methodLink RX10 171 yX10_toNext ∈ gW := gW_in 1966 (by decide +kernel) (by decide +kernel)
theorem wd1957 : Cond.code yX10_whole cX10_whole 1 (some .int) ∈ gW := gW_in 1957 (by decide +kernel) (by decide +kernel)
theorem mvX10_whole : MV yX10_whole cX10_whole 1 (some .int) 0 := ⟨wd1957, wd92, by decide +kernel, by decide +kernel, by decide +kernel, by decide⟩
theorem wd1956 : Cond.instanceMethod yX10_whole ∈ gW := gW_in 1956 (by decide +kernel) (by decide +kernel)
theorem wd53 : Cond.selects yX10_whole.cls yX10_whole yX10_whole ∈ gW := gW_in 53 (by decide +kernel) (by decide +kernel)
theorem wd1954 : Cond.methodLink RX10 168 yX10_whole ∈ gW := gW_in 1954 (by decide +kernel) (by decide +kernel)
theorem dX10_achieved_0 : decode cX10_achieved 0 = .ok (.aload_n 0, 1) := by decide +kernel
theorem dX10_achieved_1 : decode cX10_achieved 1 = .ok (.iload_n 1, 1) := by decide +kernel
theorem dX10_achieved_2 : decode cX10_achieved 2 = .ok (.iconst 1, 1) := by decide +kernel
theorem dX10_achieved_3 : decode cX10_achieved 3 = .ok (.invokevirtual 78, 3) := by decide +kernel
theorem dX10_achieved_6 : decode cX10_achieved 6 = .ok (.ifCond .ne 5, 3) := by decide +kernel
theorem dX10_achieved_9 : decode cX10_achieved 9 = .ok (.iconst 0, 1) := by decide +kernel
theorem dX10_achieved_10 : decode cX10_achieved 10 = .ok (.ireturn, 1) := by decide +kernel
theorem dX10_achieved_11 : decode cX10_achieved 11 = .ok (.aload_n 0, 1) := by decide +kernel
theorem dX10_achieved_12 : decode cX10_achieved 12 = .ok (.iload_n 1, 1) := by decide +kernel
theorem dX10_achieved_13 : decode cX10_achieved 13 = .ok (.iconst 1, 1) := by decide +kernel
theorem dX10_achieved_14 : decode cX10_achieved 14 = .ok (.invokevirtual 78, 3) := by decide +kernel
theorem dX10_achieved_17 : decode cX10_achieved 17 = .ok (.iconst 3, 1) := by decide +kernel
theorem dX10_achieved_18 : decode cX10_achieved 18 = .ok (.if_icmp .ne 8, 3) := by decide +kernel
theorem dX10_achieved_21 : decode cX10_achieved 21 = .ok (.aload_n 0, 1) := by decide +kernel
theorem dX10_achieved_22 : decode cX10_achieved 22 = .ok (.invokevirtual 168, 3) := by decide +kernel
theorem dX10_achieved_25 : decode cX10_achieved 25 = .ok (.ireturn, 1) := by decide +kernel
theorem dX10_achieved_26 : decode cX10_achieved 26 = .ok (.aload_n 0, 1) := by decide +kernel
theorem dX10_achieved_27 : decode cX10_achieved 27 = .ok (.aload_n 0, 1) := by decide +kernel
theorem dX10_achieved_28 : decode cX10_achieved 28 = .ok (.iload_n 1, 1) := by decide +kernel
theorem dX10_achieved_29 : decode cX10_achieved 29 = .ok (.bipush 7, 2) := by decide +kernel
theorem dX10_achieved_31 : decode cX10_achieved 31 = .ok (.invokevirtual 78, 3) := by decide +kernel
theorem dX10_achieved_34 : decode cX10_achieved 34 = .ok (.iconst 1, 1) := by decide +kernel
theorem dX10_achieved_35 : decode cX10_achieved 35 = .ok (.isub, 1) := by decide +kernel
theorem dX10_achieved_36 : decode cX10_achieved 36 = .ok (.invokevirtual 72, 3) := by decide +kernel
theorem dX10_achieved_39 : decode cX10_achieved 39 = .ok (.aload_n 0, 1) := by decide +kernel
theorem dX10_achieved_40 : decode cX10_achieved 40 = .ok (.iload_n 1, 1) := by decide +kernel
theorem dX10_achieved_41 : decode cX10_achieved 41 = .ok (.invokevirtual 171, 3) := by decide +kernel
theorem dX10_achieved_44 : decode cX10_achieved 44 = .ok (.isub, 1) := by decide +kernel
theorem dX10_achieved_45 : decode cX10_achieved 45 = .ok (.istore_n 2, 1) := by decide +kernel
theorem dX10_achieved_46 : decode cX10_achieved 46 = .ok (.aload_n 0, 1) := by decide +kernel
theorem dX10_achieved_47 : decode cX10_achieved 47 = .ok (.aload_n 0, 1) := by decide +kernel
theorem dX10_achieved_48 : decode cX10_achieved 48 = .ok (.iload_n 1, 1) := by decide +kernel
theorem dX10_achieved_49 : decode cX10_achieved 49 = .ok (.bipush 7, 2) := by decide +kernel
theorem dX10_achieved_51 : decode cX10_achieved 51 = .ok (.invokevirtual 78, 3) := by decide +kernel
theorem dX10_achieved_54 : decode cX10_achieved 54 = .ok (.iconst 1, 1) := by decide +kernel
theorem dX10_achieved_55 : decode cX10_achieved 55 = .ok (.isub, 1) := by decide +kernel
theorem dX10_achieved_56 : decode cX10_achieved 56 = .ok (.invokevirtual 75, 3) := by decide +kernel
theorem dX10_achieved_59 : decode cX10_achieved 59 = .ok (.iload_n 2, 1) := by decide +kernel
theorem dX10_achieved_60 : decode cX10_achieved 60 = .ok (.ifCond .le 7, 3) := by decide +kernel
theorem dX10_achieved_63 : decode cX10_achieved 63 = .ok (.iload_n 2, 1) := by decide +kernel
theorem dX10_achieved_64 : decode cX10_achieved 64 = .ok (.goto 4, 3) := by decide +kernel
theorem dX10_achieved_67 : decode cX10_achieved 67 = .ok (.iconst 0, 1) := by decide +kernel
theorem dX10_achieved_68 : decode cX10_achieved 68 = .ok (.iadd, 1) := by decide +kernel
theorem dX10_achieved_69 : decode cX10_achieved 69 = .ok (.ireturn, 1) := by decide +kernel
theorem dX10_bonus_0 : decode cX10_bonus 0 = .ok (.aload_n 0, 1) := by decide +kernel
theorem dX10_bonus_1 : decode cX10_bonus 1 = .ok (.iload_n 1, 1) := by decide +kernel
theorem dX10_bonus_2 : decode cX10_bonus 2 = .ok (.iconst 5, 1) := by decide +kernel
theorem dX10_bonus_3 : decode cX10_bonus 3 = .ok (.invokevirtual 78, 3) := by decide +kernel
theorem dX10_bonus_6 : decode cX10_bonus 6 = .ok (.istore_n 2, 1) := by decide +kernel
theorem dX10_bonus_7 : decode cX10_bonus 7 = .ok (.iconst 0, 1) := by decide +kernel
theorem dX10_bonus_8 : decode cX10_bonus 8 = .ok (.istore_n 3, 1) := by decide +kernel
theorem dX10_bonus_9 : decode cX10_bonus 9 = .ok (.iload_n 3, 1) := by decide +kernel
theorem dX10_bonus_10 : decode cX10_bonus 10 = .ok (.aload_n 0, 1) := by decide +kernel
theorem dX10_bonus_11 : decode cX10_bonus 11 = .ok (.getfield 9, 3) := by decide +kernel
theorem dX10_bonus_14 : decode cX10_bonus 14 = .ok (.iconst 4, 1) := by decide +kernel
theorem dX10_bonus_15 : decode cX10_bonus 15 = .ok (.iaload, 1) := by decide +kernel
theorem dX10_bonus_16 : decode cX10_bonus 16 = .ok (.if_icmp .ge 40, 3) := by decide +kernel
theorem dX10_bonus_19 : decode cX10_bonus 19 = .ok (.aload_n 0, 1) := by decide +kernel
theorem dX10_bonus_20 : decode cX10_bonus 20 = .ok (.iload_n 3, 1) := by decide +kernel
theorem dX10_bonus_21 : decode cX10_bonus 21 = .ok (.iconst 1, 1) := by decide +kernel
theorem dX10_bonus_22 : decode cX10_bonus 22 = .ok (.invokevirtual 78, 3) := by decide +kernel
theorem dX10_bonus_25 : decode cX10_bonus 25 = .ok (.iconst 3, 1) := by decide +kernel
theorem dX10_bonus_26 : decode cX10_bonus 26 = .ok (.if_icmp .ne 22, 3) := by decide +kernel
theorem dX10_bonus_29 : decode cX10_bonus 29 = .ok (.aload_n 0, 1) := by decide +kernel
theorem dX10_bonus_30 : decode cX10_bonus 30 = .ok (.iload_n 3, 1) := by decide +kernel
theorem dX10_bonus_31 : decode cX10_bonus 31 = .ok (.iconst 5, 1) := by decide +kernel
theorem dX10_bonus_32 : decode cX10_bonus 32 = .ok (.invokevirtual 78, 3) := by decide +kernel
theorem dX10_bonus_35 : decode cX10_bonus 35 = .ok (.iload_n 2, 1) := by decide +kernel
theorem dX10_bonus_36 : decode cX10_bonus 36 = .ok (.if_icmp .ge 12, 3) := by decide +kernel
theorem dX10_bonus_39 : decode cX10_bonus 39 = .ok (.aload_n 0, 1) := by decide +kernel
theorem dX10_bonus_40 : decode cX10_bonus 40 = .ok (.iload_n 3, 1) := by decide +kernel
theorem dX10_bonus_41 : decode cX10_bonus 41 = .ok (.iconst 5, 1) := by decide +kernel
theorem dX10_bonus_42 : decode cX10_bonus 42 = .ok (.invokevirtual 78, 3) := by decide +kernel
theorem dX10_bonus_45 : decode cX10_bonus 45 = .ok (.goto 4, 3) := by decide +kernel
theorem dX10_bonus_48 : decode cX10_bonus 48 = .ok (.iload_n 2, 1) := by decide +kernel
theorem dX10_bonus_49 : decode cX10_bonus 49 = .ok (.istore_n 2, 1) := by decide +kernel
theorem dX10_bonus_50 : decode cX10_bonus 50 = .ok (.iinc 3 1, 3) := by decide +kernel
theorem dX10_bonus_53 : decode cX10_bonus 53 = .ok (.goto (-44), 3) := by decide +kernel
theorem dX10_bonus_56 : decode cX10_bonus 56 = .ok (.sipush 500, 3) := by decide +kernel
theorem dX10_bonus_59 : decode cX10_bonus 59 = .ok (.iload_n 2, 1) := by decide +kernel
theorem dX10_bonus_60 : decode cX10_bonus 60 = .ok (.imul, 1) := by decide +kernel
theorem dX10_bonus_61 : decode cX10_bonus 61 = .ok (.aload_n 0, 1) := by decide +kernel
theorem dX10_bonus_62 : decode cX10_bonus 62 = .ok (.iload_n 1, 1) := by decide +kernel
theorem dX10_bonus_63 : decode cX10_bonus 63 = .ok (.iconst 5, 1) := by decide +kernel
theorem dX10_bonus_64 : decode cX10_bonus 64 = .ok (.invokevirtual 78, 3) := by decide +kernel
theorem dX10_bonus_67 : decode cX10_bonus 67 = .ok (.idiv, 1) := by decide +kernel
theorem dX10_bonus_68 : decode cX10_bonus 68 = .ok (.ireturn, 1) := by decide +kernel
theorem wd1953 : Cond.code yX10_achieved cX10_achieved 3 (some .int) ∈ gW := gW_in 1953 (by decide +kernel) (by decide +kernel)
theorem mvX10_achieved : MV yX10_achieved cX10_achieved 3 (some .int) 1 := ⟨wd1953, wd92, by decide +kernel, by decide +kernel, by decide +kernel, by decide⟩
theorem wd1952 : Cond.instanceMethod yX10_achieved ∈ gW := gW_in 1952 (by decide +kernel) (by decide +kernel)
theorem wd52 : Cond.selects yX10_achieved.cls yX10_achieved yX10_achieved ∈ gW := gW_in 52 (by decide +kernel) (by decide +kernel)
theorem wd1950 : Cond.methodLink RX10 174 yX10_achieved ∈ gW := gW_in 1950 (by decide +kernel) (by decide +kernel)
theorem wd1973 : Cond.code yX10_bonus cX10_bonus 4 (some .int) ∈ gW := gW_in 1973 (by decide +kernel) (by decide +kernel)
theorem mvX10_bonus : MV yX10_bonus cX10_bonus 4 (some .int) 1 := ⟨wd1973, wd92, by decide +kernel, by decide +kernel, by decide +kernel, by decide⟩
theorem wd1972 : Cond.instanceMethod yX10_bonus ∈ gW := gW_in 1972 (by decide +kernel) (by decide +kernel)
theorem wd57 : Cond.selects yX10_bonus.cls yX10_bonus yX10_bonus ∈ gW := gW_in 57 (by decide +kernel) (by decide +kernel)
theorem wd1970 : Cond.methodLink RX10 177 yX10_bonus ∈ gW := gW_in 1970 (by decide +kernel) (by decide +kernel)
theorem dX10_score_0 : decode cX10_score 0 = .ok (.aload_n 0, 1) := by decide +kernel
theorem dX10_score_1 : decode cX10_score 1 = .ok (.iload_n 1, 1) := by decide +kernel
theorem dX10_score_2 : decode cX10_score 2 = .ok (.iconst 1, 1) := by decide +kernel
theorem dX10_score_3 : decode cX10_score 3 = .ok (.invokevirtual 78, 3) := by decide +kernel
theorem dX10_score_6 : decode cX10_score 6 = .ok (.ifCond .ne 5, 3) := by decide +kernel
theorem dX10_score_9 : decode cX10_score 9 = .ok (.iconst 0, 1) := by decide +kernel
theorem dX10_score_10 : decode cX10_score 10 = .ok (.ireturn, 1) := by decide +kernel
theorem dX10_score_11 : decode cX10_score 11 = .ok (.sipush 1000, 3) := by decide +kernel
theorem dX10_score_14 : decode cX10_score 14 = .ok (.aload_n 0, 1) := by decide +kernel
theorem dX10_score_15 : decode cX10_score 15 = .ok (.iload_n 1, 1) := by decide +kernel
theorem dX10_score_16 : decode cX10_score 16 = .ok (.invokevirtual 174, 3) := by decide +kernel
theorem dX10_score_19 : decode cX10_score 19 = .ok (.imul, 1) := by decide +kernel
theorem dX10_score_20 : decode cX10_score 20 = .ok (.aload_n 0, 1) := by decide +kernel
theorem dX10_score_21 : decode cX10_score 21 = .ok (.invokevirtual 168, 3) := by decide +kernel
theorem dX10_score_24 : decode cX10_score 24 = .ok (.idiv, 1) := by decide +kernel
theorem dX10_score_25 : decode cX10_score 25 = .ok (.aload_n 0, 1) := by decide +kernel
theorem dX10_score_26 : decode cX10_score 26 = .ok (.iload_n 1, 1) := by decide +kernel
theorem dX10_score_27 : decode cX10_score 27 = .ok (.iconst 1, 1) := by decide +kernel
theorem dX10_score_28 : decode cX10_score 28 = .ok (.invokevirtual 78, 3) := by decide +kernel
theorem dX10_score_31 : decode cX10_score 31 = .ok (.iconst 3, 1) := by decide +kernel
theorem dX10_score_32 : decode cX10_score 32 = .ok (.if_icmp .ne 11, 3) := by decide +kernel
theorem dX10_score_35 : decode cX10_score 35 = .ok (.aload_n 0, 1) := by decide +kernel
theorem dX10_score_36 : decode cX10_score 36 = .ok (.iload_n 1, 1) := by decide +kernel
theorem dX10_score_37 : decode cX10_score 37 = .ok (.invokevirtual 177, 3) := by decide +kernel
theorem dX10_score_40 : decode cX10_score 40 = .ok (.goto 4, 3) := by decide +kernel
theorem dX10_score_43 : decode cX10_score 43 = .ok (.iconst 0, 1) := by decide +kernel
theorem dX10_score_44 : decode cX10_score 44 = .ok (.iadd, 1) := by decide +kernel
theorem dX10_score_45 : decode cX10_score 45 = .ok (.aload_n 0, 1) := by decide +kernel
theorem dX10_score_46 : decode cX10_score 46 = .ok (.iload_n 1, 1) := by decide +kernel
theorem dX10_score_47 : decode cX10_score 47 = .ok (.bipush 6, 2) := by decide +kernel
theorem dX10_score_49 : decode cX10_score 49 = .ok (.invokevirtual 78, 3) := by decide +kernel
theorem dX10_score_52 : decode cX10_score 52 = .ok (.isub, 1) := by decide +kernel
theorem dX10_score_53 : decode cX10_score 53 = .ok (.istore_n 2, 1) := by decide +kernel
theorem dX10_score_54 : decode cX10_score 54 = .ok (.iload_n 2, 1) := by decide +kernel
theorem dX10_score_55 : decode cX10_score 55 = .ok (.ifCond .ge 7, 3) := by decide +kernel
theorem dX10_score_58 : decode cX10_score 58 = .ok (.iconst 0, 1) := by decide +kernel
theorem dX10_score_59 : decode cX10_score 59 = .ok (.goto 4, 3) := by decide +kernel
theorem dX10_score_62 : decode cX10_score 62 = .ok (.iload_n 2, 1) := by decide +kernel
theorem dX10_score_63 : decode cX10_score 63 = .ok (.ireturn, 1) := by decide +kernel
theorem wd1719 : Cond.fieldLink RX10 29 (TX10 10).1 (TX10 10).2.1 (TX10 10).2.2.1 ∈ gW := gW_in 1719 (by decide +kernel) (by decide +kernel)
theorem wd1949 : Cond.code yX10_score cX10_score 3 (some .int) ∈ gW := gW_in 1949 (by decide +kernel) (by decide +kernel)
theorem mvX10_score : MV yX10_score cX10_score 3 (some .int) 1 := ⟨wd1949, wd92, by decide +kernel, by decide +kernel, by decide +kernel, by decide⟩
theorem wd1948 : Cond.instanceMethod yX10_score ∈ gW := gW_in 1948 (by decide +kernel) (by decide +kernel)
theorem wd51 : Cond.selects yX10_score.cls yX10_score yX10_score ∈ gW := gW_in 51 (by decide +kernel) (by decide +kernel)
theorem wd1946 : Cond.methodLink RX10 180 yX10_score ∈ gW := gW_in 1946 (by decide +kernel) (by decide +kernel)
theorem dX10_finishes_0 : decode cX10_finishes 0 = .ok (.aload_n 0, 1) := by decide +kernel
theorem dX10_finishes_1 : decode cX10_finishes 1 = .ok (.aload_n 0, 1) := by decide +kernel
theorem dX10_finishes_2 : decode cX10_finishes 2 = .ok (.invokevirtual 102, 3) := by decide +kernel
theorem dX10_finishes_5 : decode cX10_finishes 5 = .ok (.ifCond .ne 11, 3) := by decide +kernel
theorem dX10_finishes_8 : decode cX10_finishes 8 = .ok (.aload_n 0, 1) := by decide +kernel
theorem dX10_finishes_9 : decode cX10_finishes 9 = .ok (.iconst 1, 1) := by decide +kernel
theorem dX10_finishes_10 : decode cX10_finishes 10 = .ok (.invokevirtual 134, 3) := by decide +kernel
theorem dX10_finishes_13 : decode cX10_finishes 13 = .ok (.ifCond .le 7, 3) := by decide +kernel
theorem dX10_finishes_16 : decode cX10_finishes 16 = .ok (.iconst 1, 1) := by decide +kernel
theorem dX10_finishes_17 : decode cX10_finishes 17 = .ok (.goto 4, 3) := by decide +kernel
theorem dX10_finishes_20 : decode cX10_finishes 20 = .ok (.iconst 0, 1) := by decide +kernel
theorem dX10_finishes_21 : decode cX10_finishes 21 = .ok (.iconst 1, 1) := by decide +kernel
theorem dX10_finishes_22 : decode cX10_finishes 22 = .ok (.invokevirtual 85, 3) := by decide +kernel
theorem dX10_finishes_25 : decode cX10_finishes 25 = .ok (.ifCond .eq 5, 3) := by decide +kernel
theorem dX10_finishes_28 : decode cX10_finishes 28 = .ok (.iconst 0, 1) := by decide +kernel
theorem dX10_finishes_29 : decode cX10_finishes 29 = .ok (.ireturn, 1) := by decide +kernel
theorem dX10_finishes_30 : decode cX10_finishes 30 = .ok (.aload_n 0, 1) := by decide +kernel
theorem dX10_finishes_31 : decode cX10_finishes 31 = .ok (.iconst 3, 1) := by decide +kernel
theorem dX10_finishes_32 : decode cX10_finishes 32 = .ok (.invokevirtual 134, 3) := by decide +kernel
theorem dX10_finishes_35 : decode cX10_finishes 35 = .ok (.istore_n 1, 1) := by decide +kernel
theorem dX10_finishes_36 : decode cX10_finishes 36 = .ok (.iconst 0, 1) := by decide +kernel
theorem dX10_finishes_37 : decode cX10_finishes 37 = .ok (.istore_n 2, 1) := by decide +kernel
theorem dX10_finishes_38 : decode cX10_finishes 38 = .ok (.iload_n 2, 1) := by decide +kernel
theorem dX10_finishes_39 : decode cX10_finishes 39 = .ok (.aload_n 0, 1) := by decide +kernel
theorem dX10_finishes_40 : decode cX10_finishes 40 = .ok (.getfield 9, 3) := by decide +kernel
theorem dX10_finishes_43 : decode cX10_finishes 43 = .ok (.iconst 4, 1) := by decide +kernel
theorem dX10_finishes_44 : decode cX10_finishes 44 = .ok (.iaload, 1) := by decide +kernel
theorem dX10_finishes_45 : decode cX10_finishes 45 = .ok (.if_icmp .ge 20, 3) := by decide +kernel
theorem dX10_finishes_48 : decode cX10_finishes 48 = .ok (.aload_n 0, 1) := by decide +kernel
theorem dX10_finishes_49 : decode cX10_finishes 49 = .ok (.getfield 29, 3) := by decide +kernel
theorem dX10_finishes_52 : decode cX10_finishes 52 = .ok (.iload_n 2, 1) := by decide +kernel
theorem dX10_finishes_53 : decode cX10_finishes 53 = .ok (.aload_n 0, 1) := by decide +kernel
theorem dX10_finishes_54 : decode cX10_finishes 54 = .ok (.iload_n 2, 1) := by decide +kernel
theorem dX10_finishes_55 : decode cX10_finishes 55 = .ok (.invokevirtual 180, 3) := by decide +kernel
theorem dX10_finishes_58 : decode cX10_finishes 58 = .ok (.iastore, 1) := by decide +kernel
theorem dX10_finishes_59 : decode cX10_finishes 59 = .ok (.iinc 2 1, 3) := by decide +kernel
theorem dX10_finishes_62 : decode cX10_finishes 62 = .ok (.goto (-24), 3) := by decide +kernel
theorem dX10_finishes_65 : decode cX10_finishes 65 = .ok (.iconst 0, 1) := by decide +kernel
theorem dX10_finishes_66 : decode cX10_finishes 66 = .ok (.istore_n 2, 1) := by decide +kernel
theorem dX10_finishes_67 : decode cX10_finishes 67 = .ok (.iload_n 2, 1) := by decide +kernel
theorem dX10_finishes_68 : decode cX10_finishes 68 = .ok (.aload_n 0, 1) := by decide +kernel
theorem dX10_finishes_69 : decode cX10_finishes 69 = .ok (.getfield 9, 3) := by decide +kernel
theorem dX10_finishes_72 : decode cX10_finishes 72 = .ok (.iconst 4, 1) := by decide +kernel
theorem dX10_finishes_73 : decode cX10_finishes 73 = .ok (.iaload, 1) := by decide +kernel
theorem dX10_finishes_74 : decode cX10_finishes 74 = .ok (.if_icmp .ge 51, 3) := by decide +kernel
theorem dX10_finishes_77 : decode cX10_finishes 77 = .ok (.aload_n 0, 1) := by decide +kernel
theorem dX10_finishes_78 : decode cX10_finishes 78 = .ok (.iload_n 2, 1) := by decide +kernel
theorem dX10_finishes_79 : decode cX10_finishes 79 = .ok (.bipush 8, 2) := by decide +kernel
theorem dX10_finishes_81 : decode cX10_finishes 81 = .ok (.aload_n 0, 1) := by decide +kernel
theorem dX10_finishes_82 : decode cX10_finishes 82 = .ok (.iload_n 2, 1) := by decide +kernel
theorem dX10_finishes_83 : decode cX10_finishes 83 = .ok (.bipush 8, 2) := by decide +kernel
theorem dX10_finishes_85 : decode cX10_finishes 85 = .ok (.invokevirtual 78, 3) := by decide +kernel
theorem dX10_finishes_88 : decode cX10_finishes 88 = .ok (.aload_n 0, 1) := by decide +kernel
theorem dX10_finishes_89 : decode cX10_finishes 89 = .ok (.getfield 29, 3) := by decide +kernel
theorem dX10_finishes_92 : decode cX10_finishes 92 = .ok (.iload_n 2, 1) := by decide +kernel
theorem dX10_finishes_93 : decode cX10_finishes 93 = .ok (.iaload, 1) := by decide +kernel
theorem dX10_finishes_94 : decode cX10_finishes 94 = .ok (.iadd, 1) := by decide +kernel
theorem dX10_finishes_95 : decode cX10_finishes 95 = .ok (.invokevirtual 124, 3) := by decide +kernel
theorem dX10_finishes_98 : decode cX10_finishes 98 = .ok (.iconst 1, 1) := by decide +kernel
theorem dX10_finishes_99 : decode cX10_finishes 99 = .ok (.istore_n 3, 1) := by decide +kernel
theorem dX10_finishes_100 : decode cX10_finishes 100 = .ok (.iload_n 3, 1) := by decide +kernel
theorem dX10_finishes_101 : decode cX10_finishes 101 = .ok (.bipush 8, 2) := by decide +kernel
theorem dX10_finishes_103 : decode cX10_finishes 103 = .ok (.if_icmp .ge 16, 3) := by decide +kernel
theorem dX10_finishes_106 : decode cX10_finishes 106 = .ok (.aload_n 0, 1) := by decide +kernel
theorem dX10_finishes_107 : decode cX10_finishes 107 = .ok (.iload_n 2, 1) := by decide +kernel
theorem dX10_finishes_108 : decode cX10_finishes 108 = .ok (.iload_n 3, 1) := by decide +kernel
theorem dX10_finishes_109 : decode cX10_finishes 109 = .ok (.iconst 0, 1) := by decide +kernel
theorem dX10_finishes_110 : decode cX10_finishes 110 = .ok (.invokevirtual 124, 3) := by decide +kernel
theorem dX10_finishes_113 : decode cX10_finishes 113 = .ok (.iinc 3 1, 3) := by decide +kernel
theorem dX10_finishes_116 : decode cX10_finishes 116 = .ok (.goto (-16), 3) := by decide +kernel
theorem dX10_finishes_119 : decode cX10_finishes 119 = .ok (.iinc 2 1, 3) := by decide +kernel
theorem dX10_finishes_122 : decode cX10_finishes 122 = .ok (.goto (-55), 3) := by decide +kernel
theorem dX10_finishes_125 : decode cX10_finishes 125 = .ok (.aload_n 0, 1) := by decide +kernel
theorem dX10_finishes_126 : decode cX10_finishes 126 = .ok (.getfield 9, 3) := by decide +kernel
theorem dX10_finishes_129 : decode cX10_finishes 129 = .ok (.bipush 6, 2) := by decide +kernel
theorem dX10_finishes_131 : decode cX10_finishes 131 = .ok (.dup2, 1) := by decide +kernel
theorem dX10_finishes_132 : decode cX10_finishes 132 = .ok (.iaload, 1) := by decide +kernel
theorem dX10_finishes_133 : decode cX10_finishes 133 = .ok (.iconst 1, 1) := by decide +kernel
theorem dX10_finishes_134 : decode cX10_finishes 134 = .ok (.iadd, 1) := by decide +kernel
theorem dX10_finishes_135 : decode cX10_finishes 135 = .ok (.iastore, 1) := by decide +kernel
theorem dX10_finishes_136 : decode cX10_finishes 136 = .ok (.iload_n 1, 1) := by decide +kernel
theorem dX10_finishes_137 : decode cX10_finishes 137 = .ok (.ireturn, 1) := by decide +kernel
theorem wd1945 : Cond.code yX10_finishes cX10_finishes 4 (some .int) ∈ gW := gW_in 1945 (by decide +kernel) (by decide +kernel)
theorem mvX10_finishes : MV yX10_finishes cX10_finishes 4 (some .int) 0 := ⟨wd1945, wd92, by decide +kernel, by decide +kernel, by decide +kernel, by decide⟩
theorem wd1944 : Cond.instanceMethod yX10_finishes ∈ gW := gW_in 1944 (by decide +kernel) (by decide +kernel)
theorem wd50 : Cond.selects yX10_finishes.cls yX10_finishes yX10_finishes ∈ gW := gW_in 50 (by decide +kernel) (by decide +kernel)
theorem wd1942 : Cond.methodLink RX10 183 yX10_finishes ∈ gW := gW_in 1942 (by decide +kernel) (by decide +kernel)
theorem dX10_endDay_0 : decode cX10_endDay 0 = .ok (.aload_n 0, 1) := by decide +kernel
theorem dX10_endDay_1 : decode cX10_endDay 1 = .ok (.invokevirtual 89, 3) := by decide +kernel
theorem dX10_endDay_4 : decode cX10_endDay 4 = .ok (.aload_n 0, 1) := by decide +kernel
theorem dX10_endDay_5 : decode cX10_endDay 5 = .ok (.aload_n 0, 1) := by decide +kernel
theorem dX10_endDay_6 : decode cX10_endDay 6 = .ok (.invokevirtual 183, 3) := by decide +kernel
theorem dX10_endDay_9 : decode cX10_endDay 9 = .ok (.invokevirtual 95, 3) := by decide +kernel
theorem dX10_endDay_12 : decode cX10_endDay 12 = .ok (.ireturn, 1) := by decide +kernel
theorem dX10_pointCount_0 : decode cX10_pointCount 0 = .ok (.aload_n 0, 1) := by decide +kernel
theorem dX10_pointCount_1 : decode cX10_pointCount 1 = .ok (.iconst 0, 1) := by decide +kernel
theorem dX10_pointCount_2 : decode cX10_pointCount 2 = .ok (.putfield 41, 3) := by decide +kernel
theorem dX10_pointCount_5 : decode cX10_pointCount 5 = .ok (.aload_n 0, 1) := by decide +kernel
theorem dX10_pointCount_6 : decode cX10_pointCount 6 = .ok (.getfield 9, 3) := by decide +kernel
theorem dX10_pointCount_9 : decode cX10_pointCount 9 = .ok (.iconst 0, 1) := by decide +kernel
theorem dX10_pointCount_10 : decode cX10_pointCount 10 = .ok (.iaload, 1) := by decide +kernel
theorem dX10_pointCount_11 : decode cX10_pointCount 11 = .ok (.ireturn, 1) := by decide +kernel
theorem dX10_distance_0 : decode cX10_distance 0 = .ok (.aload_n 0, 1) := by decide +kernel
theorem dX10_distance_1 : decode cX10_distance 1 = .ok (.aload_n 0, 1) := by decide +kernel
theorem dX10_distance_2 : decode cX10_distance 2 = .ok (.iload_n 1, 1) := by decide +kernel
theorem dX10_distance_3 : decode cX10_distance 3 = .ok (.invokevirtual 98, 3) := by decide +kernel
theorem dX10_distance_6 : decode cX10_distance 6 = .ok (.ifCond .eq 11, 3) := by decide +kernel
theorem dX10_distance_9 : decode cX10_distance 9 = .ok (.aload_n 0, 1) := by decide +kernel
theorem dX10_distance_10 : decode cX10_distance 10 = .ok (.iload_n 2, 1) := by decide +kernel
theorem dX10_distance_11 : decode cX10_distance 11 = .ok (.invokevirtual 98, 3) := by decide +kernel
theorem dX10_distance_14 : decode cX10_distance 14 = .ok (.ifCond .ne 7, 3) := by decide +kernel
theorem dX10_distance_17 : decode cX10_distance 17 = .ok (.iconst 1, 1) := by decide +kernel
theorem dX10_distance_18 : decode cX10_distance 18 = .ok (.goto 4, 3) := by decide +kernel
theorem dX10_distance_21 : decode cX10_distance 21 = .ok (.iconst 0, 1) := by decide +kernel
theorem dX10_distance_22 : decode cX10_distance 22 = .ok (.iconst 1, 1) := by decide +kernel
theorem dX10_distance_23 : decode cX10_distance 23 = .ok (.invokevirtual 85, 3) := by decide +kernel
theorem dX10_distance_26 : decode cX10_distance 26 = .ok (.ifCond .eq 7, 3) := by decide +kernel
theorem dX10_distance_29 : decode cX10_distance 29 = .ok (.iconst 0, 1) := by decide +kernel
theorem dX10_distance_30 : decode cX10_distance 30 = .ok (.goto 9, 3) := by decide +kernel
theorem dX10_distance_33 : decode cX10_distance 33 = .ok (.aload_n 0, 1) := by decide +kernel
theorem dX10_distance_34 : decode cX10_distance 34 = .ok (.iload_n 1, 1) := by decide +kernel
theorem dX10_distance_35 : decode cX10_distance 35 = .ok (.iload_n 2, 1) := by decide +kernel
theorem dX10_distance_36 : decode cX10_distance 36 = .ok (.invokevirtual 69, 3) := by decide +kernel
theorem dX10_distance_39 : decode cX10_distance 39 = .ok (.ireturn, 1) := by decide +kernel
theorem dX10_taskLength_0 : decode cX10_taskLength 0 = .ok (.aload_n 0, 1) := by decide +kernel
theorem dX10_taskLength_1 : decode cX10_taskLength 1 = .ok (.iconst 0, 1) := by decide +kernel
theorem dX10_taskLength_2 : decode cX10_taskLength 2 = .ok (.putfield 41, 3) := by decide +kernel
theorem dX10_taskLength_5 : decode cX10_taskLength 5 = .ok (.aload_n 0, 1) := by decide +kernel
theorem dX10_taskLength_6 : decode cX10_taskLength 6 = .ok (.getfield 9, 3) := by decide +kernel
theorem dX10_taskLength_9 : decode cX10_taskLength 9 = .ok (.iconst 1, 1) := by decide +kernel
theorem dX10_taskLength_10 : decode cX10_taskLength 10 = .ok (.iaload, 1) := by decide +kernel
theorem dX10_taskLength_11 : decode cX10_taskLength 11 = .ok (.ireturn, 1) := by decide +kernel
theorem dX10_taskPoint_0 : decode cX10_taskPoint 0 = .ok (.aload_n 0, 1) := by decide +kernel
theorem dX10_taskPoint_1 : decode cX10_taskPoint 1 = .ok (.iload_n 1, 1) := by decide +kernel
theorem dX10_taskPoint_2 : decode cX10_taskPoint 2 = .ok (.iconst 0, 1) := by decide +kernel
theorem dX10_taskPoint_3 : decode cX10_taskPoint 3 = .ok (.aload_n 0, 1) := by decide +kernel
theorem dX10_taskPoint_4 : decode cX10_taskPoint 4 = .ok (.getfield 9, 3) := by decide +kernel
theorem dX10_taskPoint_7 : decode cX10_taskPoint 7 = .ok (.iconst 1, 1) := by decide +kernel
theorem dX10_taskPoint_8 : decode cX10_taskPoint 8 = .ok (.iaload, 1) := by decide +kernel
theorem dX10_taskPoint_9 : decode cX10_taskPoint 9 = .ok (.iconst 1, 1) := by decide +kernel
theorem dX10_taskPoint_10 : decode cX10_taskPoint 10 = .ok (.isub, 1) := by decide +kernel
theorem dX10_taskPoint_11 : decode cX10_taskPoint 11 = .ok (.invokestatic 51, 3) := by decide +kernel
theorem dX10_taskPoint_14 : decode cX10_taskPoint 14 = .ok (.ifCond .ne 7, 3) := by decide +kernel
theorem dX10_taskPoint_17 : decode cX10_taskPoint 17 = .ok (.iconst 1, 1) := by decide +kernel
theorem dX10_taskPoint_18 : decode cX10_taskPoint 18 = .ok (.goto 4, 3) := by decide +kernel
theorem dX10_taskPoint_21 : decode cX10_taskPoint 21 = .ok (.iconst 0, 1) := by decide +kernel
theorem dX10_taskPoint_22 : decode cX10_taskPoint 22 = .ok (.iconst 1, 1) := by decide +kernel
theorem dX10_taskPoint_23 : decode cX10_taskPoint 23 = .ok (.invokevirtual 85, 3) := by decide +kernel
theorem dX10_taskPoint_26 : decode cX10_taskPoint 26 = .ok (.ifCond .eq 7, 3) := by decide +kernel
theorem dX10_taskPoint_29 : decode cX10_taskPoint 29 = .ok (.iconst 0, 1) := by decide +kernel
theorem dX10_taskPoint_30 : decode cX10_taskPoint 30 = .ok (.goto 8, 3) := by decide +kernel
theorem dX10_taskPoint_33 : decode cX10_taskPoint 33 = .ok (.aload_n 0, 1) := by decide +kernel
theorem dX10_taskPoint_34 : decode cX10_taskPoint 34 = .ok (.iload_n 1, 1) := by decide +kernel
theorem dX10_taskPoint_35 : decode cX10_taskPoint 35 = .ok (.invokevirtual 66, 3) := by decide +kernel
theorem dX10_taskPoint_38 : decode cX10_taskPoint 38 = .ok (.ireturn, 1) := by decide +kernel
theorem dX10_taskDistance_0 : decode cX10_taskDistance 0 = .ok (.aload_n 0, 1) := by decide +kernel
theorem dX10_taskDistance_1 : decode cX10_taskDistance 1 = .ok (.iconst 0, 1) := by decide +kernel
theorem dX10_taskDistance_2 : decode cX10_taskDistance 2 = .ok (.putfield 41, 3) := by decide +kernel
theorem dX10_taskDistance_5 : decode cX10_taskDistance 5 = .ok (.aload_n 0, 1) := by decide +kernel
theorem dX10_taskDistance_6 : decode cX10_taskDistance 6 = .ok (.invokevirtual 168, 3) := by decide +kernel
theorem dX10_taskDistance_9 : decode cX10_taskDistance 9 = .ok (.ireturn, 1) := by decide +kernel
theorem dX10_strongestThermal_0 : decode cX10_strongestThermal 0 = .ok (.aload_n 0, 1) := by decide +kernel
theorem dX10_strongestThermal_1 : decode cX10_strongestThermal 1 = .ok (.iload_n 1, 1) := by decide +kernel
theorem dX10_strongestThermal_2 : decode cX10_strongestThermal 2 = .ok (.iload_n 2, 1) := by decide +kernel
theorem dX10_strongestThermal_3 : decode cX10_strongestThermal 3 = .ok (.invokestatic 81, 3) := by decide +kernel
theorem dX10_strongestThermal_6 : decode cX10_strongestThermal 6 = .ok (.ifCond .ne 7, 3) := by decide +kernel
theorem dX10_strongestThermal_9 : decode cX10_strongestThermal 9 = .ok (.iconst 1, 1) := by decide +kernel
theorem dX10_strongestThermal_10 : decode cX10_strongestThermal 10 = .ok (.goto 4, 3) := by decide +kernel
theorem dX10_strongestThermal_13 : decode cX10_strongestThermal 13 = .ok (.iconst 0, 1) := by decide +kernel
theorem dX10_strongestThermal_14 : decode cX10_strongestThermal 14 = .ok (.iconst 1, 1) := by decide +kernel
theorem dX10_strongestThermal_15 : decode cX10_strongestThermal 15 = .ok (.invokevirtual 85, 3) := by decide +kernel
theorem dX10_strongestThermal_18 : decode cX10_strongestThermal 18 = .ok (.ifCond .eq 5, 3) := by decide +kernel
theorem dX10_strongestThermal_21 : decode cX10_strongestThermal 21 = .ok (.iconst 0, 1) := by decide +kernel
theorem dX10_strongestThermal_22 : decode cX10_strongestThermal 22 = .ok (.ireturn, 1) := by decide +kernel
theorem dX10_strongestThermal_23 : decode cX10_strongestThermal 23 = .ok (.aload_n 0, 1) := by decide +kernel
theorem dX10_strongestThermal_24 : decode cX10_strongestThermal 24 = .ok (.iload_n 1, 1) := by decide +kernel
theorem dX10_strongestThermal_25 : decode cX10_strongestThermal 25 = .ok (.iload_n 2, 1) := by decide +kernel
theorem dX10_strongestThermal_26 : decode cX10_strongestThermal 26 = .ok (.invokevirtual 162, 3) := by decide +kernel
theorem dX10_strongestThermal_29 : decode cX10_strongestThermal 29 = .ok (.istore_n 3, 1) := by decide +kernel
theorem dX10_strongestThermal_30 : decode cX10_strongestThermal 30 = .ok (.aload_n 0, 1) := by decide +kernel
theorem dX10_strongestThermal_31 : decode cX10_strongestThermal 31 = .ok (.iload_n 3, 1) := by decide +kernel
theorem dX10_strongestThermal_32 : decode cX10_strongestThermal 32 = .ok (.ifCond .ne 7, 3) := by decide +kernel
theorem dX10_strongestThermal_35 : decode cX10_strongestThermal 35 = .ok (.iconst 1, 1) := by decide +kernel
theorem dX10_strongestThermal_36 : decode cX10_strongestThermal 36 = .ok (.goto 4, 3) := by decide +kernel
theorem dX10_strongestThermal_39 : decode cX10_strongestThermal 39 = .ok (.iconst 0, 1) := by decide +kernel
theorem dX10_strongestThermal_40 : decode cX10_strongestThermal 40 = .ok (.iconst 2, 1) := by decide +kernel
theorem dX10_strongestThermal_41 : decode cX10_strongestThermal 41 = .ok (.invokevirtual 85, 3) := by decide +kernel
theorem dX10_strongestThermal_44 : decode cX10_strongestThermal 44 = .ok (.ifCond .eq 7, 3) := by decide +kernel
theorem dX10_strongestThermal_47 : decode cX10_strongestThermal 47 = .ok (.iconst 0, 1) := by decide +kernel
theorem dX10_strongestThermal_48 : decode cX10_strongestThermal 48 = .ok (.goto 4, 3) := by decide +kernel
theorem dX10_strongestThermal_51 : decode cX10_strongestThermal 51 = .ok (.iload_n 3, 1) := by decide +kernel
theorem dX10_strongestThermal_52 : decode cX10_strongestThermal 52 = .ok (.ireturn, 1) := by decide +kernel
theorem dX10_cloudBase_0 : decode cX10_cloudBase 0 = .ok (.aload_n 0, 1) := by decide +kernel
theorem dX10_cloudBase_1 : decode cX10_cloudBase 1 = .ok (.iconst 0, 1) := by decide +kernel
theorem dX10_cloudBase_2 : decode cX10_cloudBase 2 = .ok (.putfield 41, 3) := by decide +kernel
theorem dX10_cloudBase_5 : decode cX10_cloudBase 5 = .ok (.aload_n 0, 1) := by decide +kernel
theorem dX10_cloudBase_6 : decode cX10_cloudBase 6 = .ok (.getfield 9, 3) := by decide +kernel
theorem dX10_cloudBase_9 : decode cX10_cloudBase 9 = .ok (.iconst 5, 1) := by decide +kernel
theorem dX10_cloudBase_10 : decode cX10_cloudBase 10 = .ok (.iaload, 1) := by decide +kernel
theorem dX10_cloudBase_11 : decode cX10_cloudBase 11 = .ok (.ireturn, 1) := by decide +kernel
theorem dX10_isRestricted_0 : decode cX10_isRestricted 0 = .ok (.aload_n 0, 1) := by decide +kernel
theorem dX10_isRestricted_1 : decode cX10_isRestricted 1 = .ok (.iload_n 1, 1) := by decide +kernel
theorem dX10_isRestricted_2 : decode cX10_isRestricted 2 = .ok (.iload_n 2, 1) := by decide +kernel
theorem dX10_isRestricted_3 : decode cX10_isRestricted 3 = .ok (.invokestatic 81, 3) := by decide +kernel
theorem dX10_isRestricted_6 : decode cX10_isRestricted 6 = .ok (.ifCond .ne 7, 3) := by decide +kernel
theorem dX10_isRestricted_9 : decode cX10_isRestricted 9 = .ok (.iconst 1, 1) := by decide +kernel
theorem dX10_isRestricted_10 : decode cX10_isRestricted 10 = .ok (.goto 4, 3) := by decide +kernel
theorem dX10_isRestricted_13 : decode cX10_isRestricted 13 = .ok (.iconst 0, 1) := by decide +kernel
theorem dX10_isRestricted_14 : decode cX10_isRestricted 14 = .ok (.iconst 1, 1) := by decide +kernel
theorem dX10_isRestricted_15 : decode cX10_isRestricted 15 = .ok (.invokevirtual 85, 3) := by decide +kernel
theorem dX10_isRestricted_18 : decode cX10_isRestricted 18 = .ok (.ifCond .ne 16, 3) := by decide +kernel
theorem dX10_isRestricted_21 : decode cX10_isRestricted 21 = .ok (.aload_n 0, 1) := by decide +kernel
theorem dX10_isRestricted_22 : decode cX10_isRestricted 22 = .ok (.iload_n 1, 1) := by decide +kernel
theorem dX10_isRestricted_23 : decode cX10_isRestricted 23 = .ok (.iload_n 2, 1) := by decide +kernel
theorem dX10_isRestricted_24 : decode cX10_isRestricted 24 = .ok (.invokevirtual 149, 3) := by decide +kernel
theorem dX10_isRestricted_27 : decode cX10_isRestricted 27 = .ok (.ifCond .eq 7, 3) := by decide +kernel
theorem dX10_isRestricted_30 : decode cX10_isRestricted 30 = .ok (.iconst 1, 1) := by decide +kernel
theorem dX10_isRestricted_31 : decode cX10_isRestricted 31 = .ok (.goto 4, 3) := by decide +kernel
theorem dX10_isRestricted_34 : decode cX10_isRestricted 34 = .ok (.iconst 0, 1) := by decide +kernel
theorem dX10_isRestricted_35 : decode cX10_isRestricted 35 = .ok (.ireturn, 1) := by decide +kernel
theorem dX10_restrictedInRow_0 : decode cX10_restrictedInRow 0 = .ok (.aload_n 0, 1) := by decide +kernel
theorem dX10_restrictedInRow_1 : decode cX10_restrictedInRow 1 = .ok (.iload_n 1, 1) := by decide +kernel
theorem dX10_restrictedInRow_2 : decode cX10_restrictedInRow 2 = .ok (.iconst 0, 1) := by decide +kernel
theorem dX10_restrictedInRow_3 : decode cX10_restrictedInRow 3 = .ok (.bipush 60, 2) := by decide +kernel
theorem dX10_restrictedInRow_5 : decode cX10_restrictedInRow 5 = .ok (.invokestatic 51, 3) := by decide +kernel
theorem dX10_restrictedInRow_8 : decode cX10_restrictedInRow 8 = .ok (.ifCond .ne 7, 3) := by decide +kernel
theorem dX10_restrictedInRow_11 : decode cX10_restrictedInRow 11 = .ok (.iconst 1, 1) := by decide +kernel
theorem dX10_restrictedInRow_12 : decode cX10_restrictedInRow 12 = .ok (.goto 4, 3) := by decide +kernel
theorem dX10_restrictedInRow_15 : decode cX10_restrictedInRow 15 = .ok (.iconst 0, 1) := by decide +kernel
theorem dX10_restrictedInRow_16 : decode cX10_restrictedInRow 16 = .ok (.iconst 1, 1) := by decide +kernel
theorem dX10_restrictedInRow_17 : decode cX10_restrictedInRow 17 = .ok (.invokevirtual 85, 3) := by decide +kernel
theorem dX10_restrictedInRow_20 : decode cX10_restrictedInRow 20 = .ok (.ifCond .eq 5, 3) := by decide +kernel
theorem dX10_restrictedInRow_23 : decode cX10_restrictedInRow 23 = .ok (.iconst 0, 1) := by decide +kernel
theorem dX10_restrictedInRow_24 : decode cX10_restrictedInRow 24 = .ok (.ireturn, 1) := by decide +kernel
theorem dX10_restrictedInRow_25 : decode cX10_restrictedInRow 25 = .ok (.iconst 0, 1) := by decide +kernel
theorem dX10_restrictedInRow_26 : decode cX10_restrictedInRow 26 = .ok (.istore_n 2, 1) := by decide +kernel
theorem dX10_restrictedInRow_27 : decode cX10_restrictedInRow 27 = .ok (.iconst 0, 1) := by decide +kernel
theorem dX10_restrictedInRow_28 : decode cX10_restrictedInRow 28 = .ok (.istore_n 3, 1) := by decide +kernel
theorem dX10_restrictedInRow_29 : decode cX10_restrictedInRow 29 = .ok (.iload_n 3, 1) := by decide +kernel
theorem dX10_restrictedInRow_30 : decode cX10_restrictedInRow 30 = .ok (.bipush 60, 2) := by decide +kernel
theorem dX10_restrictedInRow_32 : decode cX10_restrictedInRow 32 = .ok (.if_icmp .gt 26, 3) := by decide +kernel
theorem dX10_restrictedInRow_35 : decode cX10_restrictedInRow 35 = .ok (.iload_n 2, 1) := by decide +kernel
theorem dX10_restrictedInRow_36 : decode cX10_restrictedInRow 36 = .ok (.aload_n 0, 1) := by decide +kernel
theorem dX10_restrictedInRow_37 : decode cX10_restrictedInRow 37 = .ok (.iload_n 3, 1) := by decide +kernel
theorem dX10_restrictedInRow_38 : decode cX10_restrictedInRow 38 = .ok (.iload_n 1, 1) := by decide +kernel
theorem dX10_restrictedInRow_39 : decode cX10_restrictedInRow 39 = .ok (.invokevirtual 149, 3) := by decide +kernel
theorem dX10_restrictedInRow_42 : decode cX10_restrictedInRow 42 = .ok (.ifCond .eq 7, 3) := by decide +kernel
theorem dX10_restrictedInRow_45 : decode cX10_restrictedInRow 45 = .ok (.iconst 1, 1) := by decide +kernel
theorem dX10_restrictedInRow_46 : decode cX10_restrictedInRow 46 = .ok (.goto 4, 3) := by decide +kernel
theorem dX10_restrictedInRow_49 : decode cX10_restrictedInRow 49 = .ok (.iconst 0, 1) := by decide +kernel
theorem dX10_restrictedInRow_50 : decode cX10_restrictedInRow 50 = .ok (.iadd, 1) := by decide +kernel
theorem dX10_restrictedInRow_51 : decode cX10_restrictedInRow 51 = .ok (.istore_n 2, 1) := by decide +kernel
theorem dX10_restrictedInRow_52 : decode cX10_restrictedInRow 52 = .ok (.iinc 3 1, 3) := by decide +kernel
theorem dX10_restrictedInRow_55 : decode cX10_restrictedInRow 55 = .ok (.goto (-26), 3) := by decide +kernel
theorem dX10_restrictedInRow_58 : decode cX10_restrictedInRow 58 = .ok (.iload_n 2, 1) := by decide +kernel
theorem dX10_restrictedInRow_59 : decode cX10_restrictedInRow 59 = .ok (.ireturn, 1) := by decide +kernel
theorem wd2009 : Cond.code yX10_restrictedInRow cX10_restrictedInRow 4 (some .int) ∈ gW := gW_in 2009 (by decide +kernel) (by decide +kernel)
theorem mvX10_restrictedInRow : MV yX10_restrictedInRow cX10_restrictedInRow 4 (some .int) 1 := ⟨wd2009, wd92, by decide +kernel, by decide +kernel, by decide +kernel, by decide⟩
theorem wd2007 : Cond.instanceMethod yX10_restrictedInRow ∈ gW := gW_in 2007 (by decide +kernel) (by decide +kernel)
theorem wd2008 : Cond.selects yX10_restrictedInRow.cls yX10_restrictedInRow yX10_restrictedInRow ∈ gW := gW_in 2008 (by decide +kernel) (by decide +kernel)
theorem wd2014 : Cond.methodLink RX10 186 yX10_restrictedInRow ∈ gW := gW_in 2014 (by decide +kernel) (by decide +kernel)
theorem dX10_restrictedInRowByRanges_0 : decode cX10_restrictedInRowByRanges 0 = .ok (.aload_n 0, 1) := by decide +kernel
theorem dX10_restrictedInRowByRanges_1 : decode cX10_restrictedInRowByRanges 1 = .ok (.iload_n 1, 1) := by decide +kernel
theorem dX10_restrictedInRowByRanges_2 : decode cX10_restrictedInRowByRanges 2 = .ok (.invokevirtual 186, 3) := by decide +kernel
theorem dX10_restrictedInRowByRanges_5 : decode cX10_restrictedInRowByRanges 5 = .ok (.ireturn, 1) := by decide +kernel
theorem dX10_pilotCount_0 : decode cX10_pilotCount 0 = .ok (.aload_n 0, 1) := by decide +kernel
theorem dX10_pilotCount_1 : decode cX10_pilotCount 1 = .ok (.iconst 0, 1) := by decide +kernel
theorem dX10_pilotCount_2 : decode cX10_pilotCount 2 = .ok (.putfield 41, 3) := by decide +kernel
theorem dX10_pilotCount_5 : decode cX10_pilotCount 5 = .ok (.aload_n 0, 1) := by decide +kernel
theorem dX10_pilotCount_6 : decode cX10_pilotCount 6 = .ok (.getfield 9, 3) := by decide +kernel
theorem dX10_pilotCount_9 : decode cX10_pilotCount 9 = .ok (.iconst 4, 1) := by decide +kernel
theorem dX10_pilotCount_10 : decode cX10_pilotCount 10 = .ok (.iaload, 1) := by decide +kernel
theorem dX10_pilotCount_11 : decode cX10_pilotCount 11 = .ok (.ireturn, 1) := by decide +kernel
theorem dX10_isPlanning_0 : decode cX10_isPlanning 0 = .ok (.aload_n 0, 1) := by decide +kernel
theorem dX10_isPlanning_1 : decode cX10_isPlanning 1 = .ok (.iconst 0, 1) := by decide +kernel
theorem dX10_isPlanning_2 : decode cX10_isPlanning 2 = .ok (.putfield 41, 3) := by decide +kernel
theorem dX10_isPlanning_5 : decode cX10_isPlanning 5 = .ok (.aload_n 0, 1) := by decide +kernel
theorem dX10_isPlanning_6 : decode cX10_isPlanning 6 = .ok (.invokevirtual 102, 3) := by decide +kernel
theorem dX10_isPlanning_9 : decode cX10_isPlanning 9 = .ok (.ireturn, 1) := by decide +kernel
theorem dX10_isAt_0 : decode cX10_isAt 0 = .ok (.aload_n 0, 1) := by decide +kernel
theorem dX10_isAt_1 : decode cX10_isAt 1 = .ok (.aload_n 0, 1) := by decide +kernel
theorem dX10_isAt_2 : decode cX10_isAt 2 = .ok (.iload_n 1, 1) := by decide +kernel
theorem dX10_isAt_3 : decode cX10_isAt 3 = .ok (.invokevirtual 131, 3) := by decide +kernel
theorem dX10_isAt_6 : decode cX10_isAt 6 = .ok (.ifCond .ne 7, 3) := by decide +kernel
theorem dX10_isAt_9 : decode cX10_isAt 9 = .ok (.iconst 1, 1) := by decide +kernel
theorem dX10_isAt_10 : decode cX10_isAt 10 = .ok (.goto 4, 3) := by decide +kernel
theorem dX10_isAt_13 : decode cX10_isAt 13 = .ok (.iconst 0, 1) := by decide +kernel
theorem dX10_isAt_14 : decode cX10_isAt 14 = .ok (.iconst 1, 1) := by decide +kernel
theorem dX10_isAt_15 : decode cX10_isAt 15 = .ok (.invokevirtual 85, 3) := by decide +kernel
theorem dX10_isAt_18 : decode cX10_isAt 18 = .ok (.ifCond .ne 17, 3) := by decide +kernel
theorem dX10_isAt_21 : decode cX10_isAt 21 = .ok (.aload_n 0, 1) := by decide +kernel
theorem dX10_isAt_22 : decode cX10_isAt 22 = .ok (.iload_n 1, 1) := by decide +kernel
theorem dX10_isAt_23 : decode cX10_isAt 23 = .ok (.iconst 1, 1) := by decide +kernel
theorem dX10_isAt_24 : decode cX10_isAt 24 = .ok (.invokevirtual 78, 3) := by decide +kernel
theorem dX10_isAt_27 : decode cX10_isAt 27 = .ok (.iload_n 2, 1) := by decide +kernel
theorem dX10_isAt_28 : decode cX10_isAt 28 = .ok (.if_icmp .ne 7, 3) := by decide +kernel
theorem dX10_isAt_31 : decode cX10_isAt 31 = .ok (.iconst 1, 1) := by decide +kernel
theorem dX10_isAt_32 : decode cX10_isAt 32 = .ok (.goto 4, 3) := by decide +kernel
theorem dX10_isAt_35 : decode cX10_isAt 35 = .ok (.iconst 0, 1) := by decide +kernel
theorem dX10_isAt_36 : decode cX10_isAt 36 = .ok (.ireturn, 1) := by decide +kernel
theorem wd2030 : Cond.code yX10_isAt cX10_isAt 3 (some .boolean) ∈ gW := gW_in 2030 (by decide +kernel) (by decide +kernel)
theorem mvX10_isAt : MV yX10_isAt cX10_isAt 3 (some .boolean) 2 := ⟨wd2030, wd92, by decide +kernel, by decide +kernel, by decide +kernel, by decide⟩
theorem wd2029 : Cond.instanceMethod yX10_isAt ∈ gW := gW_in 2029 (by decide +kernel) (by decide +kernel)
theorem wd58 : Cond.selects yX10_isAt.cls yX10_isAt yX10_isAt ∈ gW := gW_in 58 (by decide +kernel) (by decide +kernel)
theorem wd2027 : Cond.methodLink RX10 189 yX10_isAt ∈ gW := gW_in 2027 (by decide +kernel) (by decide +kernel)
theorem dX10_isFlying_0 : decode cX10_isFlying 0 = .ok (.aload_n 0, 1) := by decide +kernel
theorem dX10_isFlying_1 : decode cX10_isFlying 1 = .ok (.iload_n 1, 1) := by decide +kernel
theorem dX10_isFlying_2 : decode cX10_isFlying 2 = .ok (.iconst 1, 1) := by decide +kernel
theorem dX10_isFlying_3 : decode cX10_isFlying 3 = .ok (.invokevirtual 189, 3) := by decide +kernel
theorem dX10_isFlying_6 : decode cX10_isFlying 6 = .ok (.ireturn, 1) := by decide +kernel
theorem dX10_isLanded_0 : decode cX10_isLanded 0 = .ok (.aload_n 0, 1) := by decide +kernel
theorem dX10_isLanded_1 : decode cX10_isLanded 1 = .ok (.iload_n 1, 1) := by decide +kernel
theorem dX10_isLanded_2 : decode cX10_isLanded 2 = .ok (.iconst 2, 1) := by decide +kernel
theorem dX10_isLanded_3 : decode cX10_isLanded 3 = .ok (.invokevirtual 189, 3) := by decide +kernel
theorem dX10_isLanded_6 : decode cX10_isLanded 6 = .ok (.ireturn, 1) := by decide +kernel
theorem dX10_isFinished_0 : decode cX10_isFinished 0 = .ok (.aload_n 0, 1) := by decide +kernel
theorem dX10_isFinished_1 : decode cX10_isFinished 1 = .ok (.iload_n 1, 1) := by decide +kernel
theorem dX10_isFinished_2 : decode cX10_isFinished 2 = .ok (.iconst 3, 1) := by decide +kernel
theorem dX10_isFinished_3 : decode cX10_isFinished 3 = .ok (.invokevirtual 189, 3) := by decide +kernel
theorem dX10_isFinished_6 : decode cX10_isFinished 6 = .ok (.ireturn, 1) := by decide +kernel
theorem dX10_sink_0 : decode cX10_sink 0 = .ok (.aload_n 0, 1) := by decide +kernel
theorem dX10_sink_1 : decode cX10_sink 1 = .ok (.aload_n 0, 1) := by decide +kernel
theorem dX10_sink_2 : decode cX10_sink 2 = .ok (.iload_n 1, 1) := by decide +kernel
theorem dX10_sink_3 : decode cX10_sink 3 = .ok (.invokevirtual 131, 3) := by decide +kernel
theorem dX10_sink_6 : decode cX10_sink 6 = .ok (.ifCond .ne 7, 3) := by decide +kernel
theorem dX10_sink_9 : decode cX10_sink 9 = .ok (.iconst 1, 1) := by decide +kernel
theorem dX10_sink_10 : decode cX10_sink 10 = .ok (.goto 4, 3) := by decide +kernel
theorem dX10_sink_13 : decode cX10_sink 13 = .ok (.iconst 0, 1) := by decide +kernel
theorem dX10_sink_14 : decode cX10_sink 14 = .ok (.iconst 1, 1) := by decide +kernel
theorem dX10_sink_15 : decode cX10_sink 15 = .ok (.invokevirtual 85, 3) := by decide +kernel
theorem dX10_sink_18 : decode cX10_sink 18 = .ok (.ifCond .eq 7, 3) := by decide +kernel
theorem dX10_sink_21 : decode cX10_sink 21 = .ok (.iconst 0, 1) := by decide +kernel
theorem dX10_sink_22 : decode cX10_sink 22 = .ok (.goto 8, 3) := by decide +kernel
theorem dX10_sink_25 : decode cX10_sink 25 = .ok (.aload_n 0, 1) := by decide +kernel
theorem dX10_sink_26 : decode cX10_sink 26 = .ok (.iload_n 1, 1) := by decide +kernel
theorem dX10_sink_27 : decode cX10_sink 27 = .ok (.invokevirtual 146, 3) := by decide +kernel
theorem dX10_sink_30 : decode cX10_sink 30 = .ok (.ireturn, 1) := by decide +kernel
theorem dX10_ofFlight_0 : decode cX10_ofFlight 0 = .ok (.aload_n 0, 1) := by decide +kernel
theorem dX10_ofFlight_1 : decode cX10_ofFlight 1 = .ok (.aload_n 0, 1) := by decide +kernel
theorem dX10_ofFlight_2 : decode cX10_ofFlight 2 = .ok (.iload_n 1, 1) := by decide +kernel
theorem dX10_ofFlight_3 : decode cX10_ofFlight 3 = .ok (.invokevirtual 131, 3) := by decide +kernel
theorem dX10_ofFlight_6 : decode cX10_ofFlight 6 = .ok (.ifCond .ne 7, 3) := by decide +kernel
theorem dX10_ofFlight_9 : decode cX10_ofFlight 9 = .ok (.iconst 1, 1) := by decide +kernel
theorem dX10_ofFlight_10 : decode cX10_ofFlight 10 = .ok (.goto 4, 3) := by decide +kernel
theorem dX10_ofFlight_13 : decode cX10_ofFlight 13 = .ok (.iconst 0, 1) := by decide +kernel
theorem dX10_ofFlight_14 : decode cX10_ofFlight 14 = .ok (.iconst 1, 1) := by decide +kernel
theorem dX10_ofFlight_15 : decode cX10_ofFlight 15 = .ok (.invokevirtual 85, 3) := by decide +kernel
theorem dX10_ofFlight_18 : decode cX10_ofFlight 18 = .ok (.ifCond .ne 25, 3) := by decide +kernel
theorem dX10_ofFlight_21 : decode cX10_ofFlight 21 = .ok (.aload_n 0, 1) := by decide +kernel
theorem dX10_ofFlight_22 : decode cX10_ofFlight 22 = .ok (.aload_n 0, 1) := by decide +kernel
theorem dX10_ofFlight_23 : decode cX10_ofFlight 23 = .ok (.iload_n 1, 1) := by decide +kernel
theorem dX10_ofFlight_24 : decode cX10_ofFlight 24 = .ok (.iconst 1, 1) := by decide +kernel
theorem dX10_ofFlight_25 : decode cX10_ofFlight 25 = .ok (.invokevirtual 78, 3) := by decide +kernel
theorem dX10_ofFlight_28 : decode cX10_ofFlight 28 = .ok (.ifCond .ne 7, 3) := by decide +kernel
theorem dX10_ofFlight_31 : decode cX10_ofFlight 31 = .ok (.iconst 1, 1) := by decide +kernel
theorem dX10_ofFlight_32 : decode cX10_ofFlight 32 = .ok (.goto 4, 3) := by decide +kernel
theorem dX10_ofFlight_35 : decode cX10_ofFlight 35 = .ok (.iconst 0, 1) := by decide +kernel
theorem dX10_ofFlight_36 : decode cX10_ofFlight 36 = .ok (.iconst 2, 1) := by decide +kernel
theorem dX10_ofFlight_37 : decode cX10_ofFlight 37 = .ok (.invokevirtual 85, 3) := by decide +kernel
theorem dX10_ofFlight_40 : decode cX10_ofFlight 40 = .ok (.ifCond .eq 7, 3) := by decide +kernel
theorem dX10_ofFlight_43 : decode cX10_ofFlight 43 = .ok (.iconst 0, 1) := by decide +kernel
theorem dX10_ofFlight_44 : decode cX10_ofFlight 44 = .ok (.goto 9, 3) := by decide +kernel
theorem dX10_ofFlight_47 : decode cX10_ofFlight 47 = .ok (.aload_n 0, 1) := by decide +kernel
theorem dX10_ofFlight_48 : decode cX10_ofFlight 48 = .ok (.iload_n 1, 1) := by decide +kernel
theorem dX10_ofFlight_49 : decode cX10_ofFlight 49 = .ok (.iload_n 2, 1) := by decide +kernel
theorem dX10_ofFlight_50 : decode cX10_ofFlight 50 = .ok (.invokevirtual 78, 3) := by decide +kernel
theorem dX10_ofFlight_53 : decode cX10_ofFlight 53 = .ok (.ireturn, 1) := by decide +kernel
theorem wd2050 : Cond.code yX10_ofFlight cX10_ofFlight 3 (some .int) ∈ gW := gW_in 2050 (by decide +kernel) (by decide +kernel)
theorem mvX10_ofFlight : MV yX10_ofFlight cX10_ofFlight 3 (some .int) 2 := ⟨wd2050, wd92, by decide +kernel, by decide +kernel, by decide +kernel, by decide⟩
theorem wd2049 : Cond.instanceMethod yX10_ofFlight ∈ gW := gW_in 2049 (by decide +kernel) (by decide +kernel)
theorem wd59 : Cond.selects yX10_ofFlight.cls yX10_ofFlight yX10_ofFlight ∈ gW := gW_in 59 (by decide +kernel) (by decide +kernel)
theorem wd2047 : Cond.methodLink RX10 192 yX10_ofFlight ∈ gW := gW_in 2047 (by decide +kernel) (by decide +kernel)
theorem dX10_x_0 : decode cX10_x 0 = .ok (.aload_n 0, 1) := by decide +kernel
theorem dX10_x_1 : decode cX10_x 1 = .ok (.iload_n 1, 1) := by decide +kernel
theorem dX10_x_2 : decode cX10_x 2 = .ok (.iconst 2, 1) := by decide +kernel
theorem dX10_x_3 : decode cX10_x 3 = .ok (.invokevirtual 192, 3) := by decide +kernel
theorem dX10_x_6 : decode cX10_x 6 = .ok (.ireturn, 1) := by decide +kernel
theorem dX10_y_0 : decode cX10_y 0 = .ok (.aload_n 0, 1) := by decide +kernel
theorem dX10_y_1 : decode cX10_y 1 = .ok (.iload_n 1, 1) := by decide +kernel
theorem dX10_y_2 : decode cX10_y 2 = .ok (.iconst 3, 1) := by decide +kernel
theorem dX10_y_3 : decode cX10_y 3 = .ok (.invokevirtual 192, 3) := by decide +kernel
theorem dX10_y_6 : decode cX10_y 6 = .ok (.ireturn, 1) := by decide +kernel
theorem dX10_height_0 : decode cX10_height 0 = .ok (.aload_n 0, 1) := by decide +kernel
theorem dX10_height_1 : decode cX10_height 1 = .ok (.iload_n 1, 1) := by decide +kernel
theorem dX10_height_2 : decode cX10_height 2 = .ok (.iconst 4, 1) := by decide +kernel
theorem dX10_height_3 : decode cX10_height 3 = .ok (.invokevirtual 192, 3) := by decide +kernel
theorem dX10_height_6 : decode cX10_height 6 = .ok (.ireturn, 1) := by decide +kernel
theorem dX10_minutes_0 : decode cX10_minutes 0 = .ok (.aload_n 0, 1) := by decide +kernel
theorem dX10_minutes_1 : decode cX10_minutes 1 = .ok (.iload_n 1, 1) := by decide +kernel
theorem dX10_minutes_2 : decode cX10_minutes 2 = .ok (.iconst 5, 1) := by decide +kernel
theorem dX10_minutes_3 : decode cX10_minutes 3 = .ok (.invokevirtual 192, 3) := by decide +kernel
theorem dX10_minutes_6 : decode cX10_minutes 6 = .ok (.ireturn, 1) := by decide +kernel
theorem dX10_penalty_0 : decode cX10_penalty 0 = .ok (.aload_n 0, 1) := by decide +kernel
theorem dX10_penalty_1 : decode cX10_penalty 1 = .ok (.iload_n 1, 1) := by decide +kernel
theorem dX10_penalty_2 : decode cX10_penalty 2 = .ok (.bipush 6, 2) := by decide +kernel
theorem dX10_penalty_4 : decode cX10_penalty 4 = .ok (.invokevirtual 192, 3) := by decide +kernel
theorem dX10_penalty_7 : decode cX10_penalty 7 = .ok (.ireturn, 1) := by decide +kernel
theorem dX10_reached_0 : decode cX10_reached 0 = .ok (.aload_n 0, 1) := by decide +kernel
theorem dX10_reached_1 : decode cX10_reached 1 = .ok (.aload_n 0, 1) := by decide +kernel
theorem dX10_reached_2 : decode cX10_reached 2 = .ok (.iload_n 1, 1) := by decide +kernel
theorem dX10_reached_3 : decode cX10_reached 3 = .ok (.invokevirtual 131, 3) := by decide +kernel
theorem dX10_reached_6 : decode cX10_reached 6 = .ok (.ifCond .ne 7, 3) := by decide +kernel
theorem dX10_reached_9 : decode cX10_reached 9 = .ok (.iconst 1, 1) := by decide +kernel
theorem dX10_reached_10 : decode cX10_reached 10 = .ok (.goto 4, 3) := by decide +kernel
theorem dX10_reached_13 : decode cX10_reached 13 = .ok (.iconst 0, 1) := by decide +kernel
theorem dX10_reached_14 : decode cX10_reached 14 = .ok (.iconst 1, 1) := by decide +kernel
theorem dX10_reached_15 : decode cX10_reached 15 = .ok (.invokevirtual 85, 3) := by decide +kernel
theorem dX10_reached_18 : decode cX10_reached 18 = .ok (.ifCond .eq 7, 3) := by decide +kernel
theorem dX10_reached_21 : decode cX10_reached 21 = .ok (.iconst 0, 1) := by decide +kernel
theorem dX10_reached_22 : decode cX10_reached 22 = .ok (.goto 10, 3) := by decide +kernel
theorem dX10_reached_25 : decode cX10_reached 25 = .ok (.aload_n 0, 1) := by decide +kernel
theorem dX10_reached_26 : decode cX10_reached 26 = .ok (.iload_n 1, 1) := by decide +kernel
theorem dX10_reached_27 : decode cX10_reached 27 = .ok (.bipush 7, 2) := by decide +kernel
theorem dX10_reached_29 : decode cX10_reached 29 = .ok (.invokevirtual 78, 3) := by decide +kernel
theorem dX10_reached_32 : decode cX10_reached 32 = .ok (.ireturn, 1) := by decide +kernel
theorem dX10_isNoFlight_0 : decode cX10_isNoFlight 0 = .ok (.aload_n 0, 1) := by decide +kernel
theorem dX10_isNoFlight_1 : decode cX10_isNoFlight 1 = .ok (.aload_n 0, 1) := by decide +kernel
theorem dX10_isNoFlight_2 : decode cX10_isNoFlight 2 = .ok (.iload_n 1, 1) := by decide +kernel
theorem dX10_isNoFlight_3 : decode cX10_isNoFlight 3 = .ok (.invokevirtual 131, 3) := by decide +kernel
theorem dX10_isNoFlight_6 : decode cX10_isNoFlight 6 = .ok (.ifCond .ne 7, 3) := by decide +kernel
theorem dX10_isNoFlight_9 : decode cX10_isNoFlight 9 = .ok (.iconst 1, 1) := by decide +kernel
theorem dX10_isNoFlight_10 : decode cX10_isNoFlight 10 = .ok (.goto 4, 3) := by decide +kernel
theorem dX10_isNoFlight_13 : decode cX10_isNoFlight 13 = .ok (.iconst 0, 1) := by decide +kernel
theorem dX10_isNoFlight_14 : decode cX10_isNoFlight 14 = .ok (.iconst 1, 1) := by decide +kernel
theorem dX10_isNoFlight_15 : decode cX10_isNoFlight 15 = .ok (.invokevirtual 85, 3) := by decide +kernel
theorem dX10_isNoFlight_18 : decode cX10_isNoFlight 18 = .ok (.ifCond .ne 26, 3) := by decide +kernel
theorem dX10_isNoFlight_21 : decode cX10_isNoFlight 21 = .ok (.aload_n 0, 1) := by decide +kernel
theorem dX10_isNoFlight_22 : decode cX10_isNoFlight 22 = .ok (.aload_n 0, 1) := by decide +kernel
theorem dX10_isNoFlight_23 : decode cX10_isNoFlight 23 = .ok (.iload_n 1, 1) := by decide +kernel
theorem dX10_isNoFlight_24 : decode cX10_isNoFlight 24 = .ok (.iconst 1, 1) := by decide +kernel
theorem dX10_isNoFlight_25 : decode cX10_isNoFlight 25 = .ok (.invokevirtual 78, 3) := by decide +kernel
theorem dX10_isNoFlight_28 : decode cX10_isNoFlight 28 = .ok (.iconst 1, 1) := by decide +kernel
theorem dX10_isNoFlight_29 : decode cX10_isNoFlight 29 = .ok (.if_icmp .eq 7, 3) := by decide +kernel
theorem dX10_isNoFlight_32 : decode cX10_isNoFlight 32 = .ok (.iconst 1, 1) := by decide +kernel
theorem dX10_isNoFlight_33 : decode cX10_isNoFlight 33 = .ok (.goto 4, 3) := by decide +kernel
theorem dX10_isNoFlight_36 : decode cX10_isNoFlight 36 = .ok (.iconst 0, 1) := by decide +kernel
theorem dX10_isNoFlight_37 : decode cX10_isNoFlight 37 = .ok (.iconst 2, 1) := by decide +kernel
theorem dX10_isNoFlight_38 : decode cX10_isNoFlight 38 = .ok (.invokevirtual 85, 3) := by decide +kernel
theorem dX10_isNoFlight_41 : decode cX10_isNoFlight 41 = .ok (.ifCond .eq 7, 3) := by decide +kernel
theorem dX10_isNoFlight_44 : decode cX10_isNoFlight 44 = .ok (.iconst 1, 1) := by decide +kernel
theorem dX10_isNoFlight_45 : decode cX10_isNoFlight 45 = .ok (.goto 4, 3) := by decide +kernel
theorem dX10_isNoFlight_48 : decode cX10_isNoFlight 48 = .ok (.iconst 0, 1) := by decide +kernel
theorem dX10_isNoFlight_49 : decode cX10_isNoFlight 49 = .ok (.ireturn, 1) := by decide +kernel
theorem dX10_remaining_0 : decode cX10_remaining 0 = .ok (.aload_n 0, 1) := by decide +kernel
theorem dX10_remaining_1 : decode cX10_remaining 1 = .ok (.iload_n 1, 1) := by decide +kernel
theorem dX10_remaining_2 : decode cX10_remaining 2 = .ok (.invokevirtual 171, 3) := by decide +kernel
theorem dX10_remaining_5 : decode cX10_remaining 5 = .ok (.aload_n 0, 1) := by decide +kernel
theorem dX10_remaining_6 : decode cX10_remaining 6 = .ok (.aload_n 0, 1) := by decide +kernel
theorem dX10_remaining_7 : decode cX10_remaining 7 = .ok (.getfield 9, 3) := by decide +kernel
theorem dX10_remaining_10 : decode cX10_remaining 10 = .ok (.iconst 1, 1) := by decide +kernel
theorem dX10_remaining_11 : decode cX10_remaining 11 = .ok (.iaload, 1) := by decide +kernel
theorem dX10_remaining_12 : decode cX10_remaining 12 = .ok (.iconst 1, 1) := by decide +kernel
theorem dX10_remaining_13 : decode cX10_remaining 13 = .ok (.isub, 1) := by decide +kernel
theorem dX10_remaining_14 : decode cX10_remaining 14 = .ok (.invokevirtual 75, 3) := by decide +kernel
theorem dX10_remaining_17 : decode cX10_remaining 17 = .ok (.iadd, 1) := by decide +kernel
theorem dX10_remaining_18 : decode cX10_remaining 18 = .ok (.aload_n 0, 1) := by decide +kernel
theorem dX10_remaining_19 : decode cX10_remaining 19 = .ok (.aload_n 0, 1) := by decide +kernel
theorem dX10_remaining_20 : decode cX10_remaining 20 = .ok (.iload_n 1, 1) := by decide +kernel
theorem dX10_remaining_21 : decode cX10_remaining 21 = .ok (.bipush 7, 2) := by decide +kernel
theorem dX10_remaining_23 : decode cX10_remaining 23 = .ok (.invokevirtual 78, 3) := by decide +kernel
theorem dX10_remaining_26 : decode cX10_remaining 26 = .ok (.invokevirtual 75, 3) := by decide +kernel
theorem dX10_remaining_29 : decode cX10_remaining 29 = .ok (.isub, 1) := by decide +kernel
theorem dX10_remaining_30 : decode cX10_remaining 30 = .ok (.ireturn, 1) := by decide +kernel
theorem wd2078 : Cond.code yX10_isNoFlight cX10_isNoFlight 2 (some .boolean) ∈ gW := gW_in 2078 (by decide +kernel) (by decide +kernel)
theorem mvX10_isNoFlight : MV yX10_isNoFlight cX10_isNoFlight 2 (some .boolean) 1 := ⟨wd2078, wd92, by decide +kernel, by decide +kernel, by decide +kernel, by decide⟩
theorem wd2077 : Cond.instanceMethod yX10_isNoFlight ∈ gW := gW_in 2077 (by decide +kernel) (by decide +kernel)
theorem wd60 : Cond.selects yX10_isNoFlight.cls yX10_isNoFlight yX10_isNoFlight ∈ gW := gW_in 60 (by decide +kernel) (by decide +kernel)
theorem wd2075 : Cond.methodLink RX10 195 yX10_isNoFlight ∈ gW := gW_in 2075 (by decide +kernel) (by decide +kernel)
theorem wd2082 : Cond.code yX10_remaining cX10_remaining 2 (some .int) ∈ gW := gW_in 2082 (by decide +kernel) (by decide +kernel)
theorem mvX10_remaining : MV yX10_remaining cX10_remaining 2 (some .int) 1 := ⟨wd2082, wd92, by decide +kernel, by decide +kernel, by decide +kernel, by decide⟩
theorem wd2081 : Cond.instanceMethod yX10_remaining ∈ gW := gW_in 2081 (by decide +kernel) (by decide +kernel)
theorem wd61 : Cond.selects yX10_remaining.cls yX10_remaining yX10_remaining ∈ gW := gW_in 61 (by decide +kernel) (by decide +kernel)
theorem wd2079 : Cond.methodLink RX10 198 yX10_remaining ∈ gW := gW_in 2079 (by decide +kernel) (by decide +kernel)
theorem dX10_remainingDistance_0 : decode cX10_remainingDistance 0 = .ok (.aload_n 0, 1) := by decide +kernel
theorem dX10_remainingDistance_1 : decode cX10_remainingDistance 1 = .ok (.iload_n 1, 1) := by decide +kernel
theorem dX10_remainingDistance_2 : decode cX10_remainingDistance 2 = .ok (.invokevirtual 195, 3) := by decide +kernel
theorem dX10_remainingDistance_5 : decode cX10_remainingDistance 5 = .ok (.ifCond .eq 7, 3) := by decide +kernel
theorem dX10_remainingDistance_8 : decode cX10_remainingDistance 8 = .ok (.iconst 0, 1) := by decide +kernel
theorem dX10_remainingDistance_9 : decode cX10_remainingDistance 9 = .ok (.goto 8, 3) := by decide +kernel
theorem dX10_remainingDistance_12 : decode cX10_remainingDistance 12 = .ok (.aload_n 0, 1) := by decide +kernel
theorem dX10_remainingDistance_13 : decode cX10_remainingDistance 13 = .ok (.iload_n 1, 1) := by decide +kernel
theorem dX10_remainingDistance_14 : decode cX10_remainingDistance 14 = .ok (.invokevirtual 198, 3) := by decide +kernel
theorem dX10_remainingDistance_17 : decode cX10_remainingDistance 17 = .ok (.ireturn, 1) := by decide +kernel
theorem dX10_canFinish_0 : decode cX10_canFinish 0 = .ok (.aload_n 0, 1) := by decide +kernel
theorem dX10_canFinish_1 : decode cX10_canFinish 1 = .ok (.iload_n 1, 1) := by decide +kernel
theorem dX10_canFinish_2 : decode cX10_canFinish 2 = .ok (.invokevirtual 195, 3) := by decide +kernel
theorem dX10_canFinish_5 : decode cX10_canFinish 5 = .ok (.ifCond .ne 29, 3) := by decide +kernel
theorem dX10_canFinish_8 : decode cX10_canFinish 8 = .ok (.aload_n 0, 1) := by decide +kernel
theorem dX10_canFinish_9 : decode cX10_canFinish 9 = .ok (.iload_n 1, 1) := by decide +kernel
theorem dX10_canFinish_10 : decode cX10_canFinish 10 = .ok (.iconst 4, 1) := by decide +kernel
theorem dX10_canFinish_11 : decode cX10_canFinish 11 = .ok (.invokevirtual 78, 3) := by decide +kernel
theorem dX10_canFinish_14 : decode cX10_canFinish 14 = .ok (.aload_n 0, 1) := by decide +kernel
theorem dX10_canFinish_15 : decode cX10_canFinish 15 = .ok (.iload_n 1, 1) := by decide +kernel
theorem dX10_canFinish_16 : decode cX10_canFinish 16 = .ok (.invokevirtual 198, 3) := by decide +kernel
theorem dX10_canFinish_19 : decode cX10_canFinish 19 = .ok (.iconst 1, 1) := by decide +kernel
theorem dX10_canFinish_20 : decode cX10_canFinish 20 = .ok (.isub, 1) := by decide +kernel
theorem dX10_canFinish_21 : decode cX10_canFinish 21 = .ok (.aload_n 0, 1) := by decide +kernel
theorem dX10_canFinish_22 : decode cX10_canFinish 22 = .ok (.iload_n 1, 1) := by decide +kernel
theorem dX10_canFinish_23 : decode cX10_canFinish 23 = .ok (.invokevirtual 146, 3) := by decide +kernel
theorem dX10_canFinish_26 : decode cX10_canFinish 26 = .ok (.imul, 1) := by decide +kernel
theorem dX10_canFinish_27 : decode cX10_canFinish 27 = .ok (.if_icmp .le 7, 3) := by decide +kernel
theorem dX10_canFinish_30 : decode cX10_canFinish 30 = .ok (.iconst 1, 1) := by decide +kernel
theorem dX10_canFinish_31 : decode cX10_canFinish 31 = .ok (.goto 4, 3) := by decide +kernel
theorem dX10_canFinish_34 : decode cX10_canFinish 34 = .ok (.iconst 0, 1) := by decide +kernel
theorem dX10_canFinish_35 : decode cX10_canFinish 35 = .ok (.ireturn, 1) := by decide +kernel
theorem wd2086 : Cond.code yX10_canFinish cX10_canFinish 2 (some .boolean) ∈ gW := gW_in 2086 (by decide +kernel) (by decide +kernel)
theorem mvX10_canFinish : MV yX10_canFinish cX10_canFinish 2 (some .boolean) 1 := ⟨wd2086, wd92, by decide +kernel, by decide +kernel, by decide +kernel, by decide⟩
theorem wd2084 : Cond.instanceMethod yX10_canFinish ∈ gW := gW_in 2084 (by decide +kernel) (by decide +kernel)
theorem wd2085 : Cond.selects yX10_canFinish.cls yX10_canFinish yX10_canFinish ∈ gW := gW_in 2085 (by decide +kernel) (by decide +kernel)
theorem wd2091 : Cond.methodLink RX10 201 yX10_canFinish ∈ gW := gW_in 2091 (by decide +kernel) (by decide +kernel)
theorem dX10_canFinishBySimulation_0 : decode cX10_canFinishBySimulation 0 = .ok (.aload_n 0, 1) := by decide +kernel
theorem dX10_canFinishBySimulation_1 : decode cX10_canFinishBySimulation 1 = .ok (.iload_n 1, 1) := by decide +kernel
theorem dX10_canFinishBySimulation_2 : decode cX10_canFinishBySimulation 2 = .ok (.invokevirtual 201, 3) := by decide +kernel
theorem dX10_canFinishBySimulation_5 : decode cX10_canFinishBySimulation 5 = .ok (.ireturn, 1) := by decide +kernel
theorem dX10_achievedDistance_0 : decode cX10_achievedDistance 0 = .ok (.aload_n 0, 1) := by decide +kernel
theorem dX10_achievedDistance_1 : decode cX10_achievedDistance 1 = .ok (.aload_n 0, 1) := by decide +kernel
theorem dX10_achievedDistance_2 : decode cX10_achievedDistance 2 = .ok (.iload_n 1, 1) := by decide +kernel
theorem dX10_achievedDistance_3 : decode cX10_achievedDistance 3 = .ok (.invokevirtual 131, 3) := by decide +kernel
theorem dX10_achievedDistance_6 : decode cX10_achievedDistance 6 = .ok (.ifCond .ne 7, 3) := by decide +kernel
theorem dX10_achievedDistance_9 : decode cX10_achievedDistance 9 = .ok (.iconst 1, 1) := by decide +kernel
theorem dX10_achievedDistance_10 : decode cX10_achievedDistance 10 = .ok (.goto 4, 3) := by decide +kernel
theorem dX10_achievedDistance_13 : decode cX10_achievedDistance 13 = .ok (.iconst 0, 1) := by decide +kernel
theorem dX10_achievedDistance_14 : decode cX10_achievedDistance 14 = .ok (.iconst 1, 1) := by decide +kernel
theorem dX10_achievedDistance_15 : decode cX10_achievedDistance 15 = .ok (.invokevirtual 85, 3) := by decide +kernel
theorem dX10_achievedDistance_18 : decode cX10_achievedDistance 18 = .ok (.ifCond .eq 7, 3) := by decide +kernel
theorem dX10_achievedDistance_21 : decode cX10_achievedDistance 21 = .ok (.iconst 0, 1) := by decide +kernel
theorem dX10_achievedDistance_22 : decode cX10_achievedDistance 22 = .ok (.goto 8, 3) := by decide +kernel
theorem dX10_achievedDistance_25 : decode cX10_achievedDistance 25 = .ok (.aload_n 0, 1) := by decide +kernel
theorem dX10_achievedDistance_26 : decode cX10_achievedDistance 26 = .ok (.iload_n 1, 1) := by decide +kernel
theorem dX10_achievedDistance_27 : decode cX10_achievedDistance 27 = .ok (.invokevirtual 174, 3) := by decide +kernel
theorem dX10_achievedDistance_30 : decode cX10_achievedDistance 30 = .ok (.ireturn, 1) := by decide +kernel
theorem dX10_dayScore_0 : decode cX10_dayScore 0 = .ok (.aload_n 0, 1) := by decide +kernel
theorem dX10_dayScore_1 : decode cX10_dayScore 1 = .ok (.aload_n 0, 1) := by decide +kernel
theorem dX10_dayScore_2 : decode cX10_dayScore 2 = .ok (.iload_n 1, 1) := by decide +kernel
theorem dX10_dayScore_3 : decode cX10_dayScore 3 = .ok (.invokevirtual 131, 3) := by decide +kernel
theorem dX10_dayScore_6 : decode cX10_dayScore 6 = .ok (.ifCond .ne 7, 3) := by decide +kernel
theorem dX10_dayScore_9 : decode cX10_dayScore 9 = .ok (.iconst 1, 1) := by decide +kernel
theorem dX10_dayScore_10 : decode cX10_dayScore 10 = .ok (.goto 4, 3) := by decide +kernel
theorem dX10_dayScore_13 : decode cX10_dayScore 13 = .ok (.iconst 0, 1) := by decide +kernel
theorem dX10_dayScore_14 : decode cX10_dayScore 14 = .ok (.iconst 1, 1) := by decide +kernel
theorem dX10_dayScore_15 : decode cX10_dayScore 15 = .ok (.invokevirtual 85, 3) := by decide +kernel
theorem dX10_dayScore_18 : decode cX10_dayScore 18 = .ok (.ifCond .eq 7, 3) := by decide +kernel
theorem dX10_dayScore_21 : decode cX10_dayScore 21 = .ok (.iconst 0, 1) := by decide +kernel
theorem dX10_dayScore_22 : decode cX10_dayScore 22 = .ok (.goto 8, 3) := by decide +kernel
theorem dX10_dayScore_25 : decode cX10_dayScore 25 = .ok (.aload_n 0, 1) := by decide +kernel
theorem dX10_dayScore_26 : decode cX10_dayScore 26 = .ok (.iload_n 1, 1) := by decide +kernel
theorem dX10_dayScore_27 : decode cX10_dayScore 27 = .ok (.invokevirtual 180, 3) := by decide +kernel
theorem dX10_dayScore_30 : decode cX10_dayScore 30 = .ok (.ireturn, 1) := by decide +kernel
theorem dX10_total_0 : decode cX10_total 0 = .ok (.aload_n 0, 1) := by decide +kernel
theorem dX10_total_1 : decode cX10_total 1 = .ok (.aload_n 0, 1) := by decide +kernel
theorem dX10_total_2 : decode cX10_total 2 = .ok (.iload_n 1, 1) := by decide +kernel
theorem dX10_total_3 : decode cX10_total 3 = .ok (.invokevirtual 131, 3) := by decide +kernel
theorem dX10_total_6 : decode cX10_total 6 = .ok (.ifCond .ne 7, 3) := by decide +kernel
theorem dX10_total_9 : decode cX10_total 9 = .ok (.iconst 1, 1) := by decide +kernel
theorem dX10_total_10 : decode cX10_total 10 = .ok (.goto 4, 3) := by decide +kernel
theorem dX10_total_13 : decode cX10_total 13 = .ok (.iconst 0, 1) := by decide +kernel
theorem dX10_total_14 : decode cX10_total 14 = .ok (.iconst 1, 1) := by decide +kernel
theorem dX10_total_15 : decode cX10_total 15 = .ok (.invokevirtual 85, 3) := by decide +kernel
theorem dX10_total_18 : decode cX10_total 18 = .ok (.ifCond .eq 7, 3) := by decide +kernel
theorem dX10_total_21 : decode cX10_total 21 = .ok (.lconst 0, 1) := by decide +kernel
theorem dX10_total_22 : decode cX10_total 22 = .ok (.goto 11, 3) := by decide +kernel
theorem dX10_total_25 : decode cX10_total 25 = .ok (.aload_n 0, 1) := by decide +kernel
theorem dX10_total_26 : decode cX10_total 26 = .ok (.iload_n 1, 1) := by decide +kernel
theorem dX10_total_27 : decode cX10_total 27 = .ok (.bipush 8, 2) := by decide +kernel
theorem dX10_total_29 : decode cX10_total 29 = .ok (.invokevirtual 78, 3) := by decide +kernel
theorem dX10_total_32 : decode cX10_total 32 = .ok (.i2l, 1) := by decide +kernel
theorem dX10_total_33 : decode cX10_total 33 = .ok (.lreturn, 1) := by decide +kernel
theorem dX10_isAhead_0 : decode cX10_isAhead 0 = .ok (.aload_n 0, 1) := by decide +kernel
theorem dX10_isAhead_1 : decode cX10_isAhead 1 = .ok (.iload_n 1, 1) := by decide +kernel
theorem dX10_isAhead_2 : decode cX10_isAhead 2 = .ok (.bipush 8, 2) := by decide +kernel
theorem dX10_isAhead_4 : decode cX10_isAhead 4 = .ok (.invokevirtual 78, 3) := by decide +kernel
theorem dX10_isAhead_7 : decode cX10_isAhead 7 = .ok (.aload_n 0, 1) := by decide +kernel
theorem dX10_isAhead_8 : decode cX10_isAhead 8 = .ok (.iload_n 1, 1) := by decide +kernel
theorem dX10_isAhead_9 : decode cX10_isAhead 9 = .ok (.invokevirtual 180, 3) := by decide +kernel
theorem dX10_isAhead_12 : decode cX10_isAhead 12 = .ok (.iadd, 1) := by decide +kernel
theorem dX10_isAhead_13 : decode cX10_isAhead 13 = .ok (.aload_n 0, 1) := by decide +kernel
theorem dX10_isAhead_14 : decode cX10_isAhead 14 = .ok (.iload_n 2, 1) := by decide +kernel
theorem dX10_isAhead_15 : decode cX10_isAhead 15 = .ok (.bipush 8, 2) := by decide +kernel
theorem dX10_isAhead_17 : decode cX10_isAhead 17 = .ok (.invokevirtual 78, 3) := by decide +kernel
theorem dX10_isAhead_20 : decode cX10_isAhead 20 = .ok (.isub, 1) := by decide +kernel
theorem dX10_isAhead_21 : decode cX10_isAhead 21 = .ok (.aload_n 0, 1) := by decide +kernel
theorem dX10_isAhead_22 : decode cX10_isAhead 22 = .ok (.iload_n 2, 1) := by decide +kernel
theorem dX10_isAhead_23 : decode cX10_isAhead 23 = .ok (.invokevirtual 180, 3) := by decide +kernel
theorem dX10_isAhead_26 : decode cX10_isAhead 26 = .ok (.isub, 1) := by decide +kernel
theorem dX10_isAhead_27 : decode cX10_isAhead 27 = .ok (.istore_n 3, 1) := by decide +kernel
theorem dX10_isAhead_28 : decode cX10_isAhead 28 = .ok (.iload_n 3, 1) := by decide +kernel
theorem dX10_isAhead_29 : decode cX10_isAhead 29 = .ok (.ifCond .eq 13, 3) := by decide +kernel
theorem dX10_isAhead_32 : decode cX10_isAhead 32 = .ok (.iload_n 3, 1) := by decide +kernel
theorem dX10_isAhead_33 : decode cX10_isAhead 33 = .ok (.ifCond .le 7, 3) := by decide +kernel
theorem dX10_isAhead_36 : decode cX10_isAhead 36 = .ok (.iconst 1, 1) := by decide +kernel
theorem dX10_isAhead_37 : decode cX10_isAhead 37 = .ok (.goto 4, 3) := by decide +kernel
theorem dX10_isAhead_40 : decode cX10_isAhead 40 = .ok (.iconst 0, 1) := by decide +kernel
theorem dX10_isAhead_41 : decode cX10_isAhead 41 = .ok (.ireturn, 1) := by decide +kernel
theorem dX10_isAhead_42 : decode cX10_isAhead 42 = .ok (.aload_n 0, 1) := by decide +kernel
theorem dX10_isAhead_43 : decode cX10_isAhead 43 = .ok (.iload_n 2, 1) := by decide +kernel
theorem dX10_isAhead_44 : decode cX10_isAhead 44 = .ok (.bipush 6, 2) := by decide +kernel
theorem dX10_isAhead_46 : decode cX10_isAhead 46 = .ok (.invokevirtual 78, 3) := by decide +kernel
theorem dX10_isAhead_49 : decode cX10_isAhead 49 = .ok (.aload_n 0, 1) := by decide +kernel
theorem dX10_isAhead_50 : decode cX10_isAhead 50 = .ok (.iload_n 1, 1) := by decide +kernel
theorem dX10_isAhead_51 : decode cX10_isAhead 51 = .ok (.bipush 6, 2) := by decide +kernel
theorem dX10_isAhead_53 : decode cX10_isAhead 53 = .ok (.invokevirtual 78, 3) := by decide +kernel
theorem dX10_isAhead_56 : decode cX10_isAhead 56 = .ok (.isub, 1) := by decide +kernel
theorem dX10_isAhead_57 : decode cX10_isAhead 57 = .ok (.istore 4, 2) := by decide +kernel
theorem dX10_isAhead_59 : decode cX10_isAhead 59 = .ok (.iload 4, 2) := by decide +kernel
theorem dX10_isAhead_61 : decode cX10_isAhead 61 = .ok (.ifCond .eq 16, 3) := by decide +kernel
theorem dX10_isAhead_64 : decode cX10_isAhead 64 = .ok (.iload 4, 2) := by decide +kernel
theorem dX10_isAhead_66 : decode cX10_isAhead 66 = .ok (.ifCond .le 7, 3) := by decide +kernel
theorem dX10_isAhead_69 : decode cX10_isAhead 69 = .ok (.iconst 1, 1) := by decide +kernel
theorem dX10_isAhead_70 : decode cX10_isAhead 70 = .ok (.goto 17, 3) := by decide +kernel
theorem dX10_isAhead_73 : decode cX10_isAhead 73 = .ok (.iconst 0, 1) := by decide +kernel
theorem dX10_isAhead_74 : decode cX10_isAhead 74 = .ok (.goto 13, 3) := by decide +kernel
theorem dX10_isAhead_77 : decode cX10_isAhead 77 = .ok (.iload_n 1, 1) := by decide +kernel
theorem dX10_isAhead_78 : decode cX10_isAhead 78 = .ok (.iload_n 2, 1) := by decide +kernel
theorem dX10_isAhead_79 : decode cX10_isAhead 79 = .ok (.if_icmp .ge 7, 3) := by decide +kernel
theorem dX10_isAhead_82 : decode cX10_isAhead 82 = .ok (.iconst 1, 1) := by decide +kernel
theorem dX10_isAhead_83 : decode cX10_isAhead 83 = .ok (.goto 4, 3) := by decide +kernel
theorem dX10_isAhead_86 : decode cX10_isAhead 86 = .ok (.iconst 0, 1) := by decide +kernel
theorem dX10_isAhead_87 : decode cX10_isAhead 87 = .ok (.ireturn, 1) := by decide +kernel
theorem wd2111 : Cond.code yX10_isAhead cX10_isAhead 5 (some .boolean) ∈ gW := gW_in 2111 (by decide +kernel) (by decide +kernel)
theorem mvX10_isAhead : MV yX10_isAhead cX10_isAhead 5 (some .boolean) 2 := ⟨wd2111, wd92, by decide +kernel, by decide +kernel, by decide +kernel, by decide⟩
theorem wd2110 : Cond.instanceMethod yX10_isAhead ∈ gW := gW_in 2110 (by decide +kernel) (by decide +kernel)
theorem wd62 : Cond.selects yX10_isAhead.cls yX10_isAhead yX10_isAhead ∈ gW := gW_in 62 (by decide +kernel) (by decide +kernel)
theorem wd2108 : Cond.methodLink RX10 204 yX10_isAhead ∈ gW := gW_in 2108 (by decide +kernel) (by decide +kernel)
theorem dX10_pilotAtRank_0 : decode cX10_pilotAtRank 0 = .ok (.iconst 0, 1) := by decide +kernel
theorem dX10_pilotAtRank_1 : decode cX10_pilotAtRank 1 = .ok (.istore_n 2, 1) := by decide +kernel
theorem dX10_pilotAtRank_2 : decode cX10_pilotAtRank 2 = .ok (.iload_n 2, 1) := by decide +kernel
theorem dX10_pilotAtRank_3 : decode cX10_pilotAtRank 3 = .ok (.aload_n 0, 1) := by decide +kernel
theorem dX10_pilotAtRank_4 : decode cX10_pilotAtRank 4 = .ok (.getfield 9, 3) := by decide +kernel
theorem dX10_pilotAtRank_7 : decode cX10_pilotAtRank 7 = .ok (.iconst 4, 1) := by decide +kernel
theorem dX10_pilotAtRank_8 : decode cX10_pilotAtRank 8 = .ok (.iaload, 1) := by decide +kernel
theorem dX10_pilotAtRank_9 : decode cX10_pilotAtRank 9 = .ok (.if_icmp .ge 67, 3) := by decide +kernel
theorem dX10_pilotAtRank_12 : decode cX10_pilotAtRank 12 = .ok (.iconst 0, 1) := by decide +kernel
theorem dX10_pilotAtRank_13 : decode cX10_pilotAtRank 13 = .ok (.istore_n 3, 1) := by decide +kernel
theorem dX10_pilotAtRank_14 : decode cX10_pilotAtRank 14 = .ok (.iconst 0, 1) := by decide +kernel
theorem dX10_pilotAtRank_15 : decode cX10_pilotAtRank 15 = .ok (.istore 4, 2) := by decide +kernel
theorem dX10_pilotAtRank_17 : decode cX10_pilotAtRank 17 = .ok (.iload 4, 2) := by decide +kernel
theorem dX10_pilotAtRank_19 : decode cX10_pilotAtRank 19 = .ok (.aload_n 0, 1) := by decide +kernel
theorem dX10_pilotAtRank_20 : decode cX10_pilotAtRank 20 = .ok (.getfield 9, 3) := by decide +kernel
theorem dX10_pilotAtRank_23 : decode cX10_pilotAtRank 23 = .ok (.iconst 4, 1) := by decide +kernel
theorem dX10_pilotAtRank_24 : decode cX10_pilotAtRank 24 = .ok (.iaload, 1) := by decide +kernel
theorem dX10_pilotAtRank_25 : decode cX10_pilotAtRank 25 = .ok (.if_icmp .ge 33, 3) := by decide +kernel
theorem dX10_pilotAtRank_28 : decode cX10_pilotAtRank 28 = .ok (.iload_n 3, 1) := by decide +kernel
theorem dX10_pilotAtRank_29 : decode cX10_pilotAtRank 29 = .ok (.iload 4, 2) := by decide +kernel
theorem dX10_pilotAtRank_31 : decode cX10_pilotAtRank 31 = .ok (.iload_n 2, 1) := by decide +kernel
theorem dX10_pilotAtRank_32 : decode cX10_pilotAtRank 32 = .ok (.if_icmp .eq 17, 3) := by decide +kernel
theorem dX10_pilotAtRank_35 : decode cX10_pilotAtRank 35 = .ok (.aload_n 0, 1) := by decide +kernel
theorem dX10_pilotAtRank_36 : decode cX10_pilotAtRank 36 = .ok (.iload 4, 2) := by decide +kernel
theorem dX10_pilotAtRank_38 : decode cX10_pilotAtRank 38 = .ok (.iload_n 2, 1) := by decide +kernel
theorem dX10_pilotAtRank_39 : decode cX10_pilotAtRank 39 = .ok (.invokevirtual 204, 3) := by decide +kernel
theorem dX10_pilotAtRank_42 : decode cX10_pilotAtRank 42 = .ok (.ifCond .eq 7, 3) := by decide +kernel
theorem dX10_pilotAtRank_45 : decode cX10_pilotAtRank 45 = .ok (.iconst 1, 1) := by decide +kernel
theorem dX10_pilotAtRank_46 : decode cX10_pilotAtRank 46 = .ok (.goto 4, 3) := by decide +kernel
theorem dX10_pilotAtRank_49 : decode cX10_pilotAtRank 49 = .ok (.iconst 0, 1) := by decide +kernel
theorem dX10_pilotAtRank_50 : decode cX10_pilotAtRank 50 = .ok (.iadd, 1) := by decide +kernel
theorem dX10_pilotAtRank_51 : decode cX10_pilotAtRank 51 = .ok (.istore_n 3, 1) := by decide +kernel
theorem dX10_pilotAtRank_52 : decode cX10_pilotAtRank 52 = .ok (.iinc 4 1, 3) := by decide +kernel
theorem dX10_pilotAtRank_55 : decode cX10_pilotAtRank 55 = .ok (.goto (-38), 3) := by decide +kernel
theorem dX10_pilotAtRank_58 : decode cX10_pilotAtRank 58 = .ok (.iload_n 3, 1) := by decide +kernel
theorem dX10_pilotAtRank_59 : decode cX10_pilotAtRank 59 = .ok (.iload_n 1, 1) := by decide +kernel
theorem dX10_pilotAtRank_60 : decode cX10_pilotAtRank 60 = .ok (.if_icmp .ne 10, 3) := by decide +kernel
theorem dX10_pilotAtRank_63 : decode cX10_pilotAtRank 63 = .ok (.aload_n 0, 1) := by decide +kernel
theorem dX10_pilotAtRank_64 : decode cX10_pilotAtRank 64 = .ok (.iconst 0, 1) := by decide +kernel
theorem dX10_pilotAtRank_65 : decode cX10_pilotAtRank 65 = .ok (.putfield 41, 3) := by decide +kernel
theorem dX10_pilotAtRank_68 : decode cX10_pilotAtRank 68 = .ok (.iload_n 2, 1) := by decide +kernel
theorem dX10_pilotAtRank_69 : decode cX10_pilotAtRank 69 = .ok (.ireturn, 1) := by decide +kernel
theorem dX10_pilotAtRank_70 : decode cX10_pilotAtRank 70 = .ok (.iinc 2 1, 3) := by decide +kernel
theorem dX10_pilotAtRank_73 : decode cX10_pilotAtRank 73 = .ok (.goto (-71), 3) := by decide +kernel
theorem dX10_pilotAtRank_76 : decode cX10_pilotAtRank 76 = .ok (.aload_n 0, 1) := by decide +kernel
theorem dX10_pilotAtRank_77 : decode cX10_pilotAtRank 77 = .ok (.iconst 1, 1) := by decide +kernel
theorem dX10_pilotAtRank_78 : decode cX10_pilotAtRank 78 = .ok (.putfield 41, 3) := by decide +kernel
theorem dX10_pilotAtRank_81 : decode cX10_pilotAtRank 81 = .ok (.iconst 0, 1) := by decide +kernel
theorem dX10_pilotAtRank_82 : decode cX10_pilotAtRank 82 = .ok (.ireturn, 1) := by decide +kernel
theorem dX10_days_0 : decode cX10_days 0 = .ok (.aload_n 0, 1) := by decide +kernel
theorem dX10_days_1 : decode cX10_days 1 = .ok (.iconst 0, 1) := by decide +kernel
theorem dX10_days_2 : decode cX10_days 2 = .ok (.putfield 41, 3) := by decide +kernel
theorem dX10_days_5 : decode cX10_days 5 = .ok (.aload_n 0, 1) := by decide +kernel
theorem dX10_days_6 : decode cX10_days 6 = .ok (.getfield 9, 3) := by decide +kernel
theorem dX10_days_9 : decode cX10_days 9 = .ok (.bipush 6, 2) := by decide +kernel
theorem dX10_days_11 : decode cX10_days 11 = .ok (.iaload, 1) := by decide +kernel
theorem dX10_days_12 : decode cX10_days 12 = .ok (.ireturn, 1) := by decide +kernel
theorem dX10_speed_0 : decode cX10_speed 0 = .ok (.aload_n 0, 1) := by decide +kernel
theorem dX10_speed_1 : decode cX10_speed 1 = .ok (.aload_n 0, 1) := by decide +kernel
theorem dX10_speed_2 : decode cX10_speed 2 = .ok (.iload_n 1, 1) := by decide +kernel
theorem dX10_speed_3 : decode cX10_speed 3 = .ok (.invokevirtual 131, 3) := by decide +kernel
theorem dX10_speed_6 : decode cX10_speed 6 = .ok (.ifCond .ne 7, 3) := by decide +kernel
theorem dX10_speed_9 : decode cX10_speed 9 = .ok (.iconst 1, 1) := by decide +kernel
theorem dX10_speed_10 : decode cX10_speed 10 = .ok (.goto 4, 3) := by decide +kernel
theorem dX10_speed_13 : decode cX10_speed 13 = .ok (.iconst 0, 1) := by decide +kernel
theorem dX10_speed_14 : decode cX10_speed 14 = .ok (.iconst 1, 1) := by decide +kernel
theorem dX10_speed_15 : decode cX10_speed 15 = .ok (.invokevirtual 85, 3) := by decide +kernel
theorem dX10_speed_18 : decode cX10_speed 18 = .ok (.ifCond .ne 26, 3) := by decide +kernel
theorem dX10_speed_21 : decode cX10_speed 21 = .ok (.aload_n 0, 1) := by decide +kernel
theorem dX10_speed_22 : decode cX10_speed 22 = .ok (.aload_n 0, 1) := by decide +kernel
theorem dX10_speed_23 : decode cX10_speed 23 = .ok (.iload_n 1, 1) := by decide +kernel
theorem dX10_speed_24 : decode cX10_speed 24 = .ok (.iconst 1, 1) := by decide +kernel
theorem dX10_speed_25 : decode cX10_speed 25 = .ok (.invokevirtual 78, 3) := by decide +kernel
theorem dX10_speed_28 : decode cX10_speed 28 = .ok (.iconst 3, 1) := by decide +kernel
theorem dX10_speed_29 : decode cX10_speed 29 = .ok (.if_icmp .eq 7, 3) := by decide +kernel
theorem dX10_speed_32 : decode cX10_speed 32 = .ok (.iconst 1, 1) := by decide +kernel
theorem dX10_speed_33 : decode cX10_speed 33 = .ok (.goto 4, 3) := by decide +kernel
theorem dX10_speed_36 : decode cX10_speed 36 = .ok (.iconst 0, 1) := by decide +kernel
theorem dX10_speed_37 : decode cX10_speed 37 = .ok (.iconst 2, 1) := by decide +kernel
theorem dX10_speed_38 : decode cX10_speed 38 = .ok (.invokevirtual 85, 3) := by decide +kernel
theorem dX10_speed_41 : decode cX10_speed 41 = .ok (.ifCond .eq 5, 3) := by decide +kernel
theorem dX10_speed_44 : decode cX10_speed 44 = .ok (.fconst 0, 1) := by decide +kernel
theorem dX10_speed_45 : decode cX10_speed 45 = .ok (.freturn, 1) := by decide +kernel
theorem dX10_speed_46 : decode cX10_speed 46 = .ok (.aload_n 0, 1) := by decide +kernel
theorem dX10_speed_47 : decode cX10_speed 47 = .ok (.invokevirtual 168, 3) := by decide +kernel
theorem dX10_speed_50 : decode cX10_speed 50 = .ok (.i2f, 1) := by decide +kernel
theorem dX10_speed_51 : decode cX10_speed 51 = .ok (.aload_n 0, 1) := by decide +kernel
theorem dX10_speed_52 : decode cX10_speed 52 = .ok (.iload_n 1, 1) := by decide +kernel
theorem dX10_speed_53 : decode cX10_speed 53 = .ok (.iconst 5, 1) := by decide +kernel
theorem dX10_speed_54 : decode cX10_speed 54 = .ok (.invokevirtual 78, 3) := by decide +kernel
theorem dX10_speed_57 : decode cX10_speed 57 = .ok (.i2f, 1) := by decide +kernel
theorem dX10_speed_58 : decode cX10_speed 58 = .ok (.fdiv, 1) := by decide +kernel
theorem dX10_speed_59 : decode cX10_speed 59 = .ok (.freturn, 1) := by decide +kernel
theorem dX10_meanScore_0 : decode cX10_meanScore 0 = .ok (.iconst 0, 1) := by decide +kernel
theorem dX10_meanScore_1 : decode cX10_meanScore 1 = .ok (.istore_n 1, 1) := by decide +kernel
theorem dX10_meanScore_2 : decode cX10_meanScore 2 = .ok (.iconst 0, 1) := by decide +kernel
theorem dX10_meanScore_3 : decode cX10_meanScore 3 = .ok (.istore_n 2, 1) := by decide +kernel
theorem dX10_meanScore_4 : decode cX10_meanScore 4 = .ok (.iload_n 2, 1) := by decide +kernel
theorem dX10_meanScore_5 : decode cX10_meanScore 5 = .ok (.aload_n 0, 1) := by decide +kernel
theorem dX10_meanScore_6 : decode cX10_meanScore 6 = .ok (.getfield 9, 3) := by decide +kernel
theorem dX10_meanScore_9 : decode cX10_meanScore 9 = .ok (.iconst 4, 1) := by decide +kernel
theorem dX10_meanScore_10 : decode cX10_meanScore 10 = .ok (.iaload, 1) := by decide +kernel
theorem dX10_meanScore_11 : decode cX10_meanScore 11 = .ok (.if_icmp .ge 17, 3) := by decide +kernel
theorem dX10_meanScore_14 : decode cX10_meanScore 14 = .ok (.iload_n 1, 1) := by decide +kernel
theorem dX10_meanScore_15 : decode cX10_meanScore 15 = .ok (.aload_n 0, 1) := by decide +kernel
theorem dX10_meanScore_16 : decode cX10_meanScore 16 = .ok (.iload_n 2, 1) := by decide +kernel
theorem dX10_meanScore_17 : decode cX10_meanScore 17 = .ok (.invokevirtual 180, 3) := by decide +kernel
theorem dX10_meanScore_20 : decode cX10_meanScore 20 = .ok (.iadd, 1) := by decide +kernel
theorem dX10_meanScore_21 : decode cX10_meanScore 21 = .ok (.istore_n 1, 1) := by decide +kernel
theorem dX10_meanScore_22 : decode cX10_meanScore 22 = .ok (.iinc 2 1, 3) := by decide +kernel
theorem dX10_meanScore_25 : decode cX10_meanScore 25 = .ok (.goto (-21), 3) := by decide +kernel
theorem dX10_meanScore_28 : decode cX10_meanScore 28 = .ok (.aload_n 0, 1) := by decide +kernel
theorem dX10_meanScore_29 : decode cX10_meanScore 29 = .ok (.aload_n 0, 1) := by decide +kernel
theorem dX10_meanScore_30 : decode cX10_meanScore 30 = .ok (.getfield 9, 3) := by decide +kernel
theorem dX10_meanScore_33 : decode cX10_meanScore 33 = .ok (.iconst 4, 1) := by decide +kernel
theorem dX10_meanScore_34 : decode cX10_meanScore 34 = .ok (.iaload, 1) := by decide +kernel
theorem dX10_meanScore_35 : decode cX10_meanScore 35 = .ok (.ifCond .ne 7, 3) := by decide +kernel
theorem dX10_meanScore_38 : decode cX10_meanScore 38 = .ok (.iconst 1, 1) := by decide +kernel
theorem dX10_meanScore_39 : decode cX10_meanScore 39 = .ok (.goto 4, 3) := by decide +kernel
theorem dX10_meanScore_42 : decode cX10_meanScore 42 = .ok (.iconst 0, 1) := by decide +kernel
theorem dX10_meanScore_43 : decode cX10_meanScore 43 = .ok (.iconst 1, 1) := by decide +kernel
theorem dX10_meanScore_44 : decode cX10_meanScore 44 = .ok (.invokevirtual 85, 3) := by decide +kernel
theorem dX10_meanScore_47 : decode cX10_meanScore 47 = .ok (.ifCond .eq 7, 3) := by decide +kernel
theorem dX10_meanScore_50 : decode cX10_meanScore 50 = .ok (.dconst 0, 1) := by decide +kernel
theorem dX10_meanScore_51 : decode cX10_meanScore 51 = .ok (.goto 13, 3) := by decide +kernel
theorem dX10_meanScore_54 : decode cX10_meanScore 54 = .ok (.iload_n 1, 1) := by decide +kernel
theorem dX10_meanScore_55 : decode cX10_meanScore 55 = .ok (.i2d, 1) := by decide +kernel
theorem dX10_meanScore_56 : decode cX10_meanScore 56 = .ok (.aload_n 0, 1) := by decide +kernel
theorem dX10_meanScore_57 : decode cX10_meanScore 57 = .ok (.getfield 9, 3) := by decide +kernel
theorem dX10_meanScore_60 : decode cX10_meanScore 60 = .ok (.iconst 4, 1) := by decide +kernel
theorem dX10_meanScore_61 : decode cX10_meanScore 61 = .ok (.iaload, 1) := by decide +kernel
theorem dX10_meanScore_62 : decode cX10_meanScore 62 = .ok (.i2d, 1) := by decide +kernel
theorem dX10_meanScore_63 : decode cX10_meanScore 63 = .ok (.ddiv, 1) := by decide +kernel
theorem dX10_meanScore_64 : decode cX10_meanScore 64 = .ok (.dreturn, 1) := by decide +kernel
theorem dX10_isConsistent_0 : decode cX10_isConsistent 0 = .ok (.aload_n 0, 1) := by decide +kernel
theorem dX10_isConsistent_1 : decode cX10_isConsistent 1 = .ok (.iconst 0, 1) := by decide +kernel
theorem dX10_isConsistent_2 : decode cX10_isConsistent 2 = .ok (.putfield 41, 3) := by decide +kernel
theorem dX10_isConsistent_5 : decode cX10_isConsistent 5 = .ok (.iconst 1, 1) := by decide +kernel
theorem dX10_isConsistent_6 : decode cX10_isConsistent 6 = .ok (.istore_n 1, 1) := by decide +kernel
theorem dX10_isConsistent_7 : decode cX10_isConsistent 7 = .ok (.iconst 0, 1) := by decide +kernel
theorem dX10_isConsistent_8 : decode cX10_isConsistent 8 = .ok (.istore_n 2, 1) := by decide +kernel
theorem dX10_isConsistent_9 : decode cX10_isConsistent 9 = .ok (.iload_n 2, 1) := by decide +kernel
theorem dX10_isConsistent_10 : decode cX10_isConsistent 10 = .ok (.aload_n 0, 1) := by decide +kernel
theorem dX10_isConsistent_11 : decode cX10_isConsistent 11 = .ok (.getfield 9, 3) := by decide +kernel
theorem dX10_isConsistent_14 : decode cX10_isConsistent 14 = .ok (.iconst 4, 1) := by decide +kernel
theorem dX10_isConsistent_15 : decode cX10_isConsistent 15 = .ok (.iaload, 1) := by decide +kernel
theorem dX10_isConsistent_16 : decode cX10_isConsistent 16 = .ok (.if_icmp .ge 29, 3) := by decide +kernel
theorem dX10_isConsistent_19 : decode cX10_isConsistent 19 = .ok (.iload_n 1, 1) := by decide +kernel
theorem dX10_isConsistent_20 : decode cX10_isConsistent 20 = .ok (.aload_n 0, 1) := by decide +kernel
theorem dX10_isConsistent_21 : decode cX10_isConsistent 21 = .ok (.iload_n 2, 1) := by decide +kernel
theorem dX10_isConsistent_22 : decode cX10_isConsistent 22 = .ok (.invokevirtual 174, 3) := by decide +kernel
theorem dX10_isConsistent_25 : decode cX10_isConsistent 25 = .ok (.aload_n 0, 1) := by decide +kernel
theorem dX10_isConsistent_26 : decode cX10_isConsistent 26 = .ok (.invokevirtual 168, 3) := by decide +kernel
theorem dX10_isConsistent_29 : decode cX10_isConsistent 29 = .ok (.if_icmp .gt 7, 3) := by decide +kernel
theorem dX10_isConsistent_32 : decode cX10_isConsistent 32 = .ok (.iconst 1, 1) := by decide +kernel
theorem dX10_isConsistent_33 : decode cX10_isConsistent 33 = .ok (.goto 4, 3) := by decide +kernel
theorem dX10_isConsistent_36 : decode cX10_isConsistent 36 = .ok (.iconst 0, 1) := by decide +kernel
theorem dX10_isConsistent_37 : decode cX10_isConsistent 37 = .ok (.iand, 1) := by decide +kernel
theorem dX10_isConsistent_38 : decode cX10_isConsistent 38 = .ok (.istore_n 1, 1) := by decide +kernel
theorem dX10_isConsistent_39 : decode cX10_isConsistent 39 = .ok (.iinc 2 1, 3) := by decide +kernel
theorem dX10_isConsistent_42 : decode cX10_isConsistent 42 = .ok (.goto (-33), 3) := by decide +kernel
theorem dX10_isConsistent_45 : decode cX10_isConsistent 45 = .ok (.iload_n 1, 1) := by decide +kernel
theorem dX10_isConsistent_46 : decode cX10_isConsistent 46 = .ok (.ireturn, 1) := by decide +kernel
theorem wd1720 : Cond.fieldLink RX10 32 (TX10 11).1 (TX10 11).2.1 (TX10 11).2.2.1 ∈ gW := gW_in 1720 (by decide +kernel) (by decide +kernel)
theorem wd1721 : Cond.fieldLink RX10 207 (TX10 12).1 (TX10 12).2.1 (TX10 12).2.2.1 ∈ gW := gW_in 1721 (by decide +kernel) (by decide +kernel)
theorem dX10_puts_0 : decode cX10_puts 0 = .ok (.aload_n 0, 1) := by decide +kernel
theorem dX10_puts_1 : decode cX10_puts 1 = .ok (.getfield 32, 3) := by decide +kernel
theorem dX10_puts_4 : decode cX10_puts 4 = .ok (.aload_n 0, 1) := by decide +kernel
theorem dX10_puts_5 : decode cX10_puts 5 = .ok (.getfield 207, 3) := by decide +kernel
theorem dX10_puts_8 : decode cX10_puts 8 = .ok (.iload_n 1, 1) := by decide +kernel
theorem dX10_puts_9 : decode cX10_puts 9 = .ok (.iastore, 1) := by decide +kernel
theorem dX10_puts_10 : decode cX10_puts 10 = .ok (.aload_n 0, 1) := by decide +kernel
theorem dX10_puts_11 : decode cX10_puts 11 = .ok (.dup, 1) := by decide +kernel
theorem dX10_puts_12 : decode cX10_puts 12 = .ok (.getfield 207, 3) := by decide +kernel
theorem dX10_puts_15 : decode cX10_puts 15 = .ok (.iconst 1, 1) := by decide +kernel
theorem dX10_puts_16 : decode cX10_puts 16 = .ok (.iadd, 1) := by decide +kernel
theorem dX10_puts_17 : decode cX10_puts 17 = .ok (.putfield 207, 3) := by decide +kernel
theorem dX10_puts_20 : decode cX10_puts 20 = .ok (.return_, 1) := by decide +kernel
theorem wd2139 : Cond.code yX10_puts cX10_puts 2 none ∈ gW := gW_in 2139 (by decide +kernel) (by decide +kernel)
theorem mvX10_puts : MV yX10_puts cX10_puts 2 none 1 := ⟨wd2139, wd92, by decide +kernel, by decide +kernel, by decide +kernel, by decide⟩
theorem wd2138 : Cond.instanceMethod yX10_puts ∈ gW := gW_in 2138 (by decide +kernel) (by decide +kernel)
theorem wd64 : Cond.selects yX10_puts.cls yX10_puts yX10_puts ∈ gW := gW_in 64 (by decide +kernel) (by decide +kernel)
theorem wd2136 : Cond.methodLink RX10 214 yX10_puts ∈ gW := gW_in 2136 (by decide +kernel) (by decide +kernel)
theorem wd2135 : Cond.code yX10_number cX10_number 2 none ∈ gW := gW_in 2135 (by decide +kernel) (by decide +kernel)
theorem mvX10_number : MV yX10_number cX10_number 2 none 1 := ⟨wd2135, wd92, by decide +kernel, by decide +kernel, by decide +kernel, by decide⟩
theorem wd2134 : Cond.instanceMethod yX10_number ∈ gW := gW_in 2134 (by decide +kernel) (by decide +kernel)
theorem wd63 : Cond.selects yX10_number.cls yX10_number yX10_number ∈ gW := gW_in 63 (by decide +kernel) (by decide +kernel)
theorem wd2132 : Cond.methodLink RX10 210 yX10_number ∈ gW := gW_in 2132 (by decide +kernel) (by decide +kernel)
theorem dX10_number_0 : decode cX10_number 0 = .ok (.iload_n 1, 1) := by decide +kernel
theorem dX10_number_1 : decode cX10_number 1 = .ok (.bipush 10, 2) := by decide +kernel
theorem dX10_number_3 : decode cX10_number 3 = .ok (.if_icmp .lt 11, 3) := by decide +kernel
theorem dX10_number_6 : decode cX10_number 6 = .ok (.aload_n 0, 1) := by decide +kernel
theorem dX10_number_7 : decode cX10_number 7 = .ok (.iload_n 1, 1) := by decide +kernel
theorem dX10_number_8 : decode cX10_number 8 = .ok (.bipush 10, 2) := by decide +kernel
theorem dX10_number_10 : decode cX10_number 10 = .ok (.idiv, 1) := by decide +kernel
theorem dX10_number_11 : decode cX10_number 11 = .ok (.invokevirtual 210, 3) := by decide +kernel
theorem dX10_number_14 : decode cX10_number 14 = .ok (.aload_n 0, 1) := by decide +kernel
theorem dX10_number_15 : decode cX10_number 15 = .ok (.bipush 48, 2) := by decide +kernel
theorem dX10_number_17 : decode cX10_number 17 = .ok (.iload_n 1, 1) := by decide +kernel
theorem dX10_number_18 : decode cX10_number 18 = .ok (.bipush 10, 2) := by decide +kernel
theorem dX10_number_20 : decode cX10_number 20 = .ok (.irem, 1) := by decide +kernel
theorem dX10_number_21 : decode cX10_number 21 = .ok (.iadd, 1) := by decide +kernel
theorem dX10_number_22 : decode cX10_number 22 = .ok (.invokevirtual 214, 3) := by decide +kernel
theorem dX10_number_25 : decode cX10_number 25 = .ok (.return_, 1) := by decide +kernel
theorem wd2141 : Cond.methodLink RX10 219 yJ0_charAt_5068e ∈ gW := gW_in 2141 (by decide +kernel) (by decide +kernel)
theorem dX10_writePilot_0 : decode cX10_writePilot 0 = .ok (.aload_n 0, 1) := by decide +kernel
theorem dX10_writePilot_1 : decode cX10_writePilot 1 = .ok (.aload_n 0, 1) := by decide +kernel
theorem dX10_writePilot_2 : decode cX10_writePilot 2 = .ok (.iload_n 1, 1) := by decide +kernel
theorem dX10_writePilot_3 : decode cX10_writePilot 3 = .ok (.invokevirtual 131, 3) := by decide +kernel
theorem dX10_writePilot_6 : decode cX10_writePilot 6 = .ok (.ifCond .ne 7, 3) := by decide +kernel
theorem dX10_writePilot_9 : decode cX10_writePilot 9 = .ok (.iconst 1, 1) := by decide +kernel
theorem dX10_writePilot_10 : decode cX10_writePilot 10 = .ok (.goto 4, 3) := by decide +kernel
theorem dX10_writePilot_13 : decode cX10_writePilot 13 = .ok (.iconst 0, 1) := by decide +kernel
theorem dX10_writePilot_14 : decode cX10_writePilot 14 = .ok (.iconst 1, 1) := by decide +kernel
theorem dX10_writePilot_15 : decode cX10_writePilot 15 = .ok (.invokevirtual 85, 3) := by decide +kernel
theorem dX10_writePilot_18 : decode cX10_writePilot 18 = .ok (.ifCond .eq 5, 3) := by decide +kernel
theorem dX10_writePilot_21 : decode cX10_writePilot 21 = .ok (.iconst 0, 1) := by decide +kernel
theorem dX10_writePilot_22 : decode cX10_writePilot 22 = .ok (.ireturn, 1) := by decide +kernel
theorem dX10_writePilot_23 : decode cX10_writePilot 23 = .ok (.aload_n 0, 1) := by decide +kernel
theorem dX10_writePilot_24 : decode cX10_writePilot 24 = .ok (.iconst 0, 1) := by decide +kernel
theorem dX10_writePilot_25 : decode cX10_writePilot 25 = .ok (.putfield 207, 3) := by decide +kernel
theorem dX10_writePilot_28 : decode cX10_writePilot 28 = .ok (.aload_n 0, 1) := by decide +kernel
theorem dX10_writePilot_29 : decode cX10_writePilot 29 = .ok (.iload_n 1, 1) := by decide +kernel
theorem dX10_writePilot_30 : decode cX10_writePilot 30 = .ok (.invokevirtual 210, 3) := by decide +kernel
theorem dX10_writePilot_33 : decode cX10_writePilot 33 = .ok (.aload_n 0, 1) := by decide +kernel
theorem dX10_writePilot_34 : decode cX10_writePilot 34 = .ok (.ldc 217, 2) := by decide +kernel
theorem dX10_writePilot_36 : decode cX10_writePilot 36 = .ok (.aload_n 0, 1) := by decide +kernel
theorem dX10_writePilot_37 : decode cX10_writePilot 37 = .ok (.iload_n 1, 1) := by decide +kernel
theorem dX10_writePilot_38 : decode cX10_writePilot 38 = .ok (.iconst 1, 1) := by decide +kernel
theorem dX10_writePilot_39 : decode cX10_writePilot 39 = .ok (.invokevirtual 78, 3) := by decide +kernel
theorem dX10_writePilot_42 : decode cX10_writePilot 42 = .ok (.invokevirtual 219, 3) := by decide +kernel
theorem dX10_writePilot_45 : decode cX10_writePilot 45 = .ok (.invokevirtual 214, 3) := by decide +kernel
theorem dX10_writePilot_48 : decode cX10_writePilot 48 = .ok (.aload_n 0, 1) := by decide +kernel
theorem dX10_writePilot_49 : decode cX10_writePilot 49 = .ok (.iload_n 1, 1) := by decide +kernel
theorem dX10_writePilot_50 : decode cX10_writePilot 50 = .ok (.iconst 1, 1) := by decide +kernel
theorem dX10_writePilot_51 : decode cX10_writePilot 51 = .ok (.invokevirtual 78, 3) := by decide +kernel
theorem dX10_writePilot_54 : decode cX10_writePilot 54 = .ok (.ifCond .ne 8, 3) := by decide +kernel
theorem dX10_writePilot_57 : decode cX10_writePilot 57 = .ok (.aload_n 0, 1) := by decide +kernel
theorem dX10_writePilot_58 : decode cX10_writePilot 58 = .ok (.getfield 207, 3) := by decide +kernel
theorem dX10_writePilot_61 : decode cX10_writePilot 61 = .ok (.ireturn, 1) := by decide +kernel
theorem dX10_writePilot_62 : decode cX10_writePilot 62 = .ok (.aload_n 0, 1) := by decide +kernel
theorem dX10_writePilot_63 : decode cX10_writePilot 63 = .ok (.aload_n 0, 1) := by decide +kernel
theorem dX10_writePilot_64 : decode cX10_writePilot 64 = .ok (.iload_n 1, 1) := by decide +kernel
theorem dX10_writePilot_65 : decode cX10_writePilot 65 = .ok (.iconst 2, 1) := by decide +kernel
theorem dX10_writePilot_66 : decode cX10_writePilot 66 = .ok (.invokevirtual 78, 3) := by decide +kernel
theorem dX10_writePilot_69 : decode cX10_writePilot 69 = .ok (.invokevirtual 210, 3) := by decide +kernel
theorem dX10_writePilot_72 : decode cX10_writePilot 72 = .ok (.aload_n 0, 1) := by decide +kernel
theorem dX10_writePilot_73 : decode cX10_writePilot 73 = .ok (.bipush 44, 2) := by decide +kernel
theorem dX10_writePilot_75 : decode cX10_writePilot 75 = .ok (.invokevirtual 214, 3) := by decide +kernel
theorem dX10_writePilot_78 : decode cX10_writePilot 78 = .ok (.aload_n 0, 1) := by decide +kernel
theorem dX10_writePilot_79 : decode cX10_writePilot 79 = .ok (.aload_n 0, 1) := by decide +kernel
theorem dX10_writePilot_80 : decode cX10_writePilot 80 = .ok (.iload_n 1, 1) := by decide +kernel
theorem dX10_writePilot_81 : decode cX10_writePilot 81 = .ok (.iconst 3, 1) := by decide +kernel
theorem dX10_writePilot_82 : decode cX10_writePilot 82 = .ok (.invokevirtual 78, 3) := by decide +kernel
theorem dX10_writePilot_85 : decode cX10_writePilot 85 = .ok (.invokevirtual 210, 3) := by decide +kernel
theorem dX10_writePilot_88 : decode cX10_writePilot 88 = .ok (.aload_n 0, 1) := by decide +kernel
theorem dX10_writePilot_89 : decode cX10_writePilot 89 = .ok (.bipush 32, 2) := by decide +kernel
theorem dX10_writePilot_91 : decode cX10_writePilot 91 = .ok (.invokevirtual 214, 3) := by decide +kernel
theorem dX10_writePilot_94 : decode cX10_writePilot 94 = .ok (.aload_n 0, 1) := by decide +kernel
theorem dX10_writePilot_95 : decode cX10_writePilot 95 = .ok (.aload_n 0, 1) := by decide +kernel
theorem dX10_writePilot_96 : decode cX10_writePilot 96 = .ok (.iload_n 1, 1) := by decide +kernel
theorem dX10_writePilot_97 : decode cX10_writePilot 97 = .ok (.iconst 4, 1) := by decide +kernel
theorem dX10_writePilot_98 : decode cX10_writePilot 98 = .ok (.invokevirtual 78, 3) := by decide +kernel
theorem dX10_writePilot_101 : decode cX10_writePilot 101 = .ok (.invokevirtual 210, 3) := by decide +kernel
theorem dX10_writePilot_104 : decode cX10_writePilot 104 = .ok (.aload_n 0, 1) := by decide +kernel
theorem dX10_writePilot_105 : decode cX10_writePilot 105 = .ok (.bipush 109, 2) := by decide +kernel
theorem dX10_writePilot_107 : decode cX10_writePilot 107 = .ok (.invokevirtual 214, 3) := by decide +kernel
theorem dX10_writePilot_110 : decode cX10_writePilot 110 = .ok (.aload_n 0, 1) := by decide +kernel
theorem dX10_writePilot_111 : decode cX10_writePilot 111 = .ok (.bipush 32, 2) := by decide +kernel
theorem dX10_writePilot_113 : decode cX10_writePilot 113 = .ok (.invokevirtual 214, 3) := by decide +kernel
theorem dX10_writePilot_116 : decode cX10_writePilot 116 = .ok (.aload_n 0, 1) := by decide +kernel
theorem dX10_writePilot_117 : decode cX10_writePilot 117 = .ok (.aload_n 0, 1) := by decide +kernel
theorem dX10_writePilot_118 : decode cX10_writePilot 118 = .ok (.iload_n 1, 1) := by decide +kernel
theorem dX10_writePilot_119 : decode cX10_writePilot 119 = .ok (.bipush 7, 2) := by decide +kernel
theorem dX10_writePilot_121 : decode cX10_writePilot 121 = .ok (.invokevirtual 78, 3) := by decide +kernel
theorem dX10_writePilot_124 : decode cX10_writePilot 124 = .ok (.invokevirtual 210, 3) := by decide +kernel
theorem dX10_writePilot_127 : decode cX10_writePilot 127 = .ok (.aload_n 0, 1) := by decide +kernel
theorem dX10_writePilot_128 : decode cX10_writePilot 128 = .ok (.bipush 47, 2) := by decide +kernel
theorem dX10_writePilot_130 : decode cX10_writePilot 130 = .ok (.invokevirtual 214, 3) := by decide +kernel
theorem dX10_writePilot_133 : decode cX10_writePilot 133 = .ok (.aload_n 0, 1) := by decide +kernel
theorem dX10_writePilot_134 : decode cX10_writePilot 134 = .ok (.aload_n 0, 1) := by decide +kernel
theorem dX10_writePilot_135 : decode cX10_writePilot 135 = .ok (.getfield 9, 3) := by decide +kernel
theorem dX10_writePilot_138 : decode cX10_writePilot 138 = .ok (.iconst 1, 1) := by decide +kernel
theorem dX10_writePilot_139 : decode cX10_writePilot 139 = .ok (.iaload, 1) := by decide +kernel
theorem dX10_writePilot_140 : decode cX10_writePilot 140 = .ok (.invokevirtual 210, 3) := by decide +kernel
theorem dX10_writePilot_143 : decode cX10_writePilot 143 = .ok (.aload_n 0, 1) := by decide +kernel
theorem dX10_writePilot_144 : decode cX10_writePilot 144 = .ok (.iload_n 1, 1) := by decide +kernel
theorem dX10_writePilot_145 : decode cX10_writePilot 145 = .ok (.bipush 6, 2) := by decide +kernel
theorem dX10_writePilot_147 : decode cX10_writePilot 147 = .ok (.invokevirtual 78, 3) := by decide +kernel
theorem dX10_writePilot_150 : decode cX10_writePilot 150 = .ok (.ifCond .le 26, 3) := by decide +kernel
theorem dX10_writePilot_153 : decode cX10_writePilot 153 = .ok (.aload_n 0, 1) := by decide +kernel
theorem dX10_writePilot_154 : decode cX10_writePilot 154 = .ok (.bipush 32, 2) := by decide +kernel
theorem dX10_writePilot_156 : decode cX10_writePilot 156 = .ok (.invokevirtual 214, 3) := by decide +kernel
theorem dX10_writePilot_159 : decode cX10_writePilot 159 = .ok (.aload_n 0, 1) := by decide +kernel
theorem dX10_writePilot_160 : decode cX10_writePilot 160 = .ok (.bipush 45, 2) := by decide +kernel
theorem dX10_writePilot_162 : decode cX10_writePilot 162 = .ok (.invokevirtual 214, 3) := by decide +kernel
theorem dX10_writePilot_165 : decode cX10_writePilot 165 = .ok (.aload_n 0, 1) := by decide +kernel
theorem dX10_writePilot_166 : decode cX10_writePilot 166 = .ok (.aload_n 0, 1) := by decide +kernel
theorem dX10_writePilot_167 : decode cX10_writePilot 167 = .ok (.iload_n 1, 1) := by decide +kernel
theorem dX10_writePilot_168 : decode cX10_writePilot 168 = .ok (.bipush 6, 2) := by decide +kernel
theorem dX10_writePilot_170 : decode cX10_writePilot 170 = .ok (.invokevirtual 78, 3) := by decide +kernel
theorem dX10_writePilot_173 : decode cX10_writePilot 173 = .ok (.invokevirtual 210, 3) := by decide +kernel
theorem dX10_writePilot_176 : decode cX10_writePilot 176 = .ok (.aload_n 0, 1) := by decide +kernel
theorem dX10_writePilot_177 : decode cX10_writePilot 177 = .ok (.getfield 207, 3) := by decide +kernel
theorem dX10_writePilot_180 : decode cX10_writePilot 180 = .ok (.ireturn, 1) := by decide +kernel
theorem dX10_writeTask_0 : decode cX10_writeTask 0 = .ok (.aload_n 0, 1) := by decide +kernel
theorem dX10_writeTask_1 : decode cX10_writeTask 1 = .ok (.iconst 0, 1) := by decide +kernel
theorem dX10_writeTask_2 : decode cX10_writeTask 2 = .ok (.putfield 41, 3) := by decide +kernel
theorem dX10_writeTask_5 : decode cX10_writeTask 5 = .ok (.aload_n 0, 1) := by decide +kernel
theorem dX10_writeTask_6 : decode cX10_writeTask 6 = .ok (.iconst 0, 1) := by decide +kernel
theorem dX10_writeTask_7 : decode cX10_writeTask 7 = .ok (.putfield 207, 3) := by decide +kernel
theorem dX10_writeTask_10 : decode cX10_writeTask 10 = .ok (.iconst 0, 1) := by decide +kernel
theorem dX10_writeTask_11 : decode cX10_writeTask 11 = .ok (.istore_n 1, 1) := by decide +kernel
theorem dX10_writeTask_12 : decode cX10_writeTask 12 = .ok (.iload_n 1, 1) := by decide +kernel
theorem dX10_writeTask_13 : decode cX10_writeTask 13 = .ok (.aload_n 0, 1) := by decide +kernel
theorem dX10_writeTask_14 : decode cX10_writeTask 14 = .ok (.getfield 9, 3) := by decide +kernel
theorem dX10_writeTask_17 : decode cX10_writeTask 17 = .ok (.iconst 1, 1) := by decide +kernel
theorem dX10_writeTask_18 : decode cX10_writeTask 18 = .ok (.iaload, 1) := by decide +kernel
theorem dX10_writeTask_19 : decode cX10_writeTask 19 = .ok (.if_icmp .ge 45, 3) := by decide +kernel
theorem dX10_writeTask_22 : decode cX10_writeTask 22 = .ok (.iload_n 1, 1) := by decide +kernel
theorem dX10_writeTask_23 : decode cX10_writeTask 23 = .ok (.ifCond .le 26, 3) := by decide +kernel
theorem dX10_writeTask_26 : decode cX10_writeTask 26 = .ok (.aload_n 0, 1) := by decide +kernel
theorem dX10_writeTask_27 : decode cX10_writeTask 27 = .ok (.bipush 45, 2) := by decide +kernel
theorem dX10_writeTask_29 : decode cX10_writeTask 29 = .ok (.invokevirtual 214, 3) := by decide +kernel
theorem dX10_writeTask_32 : decode cX10_writeTask 32 = .ok (.aload_n 0, 1) := by decide +kernel
theorem dX10_writeTask_33 : decode cX10_writeTask 33 = .ok (.aload_n 0, 1) := by decide +kernel
theorem dX10_writeTask_34 : decode cX10_writeTask 34 = .ok (.iload_n 1, 1) := by decide +kernel
theorem dX10_writeTask_35 : decode cX10_writeTask 35 = .ok (.iconst 1, 1) := by decide +kernel
theorem dX10_writeTask_36 : decode cX10_writeTask 36 = .ok (.isub, 1) := by decide +kernel
theorem dX10_writeTask_37 : decode cX10_writeTask 37 = .ok (.invokevirtual 72, 3) := by decide +kernel
theorem dX10_writeTask_40 : decode cX10_writeTask 40 = .ok (.invokevirtual 210, 3) := by decide +kernel
theorem dX10_writeTask_43 : decode cX10_writeTask 43 = .ok (.aload_n 0, 1) := by decide +kernel
theorem dX10_writeTask_44 : decode cX10_writeTask 44 = .ok (.bipush 62, 2) := by decide +kernel
theorem dX10_writeTask_46 : decode cX10_writeTask 46 = .ok (.invokevirtual 214, 3) := by decide +kernel
theorem dX10_writeTask_49 : decode cX10_writeTask 49 = .ok (.aload_n 0, 1) := by decide +kernel
theorem dX10_writeTask_50 : decode cX10_writeTask 50 = .ok (.aload_n 0, 1) := by decide +kernel
theorem dX10_writeTask_51 : decode cX10_writeTask 51 = .ok (.iload_n 1, 1) := by decide +kernel
theorem dX10_writeTask_52 : decode cX10_writeTask 52 = .ok (.invokevirtual 66, 3) := by decide +kernel
theorem dX10_writeTask_55 : decode cX10_writeTask 55 = .ok (.invokevirtual 210, 3) := by decide +kernel
theorem dX10_writeTask_58 : decode cX10_writeTask 58 = .ok (.iinc 1 1, 3) := by decide +kernel
theorem dX10_writeTask_61 : decode cX10_writeTask 61 = .ok (.goto (-49), 3) := by decide +kernel
theorem dX10_writeTask_64 : decode cX10_writeTask 64 = .ok (.aload_n 0, 1) := by decide +kernel
theorem dX10_writeTask_65 : decode cX10_writeTask 65 = .ok (.getfield 207, 3) := by decide +kernel
theorem dX10_writeTask_68 : decode cX10_writeTask 68 = .ok (.ireturn, 1) := by decide +kernel
theorem dX10_outputAt_0 : decode cX10_outputAt 0 = .ok (.aload_n 0, 1) := by decide +kernel
theorem dX10_outputAt_1 : decode cX10_outputAt 1 = .ok (.iload_n 1, 1) := by decide +kernel
theorem dX10_outputAt_2 : decode cX10_outputAt 2 = .ok (.iconst 0, 1) := by decide +kernel
theorem dX10_outputAt_3 : decode cX10_outputAt 3 = .ok (.aload_n 0, 1) := by decide +kernel
theorem dX10_outputAt_4 : decode cX10_outputAt 4 = .ok (.getfield 207, 3) := by decide +kernel
theorem dX10_outputAt_7 : decode cX10_outputAt 7 = .ok (.iconst 1, 1) := by decide +kernel
theorem dX10_outputAt_8 : decode cX10_outputAt 8 = .ok (.isub, 1) := by decide +kernel
theorem dX10_outputAt_9 : decode cX10_outputAt 9 = .ok (.invokestatic 51, 3) := by decide +kernel
theorem dX10_outputAt_12 : decode cX10_outputAt 12 = .ok (.ifCond .ne 7, 3) := by decide +kernel
theorem dX10_outputAt_15 : decode cX10_outputAt 15 = .ok (.iconst 1, 1) := by decide +kernel
theorem dX10_outputAt_16 : decode cX10_outputAt 16 = .ok (.goto 4, 3) := by decide +kernel
theorem dX10_outputAt_19 : decode cX10_outputAt 19 = .ok (.iconst 0, 1) := by decide +kernel
theorem dX10_outputAt_20 : decode cX10_outputAt 20 = .ok (.iconst 1, 1) := by decide +kernel
theorem dX10_outputAt_21 : decode cX10_outputAt 21 = .ok (.invokevirtual 85, 3) := by decide +kernel
theorem dX10_outputAt_24 : decode cX10_outputAt 24 = .ok (.ifCond .eq 7, 3) := by decide +kernel
theorem dX10_outputAt_27 : decode cX10_outputAt 27 = .ok (.iconst 0, 1) := by decide +kernel
theorem dX10_outputAt_28 : decode cX10_outputAt 28 = .ok (.goto 10, 3) := by decide +kernel
theorem dX10_outputAt_31 : decode cX10_outputAt 31 = .ok (.aload_n 0, 1) := by decide +kernel
theorem dX10_outputAt_32 : decode cX10_outputAt 32 = .ok (.getfield 32, 3) := by decide +kernel
theorem dX10_outputAt_35 : decode cX10_outputAt 35 = .ok (.iload_n 1, 1) := by decide +kernel
theorem dX10_outputAt_36 : decode cX10_outputAt 36 = .ok (.iaload, 1) := by decide +kernel
theorem dX10_outputAt_37 : decode cX10_outputAt 37 = .ok (.i2c, 1) := by decide +kernel
theorem dX10_outputAt_38 : decode cX10_outputAt 38 = .ok (.ireturn, 1) := by decide +kernel
theorem wd1724 : Cond.fieldLink RX10 225 (TX10 15).1 (TX10 15).2.1 (TX10 15).2.2.1 ∈ gW := gW_in 1724 (by decide +kernel) (by decide +kernel)
theorem wd1722 : Cond.fieldLink RX10 35 (TX10 13).1 (TX10 13).2.1 (TX10 13).2.2.1 ∈ gW := gW_in 1722 (by decide +kernel) (by decide +kernel)
theorem dX10_append_0 : decode cX10_append 0 = .ok (.aload_n 0, 1) := by decide +kernel
theorem dX10_append_1 : decode cX10_append 1 = .ok (.aload_n 0, 1) := by decide +kernel
theorem dX10_append_2 : decode cX10_append 2 = .ok (.getfield 225, 3) := by decide +kernel
theorem dX10_append_5 : decode cX10_append 5 = .ok (.bipush 60, 2) := by decide +kernel
theorem dX10_append_7 : decode cX10_append 7 = .ok (.if_icmp .ne 7, 3) := by decide +kernel
theorem dX10_append_10 : decode cX10_append 10 = .ok (.iconst 1, 1) := by decide +kernel
theorem dX10_append_11 : decode cX10_append 11 = .ok (.goto 4, 3) := by decide +kernel
theorem dX10_append_14 : decode cX10_append 14 = .ok (.iconst 0, 1) := by decide +kernel
theorem dX10_append_15 : decode cX10_append 15 = .ok (.iconst 1, 1) := by decide +kernel
theorem dX10_append_16 : decode cX10_append 16 = .ok (.invokevirtual 85, 3) := by decide +kernel
theorem dX10_append_19 : decode cX10_append 19 = .ok (.ifCond .eq 5, 3) := by decide +kernel
theorem dX10_append_22 : decode cX10_append 22 = .ok (.iconst 0, 1) := by decide +kernel
theorem dX10_append_23 : decode cX10_append 23 = .ok (.ireturn, 1) := by decide +kernel
theorem dX10_append_24 : decode cX10_append 24 = .ok (.aload_n 0, 1) := by decide +kernel
theorem dX10_append_25 : decode cX10_append 25 = .ok (.getfield 35, 3) := by decide +kernel
theorem dX10_append_28 : decode cX10_append 28 = .ok (.aload_n 0, 1) := by decide +kernel
theorem dX10_append_29 : decode cX10_append 29 = .ok (.getfield 225, 3) := by decide +kernel
theorem dX10_append_32 : decode cX10_append 32 = .ok (.iload_n 1, 1) := by decide +kernel
theorem dX10_append_33 : decode cX10_append 33 = .ok (.iastore, 1) := by decide +kernel
theorem dX10_append_34 : decode cX10_append 34 = .ok (.aload_n 0, 1) := by decide +kernel
theorem dX10_append_35 : decode cX10_append 35 = .ok (.dup, 1) := by decide +kernel
theorem dX10_append_36 : decode cX10_append 36 = .ok (.getfield 225, 3) := by decide +kernel
theorem dX10_append_39 : decode cX10_append 39 = .ok (.iconst 1, 1) := by decide +kernel
theorem dX10_append_40 : decode cX10_append 40 = .ok (.iadd, 1) := by decide +kernel
theorem dX10_append_41 : decode cX10_append 41 = .ok (.putfield 225, 3) := by decide +kernel
theorem dX10_append_44 : decode cX10_append 44 = .ok (.aload_n 0, 1) := by decide +kernel
theorem dX10_append_45 : decode cX10_append 45 = .ok (.getfield 225, 3) := by decide +kernel
theorem dX10_append_48 : decode cX10_append 48 = .ok (.ireturn, 1) := by decide +kernel
theorem wd1725 : Cond.fieldLink RX10 228 (TX10 16).1 (TX10 16).2.1 (TX10 16).2.2.1 ∈ gW := gW_in 1725 (by decide +kernel) (by decide +kernel)
theorem dX10_sign_0 : decode cX10_sign 0 = .ok (.aload_n 0, 1) := by decide +kernel
theorem dX10_sign_1 : decode cX10_sign 1 = .ok (.getfield 228, 3) := by decide +kernel
theorem dX10_sign_4 : decode cX10_sign 4 = .ok (.aload_n 0, 1) := by decide +kernel
theorem dX10_sign_5 : decode cX10_sign 5 = .ok (.getfield 225, 3) := by decide +kernel
theorem dX10_sign_8 : decode cX10_sign 8 = .ok (.if_icmp .ge 15, 3) := by decide +kernel
theorem dX10_sign_11 : decode cX10_sign 11 = .ok (.aload_n 0, 1) := by decide +kernel
theorem dX10_sign_12 : decode cX10_sign 12 = .ok (.getfield 35, 3) := by decide +kernel
theorem dX10_sign_15 : decode cX10_sign 15 = .ok (.aload_n 0, 1) := by decide +kernel
theorem dX10_sign_16 : decode cX10_sign 16 = .ok (.getfield 228, 3) := by decide +kernel
theorem dX10_sign_19 : decode cX10_sign 19 = .ok (.iaload, 1) := by decide +kernel
theorem dX10_sign_20 : decode cX10_sign 20 = .ok (.goto 4, 3) := by decide +kernel
theorem dX10_sign_23 : decode cX10_sign 23 = .ok (.iconst (-1), 1) := by decide +kernel
theorem dX10_sign_24 : decode cX10_sign 24 = .ok (.ireturn, 1) := by decide +kernel
theorem wd2169 : Cond.code yX10_sign cX10_sign 1 (some .int) ∈ gW := gW_in 2169 (by decide +kernel) (by decide +kernel)
theorem mvX10_sign : MV yX10_sign cX10_sign 1 (some .int) 0 := ⟨wd2169, wd92, by decide +kernel, by decide +kernel, by decide +kernel, by decide⟩
theorem wd2168 : Cond.instanceMethod yX10_sign ∈ gW := gW_in 2168 (by decide +kernel) (by decide +kernel)
theorem wd67 : Cond.selects yX10_sign.cls yX10_sign yX10_sign ∈ gW := gW_in 67 (by decide +kernel) (by decide +kernel)
theorem wd2166 : Cond.methodLink RX10 231 yX10_sign ∈ gW := gW_in 2166 (by decide +kernel) (by decide +kernel)
theorem dX10_isSign_0 : decode cX10_isSign 0 = .ok (.aload_n 0, 1) := by decide +kernel
theorem dX10_isSign_1 : decode cX10_isSign 1 = .ok (.invokevirtual 231, 3) := by decide +kernel
theorem dX10_isSign_4 : decode cX10_isSign 4 = .ok (.iload_n 1, 1) := by decide +kernel
theorem dX10_isSign_5 : decode cX10_isSign 5 = .ok (.if_icmp .ne 7, 3) := by decide +kernel
theorem dX10_isSign_8 : decode cX10_isSign 8 = .ok (.iconst 1, 1) := by decide +kernel
theorem dX10_isSign_9 : decode cX10_isSign 9 = .ok (.goto 4, 3) := by decide +kernel
theorem dX10_isSign_12 : decode cX10_isSign 12 = .ok (.iconst 0, 1) := by decide +kernel
theorem dX10_isSign_13 : decode cX10_isSign 13 = .ok (.istore_n 2, 1) := by decide +kernel
theorem dX10_isSign_14 : decode cX10_isSign 14 = .ok (.aload_n 0, 1) := by decide +kernel
theorem dX10_isSign_15 : decode cX10_isSign 15 = .ok (.dup, 1) := by decide +kernel
theorem dX10_isSign_16 : decode cX10_isSign 16 = .ok (.getfield 228, 3) := by decide +kernel
theorem dX10_isSign_19 : decode cX10_isSign 19 = .ok (.iload_n 2, 1) := by decide +kernel
theorem dX10_isSign_20 : decode cX10_isSign 20 = .ok (.ifCond .eq 7, 3) := by decide +kernel
theorem dX10_isSign_23 : decode cX10_isSign 23 = .ok (.iconst 1, 1) := by decide +kernel
theorem dX10_isSign_24 : decode cX10_isSign 24 = .ok (.goto 4, 3) := by decide +kernel
theorem dX10_isSign_27 : decode cX10_isSign 27 = .ok (.iconst 0, 1) := by decide +kernel
theorem dX10_isSign_28 : decode cX10_isSign 28 = .ok (.iadd, 1) := by decide +kernel
theorem dX10_isSign_29 : decode cX10_isSign 29 = .ok (.putfield 228, 3) := by decide +kernel
theorem dX10_isSign_32 : decode cX10_isSign 32 = .ok (.iload_n 2, 1) := by decide +kernel
theorem dX10_isSign_33 : decode cX10_isSign 33 = .ok (.ireturn, 1) := by decide +kernel
theorem wd1723 : Cond.fieldLink RX10 38 (TX10 14).1 (TX10 14).2.1 (TX10 14).2.2.1 ∈ gW := gW_in 1723 (by decide +kernel) (by decide +kernel)
theorem dX10_isNumber_0 : decode cX10_isNumber 0 = .ok (.iconst 0, 1) := by decide +kernel
theorem dX10_isNumber_1 : decode cX10_isNumber 1 = .ok (.istore_n 3, 1) := by decide +kernel
theorem dX10_isNumber_2 : decode cX10_isNumber 2 = .ok (.iconst 0, 1) := by decide +kernel
theorem dX10_isNumber_3 : decode cX10_isNumber 3 = .ok (.istore 4, 2) := by decide +kernel
theorem dX10_isNumber_5 : decode cX10_isNumber 5 = .ok (.iload 4, 2) := by decide +kernel
theorem dX10_isNumber_7 : decode cX10_isNumber 7 = .ok (.iload_n 1, 1) := by decide +kernel
theorem dX10_isNumber_8 : decode cX10_isNumber 8 = .ok (.if_icmp .ge 46, 3) := by decide +kernel
theorem dX10_isNumber_11 : decode cX10_isNumber 11 = .ok (.aload_n 0, 1) := by decide +kernel
theorem dX10_isNumber_12 : decode cX10_isNumber 12 = .ok (.invokevirtual 231, 3) := by decide +kernel
theorem dX10_isNumber_15 : decode cX10_isNumber 15 = .ok (.bipush 48, 2) := by decide +kernel
theorem dX10_isNumber_17 : decode cX10_isNumber 17 = .ok (.bipush 57, 2) := by decide +kernel
theorem dX10_isNumber_19 : decode cX10_isNumber 19 = .ok (.invokestatic 51, 3) := by decide +kernel
theorem dX10_isNumber_22 : decode cX10_isNumber 22 = .ok (.ifCond .eq 32, 3) := by decide +kernel
theorem dX10_isNumber_25 : decode cX10_isNumber 25 = .ok (.bipush 10, 2) := by decide +kernel
theorem dX10_isNumber_27 : decode cX10_isNumber 27 = .ok (.iload_n 3, 1) := by decide +kernel
theorem dX10_isNumber_28 : decode cX10_isNumber 28 = .ok (.imul, 1) := by decide +kernel
theorem dX10_isNumber_29 : decode cX10_isNumber 29 = .ok (.aload_n 0, 1) := by decide +kernel
theorem dX10_isNumber_30 : decode cX10_isNumber 30 = .ok (.invokevirtual 231, 3) := by decide +kernel
theorem dX10_isNumber_33 : decode cX10_isNumber 33 = .ok (.iadd, 1) := by decide +kernel
theorem dX10_isNumber_34 : decode cX10_isNumber 34 = .ok (.bipush 48, 2) := by decide +kernel
theorem dX10_isNumber_36 : decode cX10_isNumber 36 = .ok (.isub, 1) := by decide +kernel
theorem dX10_isNumber_37 : decode cX10_isNumber 37 = .ok (.istore_n 3, 1) := by decide +kernel
theorem dX10_isNumber_38 : decode cX10_isNumber 38 = .ok (.aload_n 0, 1) := by decide +kernel
theorem dX10_isNumber_39 : decode cX10_isNumber 39 = .ok (.dup, 1) := by decide +kernel
theorem dX10_isNumber_40 : decode cX10_isNumber 40 = .ok (.getfield 228, 3) := by decide +kernel
theorem dX10_isNumber_43 : decode cX10_isNumber 43 = .ok (.iconst 1, 1) := by decide +kernel
theorem dX10_isNumber_44 : decode cX10_isNumber 44 = .ok (.iadd, 1) := by decide +kernel
theorem dX10_isNumber_45 : decode cX10_isNumber 45 = .ok (.putfield 228, 3) := by decide +kernel
theorem dX10_isNumber_48 : decode cX10_isNumber 48 = .ok (.iinc 4 1, 3) := by decide +kernel
theorem dX10_isNumber_51 : decode cX10_isNumber 51 = .ok (.goto (-46), 3) := by decide +kernel
theorem dX10_isNumber_54 : decode cX10_isNumber 54 = .ok (.aload_n 0, 1) := by decide +kernel
theorem dX10_isNumber_55 : decode cX10_isNumber 55 = .ok (.getfield 38, 3) := by decide +kernel
theorem dX10_isNumber_58 : decode cX10_isNumber 58 = .ok (.iload_n 2, 1) := by decide +kernel
theorem dX10_isNumber_59 : decode cX10_isNumber 59 = .ok (.iload_n 3, 1) := by decide +kernel
theorem dX10_isNumber_60 : decode cX10_isNumber 60 = .ok (.iastore, 1) := by decide +kernel
theorem dX10_isNumber_61 : decode cX10_isNumber 61 = .ok (.iload 4, 2) := by decide +kernel
theorem dX10_isNumber_63 : decode cX10_isNumber 63 = .ok (.ifCond .le 7, 3) := by decide +kernel
theorem dX10_isNumber_66 : decode cX10_isNumber 66 = .ok (.iconst 1, 1) := by decide +kernel
theorem dX10_isNumber_67 : decode cX10_isNumber 67 = .ok (.goto 4, 3) := by decide +kernel
theorem dX10_isNumber_70 : decode cX10_isNumber 70 = .ok (.iconst 0, 1) := by decide +kernel
theorem dX10_isNumber_71 : decode cX10_isNumber 71 = .ok (.ireturn, 1) := by decide +kernel
theorem wd2184 : Cond.code yX10_isSign cX10_isSign 3 (some .boolean) ∈ gW := gW_in 2184 (by decide +kernel) (by decide +kernel)
theorem mvX10_isSign : MV yX10_isSign cX10_isSign 3 (some .boolean) 1 := ⟨wd2184, wd92, by decide +kernel, by decide +kernel, by decide +kernel, by decide⟩
theorem wd2183 : Cond.instanceMethod yX10_isSign ∈ gW := gW_in 2183 (by decide +kernel) (by decide +kernel)
theorem wd70 : Cond.selects yX10_isSign.cls yX10_isSign yX10_isSign ∈ gW := gW_in 70 (by decide +kernel) (by decide +kernel)
theorem wd2181 : Cond.methodLink RX10 234 yX10_isSign ∈ gW := gW_in 2181 (by decide +kernel) (by decide +kernel)
theorem wd2198 : Cond.code yX10_isNumber cX10_isNumber 5 (some .boolean) ∈ gW := gW_in 2198 (by decide +kernel) (by decide +kernel)
theorem mvX10_isNumber : MV yX10_isNumber cX10_isNumber 5 (some .boolean) 2 := ⟨wd2198, wd92, by decide +kernel, by decide +kernel, by decide +kernel, by decide⟩
theorem wd2197 : Cond.instanceMethod yX10_isNumber ∈ gW := gW_in 2197 (by decide +kernel) (by decide +kernel)
theorem wd73 : Cond.selects yX10_isNumber.cls yX10_isNumber yX10_isNumber ∈ gW := gW_in 73 (by decide +kernel) (by decide +kernel)
theorem wd2195 : Cond.methodLink RX10 237 yX10_isNumber ∈ gW := gW_in 2195 (by decide +kernel) (by decide +kernel)
theorem dX10_isSpaced_0 : decode cX10_isSpaced 0 = .ok (.aload_n 0, 1) := by decide +kernel
theorem dX10_isSpaced_1 : decode cX10_isSpaced 1 = .ok (.bipush 32, 2) := by decide +kernel
theorem dX10_isSpaced_3 : decode cX10_isSpaced 3 = .ok (.invokevirtual 234, 3) := by decide +kernel
theorem dX10_isSpaced_6 : decode cX10_isSpaced 6 = .ok (.ifCond .eq 16, 3) := by decide +kernel
theorem dX10_isSpaced_9 : decode cX10_isSpaced 9 = .ok (.aload_n 0, 1) := by decide +kernel
theorem dX10_isSpaced_10 : decode cX10_isSpaced 10 = .ok (.iload_n 1, 1) := by decide +kernel
theorem dX10_isSpaced_11 : decode cX10_isSpaced 11 = .ok (.iload_n 2, 1) := by decide +kernel
theorem dX10_isSpaced_12 : decode cX10_isSpaced 12 = .ok (.invokevirtual 237, 3) := by decide +kernel
theorem dX10_isSpaced_15 : decode cX10_isSpaced 15 = .ok (.ifCond .eq 7, 3) := by decide +kernel
theorem dX10_isSpaced_18 : decode cX10_isSpaced 18 = .ok (.iconst 1, 1) := by decide +kernel
theorem dX10_isSpaced_19 : decode cX10_isSpaced 19 = .ok (.goto 4, 3) := by decide +kernel
theorem dX10_isSpaced_22 : decode cX10_isSpaced 22 = .ok (.iconst 0, 1) := by decide +kernel
theorem dX10_isSpaced_23 : decode cX10_isSpaced 23 = .ok (.ireturn, 1) := by decide +kernel
theorem wd2190 : Cond.methodLink RX10 240 yJ0_length_8abf5 ∈ gW := gW_in 2190 (by decide +kernel) (by decide +kernel)
theorem dX10_isWord_0 : decode cX10_isWord 0 = .ok (.iconst 0, 1) := by decide +kernel
theorem dX10_isWord_1 : decode cX10_isWord 1 = .ok (.istore_n 2, 1) := by decide +kernel
theorem dX10_isWord_2 : decode cX10_isWord 2 = .ok (.iload_n 2, 1) := by decide +kernel
theorem dX10_isWord_3 : decode cX10_isWord 3 = .ok (.aload_n 1, 1) := by decide +kernel
theorem dX10_isWord_4 : decode cX10_isWord 4 = .ok (.invokevirtual 240, 3) := by decide +kernel
theorem dX10_isWord_7 : decode cX10_isWord 7 = .ok (.if_icmp .ge 23, 3) := by decide +kernel
theorem dX10_isWord_10 : decode cX10_isWord 10 = .ok (.aload_n 0, 1) := by decide +kernel
theorem dX10_isWord_11 : decode cX10_isWord 11 = .ok (.aload_n 1, 1) := by decide +kernel
theorem dX10_isWord_12 : decode cX10_isWord 12 = .ok (.iload_n 2, 1) := by decide +kernel
theorem dX10_isWord_13 : decode cX10_isWord 13 = .ok (.invokevirtual 219, 3) := by decide +kernel
theorem dX10_isWord_16 : decode cX10_isWord 16 = .ok (.invokevirtual 234, 3) := by decide +kernel
theorem dX10_isWord_19 : decode cX10_isWord 19 = .ok (.ifCond .ne 5, 3) := by decide +kernel
theorem dX10_isWord_22 : decode cX10_isWord 22 = .ok (.iconst 0, 1) := by decide +kernel
theorem dX10_isWord_23 : decode cX10_isWord 23 = .ok (.ireturn, 1) := by decide +kernel
theorem dX10_isWord_24 : decode cX10_isWord 24 = .ok (.iinc 2 1, 3) := by decide +kernel
theorem dX10_isWord_27 : decode cX10_isWord 27 = .ok (.goto (-25), 3) := by decide +kernel
theorem dX10_isWord_30 : decode cX10_isWord 30 = .ok (.iconst 1, 1) := by decide +kernel
theorem dX10_isWord_31 : decode cX10_isWord 31 = .ok (.ireturn, 1) := by decide +kernel
theorem dX10_isWay_0 : decode cX10_isWay 0 = .ok (.iconst 0, 1) := by decide +kernel
theorem dX10_isWay_1 : decode cX10_isWay 1 = .ok (.istore_n 2, 1) := by decide +kernel
theorem dX10_isWay_2 : decode cX10_isWay 2 = .ok (.iload_n 2, 1) := by decide +kernel
theorem dX10_isWay_3 : decode cX10_isWay 3 = .ok (.iconst 4, 1) := by decide +kernel
theorem dX10_isWay_4 : decode cX10_isWay 4 = .ok (.if_icmp .ge 31, 3) := by decide +kernel
theorem dX10_isWay_7 : decode cX10_isWay 7 = .ok (.aload_n 0, 1) := by decide +kernel
theorem dX10_isWay_8 : decode cX10_isWay 8 = .ok (.ldc 243, 2) := by decide +kernel
theorem dX10_isWay_10 : decode cX10_isWay 10 = .ok (.iload_n 2, 1) := by decide +kernel
theorem dX10_isWay_11 : decode cX10_isWay 11 = .ok (.invokevirtual 219, 3) := by decide +kernel
theorem dX10_isWay_14 : decode cX10_isWay 14 = .ok (.invokevirtual 234, 3) := by decide +kernel
theorem dX10_isWay_17 : decode cX10_isWay 17 = .ok (.ifCond .eq 12, 3) := by decide +kernel
theorem dX10_isWay_20 : decode cX10_isWay 20 = .ok (.aload_n 0, 1) := by decide +kernel
theorem dX10_isWay_21 : decode cX10_isWay 21 = .ok (.getfield 38, 3) := by decide +kernel
theorem dX10_isWay_24 : decode cX10_isWay 24 = .ok (.iload_n 1, 1) := by decide +kernel
theorem dX10_isWay_25 : decode cX10_isWay 25 = .ok (.iload_n 2, 1) := by decide +kernel
theorem dX10_isWay_26 : decode cX10_isWay 26 = .ok (.iastore, 1) := by decide +kernel
theorem dX10_isWay_27 : decode cX10_isWay 27 = .ok (.iconst 1, 1) := by decide +kernel
theorem dX10_isWay_28 : decode cX10_isWay 28 = .ok (.ireturn, 1) := by decide +kernel
theorem dX10_isWay_29 : decode cX10_isWay 29 = .ok (.iinc 2 1, 3) := by decide +kernel
theorem dX10_isWay_32 : decode cX10_isWay 32 = .ok (.goto (-30), 3) := by decide +kernel
theorem dX10_isWay_35 : decode cX10_isWay 35 = .ok (.iconst 0, 1) := by decide +kernel
theorem dX10_isWay_36 : decode cX10_isWay 36 = .ok (.ireturn, 1) := by decide +kernel
theorem wd2189 : Cond.code yX10_isWord cX10_isWord 3 (some .boolean) ∈ gW := gW_in 2189 (by decide +kernel) (by decide +kernel)
theorem mvX10_isWord : MV yX10_isWord cX10_isWord 3 (some .boolean) 1 := ⟨wd2189, wd92, by decide +kernel, by decide +kernel, by decide +kernel, by decide⟩
theorem wd2188 : Cond.instanceMethod yX10_isWord ∈ gW := gW_in 2188 (by decide +kernel) (by decide +kernel)
theorem wd71 : Cond.selects yX10_isWord.cls yX10_isWord yX10_isWord ∈ gW := gW_in 71 (by decide +kernel) (by decide +kernel)
theorem wd2186 : Cond.methodLink RX10 247 yX10_isWord ∈ gW := gW_in 2186 (by decide +kernel) (by decide +kernel)
theorem wd2194 : Cond.code yX10_isSpaced cX10_isSpaced 3 (some .boolean) ∈ gW := gW_in 2194 (by decide +kernel) (by decide +kernel)
theorem mvX10_isSpaced : MV yX10_isSpaced cX10_isSpaced 3 (some .boolean) 2 := ⟨wd2194, wd92, by decide +kernel, by decide +kernel, by decide +kernel, by decide⟩
theorem wd2193 : Cond.instanceMethod yX10_isSpaced ∈ gW := gW_in 2193 (by decide +kernel) (by decide +kernel)
theorem wd72 : Cond.selects yX10_isSpaced.cls yX10_isSpaced yX10_isSpaced ∈ gW := gW_in 72 (by decide +kernel) (by decide +kernel)
theorem wd2191 : Cond.methodLink RX10 251 yX10_isSpaced ∈ gW := gW_in 2191 (by decide +kernel) (by decide +kernel)
theorem dX10_readsP_0 : decode cX10_readsP 0 = .ok (.aload_n 0, 1) := by decide +kernel
theorem dX10_readsP_1 : decode cX10_readsP 1 = .ok (.bipush 111, 2) := by decide +kernel
theorem dX10_readsP_3 : decode cX10_readsP 3 = .ok (.invokevirtual 234, 3) := by decide +kernel
theorem dX10_readsP_6 : decode cX10_readsP 6 = .ok (.ifCond .eq 40, 3) := by decide +kernel
theorem dX10_readsP_9 : decode cX10_readsP 9 = .ok (.aload_n 0, 1) := by decide +kernel
theorem dX10_readsP_10 : decode cX10_readsP 10 = .ok (.ldc 245, 2) := by decide +kernel
theorem dX10_readsP_12 : decode cX10_readsP 12 = .ok (.invokevirtual 247, 3) := by decide +kernel
theorem dX10_readsP_15 : decode cX10_readsP 15 = .ok (.ifCond .eq 29, 3) := by decide +kernel
theorem dX10_readsP_18 : decode cX10_readsP 18 = .ok (.aload_n 0, 1) := by decide +kernel
theorem dX10_readsP_19 : decode cX10_readsP 19 = .ok (.iconst 2, 1) := by decide +kernel
theorem dX10_readsP_20 : decode cX10_readsP 20 = .ok (.iload_n 1, 1) := by decide +kernel
theorem dX10_readsP_21 : decode cX10_readsP 21 = .ok (.iconst 1, 1) := by decide +kernel
theorem dX10_readsP_22 : decode cX10_readsP 22 = .ok (.iadd, 1) := by decide +kernel
theorem dX10_readsP_23 : decode cX10_readsP 23 = .ok (.invokevirtual 251, 3) := by decide +kernel
theorem dX10_readsP_26 : decode cX10_readsP 26 = .ok (.ifCond .eq 18, 3) := by decide +kernel
theorem dX10_readsP_29 : decode cX10_readsP 29 = .ok (.aload_n 0, 1) := by decide +kernel
theorem dX10_readsP_30 : decode cX10_readsP 30 = .ok (.iconst 2, 1) := by decide +kernel
theorem dX10_readsP_31 : decode cX10_readsP 31 = .ok (.iload_n 1, 1) := by decide +kernel
theorem dX10_readsP_32 : decode cX10_readsP 32 = .ok (.iconst 2, 1) := by decide +kernel
theorem dX10_readsP_33 : decode cX10_readsP 33 = .ok (.iadd, 1) := by decide +kernel
theorem dX10_readsP_34 : decode cX10_readsP 34 = .ok (.invokevirtual 251, 3) := by decide +kernel
theorem dX10_readsP_37 : decode cX10_readsP 37 = .ok (.ifCond .eq 7, 3) := by decide +kernel
theorem dX10_readsP_40 : decode cX10_readsP 40 = .ok (.iconst 1, 1) := by decide +kernel
theorem dX10_readsP_41 : decode cX10_readsP 41 = .ok (.goto 4, 3) := by decide +kernel
theorem dX10_readsP_44 : decode cX10_readsP 44 = .ok (.iconst 0, 1) := by decide +kernel
theorem dX10_readsP_45 : decode cX10_readsP 45 = .ok (.ireturn, 1) := by decide +kernel
theorem dX10_readsP_46 : decode cX10_readsP 46 = .ok (.aload_n 0, 1) := by decide +kernel
theorem dX10_readsP_47 : decode cX10_readsP 47 = .ok (.getfield 38, 3) := by decide +kernel
theorem dX10_readsP_50 : decode cX10_readsP 50 = .ok (.iload_n 1, 1) := by decide +kernel
theorem dX10_readsP_51 : decode cX10_readsP 51 = .ok (.bipush 105, 2) := by decide +kernel
theorem dX10_readsP_53 : decode cX10_readsP 53 = .ok (.iastore, 1) := by decide +kernel
theorem dX10_readsP_54 : decode cX10_readsP 54 = .ok (.aload_n 0, 1) := by decide +kernel
theorem dX10_readsP_55 : decode cX10_readsP 55 = .ok (.ldc 254, 2) := by decide +kernel
theorem dX10_readsP_57 : decode cX10_readsP 57 = .ok (.invokevirtual 247, 3) := by decide +kernel
theorem dX10_readsP_60 : decode cX10_readsP 60 = .ok (.ifCond .eq 18, 3) := by decide +kernel
theorem dX10_readsP_63 : decode cX10_readsP 63 = .ok (.aload_n 0, 1) := by decide +kernel
theorem dX10_readsP_64 : decode cX10_readsP 64 = .ok (.iconst 2, 1) := by decide +kernel
theorem dX10_readsP_65 : decode cX10_readsP 65 = .ok (.iload_n 1, 1) := by decide +kernel
theorem dX10_readsP_66 : decode cX10_readsP 66 = .ok (.iconst 1, 1) := by decide +kernel
theorem dX10_readsP_67 : decode cX10_readsP 67 = .ok (.iadd, 1) := by decide +kernel
theorem dX10_readsP_68 : decode cX10_readsP 68 = .ok (.invokevirtual 251, 3) := by decide +kernel
theorem dX10_readsP_71 : decode cX10_readsP 71 = .ok (.ifCond .eq 7, 3) := by decide +kernel
theorem dX10_readsP_74 : decode cX10_readsP 74 = .ok (.iconst 1, 1) := by decide +kernel
theorem dX10_readsP_75 : decode cX10_readsP 75 = .ok (.goto 4, 3) := by decide +kernel
theorem dX10_readsP_78 : decode cX10_readsP 78 = .ok (.iconst 0, 1) := by decide +kernel
theorem dX10_readsP_79 : decode cX10_readsP 79 = .ok (.ireturn, 1) := by decide +kernel
theorem dX10_readsT_0 : decode cX10_readsT 0 = .ok (.aload_n 0, 1) := by decide +kernel
theorem dX10_readsT_1 : decode cX10_readsT 1 = .ok (.bipush 97, 2) := by decide +kernel
theorem dX10_readsT_3 : decode cX10_readsT 3 = .ok (.invokevirtual 234, 3) := by decide +kernel
theorem dX10_readsT_6 : decode cX10_readsT 6 = .ok (.ifCond .eq 30, 3) := by decide +kernel
theorem dX10_readsT_9 : decode cX10_readsT 9 = .ok (.aload_n 0, 1) := by decide +kernel
theorem dX10_readsT_10 : decode cX10_readsT 10 = .ok (.ldc_w 256, 3) := by decide +kernel
theorem dX10_readsT_13 : decode cX10_readsT 13 = .ok (.invokevirtual 247, 3) := by decide +kernel
theorem dX10_readsT_16 : decode cX10_readsT 16 = .ok (.ifCond .eq 18, 3) := by decide +kernel
theorem dX10_readsT_19 : decode cX10_readsT 19 = .ok (.aload_n 0, 1) := by decide +kernel
theorem dX10_readsT_20 : decode cX10_readsT 20 = .ok (.iconst 1, 1) := by decide +kernel
theorem dX10_readsT_21 : decode cX10_readsT 21 = .ok (.iload_n 1, 1) := by decide +kernel
theorem dX10_readsT_22 : decode cX10_readsT 22 = .ok (.iconst 1, 1) := by decide +kernel
theorem dX10_readsT_23 : decode cX10_readsT 23 = .ok (.iadd, 1) := by decide +kernel
theorem dX10_readsT_24 : decode cX10_readsT 24 = .ok (.invokevirtual 251, 3) := by decide +kernel
theorem dX10_readsT_27 : decode cX10_readsT 27 = .ok (.ifCond .eq 7, 3) := by decide +kernel
theorem dX10_readsT_30 : decode cX10_readsT 30 = .ok (.iconst 1, 1) := by decide +kernel
theorem dX10_readsT_31 : decode cX10_readsT 31 = .ok (.goto 4, 3) := by decide +kernel
theorem dX10_readsT_34 : decode cX10_readsT 34 = .ok (.iconst 0, 1) := by decide +kernel
theorem dX10_readsT_35 : decode cX10_readsT 35 = .ok (.ireturn, 1) := by decide +kernel
theorem dX10_readsT_36 : decode cX10_readsT 36 = .ok (.aload_n 0, 1) := by decide +kernel
theorem dX10_readsT_37 : decode cX10_readsT 37 = .ok (.getfield 38, 3) := by decide +kernel
theorem dX10_readsT_40 : decode cX10_readsT 40 = .ok (.iload_n 1, 1) := by decide +kernel
theorem dX10_readsT_41 : decode cX10_readsT 41 = .ok (.bipush 104, 2) := by decide +kernel
theorem dX10_readsT_43 : decode cX10_readsT 43 = .ok (.iastore, 1) := by decide +kernel
theorem dX10_readsT_44 : decode cX10_readsT 44 = .ok (.aload_n 0, 1) := by decide +kernel
theorem dX10_readsT_45 : decode cX10_readsT 45 = .ok (.ldc_w 258, 3) := by decide +kernel
theorem dX10_readsT_48 : decode cX10_readsT 48 = .ok (.invokevirtual 247, 3) := by decide +kernel
theorem dX10_readsT_51 : decode cX10_readsT 51 = .ok (.ifCond .eq 40, 3) := by decide +kernel
theorem dX10_readsT_54 : decode cX10_readsT 54 = .ok (.aload_n 0, 1) := by decide +kernel
theorem dX10_readsT_55 : decode cX10_readsT 55 = .ok (.iconst 2, 1) := by decide +kernel
theorem dX10_readsT_56 : decode cX10_readsT 56 = .ok (.iload_n 1, 1) := by decide +kernel
theorem dX10_readsT_57 : decode cX10_readsT 57 = .ok (.iconst 1, 1) := by decide +kernel
theorem dX10_readsT_58 : decode cX10_readsT 58 = .ok (.iadd, 1) := by decide +kernel
theorem dX10_readsT_59 : decode cX10_readsT 59 = .ok (.invokevirtual 251, 3) := by decide +kernel
theorem dX10_readsT_62 : decode cX10_readsT 62 = .ok (.ifCond .eq 29, 3) := by decide +kernel
theorem dX10_readsT_65 : decode cX10_readsT 65 = .ok (.aload_n 0, 1) := by decide +kernel
theorem dX10_readsT_66 : decode cX10_readsT 66 = .ok (.iconst 2, 1) := by decide +kernel
theorem dX10_readsT_67 : decode cX10_readsT 67 = .ok (.iload_n 1, 1) := by decide +kernel
theorem dX10_readsT_68 : decode cX10_readsT 68 = .ok (.iconst 2, 1) := by decide +kernel
theorem dX10_readsT_69 : decode cX10_readsT 69 = .ok (.iadd, 1) := by decide +kernel
theorem dX10_readsT_70 : decode cX10_readsT 70 = .ok (.invokevirtual 251, 3) := by decide +kernel
theorem dX10_readsT_73 : decode cX10_readsT 73 = .ok (.ifCond .eq 18, 3) := by decide +kernel
theorem dX10_readsT_76 : decode cX10_readsT 76 = .ok (.aload_n 0, 1) := by decide +kernel
theorem dX10_readsT_77 : decode cX10_readsT 77 = .ok (.iconst 1, 1) := by decide +kernel
theorem dX10_readsT_78 : decode cX10_readsT 78 = .ok (.iload_n 1, 1) := by decide +kernel
theorem dX10_readsT_79 : decode cX10_readsT 79 = .ok (.iconst 3, 1) := by decide +kernel
theorem dX10_readsT_80 : decode cX10_readsT 80 = .ok (.iadd, 1) := by decide +kernel
theorem dX10_readsT_81 : decode cX10_readsT 81 = .ok (.invokevirtual 251, 3) := by decide +kernel
theorem dX10_readsT_84 : decode cX10_readsT 84 = .ok (.ifCond .eq 7, 3) := by decide +kernel
theorem dX10_readsT_87 : decode cX10_readsT 87 = .ok (.iconst 1, 1) := by decide +kernel
theorem dX10_readsT_88 : decode cX10_readsT 88 = .ok (.goto 4, 3) := by decide +kernel
theorem dX10_readsT_91 : decode cX10_readsT 91 = .ok (.iconst 0, 1) := by decide +kernel
theorem dX10_readsT_92 : decode cX10_readsT 92 = .ok (.ireturn, 1) := by decide +kernel
theorem wd2203 : Cond.code yX10_readsT cX10_readsT 2 (some .boolean) ∈ gW := gW_in 2203 (by decide +kernel) (by decide +kernel)
theorem mvX10_readsT : MV yX10_readsT cX10_readsT 2 (some .boolean) 1 := ⟨wd2203, wd92, by decide +kernel, by decide +kernel, by decide +kernel, by decide⟩
theorem wd2202 : Cond.instanceMethod yX10_readsT ∈ gW := gW_in 2202 (by decide +kernel) (by decide +kernel)
theorem wd74 : Cond.selects yX10_readsT.cls yX10_readsT yX10_readsT ∈ gW := gW_in 74 (by decide +kernel) (by decide +kernel)
theorem wd2200 : Cond.methodLink RX10 263 yX10_readsT ∈ gW := gW_in 2200 (by decide +kernel) (by decide +kernel)
theorem wd2180 : Cond.code yX10_readsP cX10_readsP 2 (some .boolean) ∈ gW := gW_in 2180 (by decide +kernel) (by decide +kernel)
theorem mvX10_readsP : MV yX10_readsP cX10_readsP 2 (some .boolean) 1 := ⟨wd2180, wd92, by decide +kernel, by decide +kernel, by decide +kernel, by decide⟩
theorem wd2179 : Cond.instanceMethod yX10_readsP ∈ gW := gW_in 2179 (by decide +kernel) (by decide +kernel)
theorem wd69 : Cond.selects yX10_readsP.cls yX10_readsP yX10_readsP ∈ gW := gW_in 69 (by decide +kernel) (by decide +kernel)
theorem wd2177 : Cond.methodLink RX10 260 yX10_readsP ∈ gW := gW_in 2177 (by decide +kernel) (by decide +kernel)
theorem wd2212 : Cond.code yX10_isWay cX10_isWay 3 (some .boolean) ∈ gW := gW_in 2212 (by decide +kernel) (by decide +kernel)
theorem mvX10_isWay : MV yX10_isWay cX10_isWay 3 (some .boolean) 1 := ⟨wd2212, wd92, by decide +kernel, by decide +kernel, by decide +kernel, by decide⟩
theorem wd2211 : Cond.instanceMethod yX10_isWay ∈ gW := gW_in 2211 (by decide +kernel) (by decide +kernel)
theorem wd75 : Cond.selects yX10_isWay.cls yX10_isWay yX10_isWay ∈ gW := gW_in 75 (by decide +kernel) (by decide +kernel)
theorem wd2209 : Cond.methodLink RX10 272 yX10_isWay ∈ gW := gW_in 2209 (by decide +kernel) (by decide +kernel)
theorem dX10_readsRest_0 : decode cX10_readsRest 0 = .ok (.iload_n 1, 1) := by decide +kernel
theorem dX10_readsRest_1 : decode cX10_readsRest 1 = .ok (.tableswitch 289 97 116 #[107, 289, 251, 289, 289, 194, 289, 289, 289, 289, 289, 167, 289, 289, 289, 95, 289, 289, 289, 101], 95) := by decide +kernel
theorem dX10_readsRest_96 : decode cX10_readsRest 96 = .ok (.aload_n 0, 1) := by decide +kernel
theorem dX10_readsRest_97 : decode cX10_readsRest 97 = .ok (.iload_n 2, 1) := by decide +kernel
theorem dX10_readsRest_98 : decode cX10_readsRest 98 = .ok (.invokevirtual 260, 3) := by decide +kernel
theorem dX10_readsRest_101 : decode cX10_readsRest 101 = .ok (.ireturn, 1) := by decide +kernel
theorem dX10_readsRest_102 : decode cX10_readsRest 102 = .ok (.aload_n 0, 1) := by decide +kernel
theorem dX10_readsRest_103 : decode cX10_readsRest 103 = .ok (.iload_n 2, 1) := by decide +kernel
theorem dX10_readsRest_104 : decode cX10_readsRest 104 = .ok (.invokevirtual 263, 3) := by decide +kernel
theorem dX10_readsRest_107 : decode cX10_readsRest 107 = .ok (.ireturn, 1) := by decide +kernel
theorem dX10_readsRest_108 : decode cX10_readsRest 108 = .ok (.aload_n 0, 1) := by decide +kernel
theorem dX10_readsRest_109 : decode cX10_readsRest 109 = .ok (.ldc_w 266, 3) := by decide +kernel
theorem dX10_readsRest_112 : decode cX10_readsRest 112 = .ok (.invokevirtual 247, 3) := by decide +kernel
theorem dX10_readsRest_115 : decode cX10_readsRest 115 = .ok (.ifCond .eq 51, 3) := by decide +kernel
theorem dX10_readsRest_118 : decode cX10_readsRest 118 = .ok (.aload_n 0, 1) := by decide +kernel
theorem dX10_readsRest_119 : decode cX10_readsRest 119 = .ok (.iconst 2, 1) := by decide +kernel
theorem dX10_readsRest_120 : decode cX10_readsRest 120 = .ok (.iload_n 2, 1) := by decide +kernel
theorem dX10_readsRest_121 : decode cX10_readsRest 121 = .ok (.iconst 1, 1) := by decide +kernel
theorem dX10_readsRest_122 : decode cX10_readsRest 122 = .ok (.iadd, 1) := by decide +kernel
theorem dX10_readsRest_123 : decode cX10_readsRest 123 = .ok (.invokevirtual 251, 3) := by decide +kernel
theorem dX10_readsRest_126 : decode cX10_readsRest 126 = .ok (.ifCond .eq 40, 3) := by decide +kernel
theorem dX10_readsRest_129 : decode cX10_readsRest 129 = .ok (.aload_n 0, 1) := by decide +kernel
theorem dX10_readsRest_130 : decode cX10_readsRest 130 = .ok (.iconst 2, 1) := by decide +kernel
theorem dX10_readsRest_131 : decode cX10_readsRest 131 = .ok (.iload_n 2, 1) := by decide +kernel
theorem dX10_readsRest_132 : decode cX10_readsRest 132 = .ok (.iconst 2, 1) := by decide +kernel
theorem dX10_readsRest_133 : decode cX10_readsRest 133 = .ok (.iadd, 1) := by decide +kernel
theorem dX10_readsRest_134 : decode cX10_readsRest 134 = .ok (.invokevirtual 251, 3) := by decide +kernel
theorem dX10_readsRest_137 : decode cX10_readsRest 137 = .ok (.ifCond .eq 29, 3) := by decide +kernel
theorem dX10_readsRest_140 : decode cX10_readsRest 140 = .ok (.aload_n 0, 1) := by decide +kernel
theorem dX10_readsRest_141 : decode cX10_readsRest 141 = .ok (.iconst 2, 1) := by decide +kernel
theorem dX10_readsRest_142 : decode cX10_readsRest 142 = .ok (.iload_n 2, 1) := by decide +kernel
theorem dX10_readsRest_143 : decode cX10_readsRest 143 = .ok (.iconst 3, 1) := by decide +kernel
theorem dX10_readsRest_144 : decode cX10_readsRest 144 = .ok (.iadd, 1) := by decide +kernel
theorem dX10_readsRest_145 : decode cX10_readsRest 145 = .ok (.invokevirtual 251, 3) := by decide +kernel
theorem dX10_readsRest_148 : decode cX10_readsRest 148 = .ok (.ifCond .eq 18, 3) := by decide +kernel
theorem dX10_readsRest_151 : decode cX10_readsRest 151 = .ok (.aload_n 0, 1) := by decide +kernel
theorem dX10_readsRest_152 : decode cX10_readsRest 152 = .ok (.iconst 2, 1) := by decide +kernel
theorem dX10_readsRest_153 : decode cX10_readsRest 153 = .ok (.iload_n 2, 1) := by decide +kernel
theorem dX10_readsRest_154 : decode cX10_readsRest 154 = .ok (.iconst 4, 1) := by decide +kernel
theorem dX10_readsRest_155 : decode cX10_readsRest 155 = .ok (.iadd, 1) := by decide +kernel
theorem dX10_readsRest_156 : decode cX10_readsRest 156 = .ok (.invokevirtual 251, 3) := by decide +kernel
theorem dX10_readsRest_159 : decode cX10_readsRest 159 = .ok (.ifCond .eq 7, 3) := by decide +kernel
theorem dX10_readsRest_162 : decode cX10_readsRest 162 = .ok (.iconst 1, 1) := by decide +kernel
theorem dX10_readsRest_163 : decode cX10_readsRest 163 = .ok (.goto 4, 3) := by decide +kernel
theorem dX10_readsRest_166 : decode cX10_readsRest 166 = .ok (.iconst 0, 1) := by decide +kernel
theorem dX10_readsRest_167 : decode cX10_readsRest 167 = .ok (.ireturn, 1) := by decide +kernel
theorem dX10_readsRest_168 : decode cX10_readsRest 168 = .ok (.aload_n 0, 1) := by decide +kernel
theorem dX10_readsRest_169 : decode cX10_readsRest 169 = .ok (.ldc_w 268, 3) := by decide +kernel
theorem dX10_readsRest_172 : decode cX10_readsRest 172 = .ok (.invokevirtual 247, 3) := by decide +kernel
theorem dX10_readsRest_175 : decode cX10_readsRest 175 = .ok (.ifCond .eq 18, 3) := by decide +kernel
theorem dX10_readsRest_178 : decode cX10_readsRest 178 = .ok (.aload_n 0, 1) := by decide +kernel
theorem dX10_readsRest_179 : decode cX10_readsRest 179 = .ok (.iconst 1, 1) := by decide +kernel
theorem dX10_readsRest_180 : decode cX10_readsRest 180 = .ok (.iload_n 2, 1) := by decide +kernel
theorem dX10_readsRest_181 : decode cX10_readsRest 181 = .ok (.iconst 1, 1) := by decide +kernel
theorem dX10_readsRest_182 : decode cX10_readsRest 182 = .ok (.iadd, 1) := by decide +kernel
theorem dX10_readsRest_183 : decode cX10_readsRest 183 = .ok (.invokevirtual 251, 3) := by decide +kernel
theorem dX10_readsRest_186 : decode cX10_readsRest 186 = .ok (.ifCond .eq 7, 3) := by decide +kernel
theorem dX10_readsRest_189 : decode cX10_readsRest 189 = .ok (.iconst 1, 1) := by decide +kernel
theorem dX10_readsRest_190 : decode cX10_readsRest 190 = .ok (.goto 4, 3) := by decide +kernel
theorem dX10_readsRest_193 : decode cX10_readsRest 193 = .ok (.iconst 0, 1) := by decide +kernel
theorem dX10_readsRest_194 : decode cX10_readsRest 194 = .ok (.ireturn, 1) := by decide +kernel
theorem dX10_readsRest_195 : decode cX10_readsRest 195 = .ok (.aload_n 0, 1) := by decide +kernel
theorem dX10_readsRest_196 : decode cX10_readsRest 196 = .ok (.ldc_w 270, 3) := by decide +kernel
theorem dX10_readsRest_199 : decode cX10_readsRest 199 = .ok (.invokevirtual 247, 3) := by decide +kernel
theorem dX10_readsRest_202 : decode cX10_readsRest 202 = .ok (.ifCond .eq 48, 3) := by decide +kernel
theorem dX10_readsRest_205 : decode cX10_readsRest 205 = .ok (.aload_n 0, 1) := by decide +kernel
theorem dX10_readsRest_206 : decode cX10_readsRest 206 = .ok (.iconst 1, 1) := by decide +kernel
theorem dX10_readsRest_207 : decode cX10_readsRest 207 = .ok (.iload_n 2, 1) := by decide +kernel
theorem dX10_readsRest_208 : decode cX10_readsRest 208 = .ok (.iconst 1, 1) := by decide +kernel
theorem dX10_readsRest_209 : decode cX10_readsRest 209 = .ok (.iadd, 1) := by decide +kernel
theorem dX10_readsRest_210 : decode cX10_readsRest 210 = .ok (.invokevirtual 251, 3) := by decide +kernel
theorem dX10_readsRest_213 : decode cX10_readsRest 213 = .ok (.ifCond .eq 37, 3) := by decide +kernel
theorem dX10_readsRest_216 : decode cX10_readsRest 216 = .ok (.aload_n 0, 1) := by decide +kernel
theorem dX10_readsRest_217 : decode cX10_readsRest 217 = .ok (.bipush 32, 2) := by decide +kernel
theorem dX10_readsRest_219 : decode cX10_readsRest 219 = .ok (.invokevirtual 234, 3) := by decide +kernel
theorem dX10_readsRest_222 : decode cX10_readsRest 222 = .ok (.ifCond .eq 28, 3) := by decide +kernel
theorem dX10_readsRest_225 : decode cX10_readsRest 225 = .ok (.aload_n 0, 1) := by decide +kernel
theorem dX10_readsRest_226 : decode cX10_readsRest 226 = .ok (.iload_n 2, 1) := by decide +kernel
theorem dX10_readsRest_227 : decode cX10_readsRest 227 = .ok (.iconst 2, 1) := by decide +kernel
theorem dX10_readsRest_228 : decode cX10_readsRest 228 = .ok (.iadd, 1) := by decide +kernel
theorem dX10_readsRest_229 : decode cX10_readsRest 229 = .ok (.invokevirtual 272, 3) := by decide +kernel
theorem dX10_readsRest_232 : decode cX10_readsRest 232 = .ok (.ifCond .eq 18, 3) := by decide +kernel
theorem dX10_readsRest_235 : decode cX10_readsRest 235 = .ok (.aload_n 0, 1) := by decide +kernel
theorem dX10_readsRest_236 : decode cX10_readsRest 236 = .ok (.iconst 2, 1) := by decide +kernel
theorem dX10_readsRest_237 : decode cX10_readsRest 237 = .ok (.iload_n 2, 1) := by decide +kernel
theorem dX10_readsRest_238 : decode cX10_readsRest 238 = .ok (.iconst 3, 1) := by decide +kernel
theorem dX10_readsRest_239 : decode cX10_readsRest 239 = .ok (.iadd, 1) := by decide +kernel
theorem dX10_readsRest_240 : decode cX10_readsRest 240 = .ok (.invokevirtual 237, 3) := by decide +kernel
theorem dX10_readsRest_243 : decode cX10_readsRest 243 = .ok (.ifCond .eq 7, 3) := by decide +kernel
theorem dX10_readsRest_246 : decode cX10_readsRest 246 = .ok (.iconst 1, 1) := by decide +kernel
theorem dX10_readsRest_247 : decode cX10_readsRest 247 = .ok (.goto 4, 3) := by decide +kernel
theorem dX10_readsRest_250 : decode cX10_readsRest 250 = .ok (.iconst 0, 1) := by decide +kernel
theorem dX10_readsRest_251 : decode cX10_readsRest 251 = .ok (.ireturn, 1) := by decide +kernel
theorem dX10_readsRest_252 : decode cX10_readsRest 252 = .ok (.aload_n 0, 1) := by decide +kernel
theorem dX10_readsRest_253 : decode cX10_readsRest 253 = .ok (.ldc_w 275, 3) := by decide +kernel
theorem dX10_readsRest_256 : decode cX10_readsRest 256 = .ok (.invokevirtual 247, 3) := by decide +kernel
theorem dX10_readsRest_259 : decode cX10_readsRest 259 = .ok (.ifCond .eq 29, 3) := by decide +kernel
theorem dX10_readsRest_262 : decode cX10_readsRest 262 = .ok (.aload_n 0, 1) := by decide +kernel
theorem dX10_readsRest_263 : decode cX10_readsRest 263 = .ok (.iconst 1, 1) := by decide +kernel
theorem dX10_readsRest_264 : decode cX10_readsRest 264 = .ok (.iload_n 2, 1) := by decide +kernel
theorem dX10_readsRest_265 : decode cX10_readsRest 265 = .ok (.iconst 1, 1) := by decide +kernel
theorem dX10_readsRest_266 : decode cX10_readsRest 266 = .ok (.iadd, 1) := by decide +kernel
theorem dX10_readsRest_267 : decode cX10_readsRest 267 = .ok (.invokevirtual 251, 3) := by decide +kernel
theorem dX10_readsRest_270 : decode cX10_readsRest 270 = .ok (.ifCond .eq 18, 3) := by decide +kernel
theorem dX10_readsRest_273 : decode cX10_readsRest 273 = .ok (.aload_n 0, 1) := by decide +kernel
theorem dX10_readsRest_274 : decode cX10_readsRest 274 = .ok (.iconst 2, 1) := by decide +kernel
theorem dX10_readsRest_275 : decode cX10_readsRest 275 = .ok (.iload_n 2, 1) := by decide +kernel
theorem dX10_readsRest_276 : decode cX10_readsRest 276 = .ok (.iconst 2, 1) := by decide +kernel
theorem dX10_readsRest_277 : decode cX10_readsRest 277 = .ok (.iadd, 1) := by decide +kernel
theorem dX10_readsRest_278 : decode cX10_readsRest 278 = .ok (.invokevirtual 251, 3) := by decide +kernel
theorem dX10_readsRest_281 : decode cX10_readsRest 281 = .ok (.ifCond .eq 7, 3) := by decide +kernel
theorem dX10_readsRest_284 : decode cX10_readsRest 284 = .ok (.iconst 1, 1) := by decide +kernel
theorem dX10_readsRest_285 : decode cX10_readsRest 285 = .ok (.goto 4, 3) := by decide +kernel
theorem dX10_readsRest_288 : decode cX10_readsRest 288 = .ok (.iconst 0, 1) := by decide +kernel
theorem dX10_readsRest_289 : decode cX10_readsRest 289 = .ok (.ireturn, 1) := by decide +kernel
theorem dX10_readsRest_290 : decode cX10_readsRest 290 = .ok (.aload_n 0, 1) := by decide +kernel
theorem dX10_readsRest_291 : decode cX10_readsRest 291 = .ok (.ldc_w 277, 3) := by decide +kernel
theorem dX10_readsRest_294 : decode cX10_readsRest 294 = .ok (.invokevirtual 247, 3) := by decide +kernel
theorem dX10_readsRest_297 : decode cX10_readsRest 297 = .ok (.ireturn, 1) := by decide +kernel
theorem dX10_isFirst_0 : decode cX10_isFirst 0 = .ok (.iload_n 0, 1) := by decide +kernel
theorem dX10_isFirst_1 : decode cX10_isFirst 1 = .ok (.bipush 112, 2) := by decide +kernel
theorem dX10_isFirst_3 : decode cX10_isFirst 3 = .ok (.if_icmp .eq 39, 3) := by decide +kernel
theorem dX10_isFirst_6 : decode cX10_isFirst 6 = .ok (.iload_n 0, 1) := by decide +kernel
theorem dX10_isFirst_7 : decode cX10_isFirst 7 = .ok (.bipush 116, 2) := by decide +kernel
theorem dX10_isFirst_9 : decode cX10_isFirst 9 = .ok (.if_icmp .eq 33, 3) := by decide +kernel
theorem dX10_isFirst_12 : decode cX10_isFirst 12 = .ok (.iload_n 0, 1) := by decide +kernel
theorem dX10_isFirst_13 : decode cX10_isFirst 13 = .ok (.bipush 97, 2) := by decide +kernel
theorem dX10_isFirst_15 : decode cX10_isFirst 15 = .ok (.if_icmp .eq 27, 3) := by decide +kernel
theorem dX10_isFirst_18 : decode cX10_isFirst 18 = .ok (.iload_n 0, 1) := by decide +kernel
theorem dX10_isFirst_19 : decode cX10_isFirst 19 = .ok (.bipush 108, 2) := by decide +kernel
theorem dX10_isFirst_21 : decode cX10_isFirst 21 = .ok (.if_icmp .eq 21, 3) := by decide +kernel
theorem dX10_isFirst_24 : decode cX10_isFirst 24 = .ok (.iload_n 0, 1) := by decide +kernel
theorem dX10_isFirst_25 : decode cX10_isFirst 25 = .ok (.bipush 102, 2) := by decide +kernel
theorem dX10_isFirst_27 : decode cX10_isFirst 27 = .ok (.if_icmp .eq 15, 3) := by decide +kernel
theorem dX10_isFirst_30 : decode cX10_isFirst 30 = .ok (.iload_n 0, 1) := by decide +kernel
theorem dX10_isFirst_31 : decode cX10_isFirst 31 = .ok (.bipush 99, 2) := by decide +kernel
theorem dX10_isFirst_33 : decode cX10_isFirst 33 = .ok (.if_icmp .eq 9, 3) := by decide +kernel
theorem dX10_isFirst_36 : decode cX10_isFirst 36 = .ok (.iload_n 0, 1) := by decide +kernel
theorem dX10_isFirst_37 : decode cX10_isFirst 37 = .ok (.bipush 101, 2) := by decide +kernel
theorem dX10_isFirst_39 : decode cX10_isFirst 39 = .ok (.if_icmp .ne 7, 3) := by decide +kernel
theorem dX10_isFirst_42 : decode cX10_isFirst 42 = .ok (.iconst 1, 1) := by decide +kernel
theorem dX10_isFirst_43 : decode cX10_isFirst 43 = .ok (.goto 4, 3) := by decide +kernel
theorem dX10_isFirst_46 : decode cX10_isFirst 46 = .ok (.iconst 0, 1) := by decide +kernel
theorem dX10_isFirst_47 : decode cX10_isFirst 47 = .ok (.ireturn, 1) := by decide +kernel
theorem wd1726 : Cond.fieldLink RX10 279 (TX10 17).1 (TX10 17).2.1 (TX10 17).2.2.1 ∈ gW := gW_in 1726 (by decide +kernel) (by decide +kernel)
theorem wd2172 : Cond.code yX10_isFirst cX10_isFirst 1 (some .boolean) ∈ gW := gW_in 2172 (by decide +kernel) (by decide +kernel)
theorem mvX10_isFirst : MV yX10_isFirst cX10_isFirst 1 (some .boolean) 1 := ⟨wd2172, wd92, by decide +kernel, by decide +kernel, by decide +kernel, by decide⟩
theorem wd2171 : Cond.static yX10_isFirst ∈ gW := gW_in 2171 (by decide +kernel) (by decide +kernel)
theorem wd2170 : Cond.methodLink RX10 282 yX10_isFirst ∈ gW := gW_in 2170 (by decide +kernel) (by decide +kernel)
theorem wd2176 : Cond.code yX10_readsRest cX10_readsRest 3 (some .boolean) ∈ gW := gW_in 2176 (by decide +kernel) (by decide +kernel)
theorem mvX10_readsRest : MV yX10_readsRest cX10_readsRest 3 (some .boolean) 2 := ⟨wd2176, wd92, by decide +kernel, by decide +kernel, by decide +kernel, by decide⟩
theorem wd2175 : Cond.instanceMethod yX10_readsRest ∈ gW := gW_in 2175 (by decide +kernel) (by decide +kernel)
theorem wd68 : Cond.selects yX10_readsRest.cls yX10_readsRest yX10_readsRest ∈ gW := gW_in 68 (by decide +kernel) (by decide +kernel)
theorem wd2173 : Cond.methodLink RX10 285 yX10_readsRest ∈ gW := gW_in 2173 (by decide +kernel) (by decide +kernel)
theorem dX10_readsCommand_0 : decode cX10_readsCommand 0 = .ok (.iconst 5, 1) := by decide +kernel
theorem dX10_readsCommand_1 : decode cX10_readsCommand 1 = .ok (.aload_n 0, 1) := by decide +kernel
theorem dX10_readsCommand_2 : decode cX10_readsCommand 2 = .ok (.getfield 279, 3) := by decide +kernel
theorem dX10_readsCommand_5 : decode cX10_readsCommand 5 = .ok (.imul, 1) := by decide +kernel
theorem dX10_readsCommand_6 : decode cX10_readsCommand 6 = .ok (.istore_n 1, 1) := by decide +kernel
theorem dX10_readsCommand_7 : decode cX10_readsCommand 7 = .ok (.aload_n 0, 1) := by decide +kernel
theorem dX10_readsCommand_8 : decode cX10_readsCommand 8 = .ok (.invokevirtual 231, 3) := by decide +kernel
theorem dX10_readsCommand_11 : decode cX10_readsCommand 11 = .ok (.istore_n 2, 1) := by decide +kernel
theorem dX10_readsCommand_12 : decode cX10_readsCommand 12 = .ok (.iload_n 2, 1) := by decide +kernel
theorem dX10_readsCommand_13 : decode cX10_readsCommand 13 = .ok (.invokestatic 282, 3) := by decide +kernel
theorem dX10_readsCommand_16 : decode cX10_readsCommand 16 = .ok (.ifCond .ne 5, 3) := by decide +kernel
theorem dX10_readsCommand_19 : decode cX10_readsCommand 19 = .ok (.iconst 0, 1) := by decide +kernel
theorem dX10_readsCommand_20 : decode cX10_readsCommand 20 = .ok (.ireturn, 1) := by decide +kernel
theorem dX10_readsCommand_21 : decode cX10_readsCommand 21 = .ok (.aload_n 0, 1) := by decide +kernel
theorem dX10_readsCommand_22 : decode cX10_readsCommand 22 = .ok (.getfield 38, 3) := by decide +kernel
theorem dX10_readsCommand_25 : decode cX10_readsCommand 25 = .ok (.iload_n 1, 1) := by decide +kernel
theorem dX10_readsCommand_26 : decode cX10_readsCommand 26 = .ok (.iload_n 2, 1) := by decide +kernel
theorem dX10_readsCommand_27 : decode cX10_readsCommand 27 = .ok (.iastore, 1) := by decide +kernel
theorem dX10_readsCommand_28 : decode cX10_readsCommand 28 = .ok (.aload_n 0, 1) := by decide +kernel
theorem dX10_readsCommand_29 : decode cX10_readsCommand 29 = .ok (.dup, 1) := by decide +kernel
theorem dX10_readsCommand_30 : decode cX10_readsCommand 30 = .ok (.getfield 228, 3) := by decide +kernel
theorem dX10_readsCommand_33 : decode cX10_readsCommand 33 = .ok (.iconst 1, 1) := by decide +kernel
theorem dX10_readsCommand_34 : decode cX10_readsCommand 34 = .ok (.iadd, 1) := by decide +kernel
theorem dX10_readsCommand_35 : decode cX10_readsCommand 35 = .ok (.putfield 228, 3) := by decide +kernel
theorem dX10_readsCommand_38 : decode cX10_readsCommand 38 = .ok (.aload_n 0, 1) := by decide +kernel
theorem dX10_readsCommand_39 : decode cX10_readsCommand 39 = .ok (.dup, 1) := by decide +kernel
theorem dX10_readsCommand_40 : decode cX10_readsCommand 40 = .ok (.getfield 279, 3) := by decide +kernel
theorem dX10_readsCommand_43 : decode cX10_readsCommand 43 = .ok (.iconst 1, 1) := by decide +kernel
theorem dX10_readsCommand_44 : decode cX10_readsCommand 44 = .ok (.iadd, 1) := by decide +kernel
theorem dX10_readsCommand_45 : decode cX10_readsCommand 45 = .ok (.putfield 279, 3) := by decide +kernel
theorem dX10_readsCommand_48 : decode cX10_readsCommand 48 = .ok (.aload_n 0, 1) := by decide +kernel
theorem dX10_readsCommand_49 : decode cX10_readsCommand 49 = .ok (.iload_n 2, 1) := by decide +kernel
theorem dX10_readsCommand_50 : decode cX10_readsCommand 50 = .ok (.iload_n 1, 1) := by decide +kernel
theorem dX10_readsCommand_51 : decode cX10_readsCommand 51 = .ok (.invokevirtual 285, 3) := by decide +kernel
theorem dX10_readsCommand_54 : decode cX10_readsCommand 54 = .ok (.ireturn, 1) := by decide +kernel
theorem wd2165 : Cond.code yX10_readsCommand cX10_readsCommand 3 (some .boolean) ∈ gW := gW_in 2165 (by decide +kernel) (by decide +kernel)
theorem mvX10_readsCommand : MV yX10_readsCommand cX10_readsCommand 3 (some .boolean) 0 := ⟨wd2165, wd92, by decide +kernel, by decide +kernel, by decide +kernel, by decide⟩
theorem wd2164 : Cond.instanceMethod yX10_readsCommand ∈ gW := gW_in 2164 (by decide +kernel) (by decide +kernel)
theorem wd66 : Cond.selects yX10_readsCommand.cls yX10_readsCommand yX10_readsCommand ∈ gW := gW_in 66 (by decide +kernel) (by decide +kernel)
theorem wd2162 : Cond.methodLink RX10 288 yX10_readsCommand ∈ gW := gW_in 2162 (by decide +kernel) (by decide +kernel)
theorem dX10_isProgram_0 : decode cX10_isProgram 0 = .ok (.aload_n 0, 1) := by decide +kernel
theorem dX10_isProgram_1 : decode cX10_isProgram 1 = .ok (.iconst 0, 1) := by decide +kernel
theorem dX10_isProgram_2 : decode cX10_isProgram 2 = .ok (.putfield 228, 3) := by decide +kernel
theorem dX10_isProgram_5 : decode cX10_isProgram 5 = .ok (.aload_n 0, 1) := by decide +kernel
theorem dX10_isProgram_6 : decode cX10_isProgram 6 = .ok (.iconst 0, 1) := by decide +kernel
theorem dX10_isProgram_7 : decode cX10_isProgram 7 = .ok (.putfield 279, 3) := by decide +kernel
theorem dX10_isProgram_10 : decode cX10_isProgram 10 = .ok (.aload_n 0, 1) := by decide +kernel
theorem dX10_isProgram_11 : decode cX10_isProgram 11 = .ok (.invokevirtual 288, 3) := by decide +kernel
theorem dX10_isProgram_14 : decode cX10_isProgram 14 = .ok (.istore_n 1, 1) := by decide +kernel
theorem dX10_isProgram_15 : decode cX10_isProgram 15 = .ok (.iload_n 1, 1) := by decide +kernel
theorem dX10_isProgram_16 : decode cX10_isProgram 16 = .ok (.ifCond .eq 20, 3) := by decide +kernel
theorem dX10_isProgram_19 : decode cX10_isProgram 19 = .ok (.aload_n 0, 1) := by decide +kernel
theorem dX10_isProgram_20 : decode cX10_isProgram 20 = .ok (.bipush 59, 2) := by decide +kernel
theorem dX10_isProgram_22 : decode cX10_isProgram 22 = .ok (.invokevirtual 234, 3) := by decide +kernel
theorem dX10_isProgram_25 : decode cX10_isProgram 25 = .ok (.ifCond .eq 11, 3) := by decide +kernel
theorem dX10_isProgram_28 : decode cX10_isProgram 28 = .ok (.aload_n 0, 1) := by decide +kernel
theorem dX10_isProgram_29 : decode cX10_isProgram 29 = .ok (.invokevirtual 288, 3) := by decide +kernel
theorem dX10_isProgram_32 : decode cX10_isProgram 32 = .ok (.istore_n 1, 1) := by decide +kernel
theorem dX10_isProgram_33 : decode cX10_isProgram 33 = .ok (.goto (-18), 3) := by decide +kernel
theorem dX10_isProgram_36 : decode cX10_isProgram 36 = .ok (.iload_n 1, 1) := by decide +kernel
theorem dX10_isProgram_37 : decode cX10_isProgram 37 = .ok (.ifCond .eq 18, 3) := by decide +kernel
theorem dX10_isProgram_40 : decode cX10_isProgram 40 = .ok (.aload_n 0, 1) := by decide +kernel
theorem dX10_isProgram_41 : decode cX10_isProgram 41 = .ok (.getfield 228, 3) := by decide +kernel
theorem dX10_isProgram_44 : decode cX10_isProgram 44 = .ok (.aload_n 0, 1) := by decide +kernel
theorem dX10_isProgram_45 : decode cX10_isProgram 45 = .ok (.getfield 225, 3) := by decide +kernel
theorem dX10_isProgram_48 : decode cX10_isProgram 48 = .ok (.if_icmp .ne 7, 3) := by decide +kernel
theorem dX10_isProgram_51 : decode cX10_isProgram 51 = .ok (.iconst 1, 1) := by decide +kernel
theorem dX10_isProgram_52 : decode cX10_isProgram 52 = .ok (.goto 4, 3) := by decide +kernel
theorem dX10_isProgram_55 : decode cX10_isProgram 55 = .ok (.iconst 0, 1) := by decide +kernel
theorem dX10_isProgram_56 : decode cX10_isProgram 56 = .ok (.ireturn, 1) := by decide +kernel
theorem dX10_does_0 : decode cX10_does 0 = .ok (.aload_n 0, 1) := by decide +kernel
theorem dX10_does_1 : decode cX10_does 1 = .ok (.getfield 38, 3) := by decide +kernel
theorem dX10_does_4 : decode cX10_does 4 = .ok (.iload_n 1, 1) := by decide +kernel
theorem dX10_does_5 : decode cX10_does 5 = .ok (.iconst 1, 1) := by decide +kernel
theorem dX10_does_6 : decode cX10_does 6 = .ok (.iadd, 1) := by decide +kernel
theorem dX10_does_7 : decode cX10_does 7 = .ok (.iaload, 1) := by decide +kernel
theorem dX10_does_8 : decode cX10_does 8 = .ok (.istore_n 2, 1) := by decide +kernel
theorem dX10_does_9 : decode cX10_does 9 = .ok (.aload_n 0, 1) := by decide +kernel
theorem dX10_does_10 : decode cX10_does 10 = .ok (.getfield 38, 3) := by decide +kernel
theorem dX10_does_13 : decode cX10_does 13 = .ok (.iload_n 1, 1) := by decide +kernel
theorem dX10_does_14 : decode cX10_does 14 = .ok (.iconst 2, 1) := by decide +kernel
theorem dX10_does_15 : decode cX10_does 15 = .ok (.iadd, 1) := by decide +kernel
theorem dX10_does_16 : decode cX10_does 16 = .ok (.iaload, 1) := by decide +kernel
theorem dX10_does_17 : decode cX10_does 17 = .ok (.istore_n 3, 1) := by decide +kernel
theorem dX10_does_18 : decode cX10_does 18 = .ok (.aload_n 0, 1) := by decide +kernel
theorem dX10_does_19 : decode cX10_does 19 = .ok (.getfield 38, 3) := by decide +kernel
theorem dX10_does_22 : decode cX10_does 22 = .ok (.iload_n 1, 1) := by decide +kernel
theorem dX10_does_23 : decode cX10_does 23 = .ok (.iconst 3, 1) := by decide +kernel
theorem dX10_does_24 : decode cX10_does 24 = .ok (.iadd, 1) := by decide +kernel
theorem dX10_does_25 : decode cX10_does 25 = .ok (.iaload, 1) := by decide +kernel
theorem dX10_does_26 : decode cX10_does 26 = .ok (.istore 4, 2) := by decide +kernel
theorem dX10_does_28 : decode cX10_does 28 = .ok (.aload_n 0, 1) := by decide +kernel
theorem dX10_does_29 : decode cX10_does 29 = .ok (.getfield 38, 3) := by decide +kernel
theorem dX10_does_32 : decode cX10_does 32 = .ok (.iload_n 1, 1) := by decide +kernel
theorem dX10_does_33 : decode cX10_does 33 = .ok (.iaload, 1) := by decide +kernel
theorem dX10_does_34 : decode cX10_does 34 = .ok (.tableswitch 161 97 116 #[116, 161, 154, 161, 161, 145, 161, 107, 133, 161, 161, 139, 161, 161, 161, 94, 161, 161, 161, 101], 94) := by decide +kernel
theorem dX10_does_128 : decode cX10_does 128 = .ok (.aload_n 0, 1) := by decide +kernel
theorem dX10_does_129 : decode cX10_does 129 = .ok (.iload_n 2, 1) := by decide +kernel
theorem dX10_does_130 : decode cX10_does 130 = .ok (.iload_n 3, 1) := by decide +kernel
theorem dX10_does_131 : decode cX10_does 131 = .ok (.invokevirtual 92, 3) := by decide +kernel
theorem dX10_does_134 : decode cX10_does 134 = .ok (.ireturn, 1) := by decide +kernel
theorem dX10_does_135 : decode cX10_does 135 = .ok (.aload_n 0, 1) := by decide +kernel
theorem dX10_does_136 : decode cX10_does 136 = .ok (.iload_n 2, 1) := by decide +kernel
theorem dX10_does_137 : decode cX10_does 137 = .ok (.invokevirtual 106, 3) := by decide +kernel
theorem dX10_does_140 : decode cX10_does 140 = .ok (.ireturn, 1) := by decide +kernel
theorem dX10_does_141 : decode cX10_does 141 = .ok (.aload_n 0, 1) := by decide +kernel
theorem dX10_does_142 : decode cX10_does 142 = .ok (.iload_n 2, 1) := by decide +kernel
theorem dX10_does_143 : decode cX10_does 143 = .ok (.iload_n 3, 1) := by decide +kernel
theorem dX10_does_144 : decode cX10_does 144 = .ok (.iload 4, 2) := by decide +kernel
theorem dX10_does_146 : decode cX10_does 146 = .ok (.invokevirtual 113, 3) := by decide +kernel
theorem dX10_does_149 : decode cX10_does 149 = .ok (.ireturn, 1) := by decide +kernel
theorem dX10_does_150 : decode cX10_does 150 = .ok (.aload_n 0, 1) := by decide +kernel
theorem dX10_does_151 : decode cX10_does 151 = .ok (.iload_n 2, 1) := by decide +kernel
theorem dX10_does_152 : decode cX10_does 152 = .ok (.iload_n 3, 1) := by decide +kernel
theorem dX10_does_153 : decode cX10_does 153 = .ok (.iload 4, 2) := by decide +kernel
theorem dX10_does_155 : decode cX10_does 155 = .ok (.aload_n 0, 1) := by decide +kernel
theorem dX10_does_156 : decode cX10_does 156 = .ok (.getfield 38, 3) := by decide +kernel
theorem dX10_does_159 : decode cX10_does 159 = .ok (.iload_n 1, 1) := by decide +kernel
theorem dX10_does_160 : decode cX10_does 160 = .ok (.iconst 4, 1) := by decide +kernel
theorem dX10_does_161 : decode cX10_does 161 = .ok (.iadd, 1) := by decide +kernel
theorem dX10_does_162 : decode cX10_does 162 = .ok (.iaload, 1) := by decide +kernel
theorem dX10_does_163 : decode cX10_does 163 = .ok (.invokevirtual 120, 3) := by decide +kernel
theorem dX10_does_166 : decode cX10_does 166 = .ok (.ireturn, 1) := by decide +kernel
theorem dX10_does_167 : decode cX10_does 167 = .ok (.aload_n 0, 1) := by decide +kernel
theorem dX10_does_168 : decode cX10_does 168 = .ok (.iload_n 2, 1) := by decide +kernel
theorem dX10_does_169 : decode cX10_does 169 = .ok (.invokevirtual 128, 3) := by decide +kernel
theorem dX10_does_172 : decode cX10_does 172 = .ok (.ireturn, 1) := by decide +kernel
theorem dX10_does_173 : decode cX10_does 173 = .ok (.aload_n 0, 1) := by decide +kernel
theorem dX10_does_174 : decode cX10_does 174 = .ok (.iload_n 2, 1) := by decide +kernel
theorem dX10_does_175 : decode cX10_does 175 = .ok (.invokevirtual 137, 3) := by decide +kernel
theorem dX10_does_178 : decode cX10_does 178 = .ok (.ireturn, 1) := by decide +kernel
theorem dX10_does_179 : decode cX10_does 179 = .ok (.aload_n 0, 1) := by decide +kernel
theorem dX10_does_180 : decode cX10_does 180 = .ok (.iload_n 2, 1) := by decide +kernel
theorem dX10_does_181 : decode cX10_does 181 = .ok (.iload_n 3, 1) := by decide +kernel
theorem dX10_does_182 : decode cX10_does 182 = .ok (.iload 4, 2) := by decide +kernel
theorem dX10_does_184 : decode cX10_does 184 = .ok (.invokevirtual 159, 3) := by decide +kernel
theorem dX10_does_187 : decode cX10_does 187 = .ok (.ireturn, 1) := by decide +kernel
theorem dX10_does_188 : decode cX10_does 188 = .ok (.aload_n 0, 1) := by decide +kernel
theorem dX10_does_189 : decode cX10_does 189 = .ok (.iload_n 2, 1) := by decide +kernel
theorem dX10_does_190 : decode cX10_does 190 = .ok (.iload_n 3, 1) := by decide +kernel
theorem dX10_does_191 : decode cX10_does 191 = .ok (.invokevirtual 165, 3) := by decide +kernel
theorem dX10_does_194 : decode cX10_does 194 = .ok (.ireturn, 1) := by decide +kernel
theorem dX10_does_195 : decode cX10_does 195 = .ok (.aload_n 0, 1) := by decide +kernel
theorem dX10_does_196 : decode cX10_does 196 = .ok (.invokevirtual 183, 3) := by decide +kernel
theorem dX10_does_199 : decode cX10_does 199 = .ok (.ireturn, 1) := by decide +kernel
theorem wd2161 : Cond.code yX10_isProgram cX10_isProgram 2 (some .boolean) ∈ gW := gW_in 2161 (by decide +kernel) (by decide +kernel)
theorem mvX10_isProgram : MV yX10_isProgram cX10_isProgram 2 (some .boolean) 0 := ⟨wd2161, wd92, by decide +kernel, by decide +kernel, by decide +kernel, by decide⟩
theorem wd2160 : Cond.instanceMethod yX10_isProgram ∈ gW := gW_in 2160 (by decide +kernel) (by decide +kernel)
theorem wd65 : Cond.selects yX10_isProgram.cls yX10_isProgram yX10_isProgram ∈ gW := gW_in 65 (by decide +kernel) (by decide +kernel)
theorem wd2158 : Cond.methodLink RX10 291 yX10_isProgram ∈ gW := gW_in 2158 (by decide +kernel) (by decide +kernel)
theorem wd2219 : Cond.code yX10_does cX10_does 5 (some .int) ∈ gW := gW_in 2219 (by decide +kernel) (by decide +kernel)
theorem mvX10_does : MV yX10_does cX10_does 5 (some .int) 1 := ⟨wd2219, wd92, by decide +kernel, by decide +kernel, by decide +kernel, by decide⟩
theorem wd2218 : Cond.instanceMethod yX10_does ∈ gW := gW_in 2218 (by decide +kernel) (by decide +kernel)
theorem wd76 : Cond.selects yX10_does.cls yX10_does yX10_does ∈ gW := gW_in 76 (by decide +kernel) (by decide +kernel)
theorem wd2216 : Cond.methodLink RX10 294 yX10_does ∈ gW := gW_in 2216 (by decide +kernel) (by decide +kernel)
theorem wd1717 : Cond.fieldLink RX10 297 (TX10 8).1 (TX10 8).2.1 (TX10 8).2.2.1 ∈ gW := gW_in 1717 (by decide +kernel) (by decide +kernel)
theorem wd1716 : Cond.fieldLink RX10 26 (TX10 7).1 (TX10 7).2.1 (TX10 7).2.2.1 ∈ gW := gW_in 1716 (by decide +kernel) (by decide +kernel)
theorem wd1715 : Cond.fieldLink RX10 22 (TX10 6).1 (TX10 6).2.1 (TX10 6).2.2.1 ∈ gW := gW_in 1715 (by decide +kernel) (by decide +kernel)
theorem dX10_run_0 : decode cX10_run 0 = .ok (.aload_n 0, 1) := by decide +kernel
theorem dX10_run_1 : decode cX10_run 1 = .ok (.invokevirtual 291, 3) := by decide +kernel
theorem dX10_run_4 : decode cX10_run 4 = .ok (.istore_n 1, 1) := by decide +kernel
theorem dX10_run_5 : decode cX10_run 5 = .ok (.aload_n 0, 1) := by decide +kernel
theorem dX10_run_6 : decode cX10_run 6 = .ok (.iconst 0, 1) := by decide +kernel
theorem dX10_run_7 : decode cX10_run 7 = .ok (.putfield 225, 3) := by decide +kernel
theorem dX10_run_10 : decode cX10_run 10 = .ok (.aload_n 0, 1) := by decide +kernel
theorem dX10_run_11 : decode cX10_run 11 = .ok (.iload_n 1, 1) := by decide +kernel
theorem dX10_run_12 : decode cX10_run 12 = .ok (.ifCond .ne 7, 3) := by decide +kernel
theorem dX10_run_15 : decode cX10_run 15 = .ok (.iconst 1, 1) := by decide +kernel
theorem dX10_run_16 : decode cX10_run 16 = .ok (.goto 4, 3) := by decide +kernel
theorem dX10_run_19 : decode cX10_run 19 = .ok (.iconst 0, 1) := by decide +kernel
theorem dX10_run_20 : decode cX10_run 20 = .ok (.iconst 1, 1) := by decide +kernel
theorem dX10_run_21 : decode cX10_run 21 = .ok (.invokevirtual 85, 3) := by decide +kernel
theorem dX10_run_24 : decode cX10_run 24 = .ok (.ifCond .eq 13, 3) := by decide +kernel
theorem dX10_run_27 : decode cX10_run 27 = .ok (.aload_n 0, 1) := by decide +kernel
theorem dX10_run_28 : decode cX10_run 28 = .ok (.aload_n 0, 1) := by decide +kernel
theorem dX10_run_29 : decode cX10_run 29 = .ok (.getfield 228, 3) := by decide +kernel
theorem dX10_run_32 : decode cX10_run 32 = .ok (.putfield 22, 3) := by decide +kernel
theorem dX10_run_35 : decode cX10_run 35 = .ok (.iconst 0, 1) := by decide +kernel
theorem dX10_run_36 : decode cX10_run 36 = .ok (.ireturn, 1) := by decide +kernel
theorem dX10_run_37 : decode cX10_run 37 = .ok (.aload_n 0, 1) := by decide +kernel
theorem dX10_run_38 : decode cX10_run 38 = .ok (.invokevirtual 89, 3) := by decide +kernel
theorem dX10_run_41 : decode cX10_run 41 = .ok (.iconst 0, 1) := by decide +kernel
theorem dX10_run_42 : decode cX10_run 42 = .ok (.istore_n 2, 1) := by decide +kernel
theorem dX10_run_43 : decode cX10_run 43 = .ok (.iload_n 2, 1) := by decide +kernel
theorem dX10_run_44 : decode cX10_run 44 = .ok (.aload_n 0, 1) := by decide +kernel
theorem dX10_run_45 : decode cX10_run 45 = .ok (.getfield 279, 3) := by decide +kernel
theorem dX10_run_48 : decode cX10_run 48 = .ok (.if_icmp .ge 57, 3) := by decide +kernel
theorem dX10_run_51 : decode cX10_run 51 = .ok (.aload_n 0, 1) := by decide +kernel
theorem dX10_run_52 : decode cX10_run 52 = .ok (.iconst 0, 1) := by decide +kernel
theorem dX10_run_53 : decode cX10_run 53 = .ok (.putfield 41, 3) := by decide +kernel
theorem dX10_run_56 : decode cX10_run 56 = .ok (.aload_n 0, 1) := by decide +kernel
theorem dX10_run_57 : decode cX10_run 57 = .ok (.aload_n 0, 1) := by decide +kernel
theorem dX10_run_58 : decode cX10_run 58 = .ok (.iconst 5, 1) := by decide +kernel
theorem dX10_run_59 : decode cX10_run 59 = .ok (.iload_n 2, 1) := by decide +kernel
theorem dX10_run_60 : decode cX10_run 60 = .ok (.imul, 1) := by decide +kernel
theorem dX10_run_61 : decode cX10_run 61 = .ok (.invokevirtual 294, 3) := by decide +kernel
theorem dX10_run_64 : decode cX10_run 64 = .ok (.putfield 297, 3) := by decide +kernel
theorem dX10_run_67 : decode cX10_run 67 = .ok (.aload_n 0, 1) := by decide +kernel
theorem dX10_run_68 : decode cX10_run 68 = .ok (.getfield 41, 3) := by decide +kernel
theorem dX10_run_71 : decode cX10_run 71 = .ok (.ifCond .eq 28, 3) := by decide +kernel
theorem dX10_run_74 : decode cX10_run 74 = .ok (.aload_n 0, 1) := by decide +kernel
theorem dX10_run_75 : decode cX10_run 75 = .ok (.getfield 13, 3) := by decide +kernel
theorem dX10_run_78 : decode cX10_run 78 = .ok (.iconst 0, 1) := by decide +kernel
theorem dX10_run_79 : decode cX10_run 79 = .ok (.aload_n 0, 1) := by decide +kernel
theorem dX10_run_80 : decode cX10_run 80 = .ok (.getfield 9, 3) := by decide +kernel
theorem dX10_run_83 : decode cX10_run 83 = .ok (.iconst 0, 1) := by decide +kernel
theorem dX10_run_84 : decode cX10_run 84 = .ok (.invokestatic 44, 3) := by decide +kernel
theorem dX10_run_87 : decode cX10_run 87 = .ok (.aload_n 0, 1) := by decide +kernel
theorem dX10_run_88 : decode cX10_run 88 = .ok (.iload_n 2, 1) := by decide +kernel
theorem dX10_run_89 : decode cX10_run 89 = .ok (.putfield 26, 3) := by decide +kernel
theorem dX10_run_92 : decode cX10_run 92 = .ok (.aload_n 0, 1) := by decide +kernel
theorem dX10_run_93 : decode cX10_run 93 = .ok (.iconst 2, 1) := by decide +kernel
theorem dX10_run_94 : decode cX10_run 94 = .ok (.putfield 41, 3) := by decide +kernel
theorem dX10_run_97 : decode cX10_run 97 = .ok (.iconst 0, 1) := by decide +kernel
theorem dX10_run_98 : decode cX10_run 98 = .ok (.ireturn, 1) := by decide +kernel
theorem dX10_run_99 : decode cX10_run 99 = .ok (.iinc 2 1, 3) := by decide +kernel
theorem dX10_run_102 : decode cX10_run 102 = .ok (.goto (-59), 3) := by decide +kernel
theorem dX10_run_105 : decode cX10_run 105 = .ok (.aload_n 0, 1) := by decide +kernel
theorem dX10_run_106 : decode cX10_run 106 = .ok (.aload_n 0, 1) := by decide +kernel
theorem dX10_run_107 : decode cX10_run 107 = .ok (.getfield 279, 3) := by decide +kernel
theorem dX10_run_110 : decode cX10_run 110 = .ok (.invokevirtual 95, 3) := by decide +kernel
theorem dX10_run_113 : decode cX10_run 113 = .ok (.ireturn, 1) := by decide +kernel
theorem dX10_errorPosition_0 : decode cX10_errorPosition 0 = .ok (.aload_n 0, 1) := by decide +kernel
theorem dX10_errorPosition_1 : decode cX10_errorPosition 1 = .ok (.aload_n 0, 1) := by decide +kernel
theorem dX10_errorPosition_2 : decode cX10_errorPosition 2 = .ok (.getfield 22, 3) := by decide +kernel
theorem dX10_errorPosition_5 : decode cX10_errorPosition 5 = .ok (.ifCond .ge 7, 3) := by decide +kernel
theorem dX10_errorPosition_8 : decode cX10_errorPosition 8 = .ok (.iconst 1, 1) := by decide +kernel
theorem dX10_errorPosition_9 : decode cX10_errorPosition 9 = .ok (.goto 4, 3) := by decide +kernel
theorem dX10_errorPosition_12 : decode cX10_errorPosition 12 = .ok (.iconst 0, 1) := by decide +kernel
theorem dX10_errorPosition_13 : decode cX10_errorPosition 13 = .ok (.iconst 1, 1) := by decide +kernel
theorem dX10_errorPosition_14 : decode cX10_errorPosition 14 = .ok (.invokevirtual 85, 3) := by decide +kernel
theorem dX10_errorPosition_17 : decode cX10_errorPosition 17 = .ok (.ifCond .eq 7, 3) := by decide +kernel
theorem dX10_errorPosition_20 : decode cX10_errorPosition 20 = .ok (.iconst 0, 1) := by decide +kernel
theorem dX10_errorPosition_21 : decode cX10_errorPosition 21 = .ok (.goto 7, 3) := by decide +kernel
theorem dX10_errorPosition_24 : decode cX10_errorPosition 24 = .ok (.aload_n 0, 1) := by decide +kernel
theorem dX10_errorPosition_25 : decode cX10_errorPosition 25 = .ok (.getfield 22, 3) := by decide +kernel
theorem dX10_errorPosition_28 : decode cX10_errorPosition 28 = .ok (.ireturn, 1) := by decide +kernel
theorem dX10_failedCommand_0 : decode cX10_failedCommand 0 = .ok (.aload_n 0, 1) := by decide +kernel
theorem dX10_failedCommand_1 : decode cX10_failedCommand 1 = .ok (.aload_n 0, 1) := by decide +kernel
theorem dX10_failedCommand_2 : decode cX10_failedCommand 2 = .ok (.getfield 26, 3) := by decide +kernel
theorem dX10_failedCommand_5 : decode cX10_failedCommand 5 = .ok (.ifCond .ge 7, 3) := by decide +kernel
theorem dX10_failedCommand_8 : decode cX10_failedCommand 8 = .ok (.iconst 1, 1) := by decide +kernel
theorem dX10_failedCommand_9 : decode cX10_failedCommand 9 = .ok (.goto 4, 3) := by decide +kernel
theorem dX10_failedCommand_12 : decode cX10_failedCommand 12 = .ok (.iconst 0, 1) := by decide +kernel
theorem dX10_failedCommand_13 : decode cX10_failedCommand 13 = .ok (.iconst 1, 1) := by decide +kernel
theorem dX10_failedCommand_14 : decode cX10_failedCommand 14 = .ok (.invokevirtual 85, 3) := by decide +kernel
theorem dX10_failedCommand_17 : decode cX10_failedCommand 17 = .ok (.ifCond .eq 7, 3) := by decide +kernel
theorem dX10_failedCommand_20 : decode cX10_failedCommand 20 = .ok (.iconst 0, 1) := by decide +kernel
theorem dX10_failedCommand_21 : decode cX10_failedCommand 21 = .ok (.goto 7, 3) := by decide +kernel
theorem dX10_failedCommand_24 : decode cX10_failedCommand 24 = .ok (.aload_n 0, 1) := by decide +kernel
theorem dX10_failedCommand_25 : decode cX10_failedCommand 25 = .ok (.getfield 26, 3) := by decide +kernel
theorem dX10_failedCommand_28 : decode cX10_failedCommand 28 = .ok (.ireturn, 1) := by decide +kernel
theorem dX10_undo_0 : decode cX10_undo 0 = .ok (.aload_n 0, 1) := by decide +kernel
theorem dX10_undo_1 : decode cX10_undo 1 = .ok (.aload_n 0, 1) := by decide +kernel
theorem dX10_undo_2 : decode cX10_undo 2 = .ok (.getfield 48, 3) := by decide +kernel
theorem dX10_undo_5 : decode cX10_undo 5 = .ok (.ifCond .ne 7, 3) := by decide +kernel
theorem dX10_undo_8 : decode cX10_undo 8 = .ok (.iconst 1, 1) := by decide +kernel
theorem dX10_undo_9 : decode cX10_undo 9 = .ok (.goto 4, 3) := by decide +kernel
theorem dX10_undo_12 : decode cX10_undo 12 = .ok (.iconst 0, 1) := by decide +kernel
theorem dX10_undo_13 : decode cX10_undo 13 = .ok (.iconst 1, 1) := by decide +kernel
theorem dX10_undo_14 : decode cX10_undo 14 = .ok (.invokevirtual 85, 3) := by decide +kernel
theorem dX10_undo_17 : decode cX10_undo 17 = .ok (.ifCond .eq 5, 3) := by decide +kernel
theorem dX10_undo_20 : decode cX10_undo 20 = .ok (.iconst 0, 1) := by decide +kernel
theorem dX10_undo_21 : decode cX10_undo 21 = .ok (.ireturn, 1) := by decide +kernel
theorem dX10_undo_22 : decode cX10_undo 22 = .ok (.aload_n 0, 1) := by decide +kernel
theorem dX10_undo_23 : decode cX10_undo 23 = .ok (.dup, 1) := by decide +kernel
theorem dX10_undo_24 : decode cX10_undo 24 = .ok (.getfield 48, 3) := by decide +kernel
theorem dX10_undo_27 : decode cX10_undo 27 = .ok (.iconst 1, 1) := by decide +kernel
theorem dX10_undo_28 : decode cX10_undo 28 = .ok (.isub, 1) := by decide +kernel
theorem dX10_undo_29 : decode cX10_undo 29 = .ok (.putfield 48, 3) := by decide +kernel
theorem dX10_undo_32 : decode cX10_undo 32 = .ok (.aload_n 0, 1) := by decide +kernel
theorem dX10_undo_33 : decode cX10_undo 33 = .ok (.getfield 19, 3) := by decide +kernel
theorem dX10_undo_36 : decode cX10_undo 36 = .ok (.bipush 113, 2) := by decide +kernel
theorem dX10_undo_38 : decode cX10_undo 38 = .ok (.aload_n 0, 1) := by decide +kernel
theorem dX10_undo_39 : decode cX10_undo 39 = .ok (.getfield 48, 3) := by decide +kernel
theorem dX10_undo_42 : decode cX10_undo 42 = .ok (.imul, 1) := by decide +kernel
theorem dX10_undo_43 : decode cX10_undo 43 = .ok (.aload_n 0, 1) := by decide +kernel
theorem dX10_undo_44 : decode cX10_undo 44 = .ok (.getfield 9, 3) := by decide +kernel
theorem dX10_undo_47 : decode cX10_undo 47 = .ok (.iconst 0, 1) := by decide +kernel
theorem dX10_undo_48 : decode cX10_undo 48 = .ok (.invokestatic 44, 3) := by decide +kernel
theorem dX10_undo_51 : decode cX10_undo 51 = .ok (.aload_n 0, 1) := by decide +kernel
theorem dX10_undo_52 : decode cX10_undo 52 = .ok (.getfield 48, 3) := by decide +kernel
theorem dX10_undo_55 : decode cX10_undo 55 = .ok (.ireturn, 1) := by decide +kernel
theorem wd1711 : Cond.fieldLink RX10 16 (TX10 2).1 (TX10 2).2.1 (TX10 2).2.2.1 ∈ gW := gW_in 1711 (by decide +kernel) (by decide +kernel)
theorem wd1718 : Cond.fieldLink RX10 300 (TX10 9).1 (TX10 9).2.1 (TX10 9).2.2.1 ∈ gW := gW_in 1718 (by decide +kernel) (by decide +kernel)
theorem dX10_save_0 : decode cX10_save 0 = .ok (.aload_n 0, 1) := by decide +kernel
theorem dX10_save_1 : decode cX10_save 1 = .ok (.iconst 0, 1) := by decide +kernel
theorem dX10_save_2 : decode cX10_save 2 = .ok (.putfield 41, 3) := by decide +kernel
theorem dX10_save_5 : decode cX10_save 5 = .ok (.aload_n 0, 1) := by decide +kernel
theorem dX10_save_6 : decode cX10_save 6 = .ok (.getfield 9, 3) := by decide +kernel
theorem dX10_save_9 : decode cX10_save 9 = .ok (.iconst 0, 1) := by decide +kernel
theorem dX10_save_10 : decode cX10_save 10 = .ok (.aload_n 0, 1) := by decide +kernel
theorem dX10_save_11 : decode cX10_save 11 = .ok (.getfield 16, 3) := by decide +kernel
theorem dX10_save_14 : decode cX10_save 14 = .ok (.iconst 0, 1) := by decide +kernel
theorem dX10_save_15 : decode cX10_save 15 = .ok (.invokestatic 44, 3) := by decide +kernel
theorem dX10_save_18 : decode cX10_save 18 = .ok (.aload_n 0, 1) := by decide +kernel
theorem dX10_save_19 : decode cX10_save 19 = .ok (.iconst 1, 1) := by decide +kernel
theorem dX10_save_20 : decode cX10_save 20 = .ok (.putfield 300, 3) := by decide +kernel
theorem dX10_save_23 : decode cX10_save 23 = .ok (.return_, 1) := by decide +kernel
theorem dX10_restore_0 : decode cX10_restore 0 = .ok (.aload_n 0, 1) := by decide +kernel
theorem dX10_restore_1 : decode cX10_restore 1 = .ok (.aload_n 0, 1) := by decide +kernel
theorem dX10_restore_2 : decode cX10_restore 2 = .ok (.getfield 300, 3) := by decide +kernel
theorem dX10_restore_5 : decode cX10_restore 5 = .ok (.ifCond .ne 7, 3) := by decide +kernel
theorem dX10_restore_8 : decode cX10_restore 8 = .ok (.iconst 1, 1) := by decide +kernel
theorem dX10_restore_9 : decode cX10_restore 9 = .ok (.goto 4, 3) := by decide +kernel
theorem dX10_restore_12 : decode cX10_restore 12 = .ok (.iconst 0, 1) := by decide +kernel
theorem dX10_restore_13 : decode cX10_restore 13 = .ok (.iconst 1, 1) := by decide +kernel
theorem dX10_restore_14 : decode cX10_restore 14 = .ok (.invokevirtual 85, 3) := by decide +kernel
theorem dX10_restore_17 : decode cX10_restore 17 = .ok (.ifCond .eq 4, 3) := by decide +kernel
theorem dX10_restore_20 : decode cX10_restore 20 = .ok (.return_, 1) := by decide +kernel
theorem dX10_restore_21 : decode cX10_restore 21 = .ok (.aload_n 0, 1) := by decide +kernel
theorem dX10_restore_22 : decode cX10_restore 22 = .ok (.getfield 16, 3) := by decide +kernel
theorem dX10_restore_25 : decode cX10_restore 25 = .ok (.iconst 0, 1) := by decide +kernel
theorem dX10_restore_26 : decode cX10_restore 26 = .ok (.aload_n 0, 1) := by decide +kernel
theorem dX10_restore_27 : decode cX10_restore 27 = .ok (.getfield 9, 3) := by decide +kernel
theorem dX10_restore_30 : decode cX10_restore 30 = .ok (.iconst 0, 1) := by decide +kernel
theorem dX10_restore_31 : decode cX10_restore 31 = .ok (.invokestatic 44, 3) := by decide +kernel
theorem dX10_restore_34 : decode cX10_restore 34 = .ok (.aload_n 0, 1) := by decide +kernel
theorem dX10_restore_35 : decode cX10_restore 35 = .ok (.iconst 0, 1) := by decide +kernel
theorem dX10_restore_36 : decode cX10_restore 36 = .ok (.putfield 48, 3) := by decide +kernel
theorem dX10_restore_39 : decode cX10_restore 39 = .ok (.return_, 1) := by decide +kernel
