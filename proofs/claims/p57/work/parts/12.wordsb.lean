theorem wd1036 : Cond.fieldLink RX8 12 (TX8 0).1 (TX8 0).2.1 (TX8 0).2.2.1 ∈ gW := gW_in 1036 (by decide +kernel) (by decide +kernel)
theorem kfX8 : KF 11 RX8 TX8 8 tyX8 := ⟨by decide, by decide, rfl, gW_all (by decide +kernel), tyX8_ok, nmX8⟩
theorem wd517 : Cond.code yX2_copyFrom cX2_copyFrom 2 none ∈ gW := gW_in 517 (by decide +kernel) (by decide +kernel)
theorem mvX2_copyFrom : MV yX2_copyFrom cX2_copyFrom 2 none 1 := ⟨wd517, wd25, by decide +kernel, by decide +kernel, by decide +kernel, by decide⟩
theorem wd515 : Cond.instanceMethod yX2_copyFrom ∈ gW := gW_in 515 (by decide +kernel) (by decide +kernel)
theorem wd516 : Cond.selects yX2_copyFrom.cls yX2_copyFrom yX2_copyFrom ∈ gW := gW_in 516 (by decide +kernel) (by decide +kernel)
theorem wd514 : Cond.methodLink RX8 54 yX2_copyFrom ∈ gW := gW_in 514 (by decide +kernel) (by decide +kernel)
theorem wd1038 : Cond.fieldLink RX8 21 (TX8 1).1 (TX8 1).2.1 (TX8 1).2.2.1 ∈ gW := gW_in 1038 (by decide +kernel) (by decide +kernel)
theorem wd522 : Cond.code yX0_copyFrom cX0_copyFrom 2 none ∈ gW := gW_in 522 (by decide +kernel) (by decide +kernel)
theorem wd26 : Cond.initialized RX0 ∈ gW := gW_in 26 (by decide +kernel) (by decide +kernel)
theorem mvX0_copyFrom : MV yX0_copyFrom cX0_copyFrom 2 none 1 := ⟨wd522, wd26, by decide +kernel, by decide +kernel, by decide +kernel, by decide⟩
theorem wd520 : Cond.instanceMethod yX0_copyFrom ∈ gW := gW_in 520 (by decide +kernel) (by decide +kernel)
theorem wd521 : Cond.selects yX0_copyFrom.cls yX0_copyFrom yX0_copyFrom ∈ gW := gW_in 521 (by decide +kernel) (by decide +kernel)
theorem wd519 : Cond.methodLink RX8 58 yX0_copyFrom ∈ gW := gW_in 519 (by decide +kernel) (by decide +kernel)
theorem wd1040 : Cond.fieldLink RX8 28 (TX8 2).1 (TX8 2).2.1 (TX8 2).2.2.1 ∈ gW := gW_in 1040 (by decide +kernel) (by decide +kernel)
theorem wd527 : Cond.code yX1_copyFrom cX1_copyFrom 2 none ∈ gW := gW_in 527 (by decide +kernel) (by decide +kernel)
theorem mvX1_copyFrom : MV yX1_copyFrom cX1_copyFrom 2 none 1 := ⟨wd527, wd27, by decide +kernel, by decide +kernel, by decide +kernel, by decide⟩
theorem wd525 : Cond.instanceMethod yX1_copyFrom ∈ gW := gW_in 525 (by decide +kernel) (by decide +kernel)
theorem wd526 : Cond.selects yX1_copyFrom.cls yX1_copyFrom yX1_copyFrom ∈ gW := gW_in 526 (by decide +kernel) (by decide +kernel)
theorem wd524 : Cond.methodLink RX8 61 yX1_copyFrom ∈ gW := gW_in 524 (by decide +kernel) (by decide +kernel)
theorem wd1042 : Cond.fieldLink RX8 34 (TX8 3).1 (TX8 3).2.1 (TX8 3).2.2.1 ∈ gW := gW_in 1042 (by decide +kernel) (by decide +kernel)
theorem wd532 : Cond.code yX3_copyFrom cX3_copyFrom 2 none ∈ gW := gW_in 532 (by decide +kernel) (by decide +kernel)
theorem mvX3_copyFrom : MV yX3_copyFrom cX3_copyFrom 2 none 1 := ⟨wd532, wd28, by decide +kernel, by decide +kernel, by decide +kernel, by decide⟩
theorem wd530 : Cond.instanceMethod yX3_copyFrom ∈ gW := gW_in 530 (by decide +kernel) (by decide +kernel)
theorem wd531 : Cond.selects yX3_copyFrom.cls yX3_copyFrom yX3_copyFrom ∈ gW := gW_in 531 (by decide +kernel) (by decide +kernel)
theorem wd529 : Cond.methodLink RX8 64 yX3_copyFrom ∈ gW := gW_in 529 (by decide +kernel) (by decide +kernel)
theorem wd1044 : Cond.fieldLink RX8 38 (TX8 4).1 (TX8 4).2.1 (TX8 4).2.2.1 ∈ gW := gW_in 1044 (by decide +kernel) (by decide +kernel)
theorem wd1046 : Cond.fieldLink RX8 42 (TX8 5).1 (TX8 5).2.1 (TX8 5).2.2.1 ∈ gW := gW_in 1046 (by decide +kernel) (by decide +kernel)
theorem dX8_copyFrom_0 : decode cX8_copyFrom 0 = .ok (.aload_n 0, 1) := by decide +kernel
theorem dX8_copyFrom_1 : decode cX8_copyFrom 1 = .ok (.getfield 12, 3) := by decide +kernel
theorem dX8_copyFrom_4 : decode cX8_copyFrom 4 = .ok (.aload_n 1, 1) := by decide +kernel
theorem dX8_copyFrom_5 : decode cX8_copyFrom 5 = .ok (.getfield 12, 3) := by decide +kernel
theorem dX8_copyFrom_8 : decode cX8_copyFrom 8 = .ok (.invokevirtual 54, 3) := by decide +kernel
theorem dX8_copyFrom_11 : decode cX8_copyFrom 11 = .ok (.aload_n 0, 1) := by decide +kernel
theorem dX8_copyFrom_12 : decode cX8_copyFrom 12 = .ok (.getfield 21, 3) := by decide +kernel
theorem dX8_copyFrom_15 : decode cX8_copyFrom 15 = .ok (.aload_n 1, 1) := by decide +kernel
theorem dX8_copyFrom_16 : decode cX8_copyFrom 16 = .ok (.getfield 21, 3) := by decide +kernel
theorem dX8_copyFrom_19 : decode cX8_copyFrom 19 = .ok (.invokevirtual 58, 3) := by decide +kernel
theorem dX8_copyFrom_22 : decode cX8_copyFrom 22 = .ok (.aload_n 0, 1) := by decide +kernel
theorem dX8_copyFrom_23 : decode cX8_copyFrom 23 = .ok (.getfield 28, 3) := by decide +kernel
theorem dX8_copyFrom_26 : decode cX8_copyFrom 26 = .ok (.aload_n 1, 1) := by decide +kernel
theorem dX8_copyFrom_27 : decode cX8_copyFrom 27 = .ok (.getfield 28, 3) := by decide +kernel
theorem dX8_copyFrom_30 : decode cX8_copyFrom 30 = .ok (.invokevirtual 61, 3) := by decide +kernel
theorem dX8_copyFrom_33 : decode cX8_copyFrom 33 = .ok (.iconst 0, 1) := by decide +kernel
theorem dX8_copyFrom_34 : decode cX8_copyFrom 34 = .ok (.istore_n 2, 1) := by decide +kernel
theorem dX8_copyFrom_35 : decode cX8_copyFrom 35 = .ok (.iload_n 2, 1) := by decide +kernel
theorem dX8_copyFrom_36 : decode cX8_copyFrom 36 = .ok (.bipush 6, 2) := by decide +kernel
theorem dX8_copyFrom_38 : decode cX8_copyFrom 38 = .ok (.if_icmp .ge 24, 3) := by decide +kernel
theorem dX8_copyFrom_41 : decode cX8_copyFrom 41 = .ok (.aload_n 0, 1) := by decide +kernel
theorem dX8_copyFrom_42 : decode cX8_copyFrom 42 = .ok (.getfield 34, 3) := by decide +kernel
theorem dX8_copyFrom_45 : decode cX8_copyFrom 45 = .ok (.iload_n 2, 1) := by decide +kernel
theorem dX8_copyFrom_46 : decode cX8_copyFrom 46 = .ok (.aaload, 1) := by decide +kernel
theorem dX8_copyFrom_47 : decode cX8_copyFrom 47 = .ok (.aload_n 1, 1) := by decide +kernel
theorem dX8_copyFrom_48 : decode cX8_copyFrom 48 = .ok (.getfield 34, 3) := by decide +kernel
theorem dX8_copyFrom_51 : decode cX8_copyFrom 51 = .ok (.iload_n 2, 1) := by decide +kernel
theorem dX8_copyFrom_52 : decode cX8_copyFrom 52 = .ok (.aaload, 1) := by decide +kernel
theorem dX8_copyFrom_53 : decode cX8_copyFrom 53 = .ok (.invokevirtual 64, 3) := by decide +kernel
theorem dX8_copyFrom_56 : decode cX8_copyFrom 56 = .ok (.iinc 2 1, 3) := by decide +kernel
theorem dX8_copyFrom_59 : decode cX8_copyFrom 59 = .ok (.goto (-24), 3) := by decide +kernel
theorem dX8_copyFrom_62 : decode cX8_copyFrom 62 = .ok (.aload_n 0, 1) := by decide +kernel
theorem dX8_copyFrom_63 : decode cX8_copyFrom 63 = .ok (.aload_n 1, 1) := by decide +kernel
theorem dX8_copyFrom_64 : decode cX8_copyFrom 64 = .ok (.getfield 38, 3) := by decide +kernel
theorem dX8_copyFrom_67 : decode cX8_copyFrom 67 = .ok (.putfield 38, 3) := by decide +kernel
theorem dX8_copyFrom_70 : decode cX8_copyFrom 70 = .ok (.aload_n 0, 1) := by decide +kernel
theorem dX8_copyFrom_71 : decode cX8_copyFrom 71 = .ok (.aload_n 1, 1) := by decide +kernel
theorem dX8_copyFrom_72 : decode cX8_copyFrom 72 = .ok (.getfield 42, 3) := by decide +kernel
theorem dX8_copyFrom_75 : decode cX8_copyFrom 75 = .ok (.putfield 42, 3) := by decide +kernel
theorem dX8_copyFrom_78 : decode cX8_copyFrom 78 = .ok (.return_, 1) := by decide +kernel
theorem dX8_hasPilot_0 : decode cX8_hasPilot 0 = .ok (.iload_n 1, 1) := by decide +kernel
theorem dX8_hasPilot_1 : decode cX8_hasPilot 1 = .ok (.ifCond .lt 15, 3) := by decide +kernel
theorem dX8_hasPilot_4 : decode cX8_hasPilot 4 = .ok (.iload_n 1, 1) := by decide +kernel
theorem dX8_hasPilot_5 : decode cX8_hasPilot 5 = .ok (.aload_n 0, 1) := by decide +kernel
theorem dX8_hasPilot_6 : decode cX8_hasPilot 6 = .ok (.getfield 38, 3) := by decide +kernel
theorem dX8_hasPilot_9 : decode cX8_hasPilot 9 = .ok (.if_icmp .ge 7, 3) := by decide +kernel
theorem dX8_hasPilot_12 : decode cX8_hasPilot 12 = .ok (.iconst 1, 1) := by decide +kernel
theorem dX8_hasPilot_13 : decode cX8_hasPilot 13 = .ok (.goto 4, 3) := by decide +kernel
theorem dX8_hasPilot_16 : decode cX8_hasPilot 16 = .ok (.iconst 0, 1) := by decide +kernel
theorem dX8_hasPilot_17 : decode cX8_hasPilot 17 = .ok (.ireturn, 1) := by decide +kernel
theorem wd993 : Cond.fieldLink RX8 67 (TX3 1).1 (TX3 1).2.1 (TX3 1).2.2.1 ∈ gW := gW_in 993 (by decide +kernel) (by decide +kernel)
theorem dX8_countInPhase_0 : decode cX8_countInPhase 0 = .ok (.iconst 0, 1) := by decide +kernel
theorem dX8_countInPhase_1 : decode cX8_countInPhase 1 = .ok (.istore_n 2, 1) := by decide +kernel
theorem dX8_countInPhase_2 : decode cX8_countInPhase 2 = .ok (.iconst 0, 1) := by decide +kernel
theorem dX8_countInPhase_3 : decode cX8_countInPhase 3 = .ok (.istore_n 3, 1) := by decide +kernel
theorem dX8_countInPhase_4 : decode cX8_countInPhase 4 = .ok (.iload_n 3, 1) := by decide +kernel
theorem dX8_countInPhase_5 : decode cX8_countInPhase 5 = .ok (.aload_n 0, 1) := by decide +kernel
theorem dX8_countInPhase_6 : decode cX8_countInPhase 6 = .ok (.getfield 38, 3) := by decide +kernel
theorem dX8_countInPhase_9 : decode cX8_countInPhase 9 = .ok (.if_icmp .ge 25, 3) := by decide +kernel
theorem dX8_countInPhase_12 : decode cX8_countInPhase 12 = .ok (.aload_n 0, 1) := by decide +kernel
theorem dX8_countInPhase_13 : decode cX8_countInPhase 13 = .ok (.getfield 34, 3) := by decide +kernel
theorem dX8_countInPhase_16 : decode cX8_countInPhase 16 = .ok (.iload_n 3, 1) := by decide +kernel
theorem dX8_countInPhase_17 : decode cX8_countInPhase 17 = .ok (.aaload, 1) := by decide +kernel
theorem dX8_countInPhase_18 : decode cX8_countInPhase 18 = .ok (.getfield 67, 3) := by decide +kernel
theorem dX8_countInPhase_21 : decode cX8_countInPhase 21 = .ok (.aload_n 1, 1) := by decide +kernel
theorem dX8_countInPhase_22 : decode cX8_countInPhase 22 = .ok (.if_acmp .ne 6, 3) := by decide +kernel
theorem dX8_countInPhase_25 : decode cX8_countInPhase 25 = .ok (.iinc 2 1, 3) := by decide +kernel
theorem dX8_countInPhase_28 : decode cX8_countInPhase 28 = .ok (.iinc 3 1, 3) := by decide +kernel
theorem dX8_countInPhase_31 : decode cX8_countInPhase 31 = .ok (.goto (-27), 3) := by decide +kernel
theorem dX8_countInPhase_34 : decode cX8_countInPhase 34 = .ok (.iload_n 2, 1) := by decide +kernel
theorem dX8_countInPhase_35 : decode cX8_countInPhase 35 = .ok (.ireturn, 1) := by decide +kernel
theorem wd647 : Cond.fieldLink RX8 71 "GlidingContest$Phase" "WAITING" "LGlidingContest$Phase;" ∈ gW := gW_in 647 (by decide +kernel) (by decide +kernel)
theorem wd669 : Cond.code yX8_countInPhase cX8_countInPhase 4 (some .int) ∈ gW := gW_in 669 (by decide +kernel) (by decide +kernel)
theorem wd24 : Cond.initialized RX8 ∈ gW := gW_in 24 (by decide +kernel) (by decide +kernel)
theorem mvX8_countInPhase : MV yX8_countInPhase cX8_countInPhase 4 (some .int) 1 := ⟨wd669, wd24, by decide +kernel, by decide +kernel, by decide +kernel, by decide⟩
theorem wd667 : Cond.instanceMethod yX8_countInPhase ∈ gW := gW_in 667 (by decide +kernel) (by decide +kernel)
theorem wd668 : Cond.selects yX8_countInPhase.cls yX8_countInPhase yX8_countInPhase ∈ gW := gW_in 668 (by decide +kernel) (by decide +kernel)
theorem wd666 : Cond.methodLink RX8 76 yX8_countInPhase ∈ gW := gW_in 666 (by decide +kernel) (by decide +kernel)
theorem dX8_allWaiting_0 : decode cX8_allWaiting 0 = .ok (.aload_n 0, 1) := by decide +kernel
theorem dX8_allWaiting_1 : decode cX8_allWaiting 1 = .ok (.getstatic 71, 3) := by decide +kernel
theorem dX8_allWaiting_4 : decode cX8_allWaiting 4 = .ok (.invokevirtual 76, 3) := by decide +kernel
theorem dX8_allWaiting_7 : decode cX8_allWaiting 7 = .ok (.aload_n 0, 1) := by decide +kernel
theorem dX8_allWaiting_8 : decode cX8_allWaiting 8 = .ok (.getfield 38, 3) := by decide +kernel
theorem dX8_allWaiting_11 : decode cX8_allWaiting 11 = .ok (.if_icmp .ne 7, 3) := by decide +kernel
theorem dX8_allWaiting_14 : decode cX8_allWaiting 14 = .ok (.iconst 1, 1) := by decide +kernel
theorem dX8_allWaiting_15 : decode cX8_allWaiting 15 = .ok (.goto 4, 3) := by decide +kernel
theorem dX8_allWaiting_18 : decode cX8_allWaiting 18 = .ok (.iconst 0, 1) := by decide +kernel
theorem dX8_allWaiting_19 : decode cX8_allWaiting 19 = .ok (.ireturn, 1) := by decide +kernel
theorem wd690 : Cond.code yX9_isCoordinate cX9_isCoordinate 1 (some .boolean) ∈ gW := gW_in 690 (by decide +kernel) (by decide +kernel)
theorem mvX9_isCoordinate : MV yX9_isCoordinate cX9_isCoordinate 1 (some .boolean) 1 := ⟨wd690, wd23, by decide +kernel, by decide +kernel, by decide +kernel, by decide⟩
theorem wd689 : Cond.static yX9_isCoordinate ∈ gW := gW_in 689 (by decide +kernel) (by decide +kernel)
theorem wd688 : Cond.methodLinkNest RX8 80 yX9_isCoordinate "GlidingContest" ∈ gNW := gNW_in 688 (by decide +kernel) (by decide +kernel)
theorem wd567 : Cond.fieldLink RX8 84 "GlidingContest$Refusal" "ARGUMENT" "LGlidingContest$Refusal;" ∈ gW := gW_in 567 (by decide +kernel) (by decide +kernel)
theorem wd906 : Cond.fieldLink RX8 90 (TX2 2).1 (TX2 2).2.1 (TX2 2).2.2.1 ∈ gW := gW_in 906 (by decide +kernel) (by decide +kernel)
theorem wd571 : Cond.fieldLink RX8 96 "GlidingContest$Refusal" "NONE" "LGlidingContest$Refusal;" ∈ gW := gW_in 571 (by decide +kernel) (by decide +kernel)
theorem wd569 : Cond.fieldLink RX8 93 "GlidingContest$Refusal" "STATE" "LGlidingContest$Refusal;" ∈ gW := gW_in 569 (by decide +kernel) (by decide +kernel)
theorem dX8_refusalOfPoint_0 : decode cX8_refusalOfPoint 0 = .ok (.iload_n 1, 1) := by decide +kernel
theorem dX8_refusalOfPoint_1 : decode cX8_refusalOfPoint 1 = .ok (.invokestatic 80, 3) := by decide +kernel
theorem dX8_refusalOfPoint_4 : decode cX8_refusalOfPoint 4 = .ok (.ifCond .eq 10, 3) := by decide +kernel
theorem dX8_refusalOfPoint_7 : decode cX8_refusalOfPoint 7 = .ok (.iload_n 2, 1) := by decide +kernel
theorem dX8_refusalOfPoint_8 : decode cX8_refusalOfPoint 8 = .ok (.invokestatic 80, 3) := by decide +kernel
theorem dX8_refusalOfPoint_11 : decode cX8_refusalOfPoint 11 = .ok (.ifCond .ne 7, 3) := by decide +kernel
theorem dX8_refusalOfPoint_14 : decode cX8_refusalOfPoint 14 = .ok (.getstatic 84, 3) := by decide +kernel
theorem dX8_refusalOfPoint_17 : decode cX8_refusalOfPoint 17 = .ok (.areturn, 1) := by decide +kernel
theorem dX8_refusalOfPoint_18 : decode cX8_refusalOfPoint 18 = .ok (.aload_n 0, 1) := by decide +kernel
theorem dX8_refusalOfPoint_19 : decode cX8_refusalOfPoint 19 = .ok (.getfield 12, 3) := by decide +kernel
theorem dX8_refusalOfPoint_22 : decode cX8_refusalOfPoint 22 = .ok (.getfield 90, 3) := by decide +kernel
theorem dX8_refusalOfPoint_25 : decode cX8_refusalOfPoint 25 = .ok (.bipush 8, 2) := by decide +kernel
theorem dX8_refusalOfPoint_27 : decode cX8_refusalOfPoint 27 = .ok (.if_icmp .lt 9, 3) := by decide +kernel
theorem dX8_refusalOfPoint_30 : decode cX8_refusalOfPoint 30 = .ok (.getstatic 93, 3) := by decide +kernel
theorem dX8_refusalOfPoint_33 : decode cX8_refusalOfPoint 33 = .ok (.goto 6, 3) := by decide +kernel
theorem dX8_refusalOfPoint_36 : decode cX8_refusalOfPoint 36 = .ok (.getstatic 96, 3) := by decide +kernel
theorem dX8_refusalOfPoint_39 : decode cX8_refusalOfPoint 39 = .ok (.areturn, 1) := by decide +kernel
theorem wd657 : Cond.methodLink RX8 99 yX2_hasPoint ∈ gW := gW_in 657 (by decide +kernel) (by decide +kernel)
theorem wd748 : Cond.code yX8_allWaiting cX8_allWaiting 1 (some .boolean) ∈ gW := gW_in 748 (by decide +kernel) (by decide +kernel)
theorem mvX8_allWaiting : MV yX8_allWaiting cX8_allWaiting 1 (some .boolean) 0 := ⟨wd748, wd24, by decide +kernel, by decide +kernel, by decide +kernel, by decide⟩
theorem wd746 : Cond.instanceMethod yX8_allWaiting ∈ gW := gW_in 746 (by decide +kernel) (by decide +kernel)
theorem wd747 : Cond.selects yX8_allWaiting.cls yX8_allWaiting yX8_allWaiting ∈ gW := gW_in 747 (by decide +kernel) (by decide +kernel)
theorem wd745 : Cond.methodLink RX8 105 yX8_allWaiting ∈ gW := gW_in 745 (by decide +kernel) (by decide +kernel)
theorem wd914 : Cond.fieldLink RX8 109 (TX2 5).1 (TX2 5).2.1 (TX2 5).2.2.1 ∈ gW := gW_in 914 (by decide +kernel) (by decide +kernel)
theorem wd1174 : Cond.code yX2_endsAtPositionOf cX2_endsAtPositionOf 2 (some .boolean) ∈ gW := gW_in 1174 (by decide +kernel) (by decide +kernel)
theorem mvX2_endsAtPositionOf : MV yX2_endsAtPositionOf cX2_endsAtPositionOf 2 (some .boolean) 1 := ⟨wd1174, wd25, by decide +kernel, by decide +kernel, by decide +kernel, by decide⟩
theorem wd1172 : Cond.instanceMethod yX2_endsAtPositionOf ∈ gW := gW_in 1172 (by decide +kernel) (by decide +kernel)
theorem wd1173 : Cond.selects yX2_endsAtPositionOf.cls yX2_endsAtPositionOf yX2_endsAtPositionOf ∈ gW := gW_in 1173 (by decide +kernel) (by decide +kernel)
theorem wd1171 : Cond.methodLink RX8 112 yX2_endsAtPositionOf ∈ gW := gW_in 1171 (by decide +kernel) (by decide +kernel)
theorem wd648 : Cond.fieldLink RX8 115 "GlidingContest$Refusal" "UNSUPPORTED" "LGlidingContest$Refusal;" ∈ gW := gW_in 648 (by decide +kernel) (by decide +kernel)
theorem wd646 : Cond.fieldLink RX8 102 "GlidingContest$Refusal" "INDEX" "LGlidingContest$Refusal;" ∈ gW := gW_in 646 (by decide +kernel) (by decide +kernel)
theorem dX8_refusalOfStop_0 : decode cX8_refusalOfStop 0 = .ok (.aload_n 0, 1) := by decide +kernel
theorem dX8_refusalOfStop_1 : decode cX8_refusalOfStop 1 = .ok (.getfield 12, 3) := by decide +kernel
theorem dX8_refusalOfStop_4 : decode cX8_refusalOfStop 4 = .ok (.iload_n 1, 1) := by decide +kernel
theorem dX8_refusalOfStop_5 : decode cX8_refusalOfStop 5 = .ok (.invokevirtual 99, 3) := by decide +kernel
theorem dX8_refusalOfStop_8 : decode cX8_refusalOfStop 8 = .ok (.ifCond .ne 7, 3) := by decide +kernel
theorem dX8_refusalOfStop_11 : decode cX8_refusalOfStop 11 = .ok (.getstatic 102, 3) := by decide +kernel
theorem dX8_refusalOfStop_14 : decode cX8_refusalOfStop 14 = .ok (.areturn, 1) := by decide +kernel
theorem dX8_refusalOfStop_15 : decode cX8_refusalOfStop 15 = .ok (.aload_n 0, 1) := by decide +kernel
theorem dX8_refusalOfStop_16 : decode cX8_refusalOfStop 16 = .ok (.invokevirtual 105, 3) := by decide +kernel
theorem dX8_refusalOfStop_19 : decode cX8_refusalOfStop 19 = .ok (.ifCond .eq 15, 3) := by decide +kernel
theorem dX8_refusalOfStop_22 : decode cX8_refusalOfStop 22 = .ok (.aload_n 0, 1) := by decide +kernel
theorem dX8_refusalOfStop_23 : decode cX8_refusalOfStop 23 = .ok (.getfield 12, 3) := by decide +kernel
theorem dX8_refusalOfStop_26 : decode cX8_refusalOfStop 26 = .ok (.getfield 109, 3) := by decide +kernel
theorem dX8_refusalOfStop_29 : decode cX8_refusalOfStop 29 = .ok (.bipush 6, 2) := by decide +kernel
theorem dX8_refusalOfStop_31 : decode cX8_refusalOfStop 31 = .ok (.if_icmp .lt 7, 3) := by decide +kernel
theorem dX8_refusalOfStop_34 : decode cX8_refusalOfStop 34 = .ok (.getstatic 93, 3) := by decide +kernel
theorem dX8_refusalOfStop_37 : decode cX8_refusalOfStop 37 = .ok (.areturn, 1) := by decide +kernel
theorem dX8_refusalOfStop_38 : decode cX8_refusalOfStop 38 = .ok (.aload_n 0, 1) := by decide +kernel
theorem dX8_refusalOfStop_39 : decode cX8_refusalOfStop 39 = .ok (.getfield 12, 3) := by decide +kernel
theorem dX8_refusalOfStop_42 : decode cX8_refusalOfStop 42 = .ok (.iload_n 1, 1) := by decide +kernel
theorem dX8_refusalOfStop_43 : decode cX8_refusalOfStop 43 = .ok (.invokevirtual 112, 3) := by decide +kernel
theorem dX8_refusalOfStop_46 : decode cX8_refusalOfStop 46 = .ok (.ifCond .eq 9, 3) := by decide +kernel
theorem dX8_refusalOfStop_49 : decode cX8_refusalOfStop 49 = .ok (.getstatic 115, 3) := by decide +kernel
theorem dX8_refusalOfStop_52 : decode cX8_refusalOfStop 52 = .ok (.goto 6, 3) := by decide +kernel
theorem dX8_refusalOfStop_55 : decode cX8_refusalOfStop 55 = .ok (.getstatic 96, 3) := by decide +kernel
theorem dX8_refusalOfStop_58 : decode cX8_refusalOfStop 58 = .ok (.areturn, 1) := by decide +kernel
theorem wd940 : Cond.fieldLink RX8 118 (TX0 3).1 (TX0 3).2.1 (TX0 3).2.2.1 ∈ gW := gW_in 940 (by decide +kernel) (by decide +kernel)
theorem dX8_refusalOfThermal_0 : decode cX8_refusalOfThermal 0 = .ok (.iload_n 1, 1) := by decide +kernel
theorem dX8_refusalOfThermal_1 : decode cX8_refusalOfThermal 1 = .ok (.invokestatic 80, 3) := by decide +kernel
theorem dX8_refusalOfThermal_4 : decode cX8_refusalOfThermal 4 = .ok (.ifCond .eq 20, 3) := by decide +kernel
theorem dX8_refusalOfThermal_7 : decode cX8_refusalOfThermal 7 = .ok (.iload_n 2, 1) := by decide +kernel
theorem dX8_refusalOfThermal_8 : decode cX8_refusalOfThermal 8 = .ok (.invokestatic 80, 3) := by decide +kernel
theorem dX8_refusalOfThermal_11 : decode cX8_refusalOfThermal 11 = .ok (.ifCond .eq 13, 3) := by decide +kernel
theorem dX8_refusalOfThermal_14 : decode cX8_refusalOfThermal 14 = .ok (.iload_n 3, 1) := by decide +kernel
theorem dX8_refusalOfThermal_15 : decode cX8_refusalOfThermal 15 = .ok (.iconst 1, 1) := by decide +kernel
theorem dX8_refusalOfThermal_16 : decode cX8_refusalOfThermal 16 = .ok (.if_icmp .lt 8, 3) := by decide +kernel
theorem dX8_refusalOfThermal_19 : decode cX8_refusalOfThermal 19 = .ok (.iload_n 3, 1) := by decide +kernel
theorem dX8_refusalOfThermal_20 : decode cX8_refusalOfThermal 20 = .ok (.iconst 5, 1) := by decide +kernel
theorem dX8_refusalOfThermal_21 : decode cX8_refusalOfThermal 21 = .ok (.if_icmp .le 7, 3) := by decide +kernel
theorem dX8_refusalOfThermal_24 : decode cX8_refusalOfThermal 24 = .ok (.getstatic 84, 3) := by decide +kernel
theorem dX8_refusalOfThermal_27 : decode cX8_refusalOfThermal 27 = .ok (.areturn, 1) := by decide +kernel
theorem dX8_refusalOfThermal_28 : decode cX8_refusalOfThermal 28 = .ok (.aload_n 0, 1) := by decide +kernel
theorem dX8_refusalOfThermal_29 : decode cX8_refusalOfThermal 29 = .ok (.getfield 21, 3) := by decide +kernel
theorem dX8_refusalOfThermal_32 : decode cX8_refusalOfThermal 32 = .ok (.getfield 118, 3) := by decide +kernel
theorem dX8_refusalOfThermal_35 : decode cX8_refusalOfThermal 35 = .ok (.bipush 6, 2) := by decide +kernel
theorem dX8_refusalOfThermal_37 : decode cX8_refusalOfThermal 37 = .ok (.if_icmp .lt 9, 3) := by decide +kernel
theorem dX8_refusalOfThermal_40 : decode cX8_refusalOfThermal 40 = .ok (.getstatic 93, 3) := by decide +kernel
theorem dX8_refusalOfThermal_43 : decode cX8_refusalOfThermal 43 = .ok (.goto 6, 3) := by decide +kernel
theorem dX8_refusalOfThermal_46 : decode cX8_refusalOfThermal 46 = .ok (.getstatic 96, 3) := by decide +kernel
theorem dX8_refusalOfThermal_49 : decode cX8_refusalOfThermal 49 = .ok (.areturn, 1) := by decide +kernel
theorem wd966 : Cond.fieldLink RX8 121 (TX1 4).1 (TX1 4).2.1 (TX1 4).2.2.1 ∈ gW := gW_in 966 (by decide +kernel) (by decide +kernel)
theorem dX8_refusalOfArea_0 : decode cX8_refusalOfArea 0 = .ok (.iload_n 1, 1) := by decide +kernel
theorem dX8_refusalOfArea_1 : decode cX8_refusalOfArea 1 = .ok (.invokestatic 80, 3) := by decide +kernel
theorem dX8_refusalOfArea_4 : decode cX8_refusalOfArea 4 = .ok (.ifCond .eq 10, 3) := by decide +kernel
theorem dX8_refusalOfArea_7 : decode cX8_refusalOfArea 7 = .ok (.iload_n 2, 1) := by decide +kernel
theorem dX8_refusalOfArea_8 : decode cX8_refusalOfArea 8 = .ok (.invokestatic 80, 3) := by decide +kernel
theorem dX8_refusalOfArea_11 : decode cX8_refusalOfArea 11 = .ok (.ifCond .ne 7, 3) := by decide +kernel
theorem dX8_refusalOfArea_14 : decode cX8_refusalOfArea 14 = .ok (.getstatic 84, 3) := by decide +kernel
theorem dX8_refusalOfArea_17 : decode cX8_refusalOfArea 17 = .ok (.areturn, 1) := by decide +kernel
theorem dX8_refusalOfArea_18 : decode cX8_refusalOfArea 18 = .ok (.iload_n 3, 1) := by decide +kernel
theorem dX8_refusalOfArea_19 : decode cX8_refusalOfArea 19 = .ok (.iload_n 1, 1) := by decide +kernel
theorem dX8_refusalOfArea_20 : decode cX8_refusalOfArea 20 = .ok (.if_icmp .lt 22, 3) := by decide +kernel
theorem dX8_refusalOfArea_23 : decode cX8_refusalOfArea 23 = .ok (.iload_n 3, 1) := by decide +kernel
theorem dX8_refusalOfArea_24 : decode cX8_refusalOfArea 24 = .ok (.bipush 60, 2) := by decide +kernel
theorem dX8_refusalOfArea_26 : decode cX8_refusalOfArea 26 = .ok (.if_icmp .gt 16, 3) := by decide +kernel
theorem dX8_refusalOfArea_29 : decode cX8_refusalOfArea 29 = .ok (.iload 4, 2) := by decide +kernel
theorem dX8_refusalOfArea_31 : decode cX8_refusalOfArea 31 = .ok (.iload_n 2, 1) := by decide +kernel
theorem dX8_refusalOfArea_32 : decode cX8_refusalOfArea 32 = .ok (.if_icmp .lt 10, 3) := by decide +kernel
theorem dX8_refusalOfArea_35 : decode cX8_refusalOfArea 35 = .ok (.iload 4, 2) := by decide +kernel
theorem dX8_refusalOfArea_37 : decode cX8_refusalOfArea 37 = .ok (.bipush 60, 2) := by decide +kernel
theorem dX8_refusalOfArea_39 : decode cX8_refusalOfArea 39 = .ok (.if_icmp .le 7, 3) := by decide +kernel
theorem dX8_refusalOfArea_42 : decode cX8_refusalOfArea 42 = .ok (.getstatic 84, 3) := by decide +kernel
theorem dX8_refusalOfArea_45 : decode cX8_refusalOfArea 45 = .ok (.areturn, 1) := by decide +kernel
theorem dX8_refusalOfArea_46 : decode cX8_refusalOfArea 46 = .ok (.aload_n 0, 1) := by decide +kernel
theorem dX8_refusalOfArea_47 : decode cX8_refusalOfArea 47 = .ok (.getfield 28, 3) := by decide +kernel
theorem dX8_refusalOfArea_50 : decode cX8_refusalOfArea 50 = .ok (.getfield 121, 3) := by decide +kernel
theorem dX8_refusalOfArea_53 : decode cX8_refusalOfArea 53 = .ok (.iconst 3, 1) := by decide +kernel
theorem dX8_refusalOfArea_54 : decode cX8_refusalOfArea 54 = .ok (.if_icmp .lt 9, 3) := by decide +kernel
theorem dX8_refusalOfArea_57 : decode cX8_refusalOfArea 57 = .ok (.getstatic 93, 3) := by decide +kernel
theorem dX8_refusalOfArea_60 : decode cX8_refusalOfArea 60 = .ok (.goto 6, 3) := by decide +kernel
theorem dX8_refusalOfArea_63 : decode cX8_refusalOfArea 63 = .ok (.getstatic 96, 3) := by decide +kernel
theorem dX8_refusalOfArea_66 : decode cX8_refusalOfArea 66 = .ok (.areturn, 1) := by decide +kernel
theorem dX8_refusalOfPilot_0 : decode cX8_refusalOfPilot 0 = .ok (.iload_n 1, 1) := by decide +kernel
theorem dX8_refusalOfPilot_1 : decode cX8_refusalOfPilot 1 = .ok (.bipush 20, 2) := by decide +kernel
theorem dX8_refusalOfPilot_3 : decode cX8_refusalOfPilot 3 = .ok (.if_icmp .lt 9, 3) := by decide +kernel
theorem dX8_refusalOfPilot_6 : decode cX8_refusalOfPilot 6 = .ok (.iload_n 1, 1) := by decide +kernel
theorem dX8_refusalOfPilot_7 : decode cX8_refusalOfPilot 7 = .ok (.bipush 60, 2) := by decide +kernel
theorem dX8_refusalOfPilot_9 : decode cX8_refusalOfPilot 9 = .ok (.if_icmp .le 7, 3) := by decide +kernel
theorem dX8_refusalOfPilot_12 : decode cX8_refusalOfPilot 12 = .ok (.getstatic 84, 3) := by decide +kernel
theorem dX8_refusalOfPilot_15 : decode cX8_refusalOfPilot 15 = .ok (.areturn, 1) := by decide +kernel
theorem dX8_refusalOfPilot_16 : decode cX8_refusalOfPilot 16 = .ok (.aload_n 0, 1) := by decide +kernel
theorem dX8_refusalOfPilot_17 : decode cX8_refusalOfPilot 17 = .ok (.getfield 38, 3) := by decide +kernel
theorem dX8_refusalOfPilot_20 : decode cX8_refusalOfPilot 20 = .ok (.bipush 6, 2) := by decide +kernel
theorem dX8_refusalOfPilot_22 : decode cX8_refusalOfPilot 22 = .ok (.if_icmp .lt 9, 3) := by decide +kernel
theorem dX8_refusalOfPilot_25 : decode cX8_refusalOfPilot 25 = .ok (.getstatic 93, 3) := by decide +kernel
theorem dX8_refusalOfPilot_28 : decode cX8_refusalOfPilot 28 = .ok (.goto 6, 3) := by decide +kernel
theorem dX8_refusalOfPilot_31 : decode cX8_refusalOfPilot 31 = .ok (.getstatic 96, 3) := by decide +kernel
theorem dX8_refusalOfPilot_34 : decode cX8_refusalOfPilot 34 = .ok (.areturn, 1) := by decide +kernel
theorem wd68 : Cond.code yX8_hasPilot cX8_hasPilot 2 (some .boolean) ∈ gW := gW_in 68 (by decide +kernel) (by decide +kernel)
theorem mvX8_hasPilot : MV yX8_hasPilot cX8_hasPilot 2 (some .boolean) 1 := ⟨wd68, wd24, by decide +kernel, by decide +kernel, by decide +kernel, by decide⟩
theorem wd66 : Cond.instanceMethod yX8_hasPilot ∈ gW := gW_in 66 (by decide +kernel) (by decide +kernel)
theorem wd67 : Cond.selects yX8_hasPilot.cls yX8_hasPilot yX8_hasPilot ∈ gW := gW_in 67 (by decide +kernel) (by decide +kernel)
theorem wd645 : Cond.methodLink RX8 124 yX8_hasPilot ∈ gW := gW_in 645 (by decide +kernel) (by decide +kernel)
theorem dX8_refusalOfLaunch_0 : decode cX8_refusalOfLaunch 0 = .ok (.aload_n 0, 1) := by decide +kernel
theorem dX8_refusalOfLaunch_1 : decode cX8_refusalOfLaunch 1 = .ok (.iload_n 1, 1) := by decide +kernel
theorem dX8_refusalOfLaunch_2 : decode cX8_refusalOfLaunch 2 = .ok (.invokevirtual 124, 3) := by decide +kernel
theorem dX8_refusalOfLaunch_5 : decode cX8_refusalOfLaunch 5 = .ok (.ifCond .ne 7, 3) := by decide +kernel
theorem dX8_refusalOfLaunch_8 : decode cX8_refusalOfLaunch 8 = .ok (.getstatic 102, 3) := by decide +kernel
theorem dX8_refusalOfLaunch_11 : decode cX8_refusalOfLaunch 11 = .ok (.areturn, 1) := by decide +kernel
theorem dX8_refusalOfLaunch_12 : decode cX8_refusalOfLaunch 12 = .ok (.aload_n 0, 1) := by decide +kernel
theorem dX8_refusalOfLaunch_13 : decode cX8_refusalOfLaunch 13 = .ok (.getfield 34, 3) := by decide +kernel
theorem dX8_refusalOfLaunch_16 : decode cX8_refusalOfLaunch 16 = .ok (.iload_n 1, 1) := by decide +kernel
theorem dX8_refusalOfLaunch_17 : decode cX8_refusalOfLaunch 17 = .ok (.aaload, 1) := by decide +kernel
theorem dX8_refusalOfLaunch_18 : decode cX8_refusalOfLaunch 18 = .ok (.getfield 67, 3) := by decide +kernel
theorem dX8_refusalOfLaunch_21 : decode cX8_refusalOfLaunch 21 = .ok (.getstatic 71, 3) := by decide +kernel
theorem dX8_refusalOfLaunch_24 : decode cX8_refusalOfLaunch 24 = .ok (.if_acmp .eq 7, 3) := by decide +kernel
theorem dX8_refusalOfLaunch_27 : decode cX8_refusalOfLaunch 27 = .ok (.getstatic 93, 3) := by decide +kernel
theorem dX8_refusalOfLaunch_30 : decode cX8_refusalOfLaunch 30 = .ok (.areturn, 1) := by decide +kernel
theorem dX8_refusalOfLaunch_31 : decode cX8_refusalOfLaunch 31 = .ok (.aload_n 0, 1) := by decide +kernel
theorem dX8_refusalOfLaunch_32 : decode cX8_refusalOfLaunch 32 = .ok (.getfield 12, 3) := by decide +kernel
theorem dX8_refusalOfLaunch_35 : decode cX8_refusalOfLaunch 35 = .ok (.getfield 109, 3) := by decide +kernel
theorem dX8_refusalOfLaunch_38 : decode cX8_refusalOfLaunch 38 = .ok (.iconst 2, 1) := by decide +kernel
theorem dX8_refusalOfLaunch_39 : decode cX8_refusalOfLaunch 39 = .ok (.if_icmp .ge 9, 3) := by decide +kernel
theorem dX8_refusalOfLaunch_42 : decode cX8_refusalOfLaunch 42 = .ok (.getstatic 115, 3) := by decide +kernel
theorem dX8_refusalOfLaunch_45 : decode cX8_refusalOfLaunch 45 = .ok (.goto 6, 3) := by decide +kernel
theorem dX8_refusalOfLaunch_48 : decode cX8_refusalOfLaunch 48 = .ok (.getstatic 96, 3) := by decide +kernel
theorem dX8_refusalOfLaunch_51 : decode cX8_refusalOfLaunch 51 = .ok (.areturn, 1) := by decide +kernel
theorem wd665 : Cond.fieldLink RX8 127 "GlidingContest$Phase" "FLYING" "LGlidingContest$Phase;" ∈ gW := gW_in 665 (by decide +kernel) (by decide +kernel)
theorem wd996 : Cond.fieldLink RX8 130 (TX3 2).1 (TX3 2).2.1 (TX3 2).2.2.1 ∈ gW := gW_in 996 (by decide +kernel) (by decide +kernel)
theorem wd682 : Cond.methodLinkNest RX8 133 yX9_eastward "GlidingContest" ∈ gNW := gNW_in 682 (by decide +kernel) (by decide +kernel)
theorem wd999 : Cond.fieldLink RX8 137 (TX3 3).1 (TX3 3).2.1 (TX3 3).2.2.1 ∈ gW := gW_in 999 (by decide +kernel) (by decide +kernel)
theorem wd685 : Cond.methodLinkNest RX8 140 yX9_northward "GlidingContest" ∈ gNW := gNW_in 685 (by decide +kernel) (by decide +kernel)
theorem dX8_refusalOfFlight_0 : decode cX8_refusalOfFlight 0 = .ok (.aload_n 0, 1) := by decide +kernel
theorem dX8_refusalOfFlight_1 : decode cX8_refusalOfFlight 1 = .ok (.iload_n 1, 1) := by decide +kernel
theorem dX8_refusalOfFlight_2 : decode cX8_refusalOfFlight 2 = .ok (.invokevirtual 124, 3) := by decide +kernel
theorem dX8_refusalOfFlight_5 : decode cX8_refusalOfFlight 5 = .ok (.ifCond .ne 7, 3) := by decide +kernel
theorem dX8_refusalOfFlight_8 : decode cX8_refusalOfFlight 8 = .ok (.getstatic 102, 3) := by decide +kernel
theorem dX8_refusalOfFlight_11 : decode cX8_refusalOfFlight 11 = .ok (.areturn, 1) := by decide +kernel
theorem dX8_refusalOfFlight_12 : decode cX8_refusalOfFlight 12 = .ok (.iload_n 2, 1) := by decide +kernel
theorem dX8_refusalOfFlight_13 : decode cX8_refusalOfFlight 13 = .ok (.ifCond .lt 19, 3) := by decide +kernel
theorem dX8_refusalOfFlight_16 : decode cX8_refusalOfFlight 16 = .ok (.iload_n 2, 1) := by decide +kernel
theorem dX8_refusalOfFlight_17 : decode cX8_refusalOfFlight 17 = .ok (.iconst 3, 1) := by decide +kernel
theorem dX8_refusalOfFlight_18 : decode cX8_refusalOfFlight 18 = .ok (.if_icmp .gt 14, 3) := by decide +kernel
theorem dX8_refusalOfFlight_21 : decode cX8_refusalOfFlight 21 = .ok (.iload_n 3, 1) := by decide +kernel
theorem dX8_refusalOfFlight_22 : decode cX8_refusalOfFlight 22 = .ok (.iconst 1, 1) := by decide +kernel
theorem dX8_refusalOfFlight_23 : decode cX8_refusalOfFlight 23 = .ok (.if_icmp .lt 9, 3) := by decide +kernel
theorem dX8_refusalOfFlight_26 : decode cX8_refusalOfFlight 26 = .ok (.iload_n 3, 1) := by decide +kernel
theorem dX8_refusalOfFlight_27 : decode cX8_refusalOfFlight 27 = .ok (.bipush 60, 2) := by decide +kernel
theorem dX8_refusalOfFlight_29 : decode cX8_refusalOfFlight 29 = .ok (.if_icmp .le 7, 3) := by decide +kernel
theorem dX8_refusalOfFlight_32 : decode cX8_refusalOfFlight 32 = .ok (.getstatic 84, 3) := by decide +kernel
theorem dX8_refusalOfFlight_35 : decode cX8_refusalOfFlight 35 = .ok (.areturn, 1) := by decide +kernel
theorem dX8_refusalOfFlight_36 : decode cX8_refusalOfFlight 36 = .ok (.aload_n 0, 1) := by decide +kernel
theorem dX8_refusalOfFlight_37 : decode cX8_refusalOfFlight 37 = .ok (.getfield 34, 3) := by decide +kernel
theorem dX8_refusalOfFlight_40 : decode cX8_refusalOfFlight 40 = .ok (.iload_n 1, 1) := by decide +kernel
theorem dX8_refusalOfFlight_41 : decode cX8_refusalOfFlight 41 = .ok (.aaload, 1) := by decide +kernel
theorem dX8_refusalOfFlight_42 : decode cX8_refusalOfFlight 42 = .ok (.astore 4, 2) := by decide +kernel
theorem dX8_refusalOfFlight_44 : decode cX8_refusalOfFlight 44 = .ok (.aload 4, 2) := by decide +kernel
theorem dX8_refusalOfFlight_46 : decode cX8_refusalOfFlight 46 = .ok (.getfield 67, 3) := by decide +kernel
theorem dX8_refusalOfFlight_49 : decode cX8_refusalOfFlight 49 = .ok (.getstatic 127, 3) := by decide +kernel
theorem dX8_refusalOfFlight_52 : decode cX8_refusalOfFlight 52 = .ok (.if_acmp .eq 7, 3) := by decide +kernel
theorem dX8_refusalOfFlight_55 : decode cX8_refusalOfFlight 55 = .ok (.getstatic 93, 3) := by decide +kernel
theorem dX8_refusalOfFlight_58 : decode cX8_refusalOfFlight 58 = .ok (.areturn, 1) := by decide +kernel
theorem dX8_refusalOfFlight_59 : decode cX8_refusalOfFlight 59 = .ok (.aload 4, 2) := by decide +kernel
theorem dX8_refusalOfFlight_61 : decode cX8_refusalOfFlight 61 = .ok (.getfield 130, 3) := by decide +kernel
theorem dX8_refusalOfFlight_64 : decode cX8_refusalOfFlight 64 = .ok (.iload_n 2, 1) := by decide +kernel
theorem dX8_refusalOfFlight_65 : decode cX8_refusalOfFlight 65 = .ok (.invokestatic 133, 3) := by decide +kernel
theorem dX8_refusalOfFlight_68 : decode cX8_refusalOfFlight 68 = .ok (.iload_n 3, 1) := by decide +kernel
theorem dX8_refusalOfFlight_69 : decode cX8_refusalOfFlight 69 = .ok (.imul, 1) := by decide +kernel
theorem dX8_refusalOfFlight_70 : decode cX8_refusalOfFlight 70 = .ok (.iadd, 1) := by decide +kernel
theorem dX8_refusalOfFlight_71 : decode cX8_refusalOfFlight 71 = .ok (.istore 5, 2) := by decide +kernel
theorem dX8_refusalOfFlight_73 : decode cX8_refusalOfFlight 73 = .ok (.aload 4, 2) := by decide +kernel
theorem dX8_refusalOfFlight_75 : decode cX8_refusalOfFlight 75 = .ok (.getfield 137, 3) := by decide +kernel
theorem dX8_refusalOfFlight_78 : decode cX8_refusalOfFlight 78 = .ok (.iload_n 2, 1) := by decide +kernel
theorem dX8_refusalOfFlight_79 : decode cX8_refusalOfFlight 79 = .ok (.invokestatic 140, 3) := by decide +kernel
theorem dX8_refusalOfFlight_82 : decode cX8_refusalOfFlight 82 = .ok (.iload_n 3, 1) := by decide +kernel
theorem dX8_refusalOfFlight_83 : decode cX8_refusalOfFlight 83 = .ok (.imul, 1) := by decide +kernel
theorem dX8_refusalOfFlight_84 : decode cX8_refusalOfFlight 84 = .ok (.iadd, 1) := by decide +kernel
theorem dX8_refusalOfFlight_85 : decode cX8_refusalOfFlight 85 = .ok (.istore 6, 2) := by decide +kernel
theorem dX8_refusalOfFlight_87 : decode cX8_refusalOfFlight 87 = .ok (.iload 5, 2) := by decide +kernel
theorem dX8_refusalOfFlight_89 : decode cX8_refusalOfFlight 89 = .ok (.invokestatic 80, 3) := by decide +kernel
theorem dX8_refusalOfFlight_92 : decode cX8_refusalOfFlight 92 = .ok (.ifCond .eq 17, 3) := by decide +kernel
theorem dX8_refusalOfFlight_95 : decode cX8_refusalOfFlight 95 = .ok (.iload 6, 2) := by decide +kernel
theorem dX8_refusalOfFlight_97 : decode cX8_refusalOfFlight 97 = .ok (.invokestatic 80, 3) := by decide +kernel
theorem dX8_refusalOfFlight_100 : decode cX8_refusalOfFlight 100 = .ok (.ifCond .eq 9, 3) := by decide +kernel
theorem dX8_refusalOfFlight_103 : decode cX8_refusalOfFlight 103 = .ok (.getstatic 96, 3) := by decide +kernel
theorem dX8_refusalOfFlight_106 : decode cX8_refusalOfFlight 106 = .ok (.goto 6, 3) := by decide +kernel
theorem dX8_refusalOfFlight_109 : decode cX8_refusalOfFlight 109 = .ok (.getstatic 115, 3) := by decide +kernel
theorem dX8_refusalOfFlight_112 : decode cX8_refusalOfFlight 112 = .ok (.areturn, 1) := by decide +kernel
theorem wd798 : Cond.code yX0_strongestAt cX0_strongestAt 6 (some .int) ∈ gW := gW_in 798 (by decide +kernel) (by decide +kernel)
theorem mvX0_strongestAt : MV yX0_strongestAt cX0_strongestAt 6 (some .int) 2 := ⟨wd798, wd26, by decide +kernel, by decide +kernel, by decide +kernel, by decide⟩
theorem wd796 : Cond.instanceMethod yX0_strongestAt ∈ gW := gW_in 796 (by decide +kernel) (by decide +kernel)
theorem wd797 : Cond.selects yX0_strongestAt.cls yX0_strongestAt yX0_strongestAt ∈ gW := gW_in 797 (by decide +kernel) (by decide +kernel)
theorem wd1255 : Cond.methodLink RX8 143 yX0_strongestAt ∈ gW := gW_in 1255 (by decide +kernel) (by decide +kernel)
theorem dX8_refusalOfClimb_0 : decode cX8_refusalOfClimb 0 = .ok (.aload_n 0, 1) := by decide +kernel
theorem dX8_refusalOfClimb_1 : decode cX8_refusalOfClimb 1 = .ok (.iload_n 1, 1) := by decide +kernel
theorem dX8_refusalOfClimb_2 : decode cX8_refusalOfClimb 2 = .ok (.invokevirtual 124, 3) := by decide +kernel
theorem dX8_refusalOfClimb_5 : decode cX8_refusalOfClimb 5 = .ok (.ifCond .ne 7, 3) := by decide +kernel
theorem dX8_refusalOfClimb_8 : decode cX8_refusalOfClimb 8 = .ok (.getstatic 102, 3) := by decide +kernel
theorem dX8_refusalOfClimb_11 : decode cX8_refusalOfClimb 11 = .ok (.areturn, 1) := by decide +kernel
theorem dX8_refusalOfClimb_12 : decode cX8_refusalOfClimb 12 = .ok (.iload_n 2, 1) := by decide +kernel
theorem dX8_refusalOfClimb_13 : decode cX8_refusalOfClimb 13 = .ok (.iconst 1, 1) := by decide +kernel
theorem dX8_refusalOfClimb_14 : decode cX8_refusalOfClimb 14 = .ok (.if_icmp .lt 9, 3) := by decide +kernel
theorem dX8_refusalOfClimb_17 : decode cX8_refusalOfClimb 17 = .ok (.iload_n 2, 1) := by decide +kernel
theorem dX8_refusalOfClimb_18 : decode cX8_refusalOfClimb 18 = .ok (.bipush 30, 2) := by decide +kernel
theorem dX8_refusalOfClimb_20 : decode cX8_refusalOfClimb 20 = .ok (.if_icmp .le 7, 3) := by decide +kernel
theorem dX8_refusalOfClimb_23 : decode cX8_refusalOfClimb 23 = .ok (.getstatic 84, 3) := by decide +kernel
theorem dX8_refusalOfClimb_26 : decode cX8_refusalOfClimb 26 = .ok (.areturn, 1) := by decide +kernel
theorem dX8_refusalOfClimb_27 : decode cX8_refusalOfClimb 27 = .ok (.aload_n 0, 1) := by decide +kernel
theorem dX8_refusalOfClimb_28 : decode cX8_refusalOfClimb 28 = .ok (.getfield 34, 3) := by decide +kernel
theorem dX8_refusalOfClimb_31 : decode cX8_refusalOfClimb 31 = .ok (.iload_n 1, 1) := by decide +kernel
theorem dX8_refusalOfClimb_32 : decode cX8_refusalOfClimb 32 = .ok (.aaload, 1) := by decide +kernel
theorem dX8_refusalOfClimb_33 : decode cX8_refusalOfClimb 33 = .ok (.astore_n 3, 1) := by decide +kernel
theorem dX8_refusalOfClimb_34 : decode cX8_refusalOfClimb 34 = .ok (.aload_n 3, 1) := by decide +kernel
theorem dX8_refusalOfClimb_35 : decode cX8_refusalOfClimb 35 = .ok (.getfield 67, 3) := by decide +kernel
theorem dX8_refusalOfClimb_38 : decode cX8_refusalOfClimb 38 = .ok (.getstatic 127, 3) := by decide +kernel
theorem dX8_refusalOfClimb_41 : decode cX8_refusalOfClimb 41 = .ok (.if_acmp .eq 7, 3) := by decide +kernel
theorem dX8_refusalOfClimb_44 : decode cX8_refusalOfClimb 44 = .ok (.getstatic 93, 3) := by decide +kernel
theorem dX8_refusalOfClimb_47 : decode cX8_refusalOfClimb 47 = .ok (.areturn, 1) := by decide +kernel
theorem dX8_refusalOfClimb_48 : decode cX8_refusalOfClimb 48 = .ok (.aload_n 0, 1) := by decide +kernel
theorem dX8_refusalOfClimb_49 : decode cX8_refusalOfClimb 49 = .ok (.getfield 21, 3) := by decide +kernel
theorem dX8_refusalOfClimb_52 : decode cX8_refusalOfClimb 52 = .ok (.aload_n 3, 1) := by decide +kernel
theorem dX8_refusalOfClimb_53 : decode cX8_refusalOfClimb 53 = .ok (.getfield 130, 3) := by decide +kernel
theorem dX8_refusalOfClimb_56 : decode cX8_refusalOfClimb 56 = .ok (.aload_n 3, 1) := by decide +kernel
theorem dX8_refusalOfClimb_57 : decode cX8_refusalOfClimb 57 = .ok (.getfield 137, 3) := by decide +kernel
theorem dX8_refusalOfClimb_60 : decode cX8_refusalOfClimb 60 = .ok (.invokevirtual 143, 3) := by decide +kernel
theorem dX8_refusalOfClimb_63 : decode cX8_refusalOfClimb 63 = .ok (.ifCond .le 7, 3) := by decide +kernel
theorem dX8_refusalOfClimb_66 : decode cX8_refusalOfClimb 66 = .ok (.iconst 1, 1) := by decide +kernel
theorem dX8_refusalOfClimb_67 : decode cX8_refusalOfClimb 67 = .ok (.goto 4, 3) := by decide +kernel
theorem dX8_refusalOfClimb_70 : decode cX8_refusalOfClimb 70 = .ok (.iconst 0, 1) := by decide +kernel
theorem dX8_refusalOfClimb_71 : decode cX8_refusalOfClimb 71 = .ok (.istore 4, 2) := by decide +kernel
theorem dX8_refusalOfClimb_73 : decode cX8_refusalOfClimb 73 = .ok (.iload 4, 2) := by decide +kernel
theorem dX8_refusalOfClimb_75 : decode cX8_refusalOfClimb 75 = .ok (.ifCond .eq 9, 3) := by decide +kernel
theorem dX8_refusalOfClimb_78 : decode cX8_refusalOfClimb 78 = .ok (.getstatic 96, 3) := by decide +kernel
theorem dX8_refusalOfClimb_81 : decode cX8_refusalOfClimb 81 = .ok (.goto 6, 3) := by decide +kernel
theorem dX8_refusalOfClimb_84 : decode cX8_refusalOfClimb 84 = .ok (.getstatic 115, 3) := by decide +kernel
theorem dX8_refusalOfClimb_87 : decode cX8_refusalOfClimb 87 = .ok (.areturn, 1) := by decide +kernel
theorem dX8_refusalOfEnd_0 : decode cX8_refusalOfEnd 0 = .ok (.aload_n 0, 1) := by decide +kernel
theorem dX8_refusalOfEnd_1 : decode cX8_refusalOfEnd 1 = .ok (.invokevirtual 105, 3) := by decide +kernel
theorem dX8_refusalOfEnd_4 : decode cX8_refusalOfEnd 4 = .ok (.ifCond .ne 13, 3) := by decide +kernel
theorem dX8_refusalOfEnd_7 : decode cX8_refusalOfEnd 7 = .ok (.aload_n 0, 1) := by decide +kernel
theorem dX8_refusalOfEnd_8 : decode cX8_refusalOfEnd 8 = .ok (.getstatic 127, 3) := by decide +kernel
theorem dX8_refusalOfEnd_11 : decode cX8_refusalOfEnd 11 = .ok (.invokevirtual 76, 3) := by decide +kernel
theorem dX8_refusalOfEnd_14 : decode cX8_refusalOfEnd 14 = .ok (.ifCond .le 7, 3) := by decide +kernel
theorem dX8_refusalOfEnd_17 : decode cX8_refusalOfEnd 17 = .ok (.iconst 1, 1) := by decide +kernel
theorem dX8_refusalOfEnd_18 : decode cX8_refusalOfEnd 18 = .ok (.goto 4, 3) := by decide +kernel
theorem dX8_refusalOfEnd_21 : decode cX8_refusalOfEnd 21 = .ok (.iconst 0, 1) := by decide +kernel
theorem dX8_refusalOfEnd_22 : decode cX8_refusalOfEnd 22 = .ok (.istore_n 1, 1) := by decide +kernel
theorem dX8_refusalOfEnd_23 : decode cX8_refusalOfEnd 23 = .ok (.iload_n 1, 1) := by decide +kernel
theorem dX8_refusalOfEnd_24 : decode cX8_refusalOfEnd 24 = .ok (.ifCond .eq 9, 3) := by decide +kernel
theorem dX8_refusalOfEnd_27 : decode cX8_refusalOfEnd 27 = .ok (.getstatic 93, 3) := by decide +kernel
theorem dX8_refusalOfEnd_30 : decode cX8_refusalOfEnd 30 = .ok (.goto 6, 3) := by decide +kernel
theorem dX8_refusalOfEnd_33 : decode cX8_refusalOfEnd 33 = .ok (.getstatic 96, 3) := by decide +kernel
theorem dX8_refusalOfEnd_36 : decode cX8_refusalOfEnd 36 = .ok (.areturn, 1) := by decide +kernel
theorem wd623 : Cond.code yX3_enter cX3_enter 2 none ∈ gW := gW_in 623 (by decide +kernel) (by decide +kernel)
theorem mvX3_enter : MV yX3_enter cX3_enter 2 none 1 := ⟨wd623, wd28, by decide +kernel, by decide +kernel, by decide +kernel, by decide⟩
theorem wd621 : Cond.instanceMethod yX3_enter ∈ gW := gW_in 621 (by decide +kernel) (by decide +kernel)
theorem wd622 : Cond.selects yX3_enter.cls yX3_enter yX3_enter ∈ gW := gW_in 622 (by decide +kernel) (by decide +kernel)
theorem wd620 : Cond.methodLink RX8 147 yX3_enter ∈ gW := gW_in 620 (by decide +kernel) (by decide +kernel)
theorem dX8_putPilot_0 : decode cX8_putPilot 0 = .ok (.aload_n 0, 1) := by decide +kernel
theorem dX8_putPilot_1 : decode cX8_putPilot 1 = .ok (.getfield 38, 3) := by decide +kernel
theorem dX8_putPilot_4 : decode cX8_putPilot 4 = .ok (.bipush 6, 2) := by decide +kernel
theorem dX8_putPilot_6 : decode cX8_putPilot 6 = .ok (.if_icmp .lt 5, 3) := by decide +kernel
theorem dX8_putPilot_9 : decode cX8_putPilot 9 = .ok (.iconst (-1), 1) := by decide +kernel
theorem dX8_putPilot_10 : decode cX8_putPilot 10 = .ok (.ireturn, 1) := by decide +kernel
theorem dX8_putPilot_11 : decode cX8_putPilot 11 = .ok (.aload_n 0, 1) := by decide +kernel
theorem dX8_putPilot_12 : decode cX8_putPilot 12 = .ok (.getfield 34, 3) := by decide +kernel
theorem dX8_putPilot_15 : decode cX8_putPilot 15 = .ok (.aload_n 0, 1) := by decide +kernel
theorem dX8_putPilot_16 : decode cX8_putPilot 16 = .ok (.getfield 38, 3) := by decide +kernel
theorem dX8_putPilot_19 : decode cX8_putPilot 19 = .ok (.aaload, 1) := by decide +kernel
theorem dX8_putPilot_20 : decode cX8_putPilot 20 = .ok (.iload_n 1, 1) := by decide +kernel
theorem dX8_putPilot_21 : decode cX8_putPilot 21 = .ok (.invokevirtual 147, 3) := by decide +kernel
theorem dX8_putPilot_24 : decode cX8_putPilot 24 = .ok (.aload_n 0, 1) := by decide +kernel
theorem dX8_putPilot_25 : decode cX8_putPilot 25 = .ok (.dup, 1) := by decide +kernel
theorem dX8_putPilot_26 : decode cX8_putPilot 26 = .ok (.getfield 38, 3) := by decide +kernel
theorem dX8_putPilot_29 : decode cX8_putPilot 29 = .ok (.iconst 1, 1) := by decide +kernel
theorem dX8_putPilot_30 : decode cX8_putPilot 30 = .ok (.iadd, 1) := by decide +kernel
theorem dX8_putPilot_31 : decode cX8_putPilot 31 = .ok (.putfield 38, 3) := by decide +kernel
theorem dX8_putPilot_34 : decode cX8_putPilot 34 = .ok (.aload_n 0, 1) := by decide +kernel
theorem dX8_putPilot_35 : decode cX8_putPilot 35 = .ok (.getfield 38, 3) := by decide +kernel
theorem dX8_putPilot_38 : decode cX8_putPilot 38 = .ok (.iconst 1, 1) := by decide +kernel
theorem dX8_putPilot_39 : decode cX8_putPilot 39 = .ok (.isub, 1) := by decide +kernel
theorem dX8_putPilot_40 : decode cX8_putPilot 40 = .ok (.ireturn, 1) := by decide +kernel
theorem wd653 : Cond.methodLink RX8 151 yX2_hasStop ∈ gW := gW_in 653 (by decide +kernel) (by decide +kernel)
theorem wd909 : Cond.fieldLink RX8 154 (TX2 3).1 (TX2 3).2.1 (TX2 3).2.2.1 ∈ gW := gW_in 909 (by decide +kernel) (by decide +kernel)
theorem wd902 : Cond.fieldLink RX8 158 (TX2 0).1 (TX2 0).2.1 (TX2 0).2.2.1 ∈ gW := gW_in 902 (by decide +kernel) (by decide +kernel)
theorem wd904 : Cond.fieldLink RX8 161 (TX2 1).1 (TX2 1).2.1 (TX2 1).2.2.1 ∈ gW := gW_in 904 (by decide +kernel) (by decide +kernel)
theorem wd664 : Cond.code yX3_takeOff cX3_takeOff 3 none ∈ gW := gW_in 664 (by decide +kernel) (by decide +kernel)
theorem mvX3_takeOff : MV yX3_takeOff cX3_takeOff 3 none 2 := ⟨wd664, wd28, by decide +kernel, by decide +kernel, by decide +kernel, by decide⟩
theorem wd662 : Cond.instanceMethod yX3_takeOff ∈ gW := gW_in 662 (by decide +kernel) (by decide +kernel)
theorem wd663 : Cond.selects yX3_takeOff.cls yX3_takeOff yX3_takeOff ∈ gW := gW_in 663 (by decide +kernel) (by decide +kernel)
theorem wd661 : Cond.methodLink RX8 164 yX3_takeOff ∈ gW := gW_in 661 (by decide +kernel) (by decide +kernel)
theorem dX8_start_0 : decode cX8_start 0 = .ok (.aload_n 0, 1) := by decide +kernel
theorem dX8_start_1 : decode cX8_start 1 = .ok (.iload_n 1, 1) := by decide +kernel
theorem dX8_start_2 : decode cX8_start 2 = .ok (.invokevirtual 124, 3) := by decide +kernel
theorem dX8_start_5 : decode cX8_start 5 = .ok (.ifCond .eq 70, 3) := by decide +kernel
theorem dX8_start_8 : decode cX8_start 8 = .ok (.aload_n 0, 1) := by decide +kernel
theorem dX8_start_9 : decode cX8_start 9 = .ok (.getfield 12, 3) := by decide +kernel
theorem dX8_start_12 : decode cX8_start 12 = .ok (.iconst 0, 1) := by decide +kernel
theorem dX8_start_13 : decode cX8_start 13 = .ok (.invokevirtual 151, 3) := by decide +kernel
theorem dX8_start_16 : decode cX8_start 16 = .ok (.ifCond .eq 59, 3) := by decide +kernel
theorem dX8_start_19 : decode cX8_start 19 = .ok (.aload_n 0, 1) := by decide +kernel
theorem dX8_start_20 : decode cX8_start 20 = .ok (.getfield 12, 3) := by decide +kernel
theorem dX8_start_23 : decode cX8_start 23 = .ok (.aload_n 0, 1) := by decide +kernel
theorem dX8_start_24 : decode cX8_start 24 = .ok (.getfield 12, 3) := by decide +kernel
theorem dX8_start_27 : decode cX8_start 27 = .ok (.getfield 154, 3) := by decide +kernel
theorem dX8_start_30 : decode cX8_start 30 = .ok (.iconst 0, 1) := by decide +kernel
theorem dX8_start_31 : decode cX8_start 31 = .ok (.iaload, 1) := by decide +kernel
theorem dX8_start_32 : decode cX8_start 32 = .ok (.invokevirtual 99, 3) := by decide +kernel
theorem dX8_start_35 : decode cX8_start 35 = .ok (.ifCond .eq 40, 3) := by decide +kernel
theorem dX8_start_38 : decode cX8_start 38 = .ok (.aload_n 0, 1) := by decide +kernel
theorem dX8_start_39 : decode cX8_start 39 = .ok (.getfield 12, 3) := by decide +kernel
theorem dX8_start_42 : decode cX8_start 42 = .ok (.getfield 154, 3) := by decide +kernel
theorem dX8_start_45 : decode cX8_start 45 = .ok (.iconst 0, 1) := by decide +kernel
theorem dX8_start_46 : decode cX8_start 46 = .ok (.iaload, 1) := by decide +kernel
theorem dX8_start_47 : decode cX8_start 47 = .ok (.istore_n 2, 1) := by decide +kernel
theorem dX8_start_48 : decode cX8_start 48 = .ok (.aload_n 0, 1) := by decide +kernel
theorem dX8_start_49 : decode cX8_start 49 = .ok (.getfield 34, 3) := by decide +kernel
theorem dX8_start_52 : decode cX8_start 52 = .ok (.iload_n 1, 1) := by decide +kernel
theorem dX8_start_53 : decode cX8_start 53 = .ok (.aaload, 1) := by decide +kernel
theorem dX8_start_54 : decode cX8_start 54 = .ok (.aload_n 0, 1) := by decide +kernel
theorem dX8_start_55 : decode cX8_start 55 = .ok (.getfield 12, 3) := by decide +kernel
theorem dX8_start_58 : decode cX8_start 58 = .ok (.getfield 158, 3) := by decide +kernel
theorem dX8_start_61 : decode cX8_start 61 = .ok (.iload_n 2, 1) := by decide +kernel
theorem dX8_start_62 : decode cX8_start 62 = .ok (.iaload, 1) := by decide +kernel
theorem dX8_start_63 : decode cX8_start 63 = .ok (.aload_n 0, 1) := by decide +kernel
theorem dX8_start_64 : decode cX8_start 64 = .ok (.getfield 12, 3) := by decide +kernel
theorem dX8_start_67 : decode cX8_start 67 = .ok (.getfield 161, 3) := by decide +kernel
theorem dX8_start_70 : decode cX8_start 70 = .ok (.iload_n 2, 1) := by decide +kernel
theorem dX8_start_71 : decode cX8_start 71 = .ok (.iaload, 1) := by decide +kernel
theorem dX8_start_72 : decode cX8_start 72 = .ok (.invokevirtual 164, 3) := by decide +kernel
theorem dX8_start_75 : decode cX8_start 75 = .ok (.aload_n 0, 1) := by decide +kernel
theorem dX8_start_76 : decode cX8_start 76 = .ok (.getstatic 127, 3) := by decide +kernel
theorem dX8_start_79 : decode cX8_start 79 = .ok (.invokevirtual 76, 3) := by decide +kernel
theorem dX8_start_82 : decode cX8_start 82 = .ok (.ireturn, 1) := by decide +kernel
theorem wd703 : Cond.code yX3_move cX3_move 2 none ∈ gW := gW_in 703 (by decide +kernel) (by decide +kernel)
theorem mvX3_move : MV yX3_move cX3_move 2 none 1 := ⟨wd703, wd28, by decide +kernel, by decide +kernel, by decide +kernel, by decide⟩
theorem wd701 : Cond.instanceMethod yX3_move ∈ gW := gW_in 701 (by decide +kernel) (by decide +kernel)
theorem wd702 : Cond.selects yX3_move.cls yX3_move yX3_move ∈ gW := gW_in 702 (by decide +kernel) (by decide +kernel)
theorem wd700 : Cond.methodLink RX8 172 yX3_move ∈ gW := gW_in 700 (by decide +kernel) (by decide +kernel)
theorem wd714 : Cond.methodLink RX8 175 yX1_covers ∈ gW := gW_in 714 (by decide +kernel) (by decide +kernel)
theorem wd1011 : Cond.fieldLink RX8 182 (TX3 7).1 (TX3 7).2.1 (TX3 7).2.2.1 ∈ gW := gW_in 1011 (by decide +kernel) (by decide +kernel)
theorem wd721 : Cond.code yX2_isStopAt cX2_isStopAt 4 (some .boolean) ∈ gW := gW_in 721 (by decide +kernel) (by decide +kernel)
theorem mvX2_isStopAt : MV yX2_isStopAt cX2_isStopAt 4 (some .boolean) 3 := ⟨wd721, wd25, by decide +kernel, by decide +kernel, by decide +kernel, by decide⟩
theorem wd719 : Cond.instanceMethod yX2_isStopAt ∈ gW := gW_in 719 (by decide +kernel) (by decide +kernel)
theorem wd720 : Cond.selects yX2_isStopAt.cls yX2_isStopAt yX2_isStopAt ∈ gW := gW_in 720 (by decide +kernel) (by decide +kernel)
theorem wd718 : Cond.methodLink RX8 185 yX2_isStopAt ∈ gW := gW_in 718 (by decide +kernel) (by decide +kernel)
theorem wd1002 : Cond.fieldLink RX8 192 (TX3 4).1 (TX3 4).2.1 (TX3 4).2.2.1 ∈ gW := gW_in 1002 (by decide +kernel) (by decide +kernel)
theorem wd732 : Cond.fieldLink RX8 195 "GlidingContest$Phase" "LANDED" "LGlidingContest$Phase;" ∈ gW := gW_in 732 (by decide +kernel) (by decide +kernel)
theorem wd730 : Cond.fieldLink RX8 189 "GlidingContest$Phase" "FINISHED" "LGlidingContest$Phase;" ∈ gW := gW_in 730 (by decide +kernel) (by decide +kernel)
theorem wd1008 : Cond.fieldLink RX8 179 (TX3 6).1 (TX3 6).2.1 (TX3 6).2.2.1 ∈ gW := gW_in 1008 (by decide +kernel) (by decide +kernel)
theorem dX8_glideKilometre_0 : decode cX8_glideKilometre 0 = .ok (.aload_n 1, 1) := by decide +kernel
theorem dX8_glideKilometre_1 : decode cX8_glideKilometre 1 = .ok (.iload_n 2, 1) := by decide +kernel
theorem dX8_glideKilometre_2 : decode cX8_glideKilometre 2 = .ok (.invokevirtual 172, 3) := by decide +kernel
theorem dX8_glideKilometre_5 : decode cX8_glideKilometre 5 = .ok (.aload_n 0, 1) := by decide +kernel
theorem dX8_glideKilometre_6 : decode cX8_glideKilometre 6 = .ok (.getfield 28, 3) := by decide +kernel
theorem dX8_glideKilometre_9 : decode cX8_glideKilometre 9 = .ok (.aload_n 1, 1) := by decide +kernel
theorem dX8_glideKilometre_10 : decode cX8_glideKilometre 10 = .ok (.getfield 130, 3) := by decide +kernel
theorem dX8_glideKilometre_13 : decode cX8_glideKilometre 13 = .ok (.aload_n 1, 1) := by decide +kernel
theorem dX8_glideKilometre_14 : decode cX8_glideKilometre 14 = .ok (.getfield 137, 3) := by decide +kernel
theorem dX8_glideKilometre_17 : decode cX8_glideKilometre 17 = .ok (.invokevirtual 175, 3) := by decide +kernel
theorem dX8_glideKilometre_20 : decode cX8_glideKilometre 20 = .ok (.ifCond .eq 14, 3) := by decide +kernel
theorem dX8_glideKilometre_23 : decode cX8_glideKilometre 23 = .ok (.aload_n 1, 1) := by decide +kernel
theorem dX8_glideKilometre_24 : decode cX8_glideKilometre 24 = .ok (.dup, 1) := by decide +kernel
theorem dX8_glideKilometre_25 : decode cX8_glideKilometre 25 = .ok (.getfield 179, 3) := by decide +kernel
theorem dX8_glideKilometre_28 : decode cX8_glideKilometre 28 = .ok (.bipush 10, 2) := by decide +kernel
theorem dX8_glideKilometre_30 : decode cX8_glideKilometre 30 = .ok (.iadd, 1) := by decide +kernel
theorem dX8_glideKilometre_31 : decode cX8_glideKilometre 31 = .ok (.putfield 179, 3) := by decide +kernel
theorem dX8_glideKilometre_34 : decode cX8_glideKilometre 34 = .ok (.aload_n 0, 1) := by decide +kernel
theorem dX8_glideKilometre_35 : decode cX8_glideKilometre 35 = .ok (.getfield 12, 3) := by decide +kernel
theorem dX8_glideKilometre_38 : decode cX8_glideKilometre 38 = .ok (.aload_n 1, 1) := by decide +kernel
theorem dX8_glideKilometre_39 : decode cX8_glideKilometre 39 = .ok (.getfield 182, 3) := by decide +kernel
theorem dX8_glideKilometre_42 : decode cX8_glideKilometre 42 = .ok (.aload_n 1, 1) := by decide +kernel
theorem dX8_glideKilometre_43 : decode cX8_glideKilometre 43 = .ok (.getfield 130, 3) := by decide +kernel
theorem dX8_glideKilometre_46 : decode cX8_glideKilometre 46 = .ok (.aload_n 1, 1) := by decide +kernel
theorem dX8_glideKilometre_47 : decode cX8_glideKilometre 47 = .ok (.getfield 137, 3) := by decide +kernel
theorem dX8_glideKilometre_50 : decode cX8_glideKilometre 50 = .ok (.invokevirtual 185, 3) := by decide +kernel
theorem dX8_glideKilometre_53 : decode cX8_glideKilometre 53 = .ok (.ifCond .eq 34, 3) := by decide +kernel
theorem dX8_glideKilometre_56 : decode cX8_glideKilometre 56 = .ok (.aload_n 1, 1) := by decide +kernel
theorem dX8_glideKilometre_57 : decode cX8_glideKilometre 57 = .ok (.dup, 1) := by decide +kernel
theorem dX8_glideKilometre_58 : decode cX8_glideKilometre 58 = .ok (.getfield 182, 3) := by decide +kernel
theorem dX8_glideKilometre_61 : decode cX8_glideKilometre 61 = .ok (.iconst 1, 1) := by decide +kernel
theorem dX8_glideKilometre_62 : decode cX8_glideKilometre 62 = .ok (.iadd, 1) := by decide +kernel
theorem dX8_glideKilometre_63 : decode cX8_glideKilometre 63 = .ok (.putfield 182, 3) := by decide +kernel
theorem dX8_glideKilometre_66 : decode cX8_glideKilometre 66 = .ok (.aload_n 1, 1) := by decide +kernel
theorem dX8_glideKilometre_67 : decode cX8_glideKilometre 67 = .ok (.getfield 182, 3) := by decide +kernel
theorem dX8_glideKilometre_70 : decode cX8_glideKilometre 70 = .ok (.aload_n 0, 1) := by decide +kernel
theorem dX8_glideKilometre_71 : decode cX8_glideKilometre 71 = .ok (.getfield 12, 3) := by decide +kernel
theorem dX8_glideKilometre_74 : decode cX8_glideKilometre 74 = .ok (.getfield 109, 3) := by decide +kernel
theorem dX8_glideKilometre_77 : decode cX8_glideKilometre 77 = .ok (.if_icmp .ne 10, 3) := by decide +kernel
theorem dX8_glideKilometre_80 : decode cX8_glideKilometre 80 = .ok (.aload_n 1, 1) := by decide +kernel
theorem dX8_glideKilometre_81 : decode cX8_glideKilometre 81 = .ok (.getstatic 189, 3) := by decide +kernel
theorem dX8_glideKilometre_84 : decode cX8_glideKilometre 84 = .ok (.putfield 67, 3) := by decide +kernel
theorem dX8_glideKilometre_87 : decode cX8_glideKilometre 87 = .ok (.aload_n 1, 1) := by decide +kernel
theorem dX8_glideKilometre_88 : decode cX8_glideKilometre 88 = .ok (.getfield 67, 3) := by decide +kernel
theorem dX8_glideKilometre_91 : decode cX8_glideKilometre 91 = .ok (.getstatic 127, 3) := by decide +kernel
theorem dX8_glideKilometre_94 : decode cX8_glideKilometre 94 = .ok (.if_acmp .ne 17, 3) := by decide +kernel
theorem dX8_glideKilometre_97 : decode cX8_glideKilometre 97 = .ok (.aload_n 1, 1) := by decide +kernel
theorem dX8_glideKilometre_98 : decode cX8_glideKilometre 98 = .ok (.getfield 192, 3) := by decide +kernel
theorem dX8_glideKilometre_101 : decode cX8_glideKilometre 101 = .ok (.ifCond .ne 10, 3) := by decide +kernel
theorem dX8_glideKilometre_104 : decode cX8_glideKilometre 104 = .ok (.aload_n 1, 1) := by decide +kernel
theorem dX8_glideKilometre_105 : decode cX8_glideKilometre 105 = .ok (.getstatic 195, 3) := by decide +kernel
theorem dX8_glideKilometre_108 : decode cX8_glideKilometre 108 = .ok (.putfield 67, 3) := by decide +kernel
theorem dX8_glideKilometre_111 : decode cX8_glideKilometre 111 = .ok (.return_, 1) := by decide +kernel
theorem wd699 : Cond.code yX8_glideKilometre cX8_glideKilometre 3 none ∈ gW := gW_in 699 (by decide +kernel) (by decide +kernel)
theorem mvX8_glideKilometre : MV yX8_glideKilometre cX8_glideKilometre 3 none 2 := ⟨wd699, wd24, by decide +kernel, by decide +kernel, by decide +kernel, by decide⟩
theorem wd697 : Cond.instanceMethod yX8_glideKilometre ∈ gW := gW_in 697 (by decide +kernel) (by decide +kernel)
theorem wd4 : Cond.selects yX8_glideKilometre.cls yX8_glideKilometre yX8_glideKilometre ∈ gW := gW_in 4 (by decide +kernel) (by decide +kernel)
theorem wd695 : Cond.methodLink RX8 168 yX8_glideKilometre ∈ gW := gW_in 695 (by decide +kernel) (by decide +kernel)
theorem dX8_glide_0 : decode cX8_glide 0 = .ok (.aload_n 0, 1) := by decide +kernel
theorem dX8_glide_1 : decode cX8_glide 1 = .ok (.iload_n 1, 1) := by decide +kernel
theorem dX8_glide_2 : decode cX8_glide 2 = .ok (.invokevirtual 124, 3) := by decide +kernel
theorem dX8_glide_5 : decode cX8_glide 5 = .ok (.ifCond .ne 5, 3) := by decide +kernel
theorem dX8_glide_8 : decode cX8_glide 8 = .ok (.iconst 0, 1) := by decide +kernel
theorem dX8_glide_9 : decode cX8_glide 9 = .ok (.ireturn, 1) := by decide +kernel
theorem dX8_glide_10 : decode cX8_glide 10 = .ok (.aload_n 0, 1) := by decide +kernel
theorem dX8_glide_11 : decode cX8_glide 11 = .ok (.getfield 34, 3) := by decide +kernel
theorem dX8_glide_14 : decode cX8_glide 14 = .ok (.iload_n 1, 1) := by decide +kernel
theorem dX8_glide_15 : decode cX8_glide 15 = .ok (.aaload, 1) := by decide +kernel
theorem dX8_glide_16 : decode cX8_glide 16 = .ok (.astore 4, 2) := by decide +kernel
theorem dX8_glide_18 : decode cX8_glide 18 = .ok (.iconst 0, 1) := by decide +kernel
theorem dX8_glide_19 : decode cX8_glide 19 = .ok (.istore 5, 2) := by decide +kernel
theorem dX8_glide_21 : decode cX8_glide 21 = .ok (.iload 5, 2) := by decide +kernel
theorem dX8_glide_23 : decode cX8_glide 23 = .ok (.iload_n 3, 1) := by decide +kernel
theorem dX8_glide_24 : decode cX8_glide 24 = .ok (.if_icmp .ge 27, 3) := by decide +kernel
theorem dX8_glide_27 : decode cX8_glide 27 = .ok (.aload 4, 2) := by decide +kernel
theorem dX8_glide_29 : decode cX8_glide 29 = .ok (.getfield 67, 3) := by decide +kernel
theorem dX8_glide_32 : decode cX8_glide 32 = .ok (.getstatic 127, 3) := by decide +kernel
theorem dX8_glide_35 : decode cX8_glide 35 = .ok (.if_acmp .ne 16, 3) := by decide +kernel
theorem dX8_glide_38 : decode cX8_glide 38 = .ok (.aload_n 0, 1) := by decide +kernel
theorem dX8_glide_39 : decode cX8_glide 39 = .ok (.aload 4, 2) := by decide +kernel
theorem dX8_glide_41 : decode cX8_glide 41 = .ok (.iload_n 2, 1) := by decide +kernel
theorem dX8_glide_42 : decode cX8_glide 42 = .ok (.invokevirtual 168, 3) := by decide +kernel
theorem dX8_glide_45 : decode cX8_glide 45 = .ok (.iinc 5 1, 3) := by decide +kernel
theorem dX8_glide_48 : decode cX8_glide 48 = .ok (.goto (-27), 3) := by decide +kernel
theorem dX8_glide_51 : decode cX8_glide 51 = .ok (.iload 5, 2) := by decide +kernel
theorem dX8_glide_53 : decode cX8_glide 53 = .ok (.ireturn, 1) := by decide +kernel
theorem wd943 : Cond.fieldLink RX8 198 (TX0 4).1 (TX0 4).2.1 (TX0 4).2.2.1 ∈ gW := gW_in 943 (by decide +kernel) (by decide +kernel)
theorem wd1263 : Cond.code yX3_rise cX3_rise 4 none ∈ gW := gW_in 1263 (by decide +kernel) (by decide +kernel)
theorem mvX3_rise : MV yX3_rise cX3_rise 4 none 3 := ⟨wd1263, wd28, by decide +kernel, by decide +kernel, by decide +kernel, by decide⟩
theorem wd1261 : Cond.instanceMethod yX3_rise ∈ gW := gW_in 1261 (by decide +kernel) (by decide +kernel)
theorem wd1262 : Cond.selects yX3_rise.cls yX3_rise yX3_rise ∈ gW := gW_in 1262 (by decide +kernel) (by decide +kernel)
theorem wd1260 : Cond.methodLink RX8 201 yX3_rise ∈ gW := gW_in 1260 (by decide +kernel) (by decide +kernel)
theorem dX8_soar_0 : decode cX8_soar 0 = .ok (.aload_n 0, 1) := by decide +kernel
theorem dX8_soar_1 : decode cX8_soar 1 = .ok (.iload_n 1, 1) := by decide +kernel
theorem dX8_soar_2 : decode cX8_soar 2 = .ok (.invokevirtual 124, 3) := by decide +kernel
theorem dX8_soar_5 : decode cX8_soar 5 = .ok (.ifCond .ne 5, 3) := by decide +kernel
theorem dX8_soar_8 : decode cX8_soar 8 = .ok (.iconst 0, 1) := by decide +kernel
theorem dX8_soar_9 : decode cX8_soar 9 = .ok (.ireturn, 1) := by decide +kernel
theorem dX8_soar_10 : decode cX8_soar 10 = .ok (.aload_n 0, 1) := by decide +kernel
theorem dX8_soar_11 : decode cX8_soar 11 = .ok (.getfield 34, 3) := by decide +kernel
theorem dX8_soar_14 : decode cX8_soar 14 = .ok (.iload_n 1, 1) := by decide +kernel
theorem dX8_soar_15 : decode cX8_soar 15 = .ok (.aaload, 1) := by decide +kernel
theorem dX8_soar_16 : decode cX8_soar 16 = .ok (.astore_n 3, 1) := by decide +kernel
theorem dX8_soar_17 : decode cX8_soar 17 = .ok (.aload_n 3, 1) := by decide +kernel
theorem dX8_soar_18 : decode cX8_soar 18 = .ok (.aload_n 0, 1) := by decide +kernel
theorem dX8_soar_19 : decode cX8_soar 19 = .ok (.getfield 21, 3) := by decide +kernel
theorem dX8_soar_22 : decode cX8_soar 22 = .ok (.aload_n 3, 1) := by decide +kernel
theorem dX8_soar_23 : decode cX8_soar 23 = .ok (.getfield 130, 3) := by decide +kernel
theorem dX8_soar_26 : decode cX8_soar 26 = .ok (.aload_n 3, 1) := by decide +kernel
theorem dX8_soar_27 : decode cX8_soar 27 = .ok (.getfield 137, 3) := by decide +kernel
theorem dX8_soar_30 : decode cX8_soar 30 = .ok (.invokevirtual 143, 3) := by decide +kernel
theorem dX8_soar_33 : decode cX8_soar 33 = .ok (.iload_n 2, 1) := by decide +kernel
theorem dX8_soar_34 : decode cX8_soar 34 = .ok (.aload_n 0, 1) := by decide +kernel
theorem dX8_soar_35 : decode cX8_soar 35 = .ok (.getfield 21, 3) := by decide +kernel
theorem dX8_soar_38 : decode cX8_soar 38 = .ok (.getfield 198, 3) := by decide +kernel
theorem dX8_soar_41 : decode cX8_soar 41 = .ok (.invokevirtual 201, 3) := by decide +kernel
theorem dX8_soar_44 : decode cX8_soar 44 = .ok (.aload_n 3, 1) := by decide +kernel
theorem dX8_soar_45 : decode cX8_soar 45 = .ok (.getfield 192, 3) := by decide +kernel
theorem dX8_soar_48 : decode cX8_soar 48 = .ok (.ireturn, 1) := by decide +kernel
theorem wd761 : Cond.methodLink RX8 220 yX2_sumOfLegs ∈ gW := gW_in 761 (by decide +kernel) (by decide +kernel)
theorem wd768 : Cond.code yX2_spanToStop cX2_spanToStop 4 (some .int) ∈ gW := gW_in 768 (by decide +kernel) (by decide +kernel)
theorem mvX2_spanToStop : MV yX2_spanToStop cX2_spanToStop 4 (some .int) 3 := ⟨wd768, wd25, by decide +kernel, by decide +kernel, by decide +kernel, by decide⟩
theorem wd766 : Cond.instanceMethod yX2_spanToStop ∈ gW := gW_in 766 (by decide +kernel) (by decide +kernel)
theorem wd767 : Cond.selects yX2_spanToStop.cls yX2_spanToStop yX2_spanToStop ∈ gW := gW_in 767 (by decide +kernel) (by decide +kernel)
theorem wd765 : Cond.methodLink RX8 216 yX2_spanToStop ∈ gW := gW_in 765 (by decide +kernel) (by decide +kernel)
theorem wd769 : Cond.methodLink RX8 233 Lib.Math.max.name ∈ gW := gW_in 769 (by decide +kernel) (by decide +kernel)
theorem dX8_distanceDone_0 : decode cX8_distanceDone 0 = .ok (.aload_n 1, 1) := by decide +kernel
theorem dX8_distanceDone_1 : decode cX8_distanceDone 1 = .ok (.getfield 67, 3) := by decide +kernel
theorem dX8_distanceDone_4 : decode cX8_distanceDone 4 = .ok (.getstatic 71, 3) := by decide +kernel
theorem dX8_distanceDone_7 : decode cX8_distanceDone 7 = .ok (.if_acmp .ne 5, 3) := by decide +kernel
theorem dX8_distanceDone_10 : decode cX8_distanceDone 10 = .ok (.iconst 0, 1) := by decide +kernel
theorem dX8_distanceDone_11 : decode cX8_distanceDone 11 = .ok (.ireturn, 1) := by decide +kernel
theorem dX8_distanceDone_12 : decode cX8_distanceDone 12 = .ok (.aload_n 0, 1) := by decide +kernel
theorem dX8_distanceDone_13 : decode cX8_distanceDone 13 = .ok (.getfield 12, 3) := by decide +kernel
theorem dX8_distanceDone_16 : decode cX8_distanceDone 16 = .ok (.iconst 0, 1) := by decide +kernel
theorem dX8_distanceDone_17 : decode cX8_distanceDone 17 = .ok (.aload_n 1, 1) := by decide +kernel
theorem dX8_distanceDone_18 : decode cX8_distanceDone 18 = .ok (.getfield 182, 3) := by decide +kernel
theorem dX8_distanceDone_21 : decode cX8_distanceDone 21 = .ok (.iconst 1, 1) := by decide +kernel
theorem dX8_distanceDone_22 : decode cX8_distanceDone 22 = .ok (.isub, 1) := by decide +kernel
theorem dX8_distanceDone_23 : decode cX8_distanceDone 23 = .ok (.invokevirtual 220, 3) := by decide +kernel
theorem dX8_distanceDone_26 : decode cX8_distanceDone 26 = .ok (.istore_n 2, 1) := by decide +kernel
theorem dX8_distanceDone_27 : decode cX8_distanceDone 27 = .ok (.aload_n 1, 1) := by decide +kernel
theorem dX8_distanceDone_28 : decode cX8_distanceDone 28 = .ok (.getfield 67, 3) := by decide +kernel
theorem dX8_distanceDone_31 : decode cX8_distanceDone 31 = .ok (.getstatic 189, 3) := by decide +kernel
theorem dX8_distanceDone_34 : decode cX8_distanceDone 34 = .ok (.if_acmp .ne 5, 3) := by decide +kernel
theorem dX8_distanceDone_37 : decode cX8_distanceDone 37 = .ok (.iload_n 2, 1) := by decide +kernel
theorem dX8_distanceDone_38 : decode cX8_distanceDone 38 = .ok (.ireturn, 1) := by decide +kernel
theorem dX8_distanceDone_39 : decode cX8_distanceDone 39 = .ok (.aload_n 0, 1) := by decide +kernel
theorem dX8_distanceDone_40 : decode cX8_distanceDone 40 = .ok (.getfield 12, 3) := by decide +kernel
theorem dX8_distanceDone_43 : decode cX8_distanceDone 43 = .ok (.aload_n 1, 1) := by decide +kernel
theorem dX8_distanceDone_44 : decode cX8_distanceDone 44 = .ok (.getfield 182, 3) := by decide +kernel
theorem dX8_distanceDone_47 : decode cX8_distanceDone 47 = .ok (.iconst 1, 1) := by decide +kernel
theorem dX8_distanceDone_48 : decode cX8_distanceDone 48 = .ok (.isub, 1) := by decide +kernel
theorem dX8_distanceDone_49 : decode cX8_distanceDone 49 = .ok (.aload_n 1, 1) := by decide +kernel
theorem dX8_distanceDone_50 : decode cX8_distanceDone 50 = .ok (.getfield 182, 3) := by decide +kernel
theorem dX8_distanceDone_53 : decode cX8_distanceDone 53 = .ok (.invokevirtual 220, 3) := by decide +kernel
theorem dX8_distanceDone_56 : decode cX8_distanceDone 56 = .ok (.istore_n 3, 1) := by decide +kernel
theorem dX8_distanceDone_57 : decode cX8_distanceDone 57 = .ok (.iload_n 3, 1) := by decide +kernel
theorem dX8_distanceDone_58 : decode cX8_distanceDone 58 = .ok (.aload_n 0, 1) := by decide +kernel
theorem dX8_distanceDone_59 : decode cX8_distanceDone 59 = .ok (.getfield 12, 3) := by decide +kernel
theorem dX8_distanceDone_62 : decode cX8_distanceDone 62 = .ok (.aload_n 1, 1) := by decide +kernel
theorem dX8_distanceDone_63 : decode cX8_distanceDone 63 = .ok (.getfield 182, 3) := by decide +kernel
theorem dX8_distanceDone_66 : decode cX8_distanceDone 66 = .ok (.aload_n 1, 1) := by decide +kernel
theorem dX8_distanceDone_67 : decode cX8_distanceDone 67 = .ok (.getfield 130, 3) := by decide +kernel
theorem dX8_distanceDone_70 : decode cX8_distanceDone 70 = .ok (.aload_n 1, 1) := by decide +kernel
theorem dX8_distanceDone_71 : decode cX8_distanceDone 71 = .ok (.getfield 137, 3) := by decide +kernel
theorem dX8_distanceDone_74 : decode cX8_distanceDone 74 = .ok (.invokevirtual 216, 3) := by decide +kernel
theorem dX8_distanceDone_77 : decode cX8_distanceDone 77 = .ok (.isub, 1) := by decide +kernel
theorem dX8_distanceDone_78 : decode cX8_distanceDone 78 = .ok (.istore 4, 2) := by decide +kernel
theorem dX8_distanceDone_80 : decode cX8_distanceDone 80 = .ok (.iload_n 2, 1) := by decide +kernel
theorem dX8_distanceDone_81 : decode cX8_distanceDone 81 = .ok (.iconst 0, 1) := by decide +kernel
theorem dX8_distanceDone_82 : decode cX8_distanceDone 82 = .ok (.iload 4, 2) := by decide +kernel
theorem dX8_distanceDone_84 : decode cX8_distanceDone 84 = .ok (.invokestatic 233, 3) := by decide +kernel
theorem dX8_distanceDone_87 : decode cX8_distanceDone 87 = .ok (.iadd, 1) := by decide +kernel
theorem dX8_distanceDone_88 : decode cX8_distanceDone 88 = .ok (.ireturn, 1) := by decide +kernel
theorem wd1005 : Cond.fieldLink RX8 247 (TX3 5).1 (TX3 5).2.1 (TX3 5).2.2.1 ∈ gW := gW_in 1005 (by decide +kernel) (by decide +kernel)
theorem wd780 : Cond.methodLink RX8 253 Lib.Math.min.name ∈ gW := gW_in 780 (by decide +kernel) (by decide +kernel)
theorem dX8_leastMinutes_0 : decode cX8_leastMinutes 0 = .ok (.iload_n 1, 1) := by decide +kernel
theorem dX8_leastMinutes_1 : decode cX8_leastMinutes 1 = .ok (.istore_n 2, 1) := by decide +kernel
theorem dX8_leastMinutes_2 : decode cX8_leastMinutes 2 = .ok (.iconst 0, 1) := by decide +kernel
theorem dX8_leastMinutes_3 : decode cX8_leastMinutes 3 = .ok (.istore_n 3, 1) := by decide +kernel
theorem dX8_leastMinutes_4 : decode cX8_leastMinutes 4 = .ok (.iload_n 3, 1) := by decide +kernel
theorem dX8_leastMinutes_5 : decode cX8_leastMinutes 5 = .ok (.aload_n 0, 1) := by decide +kernel
theorem dX8_leastMinutes_6 : decode cX8_leastMinutes 6 = .ok (.getfield 38, 3) := by decide +kernel
theorem dX8_leastMinutes_9 : decode cX8_leastMinutes 9 = .ok (.if_icmp .ge 38, 3) := by decide +kernel
theorem dX8_leastMinutes_12 : decode cX8_leastMinutes 12 = .ok (.aload_n 0, 1) := by decide +kernel
theorem dX8_leastMinutes_13 : decode cX8_leastMinutes 13 = .ok (.getfield 34, 3) := by decide +kernel
theorem dX8_leastMinutes_16 : decode cX8_leastMinutes 16 = .ok (.iload_n 3, 1) := by decide +kernel
theorem dX8_leastMinutes_17 : decode cX8_leastMinutes 17 = .ok (.aaload, 1) := by decide +kernel
theorem dX8_leastMinutes_18 : decode cX8_leastMinutes 18 = .ok (.getfield 67, 3) := by decide +kernel
theorem dX8_leastMinutes_21 : decode cX8_leastMinutes 21 = .ok (.getstatic 189, 3) := by decide +kernel
theorem dX8_leastMinutes_24 : decode cX8_leastMinutes 24 = .ok (.if_acmp .ne 17, 3) := by decide +kernel
theorem dX8_leastMinutes_27 : decode cX8_leastMinutes 27 = .ok (.iload_n 2, 1) := by decide +kernel
theorem dX8_leastMinutes_28 : decode cX8_leastMinutes 28 = .ok (.aload_n 0, 1) := by decide +kernel
theorem dX8_leastMinutes_29 : decode cX8_leastMinutes 29 = .ok (.getfield 34, 3) := by decide +kernel
theorem dX8_leastMinutes_32 : decode cX8_leastMinutes 32 = .ok (.iload_n 3, 1) := by decide +kernel
theorem dX8_leastMinutes_33 : decode cX8_leastMinutes 33 = .ok (.aaload, 1) := by decide +kernel
theorem dX8_leastMinutes_34 : decode cX8_leastMinutes 34 = .ok (.getfield 247, 3) := by decide +kernel
theorem dX8_leastMinutes_37 : decode cX8_leastMinutes 37 = .ok (.invokestatic 253, 3) := by decide +kernel
theorem dX8_leastMinutes_40 : decode cX8_leastMinutes 40 = .ok (.istore_n 2, 1) := by decide +kernel
theorem dX8_leastMinutes_41 : decode cX8_leastMinutes 41 = .ok (.iinc 3 1, 3) := by decide +kernel
theorem dX8_leastMinutes_44 : decode cX8_leastMinutes 44 = .ok (.goto (-40), 3) := by decide +kernel
theorem dX8_leastMinutes_47 : decode cX8_leastMinutes 47 = .ok (.iload_n 2, 1) := by decide +kernel
theorem dX8_leastMinutes_48 : decode cX8_leastMinutes 48 = .ok (.ireturn, 1) := by decide +kernel
theorem wd760 : Cond.code yX8_distanceDone cX8_distanceDone 5 (some .int) ∈ gW := gW_in 760 (by decide +kernel) (by decide +kernel)
theorem mvX8_distanceDone : MV yX8_distanceDone cX8_distanceDone 5 (some .int) 1 := ⟨wd760, wd24, by decide +kernel, by decide +kernel, by decide +kernel, by decide⟩
theorem wd758 : Cond.instanceMethod yX8_distanceDone ∈ gW := gW_in 758 (by decide +kernel) (by decide +kernel)
theorem wd759 : Cond.selects yX8_distanceDone.cls yX8_distanceDone yX8_distanceDone ∈ gW := gW_in 759 (by decide +kernel) (by decide +kernel)
theorem wd757 : Cond.methodLink RX8 238 yX8_distanceDone ∈ gW := gW_in 757 (by decide +kernel) (by decide +kernel)
theorem wd773 : Cond.code yX2_wholeDistance cX2_wholeDistance 1 (some .int) ∈ gW := gW_in 773 (by decide +kernel) (by decide +kernel)
theorem mvX2_wholeDistance : MV yX2_wholeDistance cX2_wholeDistance 1 (some .int) 0 := ⟨wd773, wd25, by decide +kernel, by decide +kernel, by decide +kernel, by decide⟩
theorem wd771 : Cond.instanceMethod yX2_wholeDistance ∈ gW := gW_in 771 (by decide +kernel) (by decide +kernel)
theorem wd772 : Cond.selects yX2_wholeDistance.cls yX2_wholeDistance yX2_wholeDistance ∈ gW := gW_in 772 (by decide +kernel) (by decide +kernel)
theorem wd770 : Cond.methodLink RX8 241 yX2_wholeDistance ∈ gW := gW_in 770 (by decide +kernel) (by decide +kernel)
theorem wd775 : Cond.methodLinkNest RX8 244 yX9_quotient "GlidingContest" ∈ gNW := gNW_in 775 (by decide +kernel) (by decide +kernel)
theorem wd779 : Cond.code yX8_leastMinutes cX8_leastMinutes 4 (some .int) ∈ gW := gW_in 779 (by decide +kernel) (by decide +kernel)
theorem mvX8_leastMinutes : MV yX8_leastMinutes cX8_leastMinutes 4 (some .int) 1 := ⟨wd779, wd24, by decide +kernel, by decide +kernel, by decide +kernel, by decide⟩
theorem wd778 : Cond.instanceMethod yX8_leastMinutes ∈ gW := gW_in 778 (by decide +kernel) (by decide +kernel)
theorem wd5 : Cond.selects yX8_leastMinutes.cls yX8_leastMinutes yX8_leastMinutes ∈ gW := gW_in 5 (by decide +kernel) (by decide +kernel)
theorem wd776 : Cond.methodLink RX8 250 yX8_leastMinutes ∈ gW := gW_in 776 (by decide +kernel) (by decide +kernel)
theorem dX8_scoreOf_0 : decode cX8_scoreOf 0 = .ok (.aload_n 1, 1) := by decide +kernel
theorem dX8_scoreOf_1 : decode cX8_scoreOf 1 = .ok (.getfield 67, 3) := by decide +kernel
theorem dX8_scoreOf_4 : decode cX8_scoreOf 4 = .ok (.getstatic 71, 3) := by decide +kernel
theorem dX8_scoreOf_7 : decode cX8_scoreOf 7 = .ok (.if_acmp .ne 5, 3) := by decide +kernel
theorem dX8_scoreOf_10 : decode cX8_scoreOf 10 = .ok (.iconst 0, 1) := by decide +kernel
theorem dX8_scoreOf_11 : decode cX8_scoreOf 11 = .ok (.ireturn, 1) := by decide +kernel
theorem dX8_scoreOf_12 : decode cX8_scoreOf 12 = .ok (.sipush 1000, 3) := by decide +kernel
theorem dX8_scoreOf_15 : decode cX8_scoreOf 15 = .ok (.aload_n 0, 1) := by decide +kernel
theorem dX8_scoreOf_16 : decode cX8_scoreOf 16 = .ok (.aload_n 1, 1) := by decide +kernel
theorem dX8_scoreOf_17 : decode cX8_scoreOf 17 = .ok (.invokevirtual 238, 3) := by decide +kernel
theorem dX8_scoreOf_20 : decode cX8_scoreOf 20 = .ok (.imul, 1) := by decide +kernel
theorem dX8_scoreOf_21 : decode cX8_scoreOf 21 = .ok (.aload_n 0, 1) := by decide +kernel
theorem dX8_scoreOf_22 : decode cX8_scoreOf 22 = .ok (.getfield 12, 3) := by decide +kernel
theorem dX8_scoreOf_25 : decode cX8_scoreOf 25 = .ok (.invokevirtual 241, 3) := by decide +kernel
theorem dX8_scoreOf_28 : decode cX8_scoreOf 28 = .ok (.invokestatic 244, 3) := by decide +kernel
theorem dX8_scoreOf_31 : decode cX8_scoreOf 31 = .ok (.istore_n 2, 1) := by decide +kernel
theorem dX8_scoreOf_32 : decode cX8_scoreOf 32 = .ok (.aload_n 1, 1) := by decide +kernel
theorem dX8_scoreOf_33 : decode cX8_scoreOf 33 = .ok (.getfield 67, 3) := by decide +kernel
theorem dX8_scoreOf_36 : decode cX8_scoreOf 36 = .ok (.getstatic 189, 3) := by decide +kernel
theorem dX8_scoreOf_39 : decode cX8_scoreOf 39 = .ok (.if_acmp .ne 25, 3) := by decide +kernel
theorem dX8_scoreOf_42 : decode cX8_scoreOf 42 = .ok (.iload_n 2, 1) := by decide +kernel
theorem dX8_scoreOf_43 : decode cX8_scoreOf 43 = .ok (.sipush 500, 3) := by decide +kernel
theorem dX8_scoreOf_46 : decode cX8_scoreOf 46 = .ok (.aload_n 0, 1) := by decide +kernel
theorem dX8_scoreOf_47 : decode cX8_scoreOf 47 = .ok (.aload_n 1, 1) := by decide +kernel
theorem dX8_scoreOf_48 : decode cX8_scoreOf 48 = .ok (.getfield 247, 3) := by decide +kernel
theorem dX8_scoreOf_51 : decode cX8_scoreOf 51 = .ok (.invokevirtual 250, 3) := by decide +kernel
theorem dX8_scoreOf_54 : decode cX8_scoreOf 54 = .ok (.imul, 1) := by decide +kernel
theorem dX8_scoreOf_55 : decode cX8_scoreOf 55 = .ok (.aload_n 1, 1) := by decide +kernel
theorem dX8_scoreOf_56 : decode cX8_scoreOf 56 = .ok (.getfield 247, 3) := by decide +kernel
theorem dX8_scoreOf_59 : decode cX8_scoreOf 59 = .ok (.invokestatic 244, 3) := by decide +kernel
theorem dX8_scoreOf_62 : decode cX8_scoreOf 62 = .ok (.iadd, 1) := by decide +kernel
theorem dX8_scoreOf_63 : decode cX8_scoreOf 63 = .ok (.istore_n 2, 1) := by decide +kernel
theorem dX8_scoreOf_64 : decode cX8_scoreOf 64 = .ok (.iconst 0, 1) := by decide +kernel
theorem dX8_scoreOf_65 : decode cX8_scoreOf 65 = .ok (.iload_n 2, 1) := by decide +kernel
theorem dX8_scoreOf_66 : decode cX8_scoreOf 66 = .ok (.aload_n 1, 1) := by decide +kernel
theorem dX8_scoreOf_67 : decode cX8_scoreOf 67 = .ok (.getfield 179, 3) := by decide +kernel
theorem dX8_scoreOf_70 : decode cX8_scoreOf 70 = .ok (.isub, 1) := by decide +kernel
theorem dX8_scoreOf_71 : decode cX8_scoreOf 71 = .ok (.invokestatic 233, 3) := by decide +kernel
theorem dX8_scoreOf_74 : decode cX8_scoreOf 74 = .ok (.ireturn, 1) := by decide +kernel
theorem wd1014 : Cond.fieldLink RX8 205 (TX3 8).1 (TX3 8).2.1 (TX3 8).2.2.1 ∈ gW := gW_in 1014 (by decide +kernel) (by decide +kernel)
theorem wd756 : Cond.code yX8_scoreOf cX8_scoreOf 3 (some .int) ∈ gW := gW_in 756 (by decide +kernel) (by decide +kernel)
theorem mvX8_scoreOf : MV yX8_scoreOf cX8_scoreOf 3 (some .int) 1 := ⟨wd756, wd24, by decide +kernel, by decide +kernel, by decide +kernel, by decide⟩
theorem wd754 : Cond.instanceMethod yX8_scoreOf ∈ gW := gW_in 754 (by decide +kernel) (by decide +kernel)
theorem wd755 : Cond.selects yX8_scoreOf.cls yX8_scoreOf yX8_scoreOf ∈ gW := gW_in 755 (by decide +kernel) (by decide +kernel)
theorem wd753 : Cond.methodLink RX8 209 yX8_scoreOf ∈ gW := gW_in 753 (by decide +kernel) (by decide +kernel)
theorem wd781 : Cond.methodLink RX8 213 yX3_rest ∈ gW := gW_in 781 (by decide +kernel) (by decide +kernel)
theorem dX8_closeDay_0 : decode cX8_closeDay 0 = .ok (.aload_n 0, 1) := by decide +kernel
theorem dX8_closeDay_1 : decode cX8_closeDay 1 = .ok (.getstatic 189, 3) := by decide +kernel
theorem dX8_closeDay_4 : decode cX8_closeDay 4 = .ok (.invokevirtual 76, 3) := by decide +kernel
theorem dX8_closeDay_7 : decode cX8_closeDay 7 = .ok (.istore_n 1, 1) := by decide +kernel
theorem dX8_closeDay_8 : decode cX8_closeDay 8 = .ok (.iconst 0, 1) := by decide +kernel
theorem dX8_closeDay_9 : decode cX8_closeDay 9 = .ok (.istore_n 2, 1) := by decide +kernel
theorem dX8_closeDay_10 : decode cX8_closeDay 10 = .ok (.iload_n 2, 1) := by decide +kernel
theorem dX8_closeDay_11 : decode cX8_closeDay 11 = .ok (.aload_n 0, 1) := by decide +kernel
theorem dX8_closeDay_12 : decode cX8_closeDay 12 = .ok (.getfield 38, 3) := by decide +kernel
theorem dX8_closeDay_15 : decode cX8_closeDay 15 = .ok (.if_icmp .ge 34, 3) := by decide +kernel
theorem dX8_closeDay_18 : decode cX8_closeDay 18 = .ok (.aload_n 0, 1) := by decide +kernel
theorem dX8_closeDay_19 : decode cX8_closeDay 19 = .ok (.getfield 34, 3) := by decide +kernel
theorem dX8_closeDay_22 : decode cX8_closeDay 22 = .ok (.iload_n 2, 1) := by decide +kernel
theorem dX8_closeDay_23 : decode cX8_closeDay 23 = .ok (.aaload, 1) := by decide +kernel
theorem dX8_closeDay_24 : decode cX8_closeDay 24 = .ok (.dup, 1) := by decide +kernel
theorem dX8_closeDay_25 : decode cX8_closeDay 25 = .ok (.getfield 205, 3) := by decide +kernel
theorem dX8_closeDay_28 : decode cX8_closeDay 28 = .ok (.aload_n 0, 1) := by decide +kernel
theorem dX8_closeDay_29 : decode cX8_closeDay 29 = .ok (.aload_n 0, 1) := by decide +kernel
theorem dX8_closeDay_30 : decode cX8_closeDay 30 = .ok (.getfield 34, 3) := by decide +kernel
theorem dX8_closeDay_33 : decode cX8_closeDay 33 = .ok (.iload_n 2, 1) := by decide +kernel
theorem dX8_closeDay_34 : decode cX8_closeDay 34 = .ok (.aaload, 1) := by decide +kernel
theorem dX8_closeDay_35 : decode cX8_closeDay 35 = .ok (.invokevirtual 209, 3) := by decide +kernel
theorem dX8_closeDay_38 : decode cX8_closeDay 38 = .ok (.i2l, 1) := by decide +kernel
theorem dX8_closeDay_39 : decode cX8_closeDay 39 = .ok (.ladd, 1) := by decide +kernel
theorem dX8_closeDay_40 : decode cX8_closeDay 40 = .ok (.putfield 205, 3) := by decide +kernel
theorem dX8_closeDay_43 : decode cX8_closeDay 43 = .ok (.iinc 2 1, 3) := by decide +kernel
theorem dX8_closeDay_46 : decode cX8_closeDay 46 = .ok (.goto (-36), 3) := by decide +kernel
theorem dX8_closeDay_49 : decode cX8_closeDay 49 = .ok (.iconst 0, 1) := by decide +kernel
theorem dX8_closeDay_50 : decode cX8_closeDay 50 = .ok (.istore_n 2, 1) := by decide +kernel
theorem dX8_closeDay_51 : decode cX8_closeDay 51 = .ok (.iload_n 2, 1) := by decide +kernel
theorem dX8_closeDay_52 : decode cX8_closeDay 52 = .ok (.aload_n 0, 1) := by decide +kernel
theorem dX8_closeDay_53 : decode cX8_closeDay 53 = .ok (.getfield 38, 3) := by decide +kernel
theorem dX8_closeDay_56 : decode cX8_closeDay 56 = .ok (.if_icmp .ge 18, 3) := by decide +kernel
theorem dX8_closeDay_59 : decode cX8_closeDay 59 = .ok (.aload_n 0, 1) := by decide +kernel
theorem dX8_closeDay_60 : decode cX8_closeDay 60 = .ok (.getfield 34, 3) := by decide +kernel
theorem dX8_closeDay_63 : decode cX8_closeDay 63 = .ok (.iload_n 2, 1) := by decide +kernel
theorem dX8_closeDay_64 : decode cX8_closeDay 64 = .ok (.aaload, 1) := by decide +kernel
theorem dX8_closeDay_65 : decode cX8_closeDay 65 = .ok (.invokevirtual 213, 3) := by decide +kernel
theorem dX8_closeDay_68 : decode cX8_closeDay 68 = .ok (.iinc 2 1, 3) := by decide +kernel
theorem dX8_closeDay_71 : decode cX8_closeDay 71 = .ok (.goto (-20), 3) := by decide +kernel
theorem dX8_closeDay_74 : decode cX8_closeDay 74 = .ok (.aload_n 0, 1) := by decide +kernel
theorem dX8_closeDay_75 : decode cX8_closeDay 75 = .ok (.dup, 1) := by decide +kernel
theorem dX8_closeDay_76 : decode cX8_closeDay 76 = .ok (.getfield 42, 3) := by decide +kernel
theorem dX8_closeDay_79 : decode cX8_closeDay 79 = .ok (.iconst 1, 1) := by decide +kernel
theorem dX8_closeDay_80 : decode cX8_closeDay 80 = .ok (.iadd, 1) := by decide +kernel
theorem dX8_closeDay_81 : decode cX8_closeDay 81 = .ok (.putfield 42, 3) := by decide +kernel
theorem dX8_closeDay_84 : decode cX8_closeDay 84 = .ok (.iload_n 1, 1) := by decide +kernel
theorem dX8_closeDay_85 : decode cX8_closeDay 85 = .ok (.ireturn, 1) := by decide +kernel
theorem dX8_distanceLeft_0 : decode cX8_distanceLeft 0 = .ok (.aload_n 0, 1) := by decide +kernel
theorem dX8_distanceLeft_1 : decode cX8_distanceLeft 1 = .ok (.getfield 12, 3) := by decide +kernel
theorem dX8_distanceLeft_4 : decode cX8_distanceLeft 4 = .ok (.aload_n 1, 1) := by decide +kernel
theorem dX8_distanceLeft_5 : decode cX8_distanceLeft 5 = .ok (.getfield 182, 3) := by decide +kernel
theorem dX8_distanceLeft_8 : decode cX8_distanceLeft 8 = .ok (.aload_n 1, 1) := by decide +kernel
theorem dX8_distanceLeft_9 : decode cX8_distanceLeft 9 = .ok (.getfield 130, 3) := by decide +kernel
theorem dX8_distanceLeft_12 : decode cX8_distanceLeft 12 = .ok (.aload_n 1, 1) := by decide +kernel
theorem dX8_distanceLeft_13 : decode cX8_distanceLeft 13 = .ok (.getfield 137, 3) := by decide +kernel
theorem dX8_distanceLeft_16 : decode cX8_distanceLeft 16 = .ok (.invokevirtual 216, 3) := by decide +kernel
theorem dX8_distanceLeft_19 : decode cX8_distanceLeft 19 = .ok (.istore_n 2, 1) := by decide +kernel
theorem dX8_distanceLeft_20 : decode cX8_distanceLeft 20 = .ok (.iload_n 2, 1) := by decide +kernel
theorem dX8_distanceLeft_21 : decode cX8_distanceLeft 21 = .ok (.aload_n 0, 1) := by decide +kernel
theorem dX8_distanceLeft_22 : decode cX8_distanceLeft 22 = .ok (.getfield 12, 3) := by decide +kernel
theorem dX8_distanceLeft_25 : decode cX8_distanceLeft 25 = .ok (.aload_n 1, 1) := by decide +kernel
theorem dX8_distanceLeft_26 : decode cX8_distanceLeft 26 = .ok (.getfield 182, 3) := by decide +kernel
theorem dX8_distanceLeft_29 : decode cX8_distanceLeft 29 = .ok (.aload_n 0, 1) := by decide +kernel
theorem dX8_distanceLeft_30 : decode cX8_distanceLeft 30 = .ok (.getfield 12, 3) := by decide +kernel
theorem dX8_distanceLeft_33 : decode cX8_distanceLeft 33 = .ok (.getfield 109, 3) := by decide +kernel
theorem dX8_distanceLeft_36 : decode cX8_distanceLeft 36 = .ok (.iconst 1, 1) := by decide +kernel
theorem dX8_distanceLeft_37 : decode cX8_distanceLeft 37 = .ok (.isub, 1) := by decide +kernel
theorem dX8_distanceLeft_38 : decode cX8_distanceLeft 38 = .ok (.invokevirtual 220, 3) := by decide +kernel
theorem dX8_distanceLeft_41 : decode cX8_distanceLeft 41 = .ok (.iadd, 1) := by decide +kernel
theorem dX8_distanceLeft_42 : decode cX8_distanceLeft 42 = .ok (.ireturn, 1) := by decide +kernel
theorem wd832 : Cond.code yX8_distanceLeft cX8_distanceLeft 3 (some .int) ∈ gW := gW_in 832 (by decide +kernel) (by decide +kernel)
theorem mvX8_distanceLeft : MV yX8_distanceLeft cX8_distanceLeft 3 (some .int) 1 := ⟨wd832, wd24, by decide +kernel, by decide +kernel, by decide +kernel, by decide⟩
theorem wd830 : Cond.instanceMethod yX8_distanceLeft ∈ gW := gW_in 830 (by decide +kernel) (by decide +kernel)
theorem wd831 : Cond.selects yX8_distanceLeft.cls yX8_distanceLeft yX8_distanceLeft ∈ gW := gW_in 831 (by decide +kernel) (by decide +kernel)
theorem wd1506 : Cond.methodLink RX8 223 yX8_distanceLeft ∈ gW := gW_in 1506 (by decide +kernel) (by decide +kernel)
theorem wd1507 : Cond.methodLink RX8 226 yX3_sinkRate ∈ gW := gW_in 1507 (by decide +kernel) (by decide +kernel)
theorem dX8_finishesByHeight_0 : decode cX8_finishesByHeight 0 = .ok (.aload_n 1, 1) := by decide +kernel
theorem dX8_finishesByHeight_1 : decode cX8_finishesByHeight 1 = .ok (.getfield 192, 3) := by decide +kernel
theorem dX8_finishesByHeight_4 : decode cX8_finishesByHeight 4 = .ok (.aload_n 0, 1) := by decide +kernel
theorem dX8_finishesByHeight_5 : decode cX8_finishesByHeight 5 = .ok (.aload_n 1, 1) := by decide +kernel
theorem dX8_finishesByHeight_6 : decode cX8_finishesByHeight 6 = .ok (.invokevirtual 223, 3) := by decide +kernel
theorem dX8_finishesByHeight_9 : decode cX8_finishesByHeight 9 = .ok (.iconst 1, 1) := by decide +kernel
theorem dX8_finishesByHeight_10 : decode cX8_finishesByHeight 10 = .ok (.isub, 1) := by decide +kernel
theorem dX8_finishesByHeight_11 : decode cX8_finishesByHeight 11 = .ok (.aload_n 1, 1) := by decide +kernel
theorem dX8_finishesByHeight_12 : decode cX8_finishesByHeight 12 = .ok (.invokevirtual 226, 3) := by decide +kernel
theorem dX8_finishesByHeight_15 : decode cX8_finishesByHeight 15 = .ok (.imul, 1) := by decide +kernel
theorem dX8_finishesByHeight_16 : decode cX8_finishesByHeight 16 = .ok (.if_icmp .le 7, 3) := by decide +kernel
theorem dX8_finishesByHeight_19 : decode cX8_finishesByHeight 19 = .ok (.iconst 1, 1) := by decide +kernel
theorem dX8_finishesByHeight_20 : decode cX8_finishesByHeight 20 = .ok (.goto 4, 3) := by decide +kernel
theorem dX8_finishesByHeight_23 : decode cX8_finishesByHeight 23 = .ok (.iconst 0, 1) := by decide +kernel
theorem dX8_finishesByHeight_24 : decode cX8_finishesByHeight 24 = .ok (.ireturn, 1) := by decide +kernel
theorem wd1049 : Cond.fieldLink RX8 50 (TX8 7).1 (TX8 7).2.1 (TX8 7).2.2.1 ∈ gW := gW_in 1049 (by decide +kernel) (by decide +kernel)
theorem wd1519 : Cond.code yX2_directionTo cX2_directionTo 5 (some .int) ∈ gW := gW_in 1519 (by decide +kernel) (by decide +kernel)
theorem mvX2_directionTo : MV yX2_directionTo cX2_directionTo 5 (some .int) 3 := ⟨wd1519, wd25, by decide +kernel, by decide +kernel, by decide +kernel, by decide⟩
theorem wd1517 : Cond.instanceMethod yX2_directionTo ∈ gW := gW_in 1517 (by decide +kernel) (by decide +kernel)
theorem wd1518 : Cond.selects yX2_directionTo.cls yX2_directionTo yX2_directionTo ∈ gW := gW_in 1518 (by decide +kernel) (by decide +kernel)
theorem wd1516 : Cond.methodLink RX8 230 yX2_directionTo ∈ gW := gW_in 1516 (by decide +kernel) (by decide +kernel)
theorem dX8_finishesInFlight_0 : decode cX8_finishesInFlight 0 = .ok (.aload_n 0, 1) := by decide +kernel
theorem dX8_finishesInFlight_1 : decode cX8_finishesInFlight 1 = .ok (.getfield 50, 3) := by decide +kernel
theorem dX8_finishesInFlight_4 : decode cX8_finishesInFlight 4 = .ok (.aload_n 1, 1) := by decide +kernel
theorem dX8_finishesInFlight_5 : decode cX8_finishesInFlight 5 = .ok (.invokevirtual 64, 3) := by decide +kernel
theorem dX8_finishesInFlight_8 : decode cX8_finishesInFlight 8 = .ok (.iconst 0, 1) := by decide +kernel
theorem dX8_finishesInFlight_9 : decode cX8_finishesInFlight 9 = .ok (.istore_n 2, 1) := by decide +kernel
theorem dX8_finishesInFlight_10 : decode cX8_finishesInFlight 10 = .ok (.iload_n 2, 1) := by decide +kernel
theorem dX8_finishesInFlight_11 : decode cX8_finishesInFlight 11 = .ok (.sipush 10000, 3) := by decide +kernel
theorem dX8_finishesInFlight_14 : decode cX8_finishesInFlight 14 = .ok (.if_icmp .ge 61, 3) := by decide +kernel
theorem dX8_finishesInFlight_17 : decode cX8_finishesInFlight 17 = .ok (.aload_n 0, 1) := by decide +kernel
theorem dX8_finishesInFlight_18 : decode cX8_finishesInFlight 18 = .ok (.getfield 50, 3) := by decide +kernel
theorem dX8_finishesInFlight_21 : decode cX8_finishesInFlight 21 = .ok (.getfield 67, 3) := by decide +kernel
theorem dX8_finishesInFlight_24 : decode cX8_finishesInFlight 24 = .ok (.getstatic 127, 3) := by decide +kernel
theorem dX8_finishesInFlight_27 : decode cX8_finishesInFlight 27 = .ok (.if_acmp .eq 6, 3) := by decide +kernel
theorem dX8_finishesInFlight_30 : decode cX8_finishesInFlight 30 = .ok (.goto 45, 3) := by decide +kernel
theorem dX8_finishesInFlight_33 : decode cX8_finishesInFlight 33 = .ok (.aload_n 0, 1) := by decide +kernel
theorem dX8_finishesInFlight_34 : decode cX8_finishesInFlight 34 = .ok (.aload_n 0, 1) := by decide +kernel
theorem dX8_finishesInFlight_35 : decode cX8_finishesInFlight 35 = .ok (.getfield 50, 3) := by decide +kernel
theorem dX8_finishesInFlight_38 : decode cX8_finishesInFlight 38 = .ok (.aload_n 0, 1) := by decide +kernel
theorem dX8_finishesInFlight_39 : decode cX8_finishesInFlight 39 = .ok (.getfield 12, 3) := by decide +kernel
theorem dX8_finishesInFlight_42 : decode cX8_finishesInFlight 42 = .ok (.aload_n 0, 1) := by decide +kernel
theorem dX8_finishesInFlight_43 : decode cX8_finishesInFlight 43 = .ok (.getfield 50, 3) := by decide +kernel
theorem dX8_finishesInFlight_46 : decode cX8_finishesInFlight 46 = .ok (.getfield 182, 3) := by decide +kernel
theorem dX8_finishesInFlight_49 : decode cX8_finishesInFlight 49 = .ok (.aload_n 0, 1) := by decide +kernel
theorem dX8_finishesInFlight_50 : decode cX8_finishesInFlight 50 = .ok (.getfield 50, 3) := by decide +kernel
theorem dX8_finishesInFlight_53 : decode cX8_finishesInFlight 53 = .ok (.getfield 130, 3) := by decide +kernel
theorem dX8_finishesInFlight_56 : decode cX8_finishesInFlight 56 = .ok (.aload_n 0, 1) := by decide +kernel
theorem dX8_finishesInFlight_57 : decode cX8_finishesInFlight 57 = .ok (.getfield 50, 3) := by decide +kernel
theorem dX8_finishesInFlight_60 : decode cX8_finishesInFlight 60 = .ok (.getfield 137, 3) := by decide +kernel
theorem dX8_finishesInFlight_63 : decode cX8_finishesInFlight 63 = .ok (.invokevirtual 230, 3) := by decide +kernel
theorem dX8_finishesInFlight_66 : decode cX8_finishesInFlight 66 = .ok (.invokevirtual 168, 3) := by decide +kernel
theorem dX8_finishesInFlight_69 : decode cX8_finishesInFlight 69 = .ok (.iinc 2 1, 3) := by decide +kernel
theorem dX8_finishesInFlight_72 : decode cX8_finishesInFlight 72 = .ok (.goto (-62), 3) := by decide +kernel
theorem dX8_finishesInFlight_75 : decode cX8_finishesInFlight 75 = .ok (.aload_n 0, 1) := by decide +kernel
theorem dX8_finishesInFlight_76 : decode cX8_finishesInFlight 76 = .ok (.getfield 50, 3) := by decide +kernel
theorem dX8_finishesInFlight_79 : decode cX8_finishesInFlight 79 = .ok (.getfield 67, 3) := by decide +kernel
theorem dX8_finishesInFlight_82 : decode cX8_finishesInFlight 82 = .ok (.getstatic 189, 3) := by decide +kernel
theorem dX8_finishesInFlight_85 : decode cX8_finishesInFlight 85 = .ok (.if_acmp .ne 7, 3) := by decide +kernel
theorem dX8_finishesInFlight_88 : decode cX8_finishesInFlight 88 = .ok (.iconst 1, 1) := by decide +kernel
theorem dX8_finishesInFlight_89 : decode cX8_finishesInFlight 89 = .ok (.goto 4, 3) := by decide +kernel
theorem dX8_finishesInFlight_92 : decode cX8_finishesInFlight 92 = .ok (.iconst 0, 1) := by decide +kernel
theorem dX8_finishesInFlight_93 : decode cX8_finishesInFlight 93 = .ok (.ireturn, 1) := by decide +kernel
theorem wd1048 : Cond.fieldLink RX8 45 (TX8 6).1 (TX8 6).2.1 (TX8 6).2.2.1 ∈ gW := gW_in 1048 (by decide +kernel) (by decide +kernel)
theorem dX8_isAhead_0 : decode cX8_isAhead 0 = .ok (.aload_n 0, 1) := by decide +kernel
theorem dX8_isAhead_1 : decode cX8_isAhead 1 = .ok (.iload_n 1, 1) := by decide +kernel
theorem dX8_isAhead_2 : decode cX8_isAhead 2 = .ok (.invokevirtual 124, 3) := by decide +kernel
theorem dX8_isAhead_5 : decode cX8_isAhead 5 = .ok (.ifCond .eq 11, 3) := by decide +kernel
theorem dX8_isAhead_8 : decode cX8_isAhead 8 = .ok (.aload_n 0, 1) := by decide +kernel
theorem dX8_isAhead_9 : decode cX8_isAhead 9 = .ok (.iload_n 2, 1) := by decide +kernel
theorem dX8_isAhead_10 : decode cX8_isAhead 10 = .ok (.invokevirtual 124, 3) := by decide +kernel
theorem dX8_isAhead_13 : decode cX8_isAhead 13 = .ok (.ifCond .ne 5, 3) := by decide +kernel
theorem dX8_isAhead_16 : decode cX8_isAhead 16 = .ok (.iconst 0, 1) := by decide +kernel
theorem dX8_isAhead_17 : decode cX8_isAhead 17 = .ok (.ireturn, 1) := by decide +kernel
theorem dX8_isAhead_18 : decode cX8_isAhead 18 = .ok (.aload_n 0, 1) := by decide +kernel
theorem dX8_isAhead_19 : decode cX8_isAhead 19 = .ok (.getfield 45, 3) := by decide +kernel
theorem dX8_isAhead_22 : decode cX8_isAhead 22 = .ok (.iload_n 1, 1) := by decide +kernel
theorem dX8_isAhead_23 : decode cX8_isAhead 23 = .ok (.laload, 1) := by decide +kernel
theorem dX8_isAhead_24 : decode cX8_isAhead 24 = .ok (.aload_n 0, 1) := by decide +kernel
theorem dX8_isAhead_25 : decode cX8_isAhead 25 = .ok (.getfield 45, 3) := by decide +kernel
theorem dX8_isAhead_28 : decode cX8_isAhead 28 = .ok (.iload_n 2, 1) := by decide +kernel
theorem dX8_isAhead_29 : decode cX8_isAhead 29 = .ok (.laload, 1) := by decide +kernel
theorem dX8_isAhead_30 : decode cX8_isAhead 30 = .ok (.lcmp, 1) := by decide +kernel
theorem dX8_isAhead_31 : decode cX8_isAhead 31 = .ok (.ifCond .eq 25, 3) := by decide +kernel
theorem dX8_isAhead_34 : decode cX8_isAhead 34 = .ok (.aload_n 0, 1) := by decide +kernel
theorem dX8_isAhead_35 : decode cX8_isAhead 35 = .ok (.getfield 45, 3) := by decide +kernel
theorem dX8_isAhead_38 : decode cX8_isAhead 38 = .ok (.iload_n 1, 1) := by decide +kernel
theorem dX8_isAhead_39 : decode cX8_isAhead 39 = .ok (.laload, 1) := by decide +kernel
theorem dX8_isAhead_40 : decode cX8_isAhead 40 = .ok (.aload_n 0, 1) := by decide +kernel
theorem dX8_isAhead_41 : decode cX8_isAhead 41 = .ok (.getfield 45, 3) := by decide +kernel
theorem dX8_isAhead_44 : decode cX8_isAhead 44 = .ok (.iload_n 2, 1) := by decide +kernel
theorem dX8_isAhead_45 : decode cX8_isAhead 45 = .ok (.laload, 1) := by decide +kernel
theorem dX8_isAhead_46 : decode cX8_isAhead 46 = .ok (.lcmp, 1) := by decide +kernel
theorem dX8_isAhead_47 : decode cX8_isAhead 47 = .ok (.ifCond .le 7, 3) := by decide +kernel
theorem dX8_isAhead_50 : decode cX8_isAhead 50 = .ok (.iconst 1, 1) := by decide +kernel
theorem dX8_isAhead_51 : decode cX8_isAhead 51 = .ok (.goto 4, 3) := by decide +kernel
theorem dX8_isAhead_54 : decode cX8_isAhead 54 = .ok (.iconst 0, 1) := by decide +kernel
theorem dX8_isAhead_55 : decode cX8_isAhead 55 = .ok (.ireturn, 1) := by decide +kernel
theorem dX8_isAhead_56 : decode cX8_isAhead 56 = .ok (.aload_n 0, 1) := by decide +kernel
theorem dX8_isAhead_57 : decode cX8_isAhead 57 = .ok (.getfield 34, 3) := by decide +kernel
theorem dX8_isAhead_60 : decode cX8_isAhead 60 = .ok (.iload_n 1, 1) := by decide +kernel
theorem dX8_isAhead_61 : decode cX8_isAhead 61 = .ok (.aaload, 1) := by decide +kernel
theorem dX8_isAhead_62 : decode cX8_isAhead 62 = .ok (.getfield 179, 3) := by decide +kernel
theorem dX8_isAhead_65 : decode cX8_isAhead 65 = .ok (.aload_n 0, 1) := by decide +kernel
theorem dX8_isAhead_66 : decode cX8_isAhead 66 = .ok (.getfield 34, 3) := by decide +kernel
theorem dX8_isAhead_69 : decode cX8_isAhead 69 = .ok (.iload_n 2, 1) := by decide +kernel
theorem dX8_isAhead_70 : decode cX8_isAhead 70 = .ok (.aaload, 1) := by decide +kernel
theorem dX8_isAhead_71 : decode cX8_isAhead 71 = .ok (.getfield 179, 3) := by decide +kernel
theorem dX8_isAhead_74 : decode cX8_isAhead 74 = .ok (.if_icmp .eq 30, 3) := by decide +kernel
theorem dX8_isAhead_77 : decode cX8_isAhead 77 = .ok (.aload_n 0, 1) := by decide +kernel
theorem dX8_isAhead_78 : decode cX8_isAhead 78 = .ok (.getfield 34, 3) := by decide +kernel
theorem dX8_isAhead_81 : decode cX8_isAhead 81 = .ok (.iload_n 1, 1) := by decide +kernel
theorem dX8_isAhead_82 : decode cX8_isAhead 82 = .ok (.aaload, 1) := by decide +kernel
theorem dX8_isAhead_83 : decode cX8_isAhead 83 = .ok (.getfield 179, 3) := by decide +kernel
theorem dX8_isAhead_86 : decode cX8_isAhead 86 = .ok (.aload_n 0, 1) := by decide +kernel
theorem dX8_isAhead_87 : decode cX8_isAhead 87 = .ok (.getfield 34, 3) := by decide +kernel
theorem dX8_isAhead_90 : decode cX8_isAhead 90 = .ok (.iload_n 2, 1) := by decide +kernel
theorem dX8_isAhead_91 : decode cX8_isAhead 91 = .ok (.aaload, 1) := by decide +kernel
theorem dX8_isAhead_92 : decode cX8_isAhead 92 = .ok (.getfield 179, 3) := by decide +kernel
theorem dX8_isAhead_95 : decode cX8_isAhead 95 = .ok (.if_icmp .ge 7, 3) := by decide +kernel
theorem dX8_isAhead_98 : decode cX8_isAhead 98 = .ok (.iconst 1, 1) := by decide +kernel
theorem dX8_isAhead_99 : decode cX8_isAhead 99 = .ok (.goto 4, 3) := by decide +kernel
theorem dX8_isAhead_102 : decode cX8_isAhead 102 = .ok (.iconst 0, 1) := by decide +kernel
theorem dX8_isAhead_103 : decode cX8_isAhead 103 = .ok (.ireturn, 1) := by decide +kernel
theorem dX8_isAhead_104 : decode cX8_isAhead 104 = .ok (.iload_n 1, 1) := by decide +kernel
theorem dX8_isAhead_105 : decode cX8_isAhead 105 = .ok (.iload_n 2, 1) := by decide +kernel
theorem dX8_isAhead_106 : decode cX8_isAhead 106 = .ok (.if_icmp .ge 7, 3) := by decide +kernel
theorem dX8_isAhead_109 : decode cX8_isAhead 109 = .ok (.iconst 1, 1) := by decide +kernel
theorem dX8_isAhead_110 : decode cX8_isAhead 110 = .ok (.goto 4, 3) := by decide +kernel
theorem dX8_isAhead_113 : decode cX8_isAhead 113 = .ok (.iconst 0, 1) := by decide +kernel
theorem dX8_isAhead_114 : decode cX8_isAhead 114 = .ok (.ireturn, 1) := by decide +kernel
theorem wd852 : Cond.code yX8_isAhead cX8_isAhead 3 (some .boolean) ∈ gW := gW_in 852 (by decide +kernel) (by decide +kernel)
theorem mvX8_isAhead : MV yX8_isAhead cX8_isAhead 3 (some .boolean) 2 := ⟨wd852, wd24, by decide +kernel, by decide +kernel, by decide +kernel, by decide⟩
theorem wd851 : Cond.instanceMethod yX8_isAhead ∈ gW := gW_in 851 (by decide +kernel) (by decide +kernel)
theorem wd8 : Cond.selects yX8_isAhead.cls yX8_isAhead yX8_isAhead ∈ gW := gW_in 8 (by decide +kernel) (by decide +kernel)
theorem wd849 : Cond.methodLink RX8 259 yX8_isAhead ∈ gW := gW_in 849 (by decide +kernel) (by decide +kernel)
theorem dX8_countAhead_0 : decode cX8_countAhead 0 = .ok (.iconst 0, 1) := by decide +kernel
theorem dX8_countAhead_1 : decode cX8_countAhead 1 = .ok (.istore_n 2, 1) := by decide +kernel
theorem dX8_countAhead_2 : decode cX8_countAhead 2 = .ok (.iconst 0, 1) := by decide +kernel
theorem dX8_countAhead_3 : decode cX8_countAhead 3 = .ok (.istore_n 3, 1) := by decide +kernel
theorem dX8_countAhead_4 : decode cX8_countAhead 4 = .ok (.iload_n 3, 1) := by decide +kernel
theorem dX8_countAhead_5 : decode cX8_countAhead 5 = .ok (.aload_n 0, 1) := by decide +kernel
theorem dX8_countAhead_6 : decode cX8_countAhead 6 = .ok (.getfield 38, 3) := by decide +kernel
theorem dX8_countAhead_9 : decode cX8_countAhead 9 = .ok (.if_icmp .ge 26, 3) := by decide +kernel
theorem dX8_countAhead_12 : decode cX8_countAhead 12 = .ok (.iload_n 3, 1) := by decide +kernel
theorem dX8_countAhead_13 : decode cX8_countAhead 13 = .ok (.iload_n 1, 1) := by decide +kernel
theorem dX8_countAhead_14 : decode cX8_countAhead 14 = .ok (.if_icmp .eq 15, 3) := by decide +kernel
theorem dX8_countAhead_17 : decode cX8_countAhead 17 = .ok (.aload_n 0, 1) := by decide +kernel
theorem dX8_countAhead_18 : decode cX8_countAhead 18 = .ok (.iload_n 3, 1) := by decide +kernel
theorem dX8_countAhead_19 : decode cX8_countAhead 19 = .ok (.iload_n 1, 1) := by decide +kernel
theorem dX8_countAhead_20 : decode cX8_countAhead 20 = .ok (.invokevirtual 259, 3) := by decide +kernel
theorem dX8_countAhead_23 : decode cX8_countAhead 23 = .ok (.ifCond .eq 6, 3) := by decide +kernel
theorem dX8_countAhead_26 : decode cX8_countAhead 26 = .ok (.iinc 2 1, 3) := by decide +kernel
theorem dX8_countAhead_29 : decode cX8_countAhead 29 = .ok (.iinc 3 1, 3) := by decide +kernel
theorem dX8_countAhead_32 : decode cX8_countAhead 32 = .ok (.goto (-28), 3) := by decide +kernel
theorem dX8_countAhead_35 : decode cX8_countAhead 35 = .ok (.iload_n 2, 1) := by decide +kernel
theorem dX8_countAhead_36 : decode cX8_countAhead 36 = .ok (.ireturn, 1) := by decide +kernel
theorem wd848 : Cond.code yX8_countAhead cX8_countAhead 4 (some .int) ∈ gW := gW_in 848 (by decide +kernel) (by decide +kernel)
theorem mvX8_countAhead : MV yX8_countAhead cX8_countAhead 4 (some .int) 1 := ⟨wd848, wd24, by decide +kernel, by decide +kernel, by decide +kernel, by decide⟩
theorem wd847 : Cond.instanceMethod yX8_countAhead ∈ gW := gW_in 847 (by decide +kernel) (by decide +kernel)
theorem wd7 : Cond.selects yX8_countAhead.cls yX8_countAhead yX8_countAhead ∈ gW := gW_in 7 (by decide +kernel) (by decide +kernel)
theorem wd845 : Cond.methodLink RX8 256 yX8_countAhead ∈ gW := gW_in 845 (by decide +kernel) (by decide +kernel)
theorem dX8_rankedAt_0 : decode cX8_rankedAt 0 = .ok (.iconst 0, 1) := by decide +kernel
theorem dX8_rankedAt_1 : decode cX8_rankedAt 1 = .ok (.istore_n 2, 1) := by decide +kernel
theorem dX8_rankedAt_2 : decode cX8_rankedAt 2 = .ok (.iload_n 2, 1) := by decide +kernel
theorem dX8_rankedAt_3 : decode cX8_rankedAt 3 = .ok (.aload_n 0, 1) := by decide +kernel
theorem dX8_rankedAt_4 : decode cX8_rankedAt 4 = .ok (.getfield 38, 3) := by decide +kernel
theorem dX8_rankedAt_7 : decode cX8_rankedAt 7 = .ok (.if_icmp .ge 36, 3) := by decide +kernel
theorem dX8_rankedAt_10 : decode cX8_rankedAt 10 = .ok (.aload_n 0, 1) := by decide +kernel
theorem dX8_rankedAt_11 : decode cX8_rankedAt 11 = .ok (.getfield 45, 3) := by decide +kernel
theorem dX8_rankedAt_14 : decode cX8_rankedAt 14 = .ok (.iload_n 2, 1) := by decide +kernel
theorem dX8_rankedAt_15 : decode cX8_rankedAt 15 = .ok (.aload_n 0, 1) := by decide +kernel
theorem dX8_rankedAt_16 : decode cX8_rankedAt 16 = .ok (.getfield 34, 3) := by decide +kernel
theorem dX8_rankedAt_19 : decode cX8_rankedAt 19 = .ok (.iload_n 2, 1) := by decide +kernel
theorem dX8_rankedAt_20 : decode cX8_rankedAt 20 = .ok (.aaload, 1) := by decide +kernel
theorem dX8_rankedAt_21 : decode cX8_rankedAt 21 = .ok (.getfield 205, 3) := by decide +kernel
theorem dX8_rankedAt_24 : decode cX8_rankedAt 24 = .ok (.aload_n 0, 1) := by decide +kernel
theorem dX8_rankedAt_25 : decode cX8_rankedAt 25 = .ok (.aload_n 0, 1) := by decide +kernel
theorem dX8_rankedAt_26 : decode cX8_rankedAt 26 = .ok (.getfield 34, 3) := by decide +kernel
theorem dX8_rankedAt_29 : decode cX8_rankedAt 29 = .ok (.iload_n 2, 1) := by decide +kernel
theorem dX8_rankedAt_30 : decode cX8_rankedAt 30 = .ok (.aaload, 1) := by decide +kernel
theorem dX8_rankedAt_31 : decode cX8_rankedAt 31 = .ok (.invokevirtual 209, 3) := by decide +kernel
theorem dX8_rankedAt_34 : decode cX8_rankedAt 34 = .ok (.i2l, 1) := by decide +kernel
theorem dX8_rankedAt_35 : decode cX8_rankedAt 35 = .ok (.ladd, 1) := by decide +kernel
theorem dX8_rankedAt_36 : decode cX8_rankedAt 36 = .ok (.lastore, 1) := by decide +kernel
theorem dX8_rankedAt_37 : decode cX8_rankedAt 37 = .ok (.iinc 2 1, 3) := by decide +kernel
theorem dX8_rankedAt_40 : decode cX8_rankedAt 40 = .ok (.goto (-38), 3) := by decide +kernel
theorem dX8_rankedAt_43 : decode cX8_rankedAt 43 = .ok (.iconst 0, 1) := by decide +kernel
theorem dX8_rankedAt_44 : decode cX8_rankedAt 44 = .ok (.istore_n 2, 1) := by decide +kernel
theorem dX8_rankedAt_45 : decode cX8_rankedAt 45 = .ok (.iload_n 2, 1) := by decide +kernel
theorem dX8_rankedAt_46 : decode cX8_rankedAt 46 = .ok (.aload_n 0, 1) := by decide +kernel
theorem dX8_rankedAt_47 : decode cX8_rankedAt 47 = .ok (.getfield 38, 3) := by decide +kernel
theorem dX8_rankedAt_50 : decode cX8_rankedAt 50 = .ok (.if_icmp .ge 20, 3) := by decide +kernel
theorem dX8_rankedAt_53 : decode cX8_rankedAt 53 = .ok (.aload_n 0, 1) := by decide +kernel
theorem dX8_rankedAt_54 : decode cX8_rankedAt 54 = .ok (.iload_n 2, 1) := by decide +kernel
theorem dX8_rankedAt_55 : decode cX8_rankedAt 55 = .ok (.invokevirtual 256, 3) := by decide +kernel
theorem dX8_rankedAt_58 : decode cX8_rankedAt 58 = .ok (.iload_n 1, 1) := by decide +kernel
theorem dX8_rankedAt_59 : decode cX8_rankedAt 59 = .ok (.if_icmp .ne 5, 3) := by decide +kernel
theorem dX8_rankedAt_62 : decode cX8_rankedAt 62 = .ok (.iload_n 2, 1) := by decide +kernel
theorem dX8_rankedAt_63 : decode cX8_rankedAt 63 = .ok (.ireturn, 1) := by decide +kernel
theorem dX8_rankedAt_64 : decode cX8_rankedAt 64 = .ok (.iinc 2 1, 3) := by decide +kernel
theorem dX8_rankedAt_67 : decode cX8_rankedAt 67 = .ok (.goto (-22), 3) := by decide +kernel
theorem dX8_rankedAt_70 : decode cX8_rankedAt 70 = .ok (.iconst (-1), 1) := by decide +kernel
theorem dX8_rankedAt_71 : decode cX8_rankedAt 71 = .ok (.ireturn, 1) := by decide +kernel
theorem wd1470 : Cond.code yX1_countByPositions cX1_countByPositions 4 (some .int) ∈ gW := gW_in 1470 (by decide +kernel) (by decide +kernel)
theorem mvX1_countByPositions : MV yX1_countByPositions cX1_countByPositions 4 (some .int) 1 := ⟨wd1470, wd27, by decide +kernel, by decide +kernel, by decide +kernel, by decide⟩
theorem wd1468 : Cond.instanceMethod yX1_countByPositions ∈ gW := gW_in 1468 (by decide +kernel) (by decide +kernel)
theorem wd1469 : Cond.selects yX1_countByPositions.cls yX1_countByPositions yX1_countByPositions ∈ gW := gW_in 1469 (by decide +kernel) (by decide +kernel)
theorem wd1554 : Cond.methodLink RX8 262 yX1_countByPositions ∈ gW := gW_in 1554 (by decide +kernel) (by decide +kernel)
theorem wd1532 : Cond.code yX1_countByRanges cX1_countByRanges 7 (some .int) ∈ gW := gW_in 1532 (by decide +kernel) (by decide +kernel)
theorem mvX1_countByRanges : MV yX1_countByRanges cX1_countByRanges 7 (some .int) 1 := ⟨wd1532, wd27, by decide +kernel, by decide +kernel, by decide +kernel, by decide⟩
theorem wd1530 : Cond.instanceMethod yX1_countByRanges ∈ gW := gW_in 1530 (by decide +kernel) (by decide +kernel)
theorem wd1531 : Cond.selects yX1_countByRanges.cls yX1_countByRanges yX1_countByRanges ∈ gW := gW_in 1531 (by decide +kernel) (by decide +kernel)
theorem wd1555 : Cond.methodLink RX8 265 yX1_countByRanges ∈ gW := gW_in 1555 (by decide +kernel) (by decide +kernel)
theorem dX8_rowCountsAgree_0 : decode cX8_rowCountsAgree 0 = .ok (.iconst 0, 1) := by decide +kernel
theorem dX8_rowCountsAgree_1 : decode cX8_rowCountsAgree 1 = .ok (.istore_n 1, 1) := by decide +kernel
theorem dX8_rowCountsAgree_2 : decode cX8_rowCountsAgree 2 = .ok (.iload_n 1, 1) := by decide +kernel
theorem dX8_rowCountsAgree_3 : decode cX8_rowCountsAgree 3 = .ok (.bipush 60, 2) := by decide +kernel
theorem dX8_rowCountsAgree_5 : decode cX8_rowCountsAgree 5 = .ok (.if_icmp .gt 30, 3) := by decide +kernel
theorem dX8_rowCountsAgree_8 : decode cX8_rowCountsAgree 8 = .ok (.aload_n 0, 1) := by decide +kernel
theorem dX8_rowCountsAgree_9 : decode cX8_rowCountsAgree 9 = .ok (.getfield 28, 3) := by decide +kernel
theorem dX8_rowCountsAgree_12 : decode cX8_rowCountsAgree 12 = .ok (.iload_n 1, 1) := by decide +kernel
theorem dX8_rowCountsAgree_13 : decode cX8_rowCountsAgree 13 = .ok (.invokevirtual 262, 3) := by decide +kernel
theorem dX8_rowCountsAgree_16 : decode cX8_rowCountsAgree 16 = .ok (.aload_n 0, 1) := by decide +kernel
theorem dX8_rowCountsAgree_17 : decode cX8_rowCountsAgree 17 = .ok (.getfield 28, 3) := by decide +kernel
theorem dX8_rowCountsAgree_20 : decode cX8_rowCountsAgree 20 = .ok (.iload_n 1, 1) := by decide +kernel
theorem dX8_rowCountsAgree_21 : decode cX8_rowCountsAgree 21 = .ok (.invokevirtual 265, 3) := by decide +kernel
theorem dX8_rowCountsAgree_24 : decode cX8_rowCountsAgree 24 = .ok (.if_icmp .eq 5, 3) := by decide +kernel
theorem dX8_rowCountsAgree_27 : decode cX8_rowCountsAgree 27 = .ok (.iconst 0, 1) := by decide +kernel
theorem dX8_rowCountsAgree_28 : decode cX8_rowCountsAgree 28 = .ok (.ireturn, 1) := by decide +kernel
theorem dX8_rowCountsAgree_29 : decode cX8_rowCountsAgree 29 = .ok (.iinc 1 1, 3) := by decide +kernel
theorem dX8_rowCountsAgree_32 : decode cX8_rowCountsAgree 32 = .ok (.goto (-30), 3) := by decide +kernel
theorem dX8_rowCountsAgree_35 : decode cX8_rowCountsAgree 35 = .ok (.iconst 1, 1) := by decide +kernel
theorem dX8_rowCountsAgree_36 : decode cX8_rowCountsAgree 36 = .ok (.ireturn, 1) := by decide +kernel
theorem wd1505 : Cond.code yX8_finishesByHeight cX8_finishesByHeight 2 (some .boolean) ∈ gW := gW_in 1505 (by decide +kernel) (by decide +kernel)
theorem mvX8_finishesByHeight : MV yX8_finishesByHeight cX8_finishesByHeight 2 (some .boolean) 1 := ⟨wd1505, wd24, by decide +kernel, by decide +kernel, by decide +kernel, by decide⟩
theorem wd1503 : Cond.instanceMethod yX8_finishesByHeight ∈ gW := gW_in 1503 (by decide +kernel) (by decide +kernel)
theorem wd1504 : Cond.selects yX8_finishesByHeight.cls yX8_finishesByHeight yX8_finishesByHeight ∈ gW := gW_in 1504 (by decide +kernel) (by decide +kernel)
theorem wd1560 : Cond.methodLink RX8 268 yX8_finishesByHeight ∈ gW := gW_in 1560 (by decide +kernel) (by decide +kernel)
theorem wd1515 : Cond.code yX8_finishesInFlight cX8_finishesInFlight 3 (some .boolean) ∈ gW := gW_in 1515 (by decide +kernel) (by decide +kernel)
theorem mvX8_finishesInFlight : MV yX8_finishesInFlight cX8_finishesInFlight 3 (some .boolean) 1 := ⟨wd1515, wd24, by decide +kernel, by decide +kernel, by decide +kernel, by decide⟩
theorem wd1513 : Cond.instanceMethod yX8_finishesInFlight ∈ gW := gW_in 1513 (by decide +kernel) (by decide +kernel)
theorem wd1514 : Cond.selects yX8_finishesInFlight.cls yX8_finishesInFlight yX8_finishesInFlight ∈ gW := gW_in 1514 (by decide +kernel) (by decide +kernel)
theorem wd1561 : Cond.methodLink RX8 272 yX8_finishesInFlight ∈ gW := gW_in 1561 (by decide +kernel) (by decide +kernel)
theorem dX8_finishForecastsAgree_0 : decode cX8_finishForecastsAgree 0 = .ok (.iconst 0, 1) := by decide +kernel
theorem dX8_finishForecastsAgree_1 : decode cX8_finishForecastsAgree 1 = .ok (.istore_n 1, 1) := by decide +kernel
theorem dX8_finishForecastsAgree_2 : decode cX8_finishForecastsAgree 2 = .ok (.iload_n 1, 1) := by decide +kernel
theorem dX8_finishForecastsAgree_3 : decode cX8_finishForecastsAgree 3 = .ok (.aload_n 0, 1) := by decide +kernel
theorem dX8_finishForecastsAgree_4 : decode cX8_finishForecastsAgree 4 = .ok (.getfield 38, 3) := by decide +kernel
theorem dX8_finishForecastsAgree_7 : decode cX8_finishForecastsAgree 7 = .ok (.if_icmp .ge 41, 3) := by decide +kernel
theorem dX8_finishForecastsAgree_10 : decode cX8_finishForecastsAgree 10 = .ok (.aload_n 0, 1) := by decide +kernel
theorem dX8_finishForecastsAgree_11 : decode cX8_finishForecastsAgree 11 = .ok (.getfield 34, 3) := by decide +kernel
theorem dX8_finishForecastsAgree_14 : decode cX8_finishForecastsAgree 14 = .ok (.iload_n 1, 1) := by decide +kernel
theorem dX8_finishForecastsAgree_15 : decode cX8_finishForecastsAgree 15 = .ok (.aaload, 1) := by decide +kernel
theorem dX8_finishForecastsAgree_16 : decode cX8_finishForecastsAgree 16 = .ok (.astore_n 2, 1) := by decide +kernel
theorem dX8_finishForecastsAgree_17 : decode cX8_finishForecastsAgree 17 = .ok (.aload_n 2, 1) := by decide +kernel
theorem dX8_finishForecastsAgree_18 : decode cX8_finishForecastsAgree 18 = .ok (.getfield 67, 3) := by decide +kernel
theorem dX8_finishForecastsAgree_21 : decode cX8_finishForecastsAgree 21 = .ok (.getstatic 127, 3) := by decide +kernel
theorem dX8_finishForecastsAgree_24 : decode cX8_finishForecastsAgree 24 = .ok (.if_acmp .ne 18, 3) := by decide +kernel
theorem dX8_finishForecastsAgree_27 : decode cX8_finishForecastsAgree 27 = .ok (.aload_n 0, 1) := by decide +kernel
theorem dX8_finishForecastsAgree_28 : decode cX8_finishForecastsAgree 28 = .ok (.aload_n 2, 1) := by decide +kernel
theorem dX8_finishForecastsAgree_29 : decode cX8_finishForecastsAgree 29 = .ok (.invokevirtual 268, 3) := by decide +kernel
theorem dX8_finishForecastsAgree_32 : decode cX8_finishForecastsAgree 32 = .ok (.aload_n 0, 1) := by decide +kernel
theorem dX8_finishForecastsAgree_33 : decode cX8_finishForecastsAgree 33 = .ok (.aload_n 2, 1) := by decide +kernel
theorem dX8_finishForecastsAgree_34 : decode cX8_finishForecastsAgree 34 = .ok (.invokevirtual 272, 3) := by decide +kernel
theorem dX8_finishForecastsAgree_37 : decode cX8_finishForecastsAgree 37 = .ok (.if_icmp .eq 5, 3) := by decide +kernel
theorem dX8_finishForecastsAgree_40 : decode cX8_finishForecastsAgree 40 = .ok (.iconst 0, 1) := by decide +kernel
theorem dX8_finishForecastsAgree_41 : decode cX8_finishForecastsAgree 41 = .ok (.ireturn, 1) := by decide +kernel
theorem dX8_finishForecastsAgree_42 : decode cX8_finishForecastsAgree 42 = .ok (.iinc 1 1, 3) := by decide +kernel
theorem dX8_finishForecastsAgree_45 : decode cX8_finishForecastsAgree 45 = .ok (.goto (-43), 3) := by decide +kernel
theorem dX8_finishForecastsAgree_48 : decode cX8_finishForecastsAgree 48 = .ok (.iconst 1, 1) := by decide +kernel
theorem dX8_finishForecastsAgree_49 : decode cX8_finishForecastsAgree 49 = .ok (.ireturn, 1) := by decide +kernel
theorem dX8_distancesAreBounded_0 : decode cX8_distancesAreBounded 0 = .ok (.iconst 0, 1) := by decide +kernel
theorem dX8_distancesAreBounded_1 : decode cX8_distancesAreBounded 1 = .ok (.istore_n 1, 1) := by decide +kernel
theorem dX8_distancesAreBounded_2 : decode cX8_distancesAreBounded 2 = .ok (.iload_n 1, 1) := by decide +kernel
theorem dX8_distancesAreBounded_3 : decode cX8_distancesAreBounded 3 = .ok (.aload_n 0, 1) := by decide +kernel
theorem dX8_distancesAreBounded_4 : decode cX8_distancesAreBounded 4 = .ok (.getfield 38, 3) := by decide +kernel
theorem dX8_distancesAreBounded_7 : decode cX8_distancesAreBounded 7 = .ok (.if_icmp .ge 31, 3) := by decide +kernel
theorem dX8_distancesAreBounded_10 : decode cX8_distancesAreBounded 10 = .ok (.aload_n 0, 1) := by decide +kernel
theorem dX8_distancesAreBounded_11 : decode cX8_distancesAreBounded 11 = .ok (.aload_n 0, 1) := by decide +kernel
theorem dX8_distancesAreBounded_12 : decode cX8_distancesAreBounded 12 = .ok (.getfield 34, 3) := by decide +kernel
theorem dX8_distancesAreBounded_15 : decode cX8_distancesAreBounded 15 = .ok (.iload_n 1, 1) := by decide +kernel
theorem dX8_distancesAreBounded_16 : decode cX8_distancesAreBounded 16 = .ok (.aaload, 1) := by decide +kernel
theorem dX8_distancesAreBounded_17 : decode cX8_distancesAreBounded 17 = .ok (.invokevirtual 238, 3) := by decide +kernel
theorem dX8_distancesAreBounded_20 : decode cX8_distancesAreBounded 20 = .ok (.aload_n 0, 1) := by decide +kernel
theorem dX8_distancesAreBounded_21 : decode cX8_distancesAreBounded 21 = .ok (.getfield 12, 3) := by decide +kernel
theorem dX8_distancesAreBounded_24 : decode cX8_distancesAreBounded 24 = .ok (.invokevirtual 241, 3) := by decide +kernel
theorem dX8_distancesAreBounded_27 : decode cX8_distancesAreBounded 27 = .ok (.if_icmp .le 5, 3) := by decide +kernel
theorem dX8_distancesAreBounded_30 : decode cX8_distancesAreBounded 30 = .ok (.iconst 0, 1) := by decide +kernel
theorem dX8_distancesAreBounded_31 : decode cX8_distancesAreBounded 31 = .ok (.ireturn, 1) := by decide +kernel
theorem dX8_distancesAreBounded_32 : decode cX8_distancesAreBounded 32 = .ok (.iinc 1 1, 3) := by decide +kernel
theorem dX8_distancesAreBounded_35 : decode cX8_distancesAreBounded 35 = .ok (.goto (-33), 3) := by decide +kernel
theorem dX8_distancesAreBounded_38 : decode cX8_distancesAreBounded 38 = .ok (.iconst 1, 1) := by decide +kernel
theorem dX8_distancesAreBounded_39 : decode cX8_distancesAreBounded 39 = .ok (.ireturn, 1) := by decide +kernel
