theorem wd273 : Cond.fieldLink RJ0 38 "java/lang/String" "COMPACT_STRINGS" "Z" ∈ gW := gW_in 273 (by decide +kernel) (by decide +kernel)
theorem wd404 : Cond.fieldLink RJ0 15 (TJ0 1).1 (TJ0 1).2.1 (TJ0 1).2.2.1 ∈ gW := gW_in 404 (by decide +kernel) (by decide +kernel)
theorem kfJ0 : KF 1 RJ0 TJ0 2 tyJ0 := ⟨by decide, by decide, rfl, gW_all (by decide +kernel), fun k hk => tyJ0_ok k (by omega), fun a ha b hb => nmJ0 a (by omega) b (by omega)⟩
theorem dJ0_coder_7d493_0 : decode cJ0_coder_7d493 0 = .ok (.getstatic 38, 3) := by decide +kernel
theorem dJ0_coder_7d493_3 : decode cJ0_coder_7d493 3 = .ok (.ifCond .eq 10, 3) := by decide +kernel
theorem dJ0_coder_7d493_6 : decode cJ0_coder_7d493 6 = .ok (.aload_n 0, 1) := by decide +kernel
theorem dJ0_coder_7d493_7 : decode cJ0_coder_7d493 7 = .ok (.getfield 15, 3) := by decide +kernel
theorem dJ0_coder_7d493_10 : decode cJ0_coder_7d493 10 = .ok (.goto 4, 3) := by decide +kernel
theorem dJ0_coder_7d493_13 : decode cJ0_coder_7d493 13 = .ok (.iconst 1, 1) := by decide +kernel
theorem dJ0_coder_7d493_14 : decode cJ0_coder_7d493 14 = .ok (.ireturn, 1) := by decide +kernel
theorem wd403 : Cond.fieldLink RJ0 9 (TJ0 0).1 (TJ0 0).2.1 (TJ0 0).2.2.1 ∈ gW := gW_in 403 (by decide +kernel) (by decide +kernel)
theorem wd272 : Cond.code yJ0_coder_7d493 cJ0_coder_7d493 1 (some .byte) ∈ gW := gW_in 272 (by decide +kernel) (by decide +kernel)
theorem wd35 : Cond.initialized RJ0 ∈ gW := gW_in 35 (by decide +kernel) (by decide +kernel)
theorem mvJ0_coder_7d493 : MV yJ0_coder_7d493 cJ0_coder_7d493 1 (some .byte) 0 := ⟨wd272, wd35, by decide +kernel, by decide +kernel, by decide +kernel, by decide⟩
theorem wd270 : Cond.instanceMethod yJ0_coder_7d493 ∈ gW := gW_in 270 (by decide +kernel) (by decide +kernel)
theorem wd271 : Cond.selects yJ0_coder_7d493.cls yJ0_coder_7d493 yJ0_coder_7d493 ∈ gW := gW_in 271 (by decide +kernel) (by decide +kernel)
theorem wd269 : Cond.methodLink RJ0 335 yJ0_coder_7d493 ∈ gW := gW_in 269 (by decide +kernel) (by decide +kernel)
theorem dJ0_length_8abf5_0 : decode cJ0_length_8abf5 0 = .ok (.aload_n 0, 1) := by decide +kernel
theorem dJ0_length_8abf5_1 : decode cJ0_length_8abf5 1 = .ok (.getfield 9, 3) := by decide +kernel
theorem dJ0_length_8abf5_4 : decode cJ0_length_8abf5 4 = .ok (.arraylength, 1) := by decide +kernel
theorem dJ0_length_8abf5_5 : decode cJ0_length_8abf5 5 = .ok (.aload_n 0, 1) := by decide +kernel
theorem dJ0_length_8abf5_6 : decode cJ0_length_8abf5 6 = .ok (.invokevirtual 335, 3) := by decide +kernel
theorem dJ0_length_8abf5_9 : decode cJ0_length_8abf5 9 = .ok (.ishr, 1) := by decide +kernel
theorem dJ0_length_8abf5_10 : decode cJ0_length_8abf5 10 = .ok (.ireturn, 1) := by decide +kernel
theorem dJ0_isLatin1_aae02_0 : decode cJ0_isLatin1_aae02 0 = .ok (.getstatic 38, 3) := by decide +kernel
theorem dJ0_isLatin1_aae02_3 : decode cJ0_isLatin1_aae02 3 = .ok (.ifCond .eq 14, 3) := by decide +kernel
theorem dJ0_isLatin1_aae02_6 : decode cJ0_isLatin1_aae02 6 = .ok (.aload_n 0, 1) := by decide +kernel
theorem dJ0_isLatin1_aae02_7 : decode cJ0_isLatin1_aae02 7 = .ok (.getfield 15, 3) := by decide +kernel
theorem dJ0_isLatin1_aae02_10 : decode cJ0_isLatin1_aae02 10 = .ok (.ifCond .ne 7, 3) := by decide +kernel
theorem dJ0_isLatin1_aae02_13 : decode cJ0_isLatin1_aae02 13 = .ok (.iconst 1, 1) := by decide +kernel
theorem dJ0_isLatin1_aae02_14 : decode cJ0_isLatin1_aae02 14 = .ok (.goto 4, 3) := by decide +kernel
theorem dJ0_isLatin1_aae02_17 : decode cJ0_isLatin1_aae02 17 = .ok (.iconst 0, 1) := by decide +kernel
theorem dJ0_isLatin1_aae02_18 : decode cJ0_isLatin1_aae02 18 = .ok (.ireturn, 1) := by decide +kernel
theorem dJ3_checkIndex_8e157_0 : decode cJ3_checkIndex_8e157 0 = .ok (.iload_n 0, 1) := by decide +kernel
theorem dJ3_checkIndex_8e157_1 : decode cJ3_checkIndex_8e157 1 = .ok (.ifCond .lt 8, 3) := by decide +kernel
theorem dJ3_checkIndex_8e157_4 : decode cJ3_checkIndex_8e157 4 = .ok (.iload_n 0, 1) := by decide +kernel
theorem dJ3_checkIndex_8e157_5 : decode cJ3_checkIndex_8e157 5 = .ok (.iload_n 1, 1) := by decide +kernel
theorem dJ3_checkIndex_8e157_6 : decode cJ3_checkIndex_8e157 6 = .ok (.if_icmp .lt 10, 3) := by decide +kernel
theorem dJ3_checkIndex_8e157_9 : decode cJ3_checkIndex_8e157 9 = .ok (.aload_n 2, 1) := by decide +kernel
theorem dJ3_checkIndex_8e157_10 : decode cJ3_checkIndex_8e157 10 = .ok (.iload_n 0, 1) := by decide +kernel
theorem dJ3_checkIndex_8e157_11 : decode cJ3_checkIndex_8e157 11 = .ok (.iload_n 1, 1) := by decide +kernel
theorem dJ3_checkIndex_8e157_12 : decode cJ3_checkIndex_8e157 12 = .ok (.invokestatic 95, 3) := by decide +kernel
theorem dJ3_checkIndex_8e157_15 : decode cJ3_checkIndex_8e157 15 = .ok (.athrow, 1) := by decide +kernel
theorem dJ3_checkIndex_8e157_16 : decode cJ3_checkIndex_8e157 16 = .ok (.iload_n 0, 1) := by decide +kernel
theorem dJ3_checkIndex_8e157_17 : decode cJ3_checkIndex_8e157 17 = .ok (.ireturn, 1) := by decide +kernel
theorem wd251 : Cond.fieldLink RJ0 1053 "jdk/internal/util/Preconditions" "SIOOBE_FORMATTER" "Ljava/util/function/BiFunction;" ∈ gW := gW_in 251 (by decide +kernel) (by decide +kernel)
theorem wd485 : Cond.code yJ3_checkIndex_8e157 cJ3_checkIndex_8e157 3 (some .int) ∈ gW := gW_in 485 (by decide +kernel) (by decide +kernel)
theorem wd51 : Cond.initialized RJ3 ∈ gW := gW_in 51 (by decide +kernel) (by decide +kernel)
theorem mvJ3_checkIndex_8e157 : MV yJ3_checkIndex_8e157 cJ3_checkIndex_8e157 3 (some .int) 3 := ⟨wd485, wd51, by decide +kernel, by decide +kernel, by decide +kernel, by decide⟩
theorem wd484 : Cond.static yJ3_checkIndex_8e157 ∈ gW := gW_in 484 (by decide +kernel) (by decide +kernel)
theorem wd483 : Cond.methodLink RJ0 1059 yJ3_checkIndex_8e157 ∈ gW := gW_in 483 (by decide +kernel) (by decide +kernel)
theorem dJ0_checkIndex_df160_0 : decode cJ0_checkIndex_df160 0 = .ok (.iload_n 0, 1) := by decide +kernel
theorem dJ0_checkIndex_df160_1 : decode cJ0_checkIndex_df160 1 = .ok (.iload_n 1, 1) := by decide +kernel
theorem dJ0_checkIndex_df160_2 : decode cJ0_checkIndex_df160 2 = .ok (.getstatic 1053, 3) := by decide +kernel
theorem dJ0_checkIndex_df160_5 : decode cJ0_checkIndex_df160 5 = .ok (.invokestatic 1059, 3) := by decide +kernel
theorem dJ0_checkIndex_df160_8 : decode cJ0_checkIndex_df160 8 = .ok (.pop, 1) := by decide +kernel
theorem dJ0_checkIndex_df160_9 : decode cJ0_checkIndex_df160 9 = .ok (.return_, 1) := by decide +kernel
theorem wd482 : Cond.code yJ0_checkIndex_df160 cJ0_checkIndex_df160 2 none ∈ gW := gW_in 482 (by decide +kernel) (by decide +kernel)
theorem mvJ0_checkIndex_df160 : MV yJ0_checkIndex_df160 cJ0_checkIndex_df160 2 none 2 := ⟨wd482, wd35, by decide +kernel, by decide +kernel, by decide +kernel, by decide⟩
theorem wd481 : Cond.static yJ0_checkIndex_df160 ∈ gW := gW_in 481 (by decide +kernel) (by decide +kernel)
theorem wd1294 : Cond.methodLink RJ1 9 yJ0_checkIndex_df160 ∈ gW := gW_in 1294 (by decide +kernel) (by decide +kernel)
theorem dJ1_charAt_3b067_0 : decode cJ1_charAt_3b067 0 = .ok (.iload_n 1, 1) := by decide +kernel
theorem dJ1_charAt_3b067_1 : decode cJ1_charAt_3b067 1 = .ok (.aload_n 0, 1) := by decide +kernel
theorem dJ1_charAt_3b067_2 : decode cJ1_charAt_3b067 2 = .ok (.arraylength, 1) := by decide +kernel
theorem dJ1_charAt_3b067_3 : decode cJ1_charAt_3b067 3 = .ok (.invokestatic 9, 3) := by decide +kernel
theorem dJ1_charAt_3b067_6 : decode cJ1_charAt_3b067 6 = .ok (.aload_n 0, 1) := by decide +kernel
theorem dJ1_charAt_3b067_7 : decode cJ1_charAt_3b067 7 = .ok (.iload_n 1, 1) := by decide +kernel
theorem dJ1_charAt_3b067_8 : decode cJ1_charAt_3b067 8 = .ok (.baload, 1) := by decide +kernel
theorem dJ1_charAt_3b067_9 : decode cJ1_charAt_3b067 9 = .ok (.sipush 255, 3) := by decide +kernel
theorem dJ1_charAt_3b067_12 : decode cJ1_charAt_3b067 12 = .ok (.iand, 1) := by decide +kernel
theorem dJ1_charAt_3b067_13 : decode cJ1_charAt_3b067 13 = .ok (.i2c, 1) := by decide +kernel
theorem dJ1_charAt_3b067_14 : decode cJ1_charAt_3b067 14 = .ok (.ireturn, 1) := by decide +kernel
theorem wd1290 : Cond.code yJ0_isLatin1_aae02 cJ0_isLatin1_aae02 1 (some .boolean) ∈ gW := gW_in 1290 (by decide +kernel) (by decide +kernel)
theorem mvJ0_isLatin1_aae02 : MV yJ0_isLatin1_aae02 cJ0_isLatin1_aae02 1 (some .boolean) 0 := ⟨wd1290, wd35, by decide +kernel, by decide +kernel, by decide +kernel, by decide⟩
theorem wd1288 : Cond.instanceMethod yJ0_isLatin1_aae02 ∈ gW := gW_in 1288 (by decide +kernel) (by decide +kernel)
theorem wd1289 : Cond.selects yJ0_isLatin1_aae02.cls yJ0_isLatin1_aae02 yJ0_isLatin1_aae02 ∈ gW := gW_in 1289 (by decide +kernel) (by decide +kernel)
theorem wd1287 : Cond.methodLink RJ0 492 yJ0_isLatin1_aae02 ∈ gW := gW_in 1287 (by decide +kernel) (by decide +kernel)
theorem wd1293 : Cond.code yJ1_charAt_3b067 cJ1_charAt_3b067 2 (some .char) ∈ gW := gW_in 1293 (by decide +kernel) (by decide +kernel)
theorem wd52 : Cond.initialized RJ1 ∈ gW := gW_in 52 (by decide +kernel) (by decide +kernel)
theorem mvJ1_charAt_3b067 : MV yJ1_charAt_3b067 cJ1_charAt_3b067 2 (some .char) 2 := ⟨wd1293, wd52, by decide +kernel, by decide +kernel, by decide +kernel, by decide⟩
theorem wd1292 : Cond.static yJ1_charAt_3b067 ∈ gW := gW_in 1292 (by decide +kernel) (by decide +kernel)
theorem wd1291 : Cond.methodLink RJ0 495 yJ1_charAt_3b067 ∈ gW := gW_in 1291 (by decide +kernel) (by decide +kernel)
theorem dJ0_charAt_5068e_0 : decode cJ0_charAt_5068e 0 = .ok (.aload_n 0, 1) := by decide +kernel
theorem dJ0_charAt_5068e_1 : decode cJ0_charAt_5068e 1 = .ok (.invokevirtual 492, 3) := by decide +kernel
theorem dJ0_charAt_5068e_4 : decode cJ0_charAt_5068e 4 = .ok (.ifCond .eq 12, 3) := by decide +kernel
theorem dJ0_charAt_5068e_7 : decode cJ0_charAt_5068e 7 = .ok (.aload_n 0, 1) := by decide +kernel
theorem dJ0_charAt_5068e_8 : decode cJ0_charAt_5068e 8 = .ok (.getfield 9, 3) := by decide +kernel
theorem dJ0_charAt_5068e_11 : decode cJ0_charAt_5068e 11 = .ok (.iload_n 1, 1) := by decide +kernel
theorem dJ0_charAt_5068e_12 : decode cJ0_charAt_5068e 12 = .ok (.invokestatic 495, 3) := by decide +kernel
theorem dJ0_charAt_5068e_15 : decode cJ0_charAt_5068e 15 = .ok (.ireturn, 1) := by decide +kernel
theorem dJ0_charAt_5068e_16 : decode cJ0_charAt_5068e 16 = .ok (.aload_n 0, 1) := by decide +kernel
theorem dJ0_charAt_5068e_17 : decode cJ0_charAt_5068e 17 = .ok (.getfield 9, 3) := by decide +kernel
theorem dJ0_charAt_5068e_20 : decode cJ0_charAt_5068e 20 = .ok (.iload_n 1, 1) := by decide +kernel
theorem dJ0_charAt_5068e_21 : decode cJ0_charAt_5068e 21 = .ok (.invokestatic 498, 3) := by decide +kernel
theorem dJ0_charAt_5068e_24 : decode cJ0_charAt_5068e 24 = .ok (.ireturn, 1) := by decide +kernel
theorem wd1092 : Cond.fieldLink RX7 15 (TX7 1).1 (TX7 1).2.1 (TX7 1).2.2.1 ∈ gW := gW_in 1092 (by decide +kernel) (by decide +kernel)
theorem kfX7 : KF 10 RX7 TX7 6 tyX7 := ⟨by decide, by decide, rfl, gW_all (by decide +kernel), tyX7_ok, nmX7⟩
theorem dX7_hasRoom_0 : decode cX7_hasRoom 0 = .ok (.aload_n 0, 1) := by decide +kernel
theorem dX7_hasRoom_1 : decode cX7_hasRoom 1 = .ok (.getfield 15, 3) := by decide +kernel
theorem dX7_hasRoom_4 : decode cX7_hasRoom 4 = .ok (.bipush 60, 2) := by decide +kernel
theorem dX7_hasRoom_6 : decode cX7_hasRoom 6 = .ok (.if_icmp .ge 7, 3) := by decide +kernel
theorem dX7_hasRoom_9 : decode cX7_hasRoom 9 = .ok (.iconst 1, 1) := by decide +kernel
theorem dX7_hasRoom_10 : decode cX7_hasRoom 10 = .ok (.goto 4, 3) := by decide +kernel
theorem dX7_hasRoom_13 : decode cX7_hasRoom 13 = .ok (.iconst 0, 1) := by decide +kernel
theorem dX7_hasRoom_14 : decode cX7_hasRoom 14 = .ok (.ireturn, 1) := by decide +kernel
theorem wd1305 : Cond.code yX7_hasRoom cX7_hasRoom 1 (some .boolean) ∈ gW := gW_in 1305 (by decide +kernel) (by decide +kernel)
theorem wd32 : Cond.initialized RX7 ∈ gW := gW_in 32 (by decide +kernel) (by decide +kernel)
theorem mvX7_hasRoom : MV yX7_hasRoom cX7_hasRoom 1 (some .boolean) 0 := ⟨wd1305, wd32, by decide +kernel, by decide +kernel, by decide +kernel, by decide⟩
theorem wd1303 : Cond.instanceMethod yX7_hasRoom ∈ gW := gW_in 1303 (by decide +kernel) (by decide +kernel)
theorem wd1304 : Cond.selects yX7_hasRoom.cls yX7_hasRoom yX7_hasRoom ∈ gW := gW_in 1304 (by decide +kernel) (by decide +kernel)
theorem wd1311 : Cond.methodLink RX7 34 yX7_hasRoom ∈ gW := gW_in 1311 (by decide +kernel) (by decide +kernel)
theorem wd1091 : Cond.fieldLink RX7 9 (TX7 0).1 (TX7 0).2.1 (TX7 0).2.2.1 ∈ gW := gW_in 1091 (by decide +kernel) (by decide +kernel)
theorem dX7_add_0 : decode cX7_add 0 = .ok (.aload_n 0, 1) := by decide +kernel
theorem dX7_add_1 : decode cX7_add 1 = .ok (.invokevirtual 34, 3) := by decide +kernel
theorem dX7_add_4 : decode cX7_add 4 = .ok (.ifCond .eq 23, 3) := by decide +kernel
theorem dX7_add_7 : decode cX7_add 7 = .ok (.aload_n 0, 1) := by decide +kernel
theorem dX7_add_8 : decode cX7_add 8 = .ok (.getfield 9, 3) := by decide +kernel
theorem dX7_add_11 : decode cX7_add 11 = .ok (.aload_n 0, 1) := by decide +kernel
theorem dX7_add_12 : decode cX7_add 12 = .ok (.getfield 15, 3) := by decide +kernel
theorem dX7_add_15 : decode cX7_add 15 = .ok (.iload_n 1, 1) := by decide +kernel
theorem dX7_add_16 : decode cX7_add 16 = .ok (.castore, 1) := by decide +kernel
theorem dX7_add_17 : decode cX7_add 17 = .ok (.aload_n 0, 1) := by decide +kernel
theorem dX7_add_18 : decode cX7_add 18 = .ok (.dup, 1) := by decide +kernel
theorem dX7_add_19 : decode cX7_add 19 = .ok (.getfield 15, 3) := by decide +kernel
theorem dX7_add_22 : decode cX7_add 22 = .ok (.iconst 1, 1) := by decide +kernel
theorem dX7_add_23 : decode cX7_add 23 = .ok (.iadd, 1) := by decide +kernel
theorem dX7_add_24 : decode cX7_add 24 = .ok (.putfield 15, 3) := by decide +kernel
theorem dX7_add_27 : decode cX7_add 27 = .ok (.aload_n 0, 1) := by decide +kernel
theorem dX7_add_28 : decode cX7_add 28 = .ok (.getfield 15, 3) := by decide +kernel
theorem dX7_add_31 : decode cX7_add 31 = .ok (.ireturn, 1) := by decide +kernel
theorem dX7_formOf_0 : decode cX7_formOf 0 = .ok (.iload_n 0, 1) := by decide +kernel
theorem dX7_formOf_1 : decode cX7_formOf 1 = .ok (.tableswitch 71 0 7 #[47, 50, 53, 56, 59, 62, 65, 68], 47) := by decide +kernel
theorem dX7_formOf_48 : decode cX7_formOf 48 = .ok (.ldc 50, 2) := by decide +kernel
theorem dX7_formOf_50 : decode cX7_formOf 50 = .ok (.areturn, 1) := by decide +kernel
theorem dX7_formOf_51 : decode cX7_formOf 51 = .ok (.ldc 52, 2) := by decide +kernel
theorem dX7_formOf_53 : decode cX7_formOf 53 = .ok (.areturn, 1) := by decide +kernel
theorem dX7_formOf_54 : decode cX7_formOf 54 = .ok (.ldc 54, 2) := by decide +kernel
theorem dX7_formOf_56 : decode cX7_formOf 56 = .ok (.areturn, 1) := by decide +kernel
theorem dX7_formOf_57 : decode cX7_formOf 57 = .ok (.ldc 56, 2) := by decide +kernel
theorem dX7_formOf_59 : decode cX7_formOf 59 = .ok (.areturn, 1) := by decide +kernel
theorem dX7_formOf_60 : decode cX7_formOf 60 = .ok (.ldc 58, 2) := by decide +kernel
theorem dX7_formOf_62 : decode cX7_formOf 62 = .ok (.areturn, 1) := by decide +kernel
theorem dX7_formOf_63 : decode cX7_formOf 63 = .ok (.ldc 60, 2) := by decide +kernel
theorem dX7_formOf_65 : decode cX7_formOf 65 = .ok (.areturn, 1) := by decide +kernel
theorem dX7_formOf_66 : decode cX7_formOf 66 = .ok (.ldc 62, 2) := by decide +kernel
theorem dX7_formOf_68 : decode cX7_formOf 68 = .ok (.areturn, 1) := by decide +kernel
theorem dX7_formOf_69 : decode cX7_formOf 69 = .ok (.ldc 64, 2) := by decide +kernel
theorem dX7_formOf_71 : decode cX7_formOf 71 = .ok (.areturn, 1) := by decide +kernel
theorem dX7_formOf_72 : decode cX7_formOf 72 = .ok (.ldc 66, 2) := by decide +kernel
theorem dX7_formOf_74 : decode cX7_formOf 74 = .ok (.areturn, 1) := by decide +kernel
theorem dX7_digitAt_0 : decode cX7_digitAt 0 = .ok (.iload_n 1, 1) := by decide +kernel
theorem dX7_digitAt_1 : decode cX7_digitAt 1 = .ok (.ifCond .lt 11, 3) := by decide +kernel
theorem dX7_digitAt_4 : decode cX7_digitAt 4 = .ok (.iload_n 1, 1) := by decide +kernel
theorem dX7_digitAt_5 : decode cX7_digitAt 5 = .ok (.aload_n 0, 1) := by decide +kernel
theorem dX7_digitAt_6 : decode cX7_digitAt 6 = .ok (.getfield 15, 3) := by decide +kernel
theorem dX7_digitAt_9 : decode cX7_digitAt 9 = .ok (.if_icmp .lt 5, 3) := by decide +kernel
theorem dX7_digitAt_12 : decode cX7_digitAt 12 = .ok (.iconst (-1), 1) := by decide +kernel
theorem dX7_digitAt_13 : decode cX7_digitAt 13 = .ok (.ireturn, 1) := by decide +kernel
theorem dX7_digitAt_14 : decode cX7_digitAt 14 = .ok (.aload_n 0, 1) := by decide +kernel
theorem dX7_digitAt_15 : decode cX7_digitAt 15 = .ok (.getfield 9, 3) := by decide +kernel
theorem dX7_digitAt_18 : decode cX7_digitAt 18 = .ok (.iload_n 1, 1) := by decide +kernel
theorem dX7_digitAt_19 : decode cX7_digitAt 19 = .ok (.caload, 1) := by decide +kernel
theorem dX7_digitAt_20 : decode cX7_digitAt 20 = .ok (.istore_n 2, 1) := by decide +kernel
theorem dX7_digitAt_21 : decode cX7_digitAt 21 = .ok (.iload_n 2, 1) := by decide +kernel
theorem dX7_digitAt_22 : decode cX7_digitAt 22 = .ok (.bipush 48, 2) := by decide +kernel
theorem dX7_digitAt_24 : decode cX7_digitAt 24 = .ok (.if_icmp .lt 16, 3) := by decide +kernel
theorem dX7_digitAt_27 : decode cX7_digitAt 27 = .ok (.iload_n 2, 1) := by decide +kernel
theorem dX7_digitAt_28 : decode cX7_digitAt 28 = .ok (.bipush 57, 2) := by decide +kernel
theorem dX7_digitAt_30 : decode cX7_digitAt 30 = .ok (.if_icmp .gt 10, 3) := by decide +kernel
theorem dX7_digitAt_33 : decode cX7_digitAt 33 = .ok (.iload_n 2, 1) := by decide +kernel
theorem dX7_digitAt_34 : decode cX7_digitAt 34 = .ok (.bipush 48, 2) := by decide +kernel
theorem dX7_digitAt_36 : decode cX7_digitAt 36 = .ok (.isub, 1) := by decide +kernel
theorem dX7_digitAt_37 : decode cX7_digitAt 37 = .ok (.goto 4, 3) := by decide +kernel
theorem dX7_digitAt_40 : decode cX7_digitAt 40 = .ok (.iconst (-1), 1) := by decide +kernel
theorem dX7_digitAt_41 : decode cX7_digitAt 41 = .ok (.ireturn, 1) := by decide +kernel
theorem wd1356 : Cond.code yX7_digitAt cX7_digitAt 3 (some .int) ∈ gW := gW_in 1356 (by decide +kernel) (by decide +kernel)
theorem mvX7_digitAt : MV yX7_digitAt cX7_digitAt 3 (some .int) 1 := ⟨wd1356, wd32, by decide +kernel, by decide +kernel, by decide +kernel, by decide⟩
theorem wd1355 : Cond.instanceMethod yX7_digitAt ∈ gW := gW_in 1355 (by decide +kernel) (by decide +kernel)
theorem wd13 : Cond.selects yX7_digitAt.cls yX7_digitAt yX7_digitAt ∈ gW := gW_in 13 (by decide +kernel) (by decide +kernel)
theorem wd1353 : Cond.methodLink RX7 106 yX7_digitAt ∈ gW := gW_in 1353 (by decide +kernel) (by decide +kernel)
theorem dX7_isDigitAt_0 : decode cX7_isDigitAt 0 = .ok (.aload_n 0, 1) := by decide +kernel
theorem dX7_isDigitAt_1 : decode cX7_isDigitAt 1 = .ok (.iload_n 1, 1) := by decide +kernel
theorem dX7_isDigitAt_2 : decode cX7_isDigitAt 2 = .ok (.invokevirtual 106, 3) := by decide +kernel
theorem dX7_isDigitAt_5 : decode cX7_isDigitAt 5 = .ok (.ifCond .lt 7, 3) := by decide +kernel
theorem dX7_isDigitAt_8 : decode cX7_isDigitAt 8 = .ok (.iconst 1, 1) := by decide +kernel
theorem dX7_isDigitAt_9 : decode cX7_isDigitAt 9 = .ok (.goto 4, 3) := by decide +kernel
theorem dX7_isDigitAt_12 : decode cX7_isDigitAt 12 = .ok (.iconst 0, 1) := by decide +kernel
theorem dX7_isDigitAt_13 : decode cX7_isDigitAt 13 = .ok (.ireturn, 1) := by decide +kernel
theorem wd268 : Cond.code yJ0_length_8abf5 cJ0_length_8abf5 1 (some .int) ∈ gW := gW_in 268 (by decide +kernel) (by decide +kernel)
theorem mvJ0_length_8abf5 : MV yJ0_length_8abf5 cJ0_length_8abf5 1 (some .int) 0 := ⟨wd268, wd35, by decide +kernel, by decide +kernel, by decide +kernel, by decide⟩
theorem wd266 : Cond.instanceMethod yJ0_length_8abf5 ∈ gW := gW_in 266 (by decide +kernel) (by decide +kernel)
theorem wd267 : Cond.selects yJ0_length_8abf5.cls yJ0_length_8abf5 yJ0_length_8abf5 ∈ gW := gW_in 267 (by decide +kernel) (by decide +kernel)
theorem wd1343 : Cond.methodLink RX7 68 yJ0_length_8abf5 ∈ gW := gW_in 1343 (by decide +kernel) (by decide +kernel)
theorem wd1286 : Cond.code yJ0_charAt_5068e cJ0_charAt_5068e 2 (some .char) ∈ gW := gW_in 1286 (by decide +kernel) (by decide +kernel)
theorem mvJ0_charAt_5068e : MV yJ0_charAt_5068e cJ0_charAt_5068e 2 (some .char) 1 := ⟨wd1286, wd35, by decide +kernel, by decide +kernel, by decide +kernel, by decide⟩
theorem wd1284 : Cond.instanceMethod yJ0_charAt_5068e ∈ gW := gW_in 1284 (by decide +kernel) (by decide +kernel)
theorem wd1285 : Cond.selects yJ0_charAt_5068e.cls yJ0_charAt_5068e yJ0_charAt_5068e ∈ gW := gW_in 1285 (by decide +kernel) (by decide +kernel)
theorem wd1344 : Cond.methodLink RX7 73 yJ0_charAt_5068e ∈ gW := gW_in 1344 (by decide +kernel) (by decide +kernel)
theorem dX7_wayAt_0 : decode cX7_wayAt 0 = .ok (.iload_n 1, 1) := by decide +kernel
theorem dX7_wayAt_1 : decode cX7_wayAt 1 = .ok (.ifCond .lt 11, 3) := by decide +kernel
theorem dX7_wayAt_4 : decode cX7_wayAt 4 = .ok (.iload_n 1, 1) := by decide +kernel
theorem dX7_wayAt_5 : decode cX7_wayAt 5 = .ok (.aload_n 0, 1) := by decide +kernel
theorem dX7_wayAt_6 : decode cX7_wayAt 6 = .ok (.getfield 15, 3) := by decide +kernel
theorem dX7_wayAt_9 : decode cX7_wayAt 9 = .ok (.if_icmp .lt 5, 3) := by decide +kernel
theorem dX7_wayAt_12 : decode cX7_wayAt 12 = .ok (.iconst (-1), 1) := by decide +kernel
theorem dX7_wayAt_13 : decode cX7_wayAt 13 = .ok (.ireturn, 1) := by decide +kernel
theorem dX7_wayAt_14 : decode cX7_wayAt 14 = .ok (.iconst 0, 1) := by decide +kernel
theorem dX7_wayAt_15 : decode cX7_wayAt 15 = .ok (.istore_n 2, 1) := by decide +kernel
theorem dX7_wayAt_16 : decode cX7_wayAt 16 = .ok (.iload_n 2, 1) := by decide +kernel
theorem dX7_wayAt_17 : decode cX7_wayAt 17 = .ok (.ldc 109, 2) := by decide +kernel
theorem dX7_wayAt_19 : decode cX7_wayAt 19 = .ok (.invokevirtual 68, 3) := by decide +kernel
theorem dX7_wayAt_22 : decode cX7_wayAt 22 = .ok (.if_icmp .ge 26, 3) := by decide +kernel
theorem dX7_wayAt_25 : decode cX7_wayAt 25 = .ok (.ldc 109, 2) := by decide +kernel
theorem dX7_wayAt_27 : decode cX7_wayAt 27 = .ok (.iload_n 2, 1) := by decide +kernel
theorem dX7_wayAt_28 : decode cX7_wayAt 28 = .ok (.invokevirtual 73, 3) := by decide +kernel
theorem dX7_wayAt_31 : decode cX7_wayAt 31 = .ok (.aload_n 0, 1) := by decide +kernel
theorem dX7_wayAt_32 : decode cX7_wayAt 32 = .ok (.getfield 9, 3) := by decide +kernel
theorem dX7_wayAt_35 : decode cX7_wayAt 35 = .ok (.iload_n 1, 1) := by decide +kernel
theorem dX7_wayAt_36 : decode cX7_wayAt 36 = .ok (.caload, 1) := by decide +kernel
theorem dX7_wayAt_37 : decode cX7_wayAt 37 = .ok (.if_icmp .ne 5, 3) := by decide +kernel
theorem dX7_wayAt_40 : decode cX7_wayAt 40 = .ok (.iload_n 2, 1) := by decide +kernel
theorem dX7_wayAt_41 : decode cX7_wayAt 41 = .ok (.ireturn, 1) := by decide +kernel
theorem dX7_wayAt_42 : decode cX7_wayAt 42 = .ok (.iinc 2 1, 3) := by decide +kernel
theorem dX7_wayAt_45 : decode cX7_wayAt 45 = .ok (.goto (-29), 3) := by decide +kernel
theorem dX7_wayAt_48 : decode cX7_wayAt 48 = .ok (.iconst (-1), 1) := by decide +kernel
theorem dX7_wayAt_49 : decode cX7_wayAt 49 = .ok (.ireturn, 1) := by decide +kernel
theorem wd1360 : Cond.code yX7_wayAt cX7_wayAt 3 (some .int) ∈ gW := gW_in 1360 (by decide +kernel) (by decide +kernel)
theorem mvX7_wayAt : MV yX7_wayAt cX7_wayAt 3 (some .int) 1 := ⟨wd1360, wd32, by decide +kernel, by decide +kernel, by decide +kernel, by decide⟩
theorem wd1359 : Cond.instanceMethod yX7_wayAt ∈ gW := gW_in 1359 (by decide +kernel) (by decide +kernel)
theorem wd14 : Cond.selects yX7_wayAt.cls yX7_wayAt yX7_wayAt ∈ gW := gW_in 14 (by decide +kernel) (by decide +kernel)
theorem wd1357 : Cond.methodLink RX7 102 yX7_wayAt ∈ gW := gW_in 1357 (by decide +kernel) (by decide +kernel)
theorem wd1352 : Cond.code yX7_isDigitAt cX7_isDigitAt 2 (some .boolean) ∈ gW := gW_in 1352 (by decide +kernel) (by decide +kernel)
theorem mvX7_isDigitAt : MV yX7_isDigitAt cX7_isDigitAt 2 (some .boolean) 1 := ⟨wd1352, wd32, by decide +kernel, by decide +kernel, by decide +kernel, by decide⟩
theorem wd1351 : Cond.instanceMethod yX7_isDigitAt ∈ gW := gW_in 1351 (by decide +kernel) (by decide +kernel)
theorem wd12 : Cond.selects yX7_isDigitAt.cls yX7_isDigitAt yX7_isDigitAt ∈ gW := gW_in 12 (by decide +kernel) (by decide +kernel)
theorem wd1349 : Cond.methodLink RX7 99 yX7_isDigitAt ∈ gW := gW_in 1349 (by decide +kernel) (by decide +kernel)
theorem dX7_widthOf_0 : decode cX7_widthOf 0 = .ok (.iload_n 1, 1) := by decide +kernel
theorem dX7_widthOf_1 : decode cX7_widthOf 1 = .ok (.bipush 78, 2) := by decide +kernel
theorem dX7_widthOf_3 : decode cX7_widthOf 3 = .ok (.if_icmp .ne 29, 3) := by decide +kernel
theorem dX7_widthOf_6 : decode cX7_widthOf 6 = .ok (.aload_n 0, 1) := by decide +kernel
theorem dX7_widthOf_7 : decode cX7_widthOf 7 = .ok (.iload_n 2, 1) := by decide +kernel
theorem dX7_widthOf_8 : decode cX7_widthOf 8 = .ok (.invokevirtual 99, 3) := by decide +kernel
theorem dX7_widthOf_11 : decode cX7_widthOf 11 = .ok (.ifCond .ne 5, 3) := by decide +kernel
theorem dX7_widthOf_14 : decode cX7_widthOf 14 = .ok (.iconst 0, 1) := by decide +kernel
theorem dX7_widthOf_15 : decode cX7_widthOf 15 = .ok (.ireturn, 1) := by decide +kernel
theorem dX7_widthOf_16 : decode cX7_widthOf 16 = .ok (.aload_n 0, 1) := by decide +kernel
theorem dX7_widthOf_17 : decode cX7_widthOf 17 = .ok (.iload_n 2, 1) := by decide +kernel
theorem dX7_widthOf_18 : decode cX7_widthOf 18 = .ok (.iconst 1, 1) := by decide +kernel
theorem dX7_widthOf_19 : decode cX7_widthOf 19 = .ok (.iadd, 1) := by decide +kernel
theorem dX7_widthOf_20 : decode cX7_widthOf 20 = .ok (.invokevirtual 99, 3) := by decide +kernel
theorem dX7_widthOf_23 : decode cX7_widthOf 23 = .ok (.ifCond .eq 7, 3) := by decide +kernel
theorem dX7_widthOf_26 : decode cX7_widthOf 26 = .ok (.iconst 2, 1) := by decide +kernel
theorem dX7_widthOf_27 : decode cX7_widthOf 27 = .ok (.goto 4, 3) := by decide +kernel
theorem dX7_widthOf_30 : decode cX7_widthOf 30 = .ok (.iconst 1, 1) := by decide +kernel
theorem dX7_widthOf_31 : decode cX7_widthOf 31 = .ok (.ireturn, 1) := by decide +kernel
theorem dX7_widthOf_32 : decode cX7_widthOf 32 = .ok (.iload_n 1, 1) := by decide +kernel
theorem dX7_widthOf_33 : decode cX7_widthOf 33 = .ok (.bipush 68, 2) := by decide +kernel
theorem dX7_widthOf_35 : decode cX7_widthOf 35 = .ok (.if_icmp .ne 17, 3) := by decide +kernel
theorem dX7_widthOf_38 : decode cX7_widthOf 38 = .ok (.aload_n 0, 1) := by decide +kernel
theorem dX7_widthOf_39 : decode cX7_widthOf 39 = .ok (.iload_n 2, 1) := by decide +kernel
theorem dX7_widthOf_40 : decode cX7_widthOf 40 = .ok (.invokevirtual 99, 3) := by decide +kernel
theorem dX7_widthOf_43 : decode cX7_widthOf 43 = .ok (.ifCond .eq 7, 3) := by decide +kernel
theorem dX7_widthOf_46 : decode cX7_widthOf 46 = .ok (.iconst 1, 1) := by decide +kernel
theorem dX7_widthOf_47 : decode cX7_widthOf 47 = .ok (.goto 4, 3) := by decide +kernel
theorem dX7_widthOf_50 : decode cX7_widthOf 50 = .ok (.iconst 0, 1) := by decide +kernel
theorem dX7_widthOf_51 : decode cX7_widthOf 51 = .ok (.ireturn, 1) := by decide +kernel
theorem dX7_widthOf_52 : decode cX7_widthOf 52 = .ok (.iload_n 1, 1) := by decide +kernel
theorem dX7_widthOf_53 : decode cX7_widthOf 53 = .ok (.bipush 87, 2) := by decide +kernel
theorem dX7_widthOf_55 : decode cX7_widthOf 55 = .ok (.if_icmp .ne 17, 3) := by decide +kernel
theorem dX7_widthOf_58 : decode cX7_widthOf 58 = .ok (.aload_n 0, 1) := by decide +kernel
theorem dX7_widthOf_59 : decode cX7_widthOf 59 = .ok (.iload_n 2, 1) := by decide +kernel
theorem dX7_widthOf_60 : decode cX7_widthOf 60 = .ok (.invokevirtual 102, 3) := by decide +kernel
theorem dX7_widthOf_63 : decode cX7_widthOf 63 = .ok (.ifCond .lt 7, 3) := by decide +kernel
theorem dX7_widthOf_66 : decode cX7_widthOf 66 = .ok (.iconst 1, 1) := by decide +kernel
theorem dX7_widthOf_67 : decode cX7_widthOf 67 = .ok (.goto 4, 3) := by decide +kernel
theorem dX7_widthOf_70 : decode cX7_widthOf 70 = .ok (.iconst 0, 1) := by decide +kernel
theorem dX7_widthOf_71 : decode cX7_widthOf 71 = .ok (.ireturn, 1) := by decide +kernel
theorem dX7_widthOf_72 : decode cX7_widthOf 72 = .ok (.iload_n 2, 1) := by decide +kernel
theorem dX7_widthOf_73 : decode cX7_widthOf 73 = .ok (.ifCond .lt 25, 3) := by decide +kernel
theorem dX7_widthOf_76 : decode cX7_widthOf 76 = .ok (.iload_n 2, 1) := by decide +kernel
theorem dX7_widthOf_77 : decode cX7_widthOf 77 = .ok (.aload_n 0, 1) := by decide +kernel
theorem dX7_widthOf_78 : decode cX7_widthOf 78 = .ok (.getfield 15, 3) := by decide +kernel
theorem dX7_widthOf_81 : decode cX7_widthOf 81 = .ok (.if_icmp .ge 17, 3) := by decide +kernel
theorem dX7_widthOf_84 : decode cX7_widthOf 84 = .ok (.aload_n 0, 1) := by decide +kernel
theorem dX7_widthOf_85 : decode cX7_widthOf 85 = .ok (.getfield 9, 3) := by decide +kernel
theorem dX7_widthOf_88 : decode cX7_widthOf 88 = .ok (.iload_n 2, 1) := by decide +kernel
theorem dX7_widthOf_89 : decode cX7_widthOf 89 = .ok (.caload, 1) := by decide +kernel
theorem dX7_widthOf_90 : decode cX7_widthOf 90 = .ok (.iload_n 1, 1) := by decide +kernel
theorem dX7_widthOf_91 : decode cX7_widthOf 91 = .ok (.if_icmp .ne 7, 3) := by decide +kernel
theorem dX7_widthOf_94 : decode cX7_widthOf 94 = .ok (.iconst 1, 1) := by decide +kernel
theorem dX7_widthOf_95 : decode cX7_widthOf 95 = .ok (.goto 4, 3) := by decide +kernel
theorem dX7_widthOf_98 : decode cX7_widthOf 98 = .ok (.iconst 0, 1) := by decide +kernel
theorem dX7_widthOf_99 : decode cX7_widthOf 99 = .ok (.ireturn, 1) := by decide +kernel
theorem dX7_isSlot_0 : decode cX7_isSlot 0 = .ok (.iload_n 0, 1) := by decide +kernel
theorem dX7_isSlot_1 : decode cX7_isSlot 1 = .ok (.bipush 78, 2) := by decide +kernel
theorem dX7_isSlot_3 : decode cX7_isSlot 3 = .ok (.if_icmp .eq 15, 3) := by decide +kernel
theorem dX7_isSlot_6 : decode cX7_isSlot 6 = .ok (.iload_n 0, 1) := by decide +kernel
theorem dX7_isSlot_7 : decode cX7_isSlot 7 = .ok (.bipush 68, 2) := by decide +kernel
theorem dX7_isSlot_9 : decode cX7_isSlot 9 = .ok (.if_icmp .eq 9, 3) := by decide +kernel
theorem dX7_isSlot_12 : decode cX7_isSlot 12 = .ok (.iload_n 0, 1) := by decide +kernel
theorem dX7_isSlot_13 : decode cX7_isSlot 13 = .ok (.bipush 87, 2) := by decide +kernel
theorem dX7_isSlot_15 : decode cX7_isSlot 15 = .ok (.if_icmp .ne 7, 3) := by decide +kernel
theorem dX7_isSlot_18 : decode cX7_isSlot 18 = .ok (.iconst 1, 1) := by decide +kernel
theorem dX7_isSlot_19 : decode cX7_isSlot 19 = .ok (.goto 4, 3) := by decide +kernel
theorem dX7_isSlot_22 : decode cX7_isSlot 22 = .ok (.iconst 0, 1) := by decide +kernel
theorem dX7_isSlot_23 : decode cX7_isSlot 23 = .ok (.ireturn, 1) := by decide +kernel
theorem dX7_valueOf_0 : decode cX7_valueOf 0 = .ok (.iload_n 1, 1) := by decide +kernel
theorem dX7_valueOf_1 : decode cX7_valueOf 1 = .ok (.bipush 87, 2) := by decide +kernel
theorem dX7_valueOf_3 : decode cX7_valueOf 3 = .ok (.if_icmp .ne 9, 3) := by decide +kernel
theorem dX7_valueOf_6 : decode cX7_valueOf 6 = .ok (.aload_n 0, 1) := by decide +kernel
theorem dX7_valueOf_7 : decode cX7_valueOf 7 = .ok (.iload_n 2, 1) := by decide +kernel
theorem dX7_valueOf_8 : decode cX7_valueOf 8 = .ok (.invokevirtual 102, 3) := by decide +kernel
theorem dX7_valueOf_11 : decode cX7_valueOf 11 = .ok (.ireturn, 1) := by decide +kernel
theorem dX7_valueOf_12 : decode cX7_valueOf 12 = .ok (.aload_n 0, 1) := by decide +kernel
theorem dX7_valueOf_13 : decode cX7_valueOf 13 = .ok (.iload_n 2, 1) := by decide +kernel
theorem dX7_valueOf_14 : decode cX7_valueOf 14 = .ok (.invokevirtual 106, 3) := by decide +kernel
theorem dX7_valueOf_17 : decode cX7_valueOf 17 = .ok (.istore 4, 2) := by decide +kernel
theorem dX7_valueOf_19 : decode cX7_valueOf 19 = .ok (.iload_n 3, 1) := by decide +kernel
theorem dX7_valueOf_20 : decode cX7_valueOf 20 = .ok (.iconst 2, 1) := by decide +kernel
theorem dX7_valueOf_21 : decode cX7_valueOf 21 = .ok (.if_icmp .ne 19, 3) := by decide +kernel
theorem dX7_valueOf_24 : decode cX7_valueOf 24 = .ok (.bipush 10, 2) := by decide +kernel
theorem dX7_valueOf_26 : decode cX7_valueOf 26 = .ok (.iload 4, 2) := by decide +kernel
theorem dX7_valueOf_28 : decode cX7_valueOf 28 = .ok (.imul, 1) := by decide +kernel
theorem dX7_valueOf_29 : decode cX7_valueOf 29 = .ok (.aload_n 0, 1) := by decide +kernel
theorem dX7_valueOf_30 : decode cX7_valueOf 30 = .ok (.iload_n 2, 1) := by decide +kernel
theorem dX7_valueOf_31 : decode cX7_valueOf 31 = .ok (.iconst 1, 1) := by decide +kernel
theorem dX7_valueOf_32 : decode cX7_valueOf 32 = .ok (.iadd, 1) := by decide +kernel
theorem dX7_valueOf_33 : decode cX7_valueOf 33 = .ok (.invokevirtual 106, 3) := by decide +kernel
theorem dX7_valueOf_36 : decode cX7_valueOf 36 = .ok (.iadd, 1) := by decide +kernel
theorem dX7_valueOf_37 : decode cX7_valueOf 37 = .ok (.goto 5, 3) := by decide +kernel
theorem dX7_valueOf_40 : decode cX7_valueOf 40 = .ok (.iload 4, 2) := by decide +kernel
theorem dX7_valueOf_42 : decode cX7_valueOf 42 = .ok (.ireturn, 1) := by decide +kernel
theorem wd1098 : Cond.fieldLink RX7 28 (TX7 4).1 (TX7 4).2.1 (TX7 4).2.2.1 ∈ gW := gW_in 1098 (by decide +kernel) (by decide +kernel)
theorem wd1096 : Cond.fieldLink RX7 25 (TX7 3).1 (TX7 3).2.1 (TX7 3).2.2.1 ∈ gW := gW_in 1096 (by decide +kernel) (by decide +kernel)
theorem dX7_putNumber_0 : decode cX7_putNumber 0 = .ok (.iload_n 1, 1) := by decide +kernel
theorem dX7_putNumber_1 : decode cX7_putNumber 1 = .ok (.iconst 4, 1) := by decide +kernel
theorem dX7_putNumber_2 : decode cX7_putNumber 2 = .ok (.if_icmp .ge 24, 3) := by decide +kernel
theorem dX7_putNumber_5 : decode cX7_putNumber 5 = .ok (.aload_n 0, 1) := by decide +kernel
theorem dX7_putNumber_6 : decode cX7_putNumber 6 = .ok (.getfield 28, 3) := by decide +kernel
theorem dX7_putNumber_9 : decode cX7_putNumber 9 = .ok (.bipush 15, 2) := by decide +kernel
theorem dX7_putNumber_11 : decode cX7_putNumber 11 = .ok (.if_icmp .ge 15, 3) := by decide +kernel
theorem dX7_putNumber_14 : decode cX7_putNumber 14 = .ok (.aload_n 0, 1) := by decide +kernel
theorem dX7_putNumber_15 : decode cX7_putNumber 15 = .ok (.getfield 25, 3) := by decide +kernel
theorem dX7_putNumber_18 : decode cX7_putNumber 18 = .ok (.aload_n 0, 1) := by decide +kernel
theorem dX7_putNumber_19 : decode cX7_putNumber 19 = .ok (.getfield 28, 3) := by decide +kernel
theorem dX7_putNumber_22 : decode cX7_putNumber 22 = .ok (.aaload, 1) := by decide +kernel
theorem dX7_putNumber_23 : decode cX7_putNumber 23 = .ok (.iload_n 1, 1) := by decide +kernel
theorem dX7_putNumber_24 : decode cX7_putNumber 24 = .ok (.iload_n 2, 1) := by decide +kernel
theorem dX7_putNumber_25 : decode cX7_putNumber 25 = .ok (.iastore, 1) := by decide +kernel
theorem dX7_putNumber_26 : decode cX7_putNumber 26 = .ok (.return_, 1) := by decide +kernel
theorem wd1348 : Cond.code yX7_widthOf cX7_widthOf 3 (some .int) ∈ gW := gW_in 1348 (by decide +kernel) (by decide +kernel)
theorem mvX7_widthOf : MV yX7_widthOf cX7_widthOf 3 (some .int) 2 := ⟨wd1348, wd32, by decide +kernel, by decide +kernel, by decide +kernel, by decide⟩
theorem wd1347 : Cond.instanceMethod yX7_widthOf ∈ gW := gW_in 1347 (by decide +kernel) (by decide +kernel)
theorem wd11 : Cond.selects yX7_widthOf.cls yX7_widthOf yX7_widthOf ∈ gW := gW_in 11 (by decide +kernel) (by decide +kernel)
theorem wd1345 : Cond.methodLink RX7 77 yX7_widthOf ∈ gW := gW_in 1345 (by decide +kernel) (by decide +kernel)
theorem wd1100 : Cond.fieldLink RX7 31 (TX7 5).1 (TX7 5).2.1 (TX7 5).2.2.1 ∈ gW := gW_in 1100 (by decide +kernel) (by decide +kernel)
theorem wd1373 : Cond.methodLink RX7 93 Lib.Math.max.name ∈ gW := gW_in 1373 (by decide +kernel) (by decide +kernel)
theorem wd1364 : Cond.code yX7_isSlot cX7_isSlot 1 (some .boolean) ∈ gW := gW_in 1364 (by decide +kernel) (by decide +kernel)
theorem mvX7_isSlot : MV yX7_isSlot cX7_isSlot 1 (some .boolean) 1 := ⟨wd1364, wd32, by decide +kernel, by decide +kernel, by decide +kernel, by decide⟩
theorem wd1363 : Cond.static yX7_isSlot ∈ gW := gW_in 1363 (by decide +kernel) (by decide +kernel)
theorem wd1362 : Cond.methodLink RX7 81 yX7_isSlot ∈ gW := gW_in 1362 (by decide +kernel) (by decide +kernel)
theorem wd1368 : Cond.code yX7_valueOf cX7_valueOf 5 (some .int) ∈ gW := gW_in 1368 (by decide +kernel) (by decide +kernel)
theorem mvX7_valueOf : MV yX7_valueOf cX7_valueOf 5 (some .int) 3 := ⟨wd1368, wd32, by decide +kernel, by decide +kernel, by decide +kernel, by decide⟩
theorem wd1367 : Cond.instanceMethod yX7_valueOf ∈ gW := gW_in 1367 (by decide +kernel) (by decide +kernel)
theorem wd15 : Cond.selects yX7_valueOf.cls yX7_valueOf yX7_valueOf ∈ gW := gW_in 15 (by decide +kernel) (by decide +kernel)
theorem wd1365 : Cond.methodLink RX7 85 yX7_valueOf ∈ gW := gW_in 1365 (by decide +kernel) (by decide +kernel)
theorem wd1372 : Cond.code yX7_putNumber cX7_putNumber 3 none ∈ gW := gW_in 1372 (by decide +kernel) (by decide +kernel)
theorem mvX7_putNumber : MV yX7_putNumber cX7_putNumber 3 none 2 := ⟨wd1372, wd32, by decide +kernel, by decide +kernel, by decide +kernel, by decide⟩
theorem wd1371 : Cond.instanceMethod yX7_putNumber ∈ gW := gW_in 1371 (by decide +kernel) (by decide +kernel)
theorem wd16 : Cond.selects yX7_putNumber.cls yX7_putNumber yX7_putNumber ∈ gW := gW_in 16 (by decide +kernel) (by decide +kernel)
theorem wd1369 : Cond.methodLink RX7 89 yX7_putNumber ∈ gW := gW_in 1369 (by decide +kernel) (by decide +kernel)
theorem dX7_fits_0 : decode cX7_fits 0 = .ok (.iload_n 2, 1) := by decide +kernel
theorem dX7_fits_1 : decode cX7_fits 1 = .ok (.istore_n 3, 1) := by decide +kernel
theorem dX7_fits_2 : decode cX7_fits 2 = .ok (.iconst 0, 1) := by decide +kernel
theorem dX7_fits_3 : decode cX7_fits 3 = .ok (.istore 4, 2) := by decide +kernel
theorem dX7_fits_5 : decode cX7_fits 5 = .ok (.iconst 0, 1) := by decide +kernel
theorem dX7_fits_6 : decode cX7_fits 6 = .ok (.istore 5, 2) := by decide +kernel
theorem dX7_fits_8 : decode cX7_fits 8 = .ok (.iload 5, 2) := by decide +kernel
theorem dX7_fits_10 : decode cX7_fits 10 = .ok (.aload_n 1, 1) := by decide +kernel
theorem dX7_fits_11 : decode cX7_fits 11 = .ok (.invokevirtual 68, 3) := by decide +kernel
theorem dX7_fits_14 : decode cX7_fits 14 = .ok (.if_icmp .ge 81, 3) := by decide +kernel
theorem dX7_fits_17 : decode cX7_fits 17 = .ok (.aload_n 1, 1) := by decide +kernel
theorem dX7_fits_18 : decode cX7_fits 18 = .ok (.iload 5, 2) := by decide +kernel
theorem dX7_fits_20 : decode cX7_fits 20 = .ok (.invokevirtual 73, 3) := by decide +kernel
theorem dX7_fits_23 : decode cX7_fits 23 = .ok (.istore 6, 2) := by decide +kernel
theorem dX7_fits_25 : decode cX7_fits 25 = .ok (.aload_n 0, 1) := by decide +kernel
theorem dX7_fits_26 : decode cX7_fits 26 = .ok (.iload 6, 2) := by decide +kernel
theorem dX7_fits_28 : decode cX7_fits 28 = .ok (.iload_n 3, 1) := by decide +kernel
theorem dX7_fits_29 : decode cX7_fits 29 = .ok (.invokevirtual 77, 3) := by decide +kernel
theorem dX7_fits_32 : decode cX7_fits 32 = .ok (.istore 7, 2) := by decide +kernel
theorem dX7_fits_34 : decode cX7_fits 34 = .ok (.iload 7, 2) := by decide +kernel
theorem dX7_fits_36 : decode cX7_fits 36 = .ok (.ifCond .le 29, 3) := by decide +kernel
theorem dX7_fits_39 : decode cX7_fits 39 = .ok (.iload 6, 2) := by decide +kernel
theorem dX7_fits_41 : decode cX7_fits 41 = .ok (.invokestatic 81, 3) := by decide +kernel
theorem dX7_fits_44 : decode cX7_fits 44 = .ok (.ifCond .eq 21, 3) := by decide +kernel
theorem dX7_fits_47 : decode cX7_fits 47 = .ok (.aload_n 0, 1) := by decide +kernel
theorem dX7_fits_48 : decode cX7_fits 48 = .ok (.iload 4, 2) := by decide +kernel
theorem dX7_fits_50 : decode cX7_fits 50 = .ok (.aload_n 0, 1) := by decide +kernel
theorem dX7_fits_51 : decode cX7_fits 51 = .ok (.iload 6, 2) := by decide +kernel
theorem dX7_fits_53 : decode cX7_fits 53 = .ok (.iload_n 3, 1) := by decide +kernel
theorem dX7_fits_54 : decode cX7_fits 54 = .ok (.iload 7, 2) := by decide +kernel
theorem dX7_fits_56 : decode cX7_fits 56 = .ok (.invokevirtual 85, 3) := by decide +kernel
theorem dX7_fits_59 : decode cX7_fits 59 = .ok (.invokevirtual 89, 3) := by decide +kernel
theorem dX7_fits_62 : decode cX7_fits 62 = .ok (.iinc 4 1, 3) := by decide +kernel
theorem dX7_fits_65 : decode cX7_fits 65 = .ok (.iload_n 3, 1) := by decide +kernel
theorem dX7_fits_66 : decode cX7_fits 66 = .ok (.iload 7, 2) := by decide +kernel
theorem dX7_fits_68 : decode cX7_fits 68 = .ok (.iadd, 1) := by decide +kernel
theorem dX7_fits_69 : decode cX7_fits 69 = .ok (.istore_n 3, 1) := by decide +kernel
theorem dX7_fits_70 : decode cX7_fits 70 = .ok (.aload_n 0, 1) := by decide +kernel
theorem dX7_fits_71 : decode cX7_fits 71 = .ok (.aload_n 0, 1) := by decide +kernel
theorem dX7_fits_72 : decode cX7_fits 72 = .ok (.getfield 31, 3) := by decide +kernel
theorem dX7_fits_75 : decode cX7_fits 75 = .ok (.iload_n 3, 1) := by decide +kernel
theorem dX7_fits_76 : decode cX7_fits 76 = .ok (.invokestatic 93, 3) := by decide +kernel
theorem dX7_fits_79 : decode cX7_fits 79 = .ok (.putfield 31, 3) := by decide +kernel
theorem dX7_fits_82 : decode cX7_fits 82 = .ok (.iload 7, 2) := by decide +kernel
theorem dX7_fits_84 : decode cX7_fits 84 = .ok (.ifCond .ne 5, 3) := by decide +kernel
theorem dX7_fits_87 : decode cX7_fits 87 = .ok (.iconst 0, 1) := by decide +kernel
theorem dX7_fits_88 : decode cX7_fits 88 = .ok (.ireturn, 1) := by decide +kernel
theorem dX7_fits_89 : decode cX7_fits 89 = .ok (.iinc 5 1, 3) := by decide +kernel
theorem dX7_fits_92 : decode cX7_fits 92 = .ok (.goto (-84), 3) := by decide +kernel
theorem dX7_fits_95 : decode cX7_fits 95 = .ok (.iconst 1, 1) := by decide +kernel
theorem dX7_fits_96 : decode cX7_fits 96 = .ok (.ireturn, 1) := by decide +kernel
theorem wd1329 : Cond.code yX7_formOf cX7_formOf 1 (some (.object "java/lang/String")) ∈ gW := gW_in 1329 (by decide +kernel) (by decide +kernel)
theorem mvX7_formOf : MV yX7_formOf cX7_formOf 1 (some (.object "java/lang/String")) 1 := ⟨wd1329, wd32, by decide +kernel, by decide +kernel, by decide +kernel, by decide⟩
theorem wd1328 : Cond.static yX7_formOf ∈ gW := gW_in 1328 (by decide +kernel) (by decide +kernel)
theorem wd1327 : Cond.methodLink RX7 42 yX7_formOf ∈ gW := gW_in 1327 (by decide +kernel) (by decide +kernel)
theorem wd1342 : Cond.code yX7_fits cX7_fits 8 (some .boolean) ∈ gW := gW_in 1342 (by decide +kernel) (by decide +kernel)
theorem mvX7_fits : MV yX7_fits cX7_fits 8 (some .boolean) 2 := ⟨wd1342, wd32, by decide +kernel, by decide +kernel, by decide +kernel, by decide⟩
theorem wd1341 : Cond.instanceMethod yX7_fits ∈ gW := gW_in 1341 (by decide +kernel) (by decide +kernel)
theorem wd10 : Cond.selects yX7_fits.cls yX7_fits yX7_fits ∈ gW := gW_in 10 (by decide +kernel) (by decide +kernel)
theorem wd1339 : Cond.methodLink RX7 46 yX7_fits ∈ gW := gW_in 1339 (by decide +kernel) (by decide +kernel)
theorem wd1094 : Cond.fieldLink RX7 19 (TX7 2).1 (TX7 2).2.1 (TX7 2).2.2.1 ∈ gW := gW_in 1094 (by decide +kernel) (by decide +kernel)
theorem dX7_readCommand_0 : decode cX7_readCommand 0 = .ok (.aload_n 0, 1) := by decide +kernel
theorem dX7_readCommand_1 : decode cX7_readCommand 1 = .ok (.iload_n 1, 1) := by decide +kernel
theorem dX7_readCommand_2 : decode cX7_readCommand 2 = .ok (.putfield 31, 3) := by decide +kernel
theorem dX7_readCommand_5 : decode cX7_readCommand 5 = .ok (.iconst 0, 1) := by decide +kernel
theorem dX7_readCommand_6 : decode cX7_readCommand 6 = .ok (.istore_n 2, 1) := by decide +kernel
theorem dX7_readCommand_7 : decode cX7_readCommand 7 = .ok (.iload_n 2, 1) := by decide +kernel
theorem dX7_readCommand_8 : decode cX7_readCommand 8 = .ok (.bipush 9, 2) := by decide +kernel
theorem dX7_readCommand_10 : decode cX7_readCommand 10 = .ok (.if_icmp .ge 33, 3) := by decide +kernel
theorem dX7_readCommand_13 : decode cX7_readCommand 13 = .ok (.aload_n 0, 1) := by decide +kernel
theorem dX7_readCommand_14 : decode cX7_readCommand 14 = .ok (.iload_n 2, 1) := by decide +kernel
theorem dX7_readCommand_15 : decode cX7_readCommand 15 = .ok (.invokestatic 42, 3) := by decide +kernel
theorem dX7_readCommand_18 : decode cX7_readCommand 18 = .ok (.iload_n 1, 1) := by decide +kernel
theorem dX7_readCommand_19 : decode cX7_readCommand 19 = .ok (.invokevirtual 46, 3) := by decide +kernel
theorem dX7_readCommand_22 : decode cX7_readCommand 22 = .ok (.ifCond .eq 15, 3) := by decide +kernel
theorem dX7_readCommand_25 : decode cX7_readCommand 25 = .ok (.aload_n 0, 1) := by decide +kernel
theorem dX7_readCommand_26 : decode cX7_readCommand 26 = .ok (.getfield 19, 3) := by decide +kernel
theorem dX7_readCommand_29 : decode cX7_readCommand 29 = .ok (.aload_n 0, 1) := by decide +kernel
theorem dX7_readCommand_30 : decode cX7_readCommand 30 = .ok (.getfield 28, 3) := by decide +kernel
theorem dX7_readCommand_33 : decode cX7_readCommand 33 = .ok (.iload_n 2, 1) := by decide +kernel
theorem dX7_readCommand_34 : decode cX7_readCommand 34 = .ok (.iastore, 1) := by decide +kernel
theorem dX7_readCommand_35 : decode cX7_readCommand 35 = .ok (.iconst 1, 1) := by decide +kernel
theorem dX7_readCommand_36 : decode cX7_readCommand 36 = .ok (.ireturn, 1) := by decide +kernel
theorem dX7_readCommand_37 : decode cX7_readCommand 37 = .ok (.iinc 2 1, 3) := by decide +kernel
theorem dX7_readCommand_40 : decode cX7_readCommand 40 = .ok (.goto (-33), 3) := by decide +kernel
theorem dX7_readCommand_43 : decode cX7_readCommand 43 = .ok (.iconst 0, 1) := by decide +kernel
theorem dX7_readCommand_44 : decode cX7_readCommand 44 = .ok (.ireturn, 1) := by decide +kernel
theorem wd1326 : Cond.code yX7_readCommand cX7_readCommand 3 (some .boolean) ∈ gW := gW_in 1326 (by decide +kernel) (by decide +kernel)
theorem mvX7_readCommand : MV yX7_readCommand cX7_readCommand 3 (some .boolean) 1 := ⟨wd1326, wd32, by decide +kernel, by decide +kernel, by decide +kernel, by decide⟩
theorem wd1325 : Cond.instanceMethod yX7_readCommand ∈ gW := gW_in 1325 (by decide +kernel) (by decide +kernel)
theorem wd9 : Cond.selects yX7_readCommand.cls yX7_readCommand yX7_readCommand ∈ gW := gW_in 9 (by decide +kernel) (by decide +kernel)
theorem wd1323 : Cond.methodLink RX7 38 yX7_readCommand ∈ gW := gW_in 1323 (by decide +kernel) (by decide +kernel)
theorem dX7_findError_0 : decode cX7_findError 0 = .ok (.aload_n 0, 1) := by decide +kernel
theorem dX7_findError_1 : decode cX7_findError 1 = .ok (.iconst 0, 1) := by decide +kernel
theorem dX7_findError_2 : decode cX7_findError 2 = .ok (.putfield 28, 3) := by decide +kernel
theorem dX7_findError_5 : decode cX7_findError 5 = .ok (.iconst 0, 1) := by decide +kernel
theorem dX7_findError_6 : decode cX7_findError 6 = .ok (.istore_n 1, 1) := by decide +kernel
theorem dX7_findError_7 : decode cX7_findError 7 = .ok (.aload_n 0, 1) := by decide +kernel
theorem dX7_findError_8 : decode cX7_findError 8 = .ok (.getfield 28, 3) := by decide +kernel
theorem dX7_findError_11 : decode cX7_findError 11 = .ok (.bipush 15, 2) := by decide +kernel
theorem dX7_findError_13 : decode cX7_findError 13 = .ok (.if_icmp .ge 68, 3) := by decide +kernel
theorem dX7_findError_16 : decode cX7_findError 16 = .ok (.aload_n 0, 1) := by decide +kernel
theorem dX7_findError_17 : decode cX7_findError 17 = .ok (.iload_n 1, 1) := by decide +kernel
theorem dX7_findError_18 : decode cX7_findError 18 = .ok (.invokevirtual 38, 3) := by decide +kernel
theorem dX7_findError_21 : decode cX7_findError 21 = .ok (.ifCond .ne 8, 3) := by decide +kernel
theorem dX7_findError_24 : decode cX7_findError 24 = .ok (.aload_n 0, 1) := by decide +kernel
theorem dX7_findError_25 : decode cX7_findError 25 = .ok (.getfield 31, 3) := by decide +kernel
theorem dX7_findError_28 : decode cX7_findError 28 = .ok (.ireturn, 1) := by decide +kernel
theorem dX7_findError_29 : decode cX7_findError 29 = .ok (.aload_n 0, 1) := by decide +kernel
theorem dX7_findError_30 : decode cX7_findError 30 = .ok (.dup, 1) := by decide +kernel
theorem dX7_findError_31 : decode cX7_findError 31 = .ok (.getfield 28, 3) := by decide +kernel
theorem dX7_findError_34 : decode cX7_findError 34 = .ok (.iconst 1, 1) := by decide +kernel
theorem dX7_findError_35 : decode cX7_findError 35 = .ok (.iadd, 1) := by decide +kernel
theorem dX7_findError_36 : decode cX7_findError 36 = .ok (.putfield 28, 3) := by decide +kernel
theorem dX7_findError_39 : decode cX7_findError 39 = .ok (.aload_n 0, 1) := by decide +kernel
theorem dX7_findError_40 : decode cX7_findError 40 = .ok (.getfield 31, 3) := by decide +kernel
theorem dX7_findError_43 : decode cX7_findError 43 = .ok (.aload_n 0, 1) := by decide +kernel
theorem dX7_findError_44 : decode cX7_findError 44 = .ok (.getfield 15, 3) := by decide +kernel
theorem dX7_findError_47 : decode cX7_findError 47 = .ok (.if_icmp .lt 5, 3) := by decide +kernel
theorem dX7_findError_50 : decode cX7_findError 50 = .ok (.iconst (-1), 1) := by decide +kernel
theorem dX7_findError_51 : decode cX7_findError 51 = .ok (.ireturn, 1) := by decide +kernel
theorem dX7_findError_52 : decode cX7_findError 52 = .ok (.aload_n 0, 1) := by decide +kernel
theorem dX7_findError_53 : decode cX7_findError 53 = .ok (.getfield 9, 3) := by decide +kernel
theorem dX7_findError_56 : decode cX7_findError 56 = .ok (.aload_n 0, 1) := by decide +kernel
theorem dX7_findError_57 : decode cX7_findError 57 = .ok (.getfield 31, 3) := by decide +kernel
theorem dX7_findError_60 : decode cX7_findError 60 = .ok (.caload, 1) := by decide +kernel
theorem dX7_findError_61 : decode cX7_findError 61 = .ok (.bipush 59, 2) := by decide +kernel
theorem dX7_findError_63 : decode cX7_findError 63 = .ok (.if_icmp .eq 8, 3) := by decide +kernel
theorem dX7_findError_66 : decode cX7_findError 66 = .ok (.aload_n 0, 1) := by decide +kernel
theorem dX7_findError_67 : decode cX7_findError 67 = .ok (.getfield 31, 3) := by decide +kernel
theorem dX7_findError_70 : decode cX7_findError 70 = .ok (.ireturn, 1) := by decide +kernel
theorem dX7_findError_71 : decode cX7_findError 71 = .ok (.aload_n 0, 1) := by decide +kernel
theorem dX7_findError_72 : decode cX7_findError 72 = .ok (.getfield 31, 3) := by decide +kernel
theorem dX7_findError_75 : decode cX7_findError 75 = .ok (.iconst 1, 1) := by decide +kernel
theorem dX7_findError_76 : decode cX7_findError 76 = .ok (.iadd, 1) := by decide +kernel
theorem dX7_findError_77 : decode cX7_findError 77 = .ok (.istore_n 1, 1) := by decide +kernel
theorem dX7_findError_78 : decode cX7_findError 78 = .ok (.goto (-71), 3) := by decide +kernel
theorem dX7_findError_81 : decode cX7_findError 81 = .ok (.iload_n 1, 1) := by decide +kernel
theorem dX7_findError_82 : decode cX7_findError 82 = .ok (.ireturn, 1) := by decide +kernel
