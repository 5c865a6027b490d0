theorem wd936 : Cond.fieldLink RX0 9 (TX0 0).1 (TX0 0).2.1 (TX0 0).2.2.1 ∈ gW := gW_in 936 (by decide +kernel) (by decide +kernel)
theorem kfX0 : KF 5 RX0 TX0 5 tyX0 := ⟨by decide, by decide, rfl, gW_all (by decide +kernel), tyX0_ok, nmX0⟩
theorem wd523 : Cond.methodLink RX0 28 arraycopyName ∈ gW := gW_in 523 (by decide +kernel) (by decide +kernel)
theorem wd233 : Cond.native arraycopyName ∈ gW := gW_in 233 (by decide +kernel) (by decide +kernel)
theorem wd232 : Cond.static arraycopyName ∈ gW := gW_in 232 (by decide +kernel) (by decide +kernel)
theorem wd45 : Cond.initialized "java/lang/System" ∈ gW := gW_in 45 (by decide +kernel) (by decide +kernel)
theorem wd937 : Cond.fieldLink RX0 15 (TX0 1).1 (TX0 1).2.1 (TX0 1).2.2.1 ∈ gW := gW_in 937 (by decide +kernel) (by decide +kernel)
theorem wd938 : Cond.fieldLink RX0 18 (TX0 2).1 (TX0 2).2.1 (TX0 2).2.2.1 ∈ gW := gW_in 938 (by decide +kernel) (by decide +kernel)
theorem wd939 : Cond.fieldLink RX0 21 (TX0 3).1 (TX0 3).2.1 (TX0 3).2.2.1 ∈ gW := gW_in 939 (by decide +kernel) (by decide +kernel)
theorem wd941 : Cond.fieldLink RX0 25 (TX0 4).1 (TX0 4).2.1 (TX0 4).2.2.1 ∈ gW := gW_in 941 (by decide +kernel) (by decide +kernel)
theorem dX0_copyFrom_0 : decode cX0_copyFrom 0 = .ok (.aload_n 1, 1) := by decide +kernel
theorem dX0_copyFrom_1 : decode cX0_copyFrom 1 = .ok (.getfield 9, 3) := by decide +kernel
theorem dX0_copyFrom_4 : decode cX0_copyFrom 4 = .ok (.iconst 0, 1) := by decide +kernel
theorem dX0_copyFrom_5 : decode cX0_copyFrom 5 = .ok (.aload_n 0, 1) := by decide +kernel
theorem dX0_copyFrom_6 : decode cX0_copyFrom 6 = .ok (.getfield 9, 3) := by decide +kernel
theorem dX0_copyFrom_9 : decode cX0_copyFrom 9 = .ok (.iconst 0, 1) := by decide +kernel
theorem dX0_copyFrom_10 : decode cX0_copyFrom 10 = .ok (.bipush 6, 2) := by decide +kernel
theorem dX0_copyFrom_12 : decode cX0_copyFrom 12 = .ok (.invokestatic 28, 3) := by decide +kernel
theorem dX0_copyFrom_15 : decode cX0_copyFrom 15 = .ok (.aload_n 1, 1) := by decide +kernel
theorem dX0_copyFrom_16 : decode cX0_copyFrom 16 = .ok (.getfield 15, 3) := by decide +kernel
theorem dX0_copyFrom_19 : decode cX0_copyFrom 19 = .ok (.iconst 0, 1) := by decide +kernel
theorem dX0_copyFrom_20 : decode cX0_copyFrom 20 = .ok (.aload_n 0, 1) := by decide +kernel
theorem dX0_copyFrom_21 : decode cX0_copyFrom 21 = .ok (.getfield 15, 3) := by decide +kernel
theorem dX0_copyFrom_24 : decode cX0_copyFrom 24 = .ok (.iconst 0, 1) := by decide +kernel
theorem dX0_copyFrom_25 : decode cX0_copyFrom 25 = .ok (.bipush 6, 2) := by decide +kernel
theorem dX0_copyFrom_27 : decode cX0_copyFrom 27 = .ok (.invokestatic 28, 3) := by decide +kernel
theorem dX0_copyFrom_30 : decode cX0_copyFrom 30 = .ok (.aload_n 1, 1) := by decide +kernel
theorem dX0_copyFrom_31 : decode cX0_copyFrom 31 = .ok (.getfield 18, 3) := by decide +kernel
theorem dX0_copyFrom_34 : decode cX0_copyFrom 34 = .ok (.iconst 0, 1) := by decide +kernel
theorem dX0_copyFrom_35 : decode cX0_copyFrom 35 = .ok (.aload_n 0, 1) := by decide +kernel
theorem dX0_copyFrom_36 : decode cX0_copyFrom 36 = .ok (.getfield 18, 3) := by decide +kernel
theorem dX0_copyFrom_39 : decode cX0_copyFrom 39 = .ok (.iconst 0, 1) := by decide +kernel
theorem dX0_copyFrom_40 : decode cX0_copyFrom 40 = .ok (.bipush 6, 2) := by decide +kernel
theorem dX0_copyFrom_42 : decode cX0_copyFrom 42 = .ok (.invokestatic 28, 3) := by decide +kernel
theorem dX0_copyFrom_45 : decode cX0_copyFrom 45 = .ok (.aload_n 0, 1) := by decide +kernel
theorem dX0_copyFrom_46 : decode cX0_copyFrom 46 = .ok (.aload_n 1, 1) := by decide +kernel
theorem dX0_copyFrom_47 : decode cX0_copyFrom 47 = .ok (.getfield 21, 3) := by decide +kernel
theorem dX0_copyFrom_50 : decode cX0_copyFrom 50 = .ok (.putfield 21, 3) := by decide +kernel
theorem dX0_copyFrom_53 : decode cX0_copyFrom 53 = .ok (.aload_n 0, 1) := by decide +kernel
theorem dX0_copyFrom_54 : decode cX0_copyFrom 54 = .ok (.aload_n 1, 1) := by decide +kernel
theorem dX0_copyFrom_55 : decode cX0_copyFrom 55 = .ok (.getfield 25, 3) := by decide +kernel
theorem dX0_copyFrom_58 : decode cX0_copyFrom 58 = .ok (.putfield 25, 3) := by decide +kernel
theorem dX0_copyFrom_61 : decode cX0_copyFrom 61 = .ok (.return_, 1) := by decide +kernel
theorem dX0_putThermal_0 : decode cX0_putThermal 0 = .ok (.aload_n 0, 1) := by decide +kernel
theorem dX0_putThermal_1 : decode cX0_putThermal 1 = .ok (.getfield 21, 3) := by decide +kernel
theorem dX0_putThermal_4 : decode cX0_putThermal 4 = .ok (.bipush 6, 2) := by decide +kernel
theorem dX0_putThermal_6 : decode cX0_putThermal 6 = .ok (.if_icmp .lt 8, 3) := by decide +kernel
theorem dX0_putThermal_9 : decode cX0_putThermal 9 = .ok (.aload_n 0, 1) := by decide +kernel
theorem dX0_putThermal_10 : decode cX0_putThermal 10 = .ok (.getfield 21, 3) := by decide +kernel
theorem dX0_putThermal_13 : decode cX0_putThermal 13 = .ok (.ireturn, 1) := by decide +kernel
theorem dX0_putThermal_14 : decode cX0_putThermal 14 = .ok (.aload_n 0, 1) := by decide +kernel
theorem dX0_putThermal_15 : decode cX0_putThermal 15 = .ok (.getfield 9, 3) := by decide +kernel
theorem dX0_putThermal_18 : decode cX0_putThermal 18 = .ok (.aload_n 0, 1) := by decide +kernel
theorem dX0_putThermal_19 : decode cX0_putThermal 19 = .ok (.getfield 21, 3) := by decide +kernel
theorem dX0_putThermal_22 : decode cX0_putThermal 22 = .ok (.iload_n 1, 1) := by decide +kernel
theorem dX0_putThermal_23 : decode cX0_putThermal 23 = .ok (.iastore, 1) := by decide +kernel
theorem dX0_putThermal_24 : decode cX0_putThermal 24 = .ok (.aload_n 0, 1) := by decide +kernel
theorem dX0_putThermal_25 : decode cX0_putThermal 25 = .ok (.getfield 15, 3) := by decide +kernel
theorem dX0_putThermal_28 : decode cX0_putThermal 28 = .ok (.aload_n 0, 1) := by decide +kernel
theorem dX0_putThermal_29 : decode cX0_putThermal 29 = .ok (.getfield 21, 3) := by decide +kernel
theorem dX0_putThermal_32 : decode cX0_putThermal 32 = .ok (.iload_n 2, 1) := by decide +kernel
theorem dX0_putThermal_33 : decode cX0_putThermal 33 = .ok (.iastore, 1) := by decide +kernel
theorem dX0_putThermal_34 : decode cX0_putThermal 34 = .ok (.aload_n 0, 1) := by decide +kernel
theorem dX0_putThermal_35 : decode cX0_putThermal 35 = .ok (.getfield 18, 3) := by decide +kernel
theorem dX0_putThermal_38 : decode cX0_putThermal 38 = .ok (.aload_n 0, 1) := by decide +kernel
theorem dX0_putThermal_39 : decode cX0_putThermal 39 = .ok (.getfield 21, 3) := by decide +kernel
theorem dX0_putThermal_42 : decode cX0_putThermal 42 = .ok (.iload_n 3, 1) := by decide +kernel
theorem dX0_putThermal_43 : decode cX0_putThermal 43 = .ok (.iastore, 1) := by decide +kernel
theorem dX0_putThermal_44 : decode cX0_putThermal 44 = .ok (.aload_n 0, 1) := by decide +kernel
theorem dX0_putThermal_45 : decode cX0_putThermal 45 = .ok (.dup, 1) := by decide +kernel
theorem dX0_putThermal_46 : decode cX0_putThermal 46 = .ok (.getfield 21, 3) := by decide +kernel
theorem dX0_putThermal_49 : decode cX0_putThermal 49 = .ok (.iconst 1, 1) := by decide +kernel
theorem dX0_putThermal_50 : decode cX0_putThermal 50 = .ok (.iadd, 1) := by decide +kernel
theorem dX0_putThermal_51 : decode cX0_putThermal 51 = .ok (.putfield 21, 3) := by decide +kernel
theorem dX0_putThermal_54 : decode cX0_putThermal 54 = .ok (.aload_n 0, 1) := by decide +kernel
theorem dX0_putThermal_55 : decode cX0_putThermal 55 = .ok (.getfield 21, 3) := by decide +kernel
theorem dX0_putThermal_58 : decode cX0_putThermal 58 = .ok (.ireturn, 1) := by decide +kernel
theorem wd799 : Cond.methodLink RX0 34 Lib.Math.abs.name ∈ gW := gW_in 799 (by decide +kernel) (by decide +kernel)
theorem wd728 : Cond.static Lib.Math.abs.name ∈ gW := gW_in 728 (by decide +kernel) (by decide +kernel)
theorem wd47 : Cond.initialized "java/lang/Math" ∈ gW := gW_in 47 (by decide +kernel) (by decide +kernel)
theorem wd729 : Cond.code Lib.Math.abs.name Lib.Math.abs.code 1 (some .int) ∈ gW := gW_in 729 (by decide +kernel) (by decide +kernel)
theorem dX0_strongestAt_0 : decode cX0_strongestAt 0 = .ok (.iconst 0, 1) := by decide +kernel
theorem dX0_strongestAt_1 : decode cX0_strongestAt 1 = .ok (.istore_n 3, 1) := by decide +kernel
theorem dX0_strongestAt_2 : decode cX0_strongestAt 2 = .ok (.iconst 0, 1) := by decide +kernel
theorem dX0_strongestAt_3 : decode cX0_strongestAt 3 = .ok (.istore 4, 2) := by decide +kernel
theorem dX0_strongestAt_5 : decode cX0_strongestAt 5 = .ok (.iload 4, 2) := by decide +kernel
theorem dX0_strongestAt_7 : decode cX0_strongestAt 7 = .ok (.aload_n 0, 1) := by decide +kernel
theorem dX0_strongestAt_8 : decode cX0_strongestAt 8 = .ok (.getfield 21, 3) := by decide +kernel
theorem dX0_strongestAt_11 : decode cX0_strongestAt 11 = .ok (.if_icmp .ge 61, 3) := by decide +kernel
theorem dX0_strongestAt_14 : decode cX0_strongestAt 14 = .ok (.aload_n 0, 1) := by decide +kernel
theorem dX0_strongestAt_15 : decode cX0_strongestAt 15 = .ok (.getfield 9, 3) := by decide +kernel
theorem dX0_strongestAt_18 : decode cX0_strongestAt 18 = .ok (.iload 4, 2) := by decide +kernel
theorem dX0_strongestAt_20 : decode cX0_strongestAt 20 = .ok (.iaload, 1) := by decide +kernel
theorem dX0_strongestAt_21 : decode cX0_strongestAt 21 = .ok (.iload_n 1, 1) := by decide +kernel
theorem dX0_strongestAt_22 : decode cX0_strongestAt 22 = .ok (.isub, 1) := by decide +kernel
theorem dX0_strongestAt_23 : decode cX0_strongestAt 23 = .ok (.invokestatic 34, 3) := by decide +kernel
theorem dX0_strongestAt_26 : decode cX0_strongestAt 26 = .ok (.aload_n 0, 1) := by decide +kernel
theorem dX0_strongestAt_27 : decode cX0_strongestAt 27 = .ok (.getfield 15, 3) := by decide +kernel
theorem dX0_strongestAt_30 : decode cX0_strongestAt 30 = .ok (.iload 4, 2) := by decide +kernel
theorem dX0_strongestAt_32 : decode cX0_strongestAt 32 = .ok (.iaload, 1) := by decide +kernel
theorem dX0_strongestAt_33 : decode cX0_strongestAt 33 = .ok (.iload_n 2, 1) := by decide +kernel
theorem dX0_strongestAt_34 : decode cX0_strongestAt 34 = .ok (.isub, 1) := by decide +kernel
theorem dX0_strongestAt_35 : decode cX0_strongestAt 35 = .ok (.invokestatic 34, 3) := by decide +kernel
theorem dX0_strongestAt_38 : decode cX0_strongestAt 38 = .ok (.iadd, 1) := by decide +kernel
theorem dX0_strongestAt_39 : decode cX0_strongestAt 39 = .ok (.istore 5, 2) := by decide +kernel
theorem dX0_strongestAt_41 : decode cX0_strongestAt 41 = .ok (.iload 5, 2) := by decide +kernel
theorem dX0_strongestAt_43 : decode cX0_strongestAt 43 = .ok (.iconst 2, 1) := by decide +kernel
theorem dX0_strongestAt_44 : decode cX0_strongestAt 44 = .ok (.if_icmp .gt 22, 3) := by decide +kernel
theorem dX0_strongestAt_47 : decode cX0_strongestAt 47 = .ok (.aload_n 0, 1) := by decide +kernel
theorem dX0_strongestAt_48 : decode cX0_strongestAt 48 = .ok (.getfield 18, 3) := by decide +kernel
theorem dX0_strongestAt_51 : decode cX0_strongestAt 51 = .ok (.iload 4, 2) := by decide +kernel
theorem dX0_strongestAt_53 : decode cX0_strongestAt 53 = .ok (.iaload, 1) := by decide +kernel
theorem dX0_strongestAt_54 : decode cX0_strongestAt 54 = .ok (.iload_n 3, 1) := by decide +kernel
theorem dX0_strongestAt_55 : decode cX0_strongestAt 55 = .ok (.if_icmp .le 11, 3) := by decide +kernel
theorem dX0_strongestAt_58 : decode cX0_strongestAt 58 = .ok (.aload_n 0, 1) := by decide +kernel
theorem dX0_strongestAt_59 : decode cX0_strongestAt 59 = .ok (.getfield 18, 3) := by decide +kernel
theorem dX0_strongestAt_62 : decode cX0_strongestAt 62 = .ok (.iload 4, 2) := by decide +kernel
theorem dX0_strongestAt_64 : decode cX0_strongestAt 64 = .ok (.iaload, 1) := by decide +kernel
theorem dX0_strongestAt_65 : decode cX0_strongestAt 65 = .ok (.istore_n 3, 1) := by decide +kernel
theorem dX0_strongestAt_66 : decode cX0_strongestAt 66 = .ok (.iinc 4 1, 3) := by decide +kernel
theorem dX0_strongestAt_69 : decode cX0_strongestAt 69 = .ok (.goto (-64), 3) := by decide +kernel
theorem dX0_strongestAt_72 : decode cX0_strongestAt 72 = .ok (.iload_n 3, 1) := by decide +kernel
theorem dX0_strongestAt_73 : decode cX0_strongestAt 73 = .ok (.ireturn, 1) := by decide +kernel
theorem wd961 : Cond.fieldLink RX1 9 (TX1 0).1 (TX1 0).2.1 (TX1 0).2.2.1 ∈ gW := gW_in 961 (by decide +kernel) (by decide +kernel)
theorem kfX1 : KF 6 RX1 TX1 7 tyX1 := ⟨by decide, by decide, rfl, gW_all (by decide +kernel), tyX1_ok, nmX1⟩
theorem wd528 : Cond.methodLink RX1 34 arraycopyName ∈ gW := gW_in 528 (by decide +kernel) (by decide +kernel)
theorem wd962 : Cond.fieldLink RX1 15 (TX1 1).1 (TX1 1).2.1 (TX1 1).2.2.1 ∈ gW := gW_in 962 (by decide +kernel) (by decide +kernel)
theorem wd963 : Cond.fieldLink RX1 18 (TX1 2).1 (TX1 2).2.1 (TX1 2).2.2.1 ∈ gW := gW_in 963 (by decide +kernel) (by decide +kernel)
theorem wd964 : Cond.fieldLink RX1 21 (TX1 3).1 (TX1 3).2.1 (TX1 3).2.2.1 ∈ gW := gW_in 964 (by decide +kernel) (by decide +kernel)
theorem wd965 : Cond.fieldLink RX1 24 (TX1 4).1 (TX1 4).2.1 (TX1 4).2.2.1 ∈ gW := gW_in 965 (by decide +kernel) (by decide +kernel)
theorem dX1_copyFrom_0 : decode cX1_copyFrom 0 = .ok (.aload_n 1, 1) := by decide +kernel
theorem dX1_copyFrom_1 : decode cX1_copyFrom 1 = .ok (.getfield 9, 3) := by decide +kernel
theorem dX1_copyFrom_4 : decode cX1_copyFrom 4 = .ok (.iconst 0, 1) := by decide +kernel
theorem dX1_copyFrom_5 : decode cX1_copyFrom 5 = .ok (.aload_n 0, 1) := by decide +kernel
theorem dX1_copyFrom_6 : decode cX1_copyFrom 6 = .ok (.getfield 9, 3) := by decide +kernel
theorem dX1_copyFrom_9 : decode cX1_copyFrom 9 = .ok (.iconst 0, 1) := by decide +kernel
theorem dX1_copyFrom_10 : decode cX1_copyFrom 10 = .ok (.iconst 3, 1) := by decide +kernel
theorem dX1_copyFrom_11 : decode cX1_copyFrom 11 = .ok (.invokestatic 34, 3) := by decide +kernel
theorem dX1_copyFrom_14 : decode cX1_copyFrom 14 = .ok (.aload_n 1, 1) := by decide +kernel
theorem dX1_copyFrom_15 : decode cX1_copyFrom 15 = .ok (.getfield 15, 3) := by decide +kernel
theorem dX1_copyFrom_18 : decode cX1_copyFrom 18 = .ok (.iconst 0, 1) := by decide +kernel
theorem dX1_copyFrom_19 : decode cX1_copyFrom 19 = .ok (.aload_n 0, 1) := by decide +kernel
theorem dX1_copyFrom_20 : decode cX1_copyFrom 20 = .ok (.getfield 15, 3) := by decide +kernel
theorem dX1_copyFrom_23 : decode cX1_copyFrom 23 = .ok (.iconst 0, 1) := by decide +kernel
theorem dX1_copyFrom_24 : decode cX1_copyFrom 24 = .ok (.iconst 3, 1) := by decide +kernel
theorem dX1_copyFrom_25 : decode cX1_copyFrom 25 = .ok (.invokestatic 34, 3) := by decide +kernel
theorem dX1_copyFrom_28 : decode cX1_copyFrom 28 = .ok (.aload_n 1, 1) := by decide +kernel
theorem dX1_copyFrom_29 : decode cX1_copyFrom 29 = .ok (.getfield 18, 3) := by decide +kernel
theorem dX1_copyFrom_32 : decode cX1_copyFrom 32 = .ok (.iconst 0, 1) := by decide +kernel
theorem dX1_copyFrom_33 : decode cX1_copyFrom 33 = .ok (.aload_n 0, 1) := by decide +kernel
theorem dX1_copyFrom_34 : decode cX1_copyFrom 34 = .ok (.getfield 18, 3) := by decide +kernel
theorem dX1_copyFrom_37 : decode cX1_copyFrom 37 = .ok (.iconst 0, 1) := by decide +kernel
theorem dX1_copyFrom_38 : decode cX1_copyFrom 38 = .ok (.iconst 3, 1) := by decide +kernel
theorem dX1_copyFrom_39 : decode cX1_copyFrom 39 = .ok (.invokestatic 34, 3) := by decide +kernel
theorem dX1_copyFrom_42 : decode cX1_copyFrom 42 = .ok (.aload_n 1, 1) := by decide +kernel
theorem dX1_copyFrom_43 : decode cX1_copyFrom 43 = .ok (.getfield 21, 3) := by decide +kernel
theorem dX1_copyFrom_46 : decode cX1_copyFrom 46 = .ok (.iconst 0, 1) := by decide +kernel
theorem dX1_copyFrom_47 : decode cX1_copyFrom 47 = .ok (.aload_n 0, 1) := by decide +kernel
theorem dX1_copyFrom_48 : decode cX1_copyFrom 48 = .ok (.getfield 21, 3) := by decide +kernel
theorem dX1_copyFrom_51 : decode cX1_copyFrom 51 = .ok (.iconst 0, 1) := by decide +kernel
theorem dX1_copyFrom_52 : decode cX1_copyFrom 52 = .ok (.iconst 3, 1) := by decide +kernel
theorem dX1_copyFrom_53 : decode cX1_copyFrom 53 = .ok (.invokestatic 34, 3) := by decide +kernel
theorem dX1_copyFrom_56 : decode cX1_copyFrom 56 = .ok (.aload_n 0, 1) := by decide +kernel
theorem dX1_copyFrom_57 : decode cX1_copyFrom 57 = .ok (.aload_n 1, 1) := by decide +kernel
theorem dX1_copyFrom_58 : decode cX1_copyFrom 58 = .ok (.getfield 24, 3) := by decide +kernel
theorem dX1_copyFrom_61 : decode cX1_copyFrom 61 = .ok (.putfield 24, 3) := by decide +kernel
theorem dX1_copyFrom_64 : decode cX1_copyFrom 64 = .ok (.return_, 1) := by decide +kernel
theorem dX1_putArea_0 : decode cX1_putArea 0 = .ok (.aload_n 0, 1) := by decide +kernel
theorem dX1_putArea_1 : decode cX1_putArea 1 = .ok (.getfield 24, 3) := by decide +kernel
theorem dX1_putArea_4 : decode cX1_putArea 4 = .ok (.iconst 3, 1) := by decide +kernel
theorem dX1_putArea_5 : decode cX1_putArea 5 = .ok (.if_icmp .lt 8, 3) := by decide +kernel
theorem dX1_putArea_8 : decode cX1_putArea 8 = .ok (.aload_n 0, 1) := by decide +kernel
theorem dX1_putArea_9 : decode cX1_putArea 9 = .ok (.getfield 24, 3) := by decide +kernel
theorem dX1_putArea_12 : decode cX1_putArea 12 = .ok (.ireturn, 1) := by decide +kernel
theorem dX1_putArea_13 : decode cX1_putArea 13 = .ok (.aload_n 0, 1) := by decide +kernel
theorem dX1_putArea_14 : decode cX1_putArea 14 = .ok (.getfield 9, 3) := by decide +kernel
theorem dX1_putArea_17 : decode cX1_putArea 17 = .ok (.aload_n 0, 1) := by decide +kernel
theorem dX1_putArea_18 : decode cX1_putArea 18 = .ok (.getfield 24, 3) := by decide +kernel
theorem dX1_putArea_21 : decode cX1_putArea 21 = .ok (.iload_n 1, 1) := by decide +kernel
theorem dX1_putArea_22 : decode cX1_putArea 22 = .ok (.iastore, 1) := by decide +kernel
theorem dX1_putArea_23 : decode cX1_putArea 23 = .ok (.aload_n 0, 1) := by decide +kernel
theorem dX1_putArea_24 : decode cX1_putArea 24 = .ok (.getfield 15, 3) := by decide +kernel
theorem dX1_putArea_27 : decode cX1_putArea 27 = .ok (.aload_n 0, 1) := by decide +kernel
theorem dX1_putArea_28 : decode cX1_putArea 28 = .ok (.getfield 24, 3) := by decide +kernel
theorem dX1_putArea_31 : decode cX1_putArea 31 = .ok (.iload_n 2, 1) := by decide +kernel
theorem dX1_putArea_32 : decode cX1_putArea 32 = .ok (.iastore, 1) := by decide +kernel
theorem dX1_putArea_33 : decode cX1_putArea 33 = .ok (.aload_n 0, 1) := by decide +kernel
theorem dX1_putArea_34 : decode cX1_putArea 34 = .ok (.getfield 18, 3) := by decide +kernel
theorem dX1_putArea_37 : decode cX1_putArea 37 = .ok (.aload_n 0, 1) := by decide +kernel
theorem dX1_putArea_38 : decode cX1_putArea 38 = .ok (.getfield 24, 3) := by decide +kernel
theorem dX1_putArea_41 : decode cX1_putArea 41 = .ok (.iload_n 3, 1) := by decide +kernel
theorem dX1_putArea_42 : decode cX1_putArea 42 = .ok (.iastore, 1) := by decide +kernel
theorem dX1_putArea_43 : decode cX1_putArea 43 = .ok (.aload_n 0, 1) := by decide +kernel
theorem dX1_putArea_44 : decode cX1_putArea 44 = .ok (.getfield 21, 3) := by decide +kernel
theorem dX1_putArea_47 : decode cX1_putArea 47 = .ok (.aload_n 0, 1) := by decide +kernel
theorem dX1_putArea_48 : decode cX1_putArea 48 = .ok (.getfield 24, 3) := by decide +kernel
theorem dX1_putArea_51 : decode cX1_putArea 51 = .ok (.iload 4, 2) := by decide +kernel
theorem dX1_putArea_53 : decode cX1_putArea 53 = .ok (.iastore, 1) := by decide +kernel
theorem dX1_putArea_54 : decode cX1_putArea 54 = .ok (.aload_n 0, 1) := by decide +kernel
theorem dX1_putArea_55 : decode cX1_putArea 55 = .ok (.dup, 1) := by decide +kernel
theorem dX1_putArea_56 : decode cX1_putArea 56 = .ok (.getfield 24, 3) := by decide +kernel
theorem dX1_putArea_59 : decode cX1_putArea 59 = .ok (.iconst 1, 1) := by decide +kernel
theorem dX1_putArea_60 : decode cX1_putArea 60 = .ok (.iadd, 1) := by decide +kernel
theorem dX1_putArea_61 : decode cX1_putArea 61 = .ok (.putfield 24, 3) := by decide +kernel
theorem dX1_putArea_64 : decode cX1_putArea 64 = .ok (.aload_n 0, 1) := by decide +kernel
theorem dX1_putArea_65 : decode cX1_putArea 65 = .ok (.getfield 24, 3) := by decide +kernel
theorem dX1_putArea_68 : decode cX1_putArea 68 = .ok (.ireturn, 1) := by decide +kernel
theorem dX1_covers_0 : decode cX1_covers 0 = .ok (.iconst 0, 1) := by decide +kernel
theorem dX1_covers_1 : decode cX1_covers 1 = .ok (.istore_n 3, 1) := by decide +kernel
theorem dX1_covers_2 : decode cX1_covers 2 = .ok (.iload_n 3, 1) := by decide +kernel
theorem dX1_covers_3 : decode cX1_covers 3 = .ok (.aload_n 0, 1) := by decide +kernel
theorem dX1_covers_4 : decode cX1_covers 4 = .ok (.getfield 24, 3) := by decide +kernel
theorem dX1_covers_7 : decode cX1_covers 7 = .ok (.if_icmp .ge 51, 3) := by decide +kernel
theorem dX1_covers_10 : decode cX1_covers 10 = .ok (.aload_n 0, 1) := by decide +kernel
theorem dX1_covers_11 : decode cX1_covers 11 = .ok (.getfield 9, 3) := by decide +kernel
theorem dX1_covers_14 : decode cX1_covers 14 = .ok (.iload_n 3, 1) := by decide +kernel
theorem dX1_covers_15 : decode cX1_covers 15 = .ok (.iaload, 1) := by decide +kernel
theorem dX1_covers_16 : decode cX1_covers 16 = .ok (.iload_n 1, 1) := by decide +kernel
theorem dX1_covers_17 : decode cX1_covers 17 = .ok (.if_icmp .gt 35, 3) := by decide +kernel
theorem dX1_covers_20 : decode cX1_covers 20 = .ok (.iload_n 1, 1) := by decide +kernel
theorem dX1_covers_21 : decode cX1_covers 21 = .ok (.aload_n 0, 1) := by decide +kernel
theorem dX1_covers_22 : decode cX1_covers 22 = .ok (.getfield 18, 3) := by decide +kernel
theorem dX1_covers_25 : decode cX1_covers 25 = .ok (.iload_n 3, 1) := by decide +kernel
theorem dX1_covers_26 : decode cX1_covers 26 = .ok (.iaload, 1) := by decide +kernel
theorem dX1_covers_27 : decode cX1_covers 27 = .ok (.if_icmp .gt 25, 3) := by decide +kernel
theorem dX1_covers_30 : decode cX1_covers 30 = .ok (.aload_n 0, 1) := by decide +kernel
theorem dX1_covers_31 : decode cX1_covers 31 = .ok (.getfield 15, 3) := by decide +kernel
theorem dX1_covers_34 : decode cX1_covers 34 = .ok (.iload_n 3, 1) := by decide +kernel
theorem dX1_covers_35 : decode cX1_covers 35 = .ok (.iaload, 1) := by decide +kernel
theorem dX1_covers_36 : decode cX1_covers 36 = .ok (.iload_n 2, 1) := by decide +kernel
theorem dX1_covers_37 : decode cX1_covers 37 = .ok (.if_icmp .gt 15, 3) := by decide +kernel
theorem dX1_covers_40 : decode cX1_covers 40 = .ok (.iload_n 2, 1) := by decide +kernel
theorem dX1_covers_41 : decode cX1_covers 41 = .ok (.aload_n 0, 1) := by decide +kernel
theorem dX1_covers_42 : decode cX1_covers 42 = .ok (.getfield 21, 3) := by decide +kernel
theorem dX1_covers_45 : decode cX1_covers 45 = .ok (.iload_n 3, 1) := by decide +kernel
theorem dX1_covers_46 : decode cX1_covers 46 = .ok (.iaload, 1) := by decide +kernel
theorem dX1_covers_47 : decode cX1_covers 47 = .ok (.if_icmp .gt 5, 3) := by decide +kernel
theorem dX1_covers_50 : decode cX1_covers 50 = .ok (.iconst 1, 1) := by decide +kernel
theorem dX1_covers_51 : decode cX1_covers 51 = .ok (.ireturn, 1) := by decide +kernel
theorem dX1_covers_52 : decode cX1_covers 52 = .ok (.iinc 3 1, 3) := by decide +kernel
theorem dX1_covers_55 : decode cX1_covers 55 = .ok (.goto (-53), 3) := by decide +kernel
theorem dX1_covers_58 : decode cX1_covers 58 = .ok (.iconst 0, 1) := by decide +kernel
theorem dX1_covers_59 : decode cX1_covers 59 = .ok (.ireturn, 1) := by decide +kernel
theorem wd717 : Cond.code yX1_covers cX1_covers 4 (some .boolean) ∈ gW := gW_in 717 (by decide +kernel) (by decide +kernel)
theorem wd27 : Cond.initialized RX1 ∈ gW := gW_in 27 (by decide +kernel) (by decide +kernel)
theorem mvX1_covers : MV yX1_covers cX1_covers 4 (some .boolean) 2 := ⟨wd717, wd27, by decide +kernel, by decide +kernel, by decide +kernel, by decide⟩
theorem wd715 : Cond.instanceMethod yX1_covers ∈ gW := gW_in 715 (by decide +kernel) (by decide +kernel)
theorem wd716 : Cond.selects yX1_covers.cls yX1_covers yX1_covers ∈ gW := gW_in 716 (by decide +kernel) (by decide +kernel)
theorem wd1471 : Cond.methodLink RX1 40 yX1_covers ∈ gW := gW_in 1471 (by decide +kernel) (by decide +kernel)
theorem dX1_countByPositions_0 : decode cX1_countByPositions 0 = .ok (.iconst 0, 1) := by decide +kernel
theorem dX1_countByPositions_1 : decode cX1_countByPositions 1 = .ok (.istore_n 2, 1) := by decide +kernel
theorem dX1_countByPositions_2 : decode cX1_countByPositions 2 = .ok (.iconst 0, 1) := by decide +kernel
theorem dX1_countByPositions_3 : decode cX1_countByPositions 3 = .ok (.istore_n 3, 1) := by decide +kernel
theorem dX1_countByPositions_4 : decode cX1_countByPositions 4 = .ok (.iload_n 3, 1) := by decide +kernel
theorem dX1_countByPositions_5 : decode cX1_countByPositions 5 = .ok (.bipush 60, 2) := by decide +kernel
theorem dX1_countByPositions_7 : decode cX1_countByPositions 7 = .ok (.if_icmp .gt 21, 3) := by decide +kernel
theorem dX1_countByPositions_10 : decode cX1_countByPositions 10 = .ok (.aload_n 0, 1) := by decide +kernel
theorem dX1_countByPositions_11 : decode cX1_countByPositions 11 = .ok (.iload_n 3, 1) := by decide +kernel
theorem dX1_countByPositions_12 : decode cX1_countByPositions 12 = .ok (.iload_n 1, 1) := by decide +kernel
theorem dX1_countByPositions_13 : decode cX1_countByPositions 13 = .ok (.invokevirtual 40, 3) := by decide +kernel
theorem dX1_countByPositions_16 : decode cX1_countByPositions 16 = .ok (.ifCond .eq 6, 3) := by decide +kernel
theorem dX1_countByPositions_19 : decode cX1_countByPositions 19 = .ok (.iinc 2 1, 3) := by decide +kernel
theorem dX1_countByPositions_22 : decode cX1_countByPositions 22 = .ok (.iinc 3 1, 3) := by decide +kernel
theorem dX1_countByPositions_25 : decode cX1_countByPositions 25 = .ok (.goto (-21), 3) := by decide +kernel
theorem dX1_countByPositions_28 : decode cX1_countByPositions 28 = .ok (.iload_n 2, 1) := by decide +kernel
theorem dX1_countByPositions_29 : decode cX1_countByPositions 29 = .ok (.ireturn, 1) := by decide +kernel
theorem wd967 : Cond.fieldLink RX1 28 (TX1 5).1 (TX1 5).2.1 (TX1 5).2.2.1 ∈ gW := gW_in 967 (by decide +kernel) (by decide +kernel)
theorem wd968 : Cond.fieldLink RX1 31 (TX1 6).1 (TX1 6).2.1 (TX1 6).2.2.1 ∈ gW := gW_in 968 (by decide +kernel) (by decide +kernel)
theorem dX1_insertRange_0 : decode cX1_insertRange 0 = .ok (.iload_n 1, 1) := by decide +kernel
theorem dX1_insertRange_1 : decode cX1_insertRange 1 = .ok (.ifCond .lt 8, 3) := by decide +kernel
theorem dX1_insertRange_4 : decode cX1_insertRange 4 = .ok (.iload_n 1, 1) := by decide +kernel
theorem dX1_insertRange_5 : decode cX1_insertRange 5 = .ok (.iconst 3, 1) := by decide +kernel
theorem dX1_insertRange_6 : decode cX1_insertRange 6 = .ok (.if_icmp .lt 4, 3) := by decide +kernel
theorem dX1_insertRange_9 : decode cX1_insertRange 9 = .ok (.return_, 1) := by decide +kernel
theorem dX1_insertRange_10 : decode cX1_insertRange 10 = .ok (.iload_n 1, 1) := by decide +kernel
theorem dX1_insertRange_11 : decode cX1_insertRange 11 = .ok (.istore 4, 2) := by decide +kernel
theorem dX1_insertRange_13 : decode cX1_insertRange 13 = .ok (.iload 4, 2) := by decide +kernel
theorem dX1_insertRange_15 : decode cX1_insertRange 15 = .ok (.ifCond .le 54, 3) := by decide +kernel
theorem dX1_insertRange_18 : decode cX1_insertRange 18 = .ok (.aload_n 0, 1) := by decide +kernel
theorem dX1_insertRange_19 : decode cX1_insertRange 19 = .ok (.getfield 28, 3) := by decide +kernel
theorem dX1_insertRange_22 : decode cX1_insertRange 22 = .ok (.iload 4, 2) := by decide +kernel
theorem dX1_insertRange_24 : decode cX1_insertRange 24 = .ok (.iconst 1, 1) := by decide +kernel
theorem dX1_insertRange_25 : decode cX1_insertRange 25 = .ok (.isub, 1) := by decide +kernel
theorem dX1_insertRange_26 : decode cX1_insertRange 26 = .ok (.iaload, 1) := by decide +kernel
theorem dX1_insertRange_27 : decode cX1_insertRange 27 = .ok (.iload_n 2, 1) := by decide +kernel
theorem dX1_insertRange_28 : decode cX1_insertRange 28 = .ok (.if_icmp .le 41, 3) := by decide +kernel
theorem dX1_insertRange_31 : decode cX1_insertRange 31 = .ok (.aload_n 0, 1) := by decide +kernel
theorem dX1_insertRange_32 : decode cX1_insertRange 32 = .ok (.getfield 28, 3) := by decide +kernel
theorem dX1_insertRange_35 : decode cX1_insertRange 35 = .ok (.iload 4, 2) := by decide +kernel
theorem dX1_insertRange_37 : decode cX1_insertRange 37 = .ok (.aload_n 0, 1) := by decide +kernel
theorem dX1_insertRange_38 : decode cX1_insertRange 38 = .ok (.getfield 28, 3) := by decide +kernel
theorem dX1_insertRange_41 : decode cX1_insertRange 41 = .ok (.iload 4, 2) := by decide +kernel
theorem dX1_insertRange_43 : decode cX1_insertRange 43 = .ok (.iconst 1, 1) := by decide +kernel
theorem dX1_insertRange_44 : decode cX1_insertRange 44 = .ok (.isub, 1) := by decide +kernel
theorem dX1_insertRange_45 : decode cX1_insertRange 45 = .ok (.iaload, 1) := by decide +kernel
theorem dX1_insertRange_46 : decode cX1_insertRange 46 = .ok (.iastore, 1) := by decide +kernel
theorem dX1_insertRange_47 : decode cX1_insertRange 47 = .ok (.aload_n 0, 1) := by decide +kernel
theorem dX1_insertRange_48 : decode cX1_insertRange 48 = .ok (.getfield 31, 3) := by decide +kernel
theorem dX1_insertRange_51 : decode cX1_insertRange 51 = .ok (.iload 4, 2) := by decide +kernel
theorem dX1_insertRange_53 : decode cX1_insertRange 53 = .ok (.aload_n 0, 1) := by decide +kernel
theorem dX1_insertRange_54 : decode cX1_insertRange 54 = .ok (.getfield 31, 3) := by decide +kernel
theorem dX1_insertRange_57 : decode cX1_insertRange 57 = .ok (.iload 4, 2) := by decide +kernel
theorem dX1_insertRange_59 : decode cX1_insertRange 59 = .ok (.iconst 1, 1) := by decide +kernel
theorem dX1_insertRange_60 : decode cX1_insertRange 60 = .ok (.isub, 1) := by decide +kernel
theorem dX1_insertRange_61 : decode cX1_insertRange 61 = .ok (.iaload, 1) := by decide +kernel
theorem dX1_insertRange_62 : decode cX1_insertRange 62 = .ok (.iastore, 1) := by decide +kernel
theorem dX1_insertRange_63 : decode cX1_insertRange 63 = .ok (.iinc 4 (-1), 3) := by decide +kernel
theorem dX1_insertRange_66 : decode cX1_insertRange 66 = .ok (.goto (-53), 3) := by decide +kernel
theorem dX1_insertRange_69 : decode cX1_insertRange 69 = .ok (.aload_n 0, 1) := by decide +kernel
theorem dX1_insertRange_70 : decode cX1_insertRange 70 = .ok (.getfield 28, 3) := by decide +kernel
theorem dX1_insertRange_73 : decode cX1_insertRange 73 = .ok (.iload 4, 2) := by decide +kernel
theorem dX1_insertRange_75 : decode cX1_insertRange 75 = .ok (.iload_n 2, 1) := by decide +kernel
theorem dX1_insertRange_76 : decode cX1_insertRange 76 = .ok (.iastore, 1) := by decide +kernel
theorem dX1_insertRange_77 : decode cX1_insertRange 77 = .ok (.aload_n 0, 1) := by decide +kernel
theorem dX1_insertRange_78 : decode cX1_insertRange 78 = .ok (.getfield 31, 3) := by decide +kernel
theorem dX1_insertRange_81 : decode cX1_insertRange 81 = .ok (.iload 4, 2) := by decide +kernel
theorem dX1_insertRange_83 : decode cX1_insertRange 83 = .ok (.iload_n 3, 1) := by decide +kernel
theorem dX1_insertRange_84 : decode cX1_insertRange 84 = .ok (.iastore, 1) := by decide +kernel
theorem dX1_insertRange_85 : decode cX1_insertRange 85 = .ok (.return_, 1) := by decide +kernel
theorem wd1540 : Cond.code yX1_insertRange cX1_insertRange 5 none ∈ gW := gW_in 1540 (by decide +kernel) (by decide +kernel)
theorem mvX1_insertRange : MV yX1_insertRange cX1_insertRange 5 none 3 := ⟨wd1540, wd27, by decide +kernel, by decide +kernel, by decide +kernel, by decide⟩
theorem wd1539 : Cond.instanceMethod yX1_insertRange ∈ gW := gW_in 1539 (by decide +kernel) (by decide +kernel)
theorem wd21 : Cond.selects yX1_insertRange.cls yX1_insertRange yX1_insertRange ∈ gW := gW_in 21 (by decide +kernel) (by decide +kernel)
theorem wd1537 : Cond.methodLink RX1 54 yX1_insertRange ∈ gW := gW_in 1537 (by decide +kernel) (by decide +kernel)
theorem dX1_sortRanges_0 : decode cX1_sortRanges 0 = .ok (.iconst 0, 1) := by decide +kernel
theorem dX1_sortRanges_1 : decode cX1_sortRanges 1 = .ok (.istore_n 2, 1) := by decide +kernel
theorem dX1_sortRanges_2 : decode cX1_sortRanges 2 = .ok (.iconst 0, 1) := by decide +kernel
theorem dX1_sortRanges_3 : decode cX1_sortRanges 3 = .ok (.istore_n 3, 1) := by decide +kernel
theorem dX1_sortRanges_4 : decode cX1_sortRanges 4 = .ok (.iload_n 3, 1) := by decide +kernel
theorem dX1_sortRanges_5 : decode cX1_sortRanges 5 = .ok (.aload_n 0, 1) := by decide +kernel
theorem dX1_sortRanges_6 : decode cX1_sortRanges 6 = .ok (.getfield 24, 3) := by decide +kernel
theorem dX1_sortRanges_9 : decode cX1_sortRanges 9 = .ok (.if_icmp .ge 49, 3) := by decide +kernel
theorem dX1_sortRanges_12 : decode cX1_sortRanges 12 = .ok (.aload_n 0, 1) := by decide +kernel
theorem dX1_sortRanges_13 : decode cX1_sortRanges 13 = .ok (.getfield 15, 3) := by decide +kernel
theorem dX1_sortRanges_16 : decode cX1_sortRanges 16 = .ok (.iload_n 3, 1) := by decide +kernel
theorem dX1_sortRanges_17 : decode cX1_sortRanges 17 = .ok (.iaload, 1) := by decide +kernel
theorem dX1_sortRanges_18 : decode cX1_sortRanges 18 = .ok (.iload_n 1, 1) := by decide +kernel
theorem dX1_sortRanges_19 : decode cX1_sortRanges 19 = .ok (.if_icmp .gt 33, 3) := by decide +kernel
theorem dX1_sortRanges_22 : decode cX1_sortRanges 22 = .ok (.iload_n 1, 1) := by decide +kernel
theorem dX1_sortRanges_23 : decode cX1_sortRanges 23 = .ok (.aload_n 0, 1) := by decide +kernel
theorem dX1_sortRanges_24 : decode cX1_sortRanges 24 = .ok (.getfield 21, 3) := by decide +kernel
theorem dX1_sortRanges_27 : decode cX1_sortRanges 27 = .ok (.iload_n 3, 1) := by decide +kernel
theorem dX1_sortRanges_28 : decode cX1_sortRanges 28 = .ok (.iaload, 1) := by decide +kernel
theorem dX1_sortRanges_29 : decode cX1_sortRanges 29 = .ok (.if_icmp .gt 23, 3) := by decide +kernel
theorem dX1_sortRanges_32 : decode cX1_sortRanges 32 = .ok (.aload_n 0, 1) := by decide +kernel
theorem dX1_sortRanges_33 : decode cX1_sortRanges 33 = .ok (.iload_n 2, 1) := by decide +kernel
theorem dX1_sortRanges_34 : decode cX1_sortRanges 34 = .ok (.aload_n 0, 1) := by decide +kernel
theorem dX1_sortRanges_35 : decode cX1_sortRanges 35 = .ok (.getfield 9, 3) := by decide +kernel
theorem dX1_sortRanges_38 : decode cX1_sortRanges 38 = .ok (.iload_n 3, 1) := by decide +kernel
theorem dX1_sortRanges_39 : decode cX1_sortRanges 39 = .ok (.iaload, 1) := by decide +kernel
theorem dX1_sortRanges_40 : decode cX1_sortRanges 40 = .ok (.aload_n 0, 1) := by decide +kernel
theorem dX1_sortRanges_41 : decode cX1_sortRanges 41 = .ok (.getfield 18, 3) := by decide +kernel
theorem dX1_sortRanges_44 : decode cX1_sortRanges 44 = .ok (.iload_n 3, 1) := by decide +kernel
theorem dX1_sortRanges_45 : decode cX1_sortRanges 45 = .ok (.iaload, 1) := by decide +kernel
theorem dX1_sortRanges_46 : decode cX1_sortRanges 46 = .ok (.invokevirtual 54, 3) := by decide +kernel
theorem dX1_sortRanges_49 : decode cX1_sortRanges 49 = .ok (.iinc 2 1, 3) := by decide +kernel
theorem dX1_sortRanges_52 : decode cX1_sortRanges 52 = .ok (.iinc 3 1, 3) := by decide +kernel
theorem dX1_sortRanges_55 : decode cX1_sortRanges 55 = .ok (.goto (-51), 3) := by decide +kernel
theorem dX1_sortRanges_58 : decode cX1_sortRanges 58 = .ok (.iload_n 2, 1) := by decide +kernel
theorem dX1_sortRanges_59 : decode cX1_sortRanges 59 = .ok (.ireturn, 1) := by decide +kernel
theorem wd1536 : Cond.code yX1_sortRanges cX1_sortRanges 4 (some .int) ∈ gW := gW_in 1536 (by decide +kernel) (by decide +kernel)
theorem mvX1_sortRanges : MV yX1_sortRanges cX1_sortRanges 4 (some .int) 1 := ⟨wd1536, wd27, by decide +kernel, by decide +kernel, by decide +kernel, by decide⟩
theorem wd1535 : Cond.instanceMethod yX1_sortRanges ∈ gW := gW_in 1535 (by decide +kernel) (by decide +kernel)
theorem wd20 : Cond.selects yX1_sortRanges.cls yX1_sortRanges yX1_sortRanges ∈ gW := gW_in 20 (by decide +kernel) (by decide +kernel)
theorem wd1533 : Cond.methodLink RX1 44 yX1_sortRanges ∈ gW := gW_in 1533 (by decide +kernel) (by decide +kernel)
theorem wd1541 : Cond.methodLink RX1 48 Lib.Math.max.name ∈ gW := gW_in 1541 (by decide +kernel) (by decide +kernel)
theorem wd211 : Cond.static Lib.Math.max.name ∈ gW := gW_in 211 (by decide +kernel) (by decide +kernel)
theorem wd212 : Cond.code Lib.Math.max.name Lib.Math.max.code 2 (some .int) ∈ gW := gW_in 212 (by decide +kernel) (by decide +kernel)
theorem dX1_countByRanges_0 : decode cX1_countByRanges 0 = .ok (.aload_n 0, 1) := by decide +kernel
theorem dX1_countByRanges_1 : decode cX1_countByRanges 1 = .ok (.iload_n 1, 1) := by decide +kernel
theorem dX1_countByRanges_2 : decode cX1_countByRanges 2 = .ok (.invokevirtual 44, 3) := by decide +kernel
theorem dX1_countByRanges_5 : decode cX1_countByRanges 5 = .ok (.istore_n 2, 1) := by decide +kernel
theorem dX1_countByRanges_6 : decode cX1_countByRanges 6 = .ok (.iconst 0, 1) := by decide +kernel
theorem dX1_countByRanges_7 : decode cX1_countByRanges 7 = .ok (.istore_n 3, 1) := by decide +kernel
theorem dX1_countByRanges_8 : decode cX1_countByRanges 8 = .ok (.iconst (-1), 1) := by decide +kernel
theorem dX1_countByRanges_9 : decode cX1_countByRanges 9 = .ok (.istore 4, 2) := by decide +kernel
theorem dX1_countByRanges_11 : decode cX1_countByRanges 11 = .ok (.iconst 0, 1) := by decide +kernel
theorem dX1_countByRanges_12 : decode cX1_countByRanges 12 = .ok (.istore 5, 2) := by decide +kernel
theorem dX1_countByRanges_14 : decode cX1_countByRanges 14 = .ok (.iload 5, 2) := by decide +kernel
theorem dX1_countByRanges_16 : decode cX1_countByRanges 16 = .ok (.iload_n 2, 1) := by decide +kernel
theorem dX1_countByRanges_17 : decode cX1_countByRanges 17 = .ok (.if_icmp .ge 61, 3) := by decide +kernel
theorem dX1_countByRanges_20 : decode cX1_countByRanges 20 = .ok (.aload_n 0, 1) := by decide +kernel
theorem dX1_countByRanges_21 : decode cX1_countByRanges 21 = .ok (.getfield 28, 3) := by decide +kernel
theorem dX1_countByRanges_24 : decode cX1_countByRanges 24 = .ok (.iload 5, 2) := by decide +kernel
theorem dX1_countByRanges_26 : decode cX1_countByRanges 26 = .ok (.iaload, 1) := by decide +kernel
theorem dX1_countByRanges_27 : decode cX1_countByRanges 27 = .ok (.iload 4, 2) := by decide +kernel
theorem dX1_countByRanges_29 : decode cX1_countByRanges 29 = .ok (.iconst 1, 1) := by decide +kernel
theorem dX1_countByRanges_30 : decode cX1_countByRanges 30 = .ok (.iadd, 1) := by decide +kernel
theorem dX1_countByRanges_31 : decode cX1_countByRanges 31 = .ok (.invokestatic 48, 3) := by decide +kernel
theorem dX1_countByRanges_34 : decode cX1_countByRanges 34 = .ok (.istore 6, 2) := by decide +kernel
theorem dX1_countByRanges_36 : decode cX1_countByRanges 36 = .ok (.iload 6, 2) := by decide +kernel
theorem dX1_countByRanges_38 : decode cX1_countByRanges 38 = .ok (.aload_n 0, 1) := by decide +kernel
theorem dX1_countByRanges_39 : decode cX1_countByRanges 39 = .ok (.getfield 31, 3) := by decide +kernel
theorem dX1_countByRanges_42 : decode cX1_countByRanges 42 = .ok (.iload 5, 2) := by decide +kernel
theorem dX1_countByRanges_44 : decode cX1_countByRanges 44 = .ok (.iaload, 1) := by decide +kernel
theorem dX1_countByRanges_45 : decode cX1_countByRanges 45 = .ok (.if_icmp .gt 27, 3) := by decide +kernel
theorem dX1_countByRanges_48 : decode cX1_countByRanges 48 = .ok (.iload_n 3, 1) := by decide +kernel
theorem dX1_countByRanges_49 : decode cX1_countByRanges 49 = .ok (.aload_n 0, 1) := by decide +kernel
theorem dX1_countByRanges_50 : decode cX1_countByRanges 50 = .ok (.getfield 31, 3) := by decide +kernel
theorem dX1_countByRanges_53 : decode cX1_countByRanges 53 = .ok (.iload 5, 2) := by decide +kernel
theorem dX1_countByRanges_55 : decode cX1_countByRanges 55 = .ok (.iaload, 1) := by decide +kernel
theorem dX1_countByRanges_56 : decode cX1_countByRanges 56 = .ok (.iload 6, 2) := by decide +kernel
theorem dX1_countByRanges_58 : decode cX1_countByRanges 58 = .ok (.isub, 1) := by decide +kernel
theorem dX1_countByRanges_59 : decode cX1_countByRanges 59 = .ok (.iconst 1, 1) := by decide +kernel
theorem dX1_countByRanges_60 : decode cX1_countByRanges 60 = .ok (.iadd, 1) := by decide +kernel
theorem dX1_countByRanges_61 : decode cX1_countByRanges 61 = .ok (.iadd, 1) := by decide +kernel
theorem dX1_countByRanges_62 : decode cX1_countByRanges 62 = .ok (.istore_n 3, 1) := by decide +kernel
theorem dX1_countByRanges_63 : decode cX1_countByRanges 63 = .ok (.aload_n 0, 1) := by decide +kernel
theorem dX1_countByRanges_64 : decode cX1_countByRanges 64 = .ok (.getfield 31, 3) := by decide +kernel
theorem dX1_countByRanges_67 : decode cX1_countByRanges 67 = .ok (.iload 5, 2) := by decide +kernel
theorem dX1_countByRanges_69 : decode cX1_countByRanges 69 = .ok (.iaload, 1) := by decide +kernel
theorem dX1_countByRanges_70 : decode cX1_countByRanges 70 = .ok (.istore 4, 2) := by decide +kernel
theorem dX1_countByRanges_72 : decode cX1_countByRanges 72 = .ok (.iinc 5 1, 3) := by decide +kernel
theorem dX1_countByRanges_75 : decode cX1_countByRanges 75 = .ok (.goto (-61), 3) := by decide +kernel
theorem dX1_countByRanges_78 : decode cX1_countByRanges 78 = .ok (.iload_n 3, 1) := by decide +kernel
theorem dX1_countByRanges_79 : decode cX1_countByRanges 79 = .ok (.ireturn, 1) := by decide +kernel
theorem wd901 : Cond.fieldLink RX2 9 (TX2 0).1 (TX2 0).2.1 (TX2 0).2.2.1 ∈ gW := gW_in 901 (by decide +kernel) (by decide +kernel)
theorem kfX2 : KF 7 RX2 TX2 6 tyX2 := ⟨by decide, by decide, rfl, gW_all (by decide +kernel), tyX2_ok, nmX2⟩
theorem wd518 : Cond.methodLink RX2 31 arraycopyName ∈ gW := gW_in 518 (by decide +kernel) (by decide +kernel)
theorem wd903 : Cond.fieldLink RX2 15 (TX2 1).1 (TX2 1).2.1 (TX2 1).2.2.1 ∈ gW := gW_in 903 (by decide +kernel) (by decide +kernel)
theorem wd905 : Cond.fieldLink RX2 18 (TX2 2).1 (TX2 2).2.1 (TX2 2).2.2.1 ∈ gW := gW_in 905 (by decide +kernel) (by decide +kernel)
theorem wd908 : Cond.fieldLink RX2 22 (TX2 3).1 (TX2 3).2.1 (TX2 3).2.2.1 ∈ gW := gW_in 908 (by decide +kernel) (by decide +kernel)
theorem wd911 : Cond.fieldLink RX2 25 (TX2 4).1 (TX2 4).2.1 (TX2 4).2.2.1 ∈ gW := gW_in 911 (by decide +kernel) (by decide +kernel)
theorem wd913 : Cond.fieldLink RX2 28 (TX2 5).1 (TX2 5).2.1 (TX2 5).2.2.1 ∈ gW := gW_in 913 (by decide +kernel) (by decide +kernel)
theorem dX2_copyFrom_0 : decode cX2_copyFrom 0 = .ok (.aload_n 1, 1) := by decide +kernel
theorem dX2_copyFrom_1 : decode cX2_copyFrom 1 = .ok (.getfield 9, 3) := by decide +kernel
theorem dX2_copyFrom_4 : decode cX2_copyFrom 4 = .ok (.iconst 0, 1) := by decide +kernel
theorem dX2_copyFrom_5 : decode cX2_copyFrom 5 = .ok (.aload_n 0, 1) := by decide +kernel
theorem dX2_copyFrom_6 : decode cX2_copyFrom 6 = .ok (.getfield 9, 3) := by decide +kernel
theorem dX2_copyFrom_9 : decode cX2_copyFrom 9 = .ok (.iconst 0, 1) := by decide +kernel
theorem dX2_copyFrom_10 : decode cX2_copyFrom 10 = .ok (.bipush 8, 2) := by decide +kernel
theorem dX2_copyFrom_12 : decode cX2_copyFrom 12 = .ok (.invokestatic 31, 3) := by decide +kernel
theorem dX2_copyFrom_15 : decode cX2_copyFrom 15 = .ok (.aload_n 1, 1) := by decide +kernel
theorem dX2_copyFrom_16 : decode cX2_copyFrom 16 = .ok (.getfield 15, 3) := by decide +kernel
theorem dX2_copyFrom_19 : decode cX2_copyFrom 19 = .ok (.iconst 0, 1) := by decide +kernel
theorem dX2_copyFrom_20 : decode cX2_copyFrom 20 = .ok (.aload_n 0, 1) := by decide +kernel
theorem dX2_copyFrom_21 : decode cX2_copyFrom 21 = .ok (.getfield 15, 3) := by decide +kernel
theorem dX2_copyFrom_24 : decode cX2_copyFrom 24 = .ok (.iconst 0, 1) := by decide +kernel
theorem dX2_copyFrom_25 : decode cX2_copyFrom 25 = .ok (.bipush 8, 2) := by decide +kernel
theorem dX2_copyFrom_27 : decode cX2_copyFrom 27 = .ok (.invokestatic 31, 3) := by decide +kernel
theorem dX2_copyFrom_30 : decode cX2_copyFrom 30 = .ok (.aload_n 0, 1) := by decide +kernel
theorem dX2_copyFrom_31 : decode cX2_copyFrom 31 = .ok (.aload_n 1, 1) := by decide +kernel
theorem dX2_copyFrom_32 : decode cX2_copyFrom 32 = .ok (.getfield 18, 3) := by decide +kernel
theorem dX2_copyFrom_35 : decode cX2_copyFrom 35 = .ok (.putfield 18, 3) := by decide +kernel
theorem dX2_copyFrom_38 : decode cX2_copyFrom 38 = .ok (.aload_n 1, 1) := by decide +kernel
theorem dX2_copyFrom_39 : decode cX2_copyFrom 39 = .ok (.getfield 22, 3) := by decide +kernel
theorem dX2_copyFrom_42 : decode cX2_copyFrom 42 = .ok (.iconst 0, 1) := by decide +kernel
theorem dX2_copyFrom_43 : decode cX2_copyFrom 43 = .ok (.aload_n 0, 1) := by decide +kernel
theorem dX2_copyFrom_44 : decode cX2_copyFrom 44 = .ok (.getfield 22, 3) := by decide +kernel
theorem dX2_copyFrom_47 : decode cX2_copyFrom 47 = .ok (.iconst 0, 1) := by decide +kernel
theorem dX2_copyFrom_48 : decode cX2_copyFrom 48 = .ok (.bipush 6, 2) := by decide +kernel
theorem dX2_copyFrom_50 : decode cX2_copyFrom 50 = .ok (.invokestatic 31, 3) := by decide +kernel
theorem dX2_copyFrom_53 : decode cX2_copyFrom 53 = .ok (.aload_n 1, 1) := by decide +kernel
theorem dX2_copyFrom_54 : decode cX2_copyFrom 54 = .ok (.getfield 25, 3) := by decide +kernel
theorem dX2_copyFrom_57 : decode cX2_copyFrom 57 = .ok (.iconst 0, 1) := by decide +kernel
theorem dX2_copyFrom_58 : decode cX2_copyFrom 58 = .ok (.aload_n 0, 1) := by decide +kernel
theorem dX2_copyFrom_59 : decode cX2_copyFrom 59 = .ok (.getfield 25, 3) := by decide +kernel
theorem dX2_copyFrom_62 : decode cX2_copyFrom 62 = .ok (.iconst 0, 1) := by decide +kernel
theorem dX2_copyFrom_63 : decode cX2_copyFrom 63 = .ok (.bipush 6, 2) := by decide +kernel
theorem dX2_copyFrom_65 : decode cX2_copyFrom 65 = .ok (.invokestatic 31, 3) := by decide +kernel
theorem dX2_copyFrom_68 : decode cX2_copyFrom 68 = .ok (.aload_n 0, 1) := by decide +kernel
theorem dX2_copyFrom_69 : decode cX2_copyFrom 69 = .ok (.aload_n 1, 1) := by decide +kernel
theorem dX2_copyFrom_70 : decode cX2_copyFrom 70 = .ok (.getfield 28, 3) := by decide +kernel
theorem dX2_copyFrom_73 : decode cX2_copyFrom 73 = .ok (.putfield 28, 3) := by decide +kernel
theorem dX2_copyFrom_76 : decode cX2_copyFrom 76 = .ok (.return_, 1) := by decide +kernel
theorem dX2_hasPoint_0 : decode cX2_hasPoint 0 = .ok (.iload_n 1, 1) := by decide +kernel
theorem dX2_hasPoint_1 : decode cX2_hasPoint 1 = .ok (.ifCond .lt 15, 3) := by decide +kernel
theorem dX2_hasPoint_4 : decode cX2_hasPoint 4 = .ok (.iload_n 1, 1) := by decide +kernel
theorem dX2_hasPoint_5 : decode cX2_hasPoint 5 = .ok (.aload_n 0, 1) := by decide +kernel
theorem dX2_hasPoint_6 : decode cX2_hasPoint 6 = .ok (.getfield 18, 3) := by decide +kernel
theorem dX2_hasPoint_9 : decode cX2_hasPoint 9 = .ok (.if_icmp .ge 7, 3) := by decide +kernel
theorem dX2_hasPoint_12 : decode cX2_hasPoint 12 = .ok (.iconst 1, 1) := by decide +kernel
theorem dX2_hasPoint_13 : decode cX2_hasPoint 13 = .ok (.goto 4, 3) := by decide +kernel
theorem dX2_hasPoint_16 : decode cX2_hasPoint 16 = .ok (.iconst 0, 1) := by decide +kernel
theorem dX2_hasPoint_17 : decode cX2_hasPoint 17 = .ok (.ireturn, 1) := by decide +kernel
theorem dX2_hasStop_0 : decode cX2_hasStop 0 = .ok (.iload_n 1, 1) := by decide +kernel
theorem dX2_hasStop_1 : decode cX2_hasStop 1 = .ok (.ifCond .lt 15, 3) := by decide +kernel
theorem dX2_hasStop_4 : decode cX2_hasStop 4 = .ok (.iload_n 1, 1) := by decide +kernel
theorem dX2_hasStop_5 : decode cX2_hasStop 5 = .ok (.aload_n 0, 1) := by decide +kernel
theorem dX2_hasStop_6 : decode cX2_hasStop 6 = .ok (.getfield 28, 3) := by decide +kernel
theorem dX2_hasStop_9 : decode cX2_hasStop 9 = .ok (.if_icmp .ge 7, 3) := by decide +kernel
theorem dX2_hasStop_12 : decode cX2_hasStop 12 = .ok (.iconst 1, 1) := by decide +kernel
theorem dX2_hasStop_13 : decode cX2_hasStop 13 = .ok (.goto 4, 3) := by decide +kernel
theorem dX2_hasStop_16 : decode cX2_hasStop 16 = .ok (.iconst 0, 1) := by decide +kernel
theorem dX2_hasStop_17 : decode cX2_hasStop 17 = .ok (.ireturn, 1) := by decide +kernel
theorem dX2_putPoint_0 : decode cX2_putPoint 0 = .ok (.aload_n 0, 1) := by decide +kernel
theorem dX2_putPoint_1 : decode cX2_putPoint 1 = .ok (.getfield 18, 3) := by decide +kernel
theorem dX2_putPoint_4 : decode cX2_putPoint 4 = .ok (.bipush 8, 2) := by decide +kernel
theorem dX2_putPoint_6 : decode cX2_putPoint 6 = .ok (.if_icmp .lt 5, 3) := by decide +kernel
theorem dX2_putPoint_9 : decode cX2_putPoint 9 = .ok (.iconst (-1), 1) := by decide +kernel
theorem dX2_putPoint_10 : decode cX2_putPoint 10 = .ok (.ireturn, 1) := by decide +kernel
theorem dX2_putPoint_11 : decode cX2_putPoint 11 = .ok (.aload_n 0, 1) := by decide +kernel
theorem dX2_putPoint_12 : decode cX2_putPoint 12 = .ok (.getfield 9, 3) := by decide +kernel
theorem dX2_putPoint_15 : decode cX2_putPoint 15 = .ok (.aload_n 0, 1) := by decide +kernel
theorem dX2_putPoint_16 : decode cX2_putPoint 16 = .ok (.getfield 18, 3) := by decide +kernel
theorem dX2_putPoint_19 : decode cX2_putPoint 19 = .ok (.iload_n 1, 1) := by decide +kernel
theorem dX2_putPoint_20 : decode cX2_putPoint 20 = .ok (.iastore, 1) := by decide +kernel
theorem dX2_putPoint_21 : decode cX2_putPoint 21 = .ok (.aload_n 0, 1) := by decide +kernel
theorem dX2_putPoint_22 : decode cX2_putPoint 22 = .ok (.getfield 15, 3) := by decide +kernel
theorem dX2_putPoint_25 : decode cX2_putPoint 25 = .ok (.aload_n 0, 1) := by decide +kernel
theorem dX2_putPoint_26 : decode cX2_putPoint 26 = .ok (.getfield 18, 3) := by decide +kernel
theorem dX2_putPoint_29 : decode cX2_putPoint 29 = .ok (.iload_n 2, 1) := by decide +kernel
theorem dX2_putPoint_30 : decode cX2_putPoint 30 = .ok (.iastore, 1) := by decide +kernel
theorem dX2_putPoint_31 : decode cX2_putPoint 31 = .ok (.aload_n 0, 1) := by decide +kernel
theorem dX2_putPoint_32 : decode cX2_putPoint 32 = .ok (.dup, 1) := by decide +kernel
theorem dX2_putPoint_33 : decode cX2_putPoint 33 = .ok (.getfield 18, 3) := by decide +kernel
theorem dX2_putPoint_36 : decode cX2_putPoint 36 = .ok (.iconst 1, 1) := by decide +kernel
theorem dX2_putPoint_37 : decode cX2_putPoint 37 = .ok (.iadd, 1) := by decide +kernel
theorem dX2_putPoint_38 : decode cX2_putPoint 38 = .ok (.putfield 18, 3) := by decide +kernel
theorem dX2_putPoint_41 : decode cX2_putPoint 41 = .ok (.aload_n 0, 1) := by decide +kernel
theorem dX2_putPoint_42 : decode cX2_putPoint 42 = .ok (.getfield 18, 3) := by decide +kernel
theorem dX2_putPoint_45 : decode cX2_putPoint 45 = .ok (.iconst 1, 1) := by decide +kernel
theorem dX2_putPoint_46 : decode cX2_putPoint 46 = .ok (.isub, 1) := by decide +kernel
theorem dX2_putPoint_47 : decode cX2_putPoint 47 = .ok (.ireturn, 1) := by decide +kernel
theorem wd727 : Cond.methodLink RX2 49 Lib.Math.abs.name ∈ gW := gW_in 727 (by decide +kernel) (by decide +kernel)
theorem dX2_spanTo_0 : decode cX2_spanTo 0 = .ok (.iload_n 1, 1) := by decide +kernel
theorem dX2_spanTo_1 : decode cX2_spanTo 1 = .ok (.ifCond .lt 11, 3) := by decide +kernel
theorem dX2_spanTo_4 : decode cX2_spanTo 4 = .ok (.iload_n 1, 1) := by decide +kernel
theorem dX2_spanTo_5 : decode cX2_spanTo 5 = .ok (.aload_n 0, 1) := by decide +kernel
theorem dX2_spanTo_6 : decode cX2_spanTo 6 = .ok (.getfield 18, 3) := by decide +kernel
theorem dX2_spanTo_9 : decode cX2_spanTo 9 = .ok (.if_icmp .lt 5, 3) := by decide +kernel
theorem dX2_spanTo_12 : decode cX2_spanTo 12 = .ok (.iconst 0, 1) := by decide +kernel
theorem dX2_spanTo_13 : decode cX2_spanTo 13 = .ok (.ireturn, 1) := by decide +kernel
theorem dX2_spanTo_14 : decode cX2_spanTo 14 = .ok (.aload_n 0, 1) := by decide +kernel
theorem dX2_spanTo_15 : decode cX2_spanTo 15 = .ok (.getfield 9, 3) := by decide +kernel
theorem dX2_spanTo_18 : decode cX2_spanTo 18 = .ok (.iload_n 1, 1) := by decide +kernel
theorem dX2_spanTo_19 : decode cX2_spanTo 19 = .ok (.iaload, 1) := by decide +kernel
theorem dX2_spanTo_20 : decode cX2_spanTo 20 = .ok (.iload_n 2, 1) := by decide +kernel
theorem dX2_spanTo_21 : decode cX2_spanTo 21 = .ok (.isub, 1) := by decide +kernel
theorem dX2_spanTo_22 : decode cX2_spanTo 22 = .ok (.invokestatic 49, 3) := by decide +kernel
theorem dX2_spanTo_25 : decode cX2_spanTo 25 = .ok (.aload_n 0, 1) := by decide +kernel
theorem dX2_spanTo_26 : decode cX2_spanTo 26 = .ok (.getfield 15, 3) := by decide +kernel
theorem dX2_spanTo_29 : decode cX2_spanTo 29 = .ok (.iload_n 1, 1) := by decide +kernel
theorem dX2_spanTo_30 : decode cX2_spanTo 30 = .ok (.iaload, 1) := by decide +kernel
theorem dX2_spanTo_31 : decode cX2_spanTo 31 = .ok (.iload_n 3, 1) := by decide +kernel
theorem dX2_spanTo_32 : decode cX2_spanTo 32 = .ok (.isub, 1) := by decide +kernel
theorem dX2_spanTo_33 : decode cX2_spanTo 33 = .ok (.invokestatic 49, 3) := by decide +kernel
theorem dX2_spanTo_36 : decode cX2_spanTo 36 = .ok (.iadd, 1) := by decide +kernel
theorem dX2_spanTo_37 : decode cX2_spanTo 37 = .ok (.ireturn, 1) := by decide +kernel
theorem wd660 : Cond.code yX2_hasPoint cX2_hasPoint 2 (some .boolean) ∈ gW := gW_in 660 (by decide +kernel) (by decide +kernel)
theorem wd25 : Cond.initialized RX2 ∈ gW := gW_in 25 (by decide +kernel) (by decide +kernel)
theorem mvX2_hasPoint : MV yX2_hasPoint cX2_hasPoint 2 (some .boolean) 1 := ⟨wd660, wd25, by decide +kernel, by decide +kernel, by decide +kernel, by decide⟩
theorem wd658 : Cond.instanceMethod yX2_hasPoint ∈ gW := gW_in 658 (by decide +kernel) (by decide +kernel)
theorem wd659 : Cond.selects yX2_hasPoint.cls yX2_hasPoint yX2_hasPoint ∈ gW := gW_in 659 (by decide +kernel) (by decide +kernel)
theorem wd1179 : Cond.methodLink RX2 41 yX2_hasPoint ∈ gW := gW_in 1179 (by decide +kernel) (by decide +kernel)
theorem wd726 : Cond.code yX2_spanTo cX2_spanTo 4 (some .int) ∈ gW := gW_in 726 (by decide +kernel) (by decide +kernel)
theorem mvX2_spanTo : MV yX2_spanTo cX2_spanTo 4 (some .int) 3 := ⟨wd726, wd25, by decide +kernel, by decide +kernel, by decide +kernel, by decide⟩
theorem wd724 : Cond.instanceMethod yX2_spanTo ∈ gW := gW_in 724 (by decide +kernel) (by decide +kernel)
theorem wd725 : Cond.selects yX2_spanTo.cls yX2_spanTo yX2_spanTo ∈ gW := gW_in 725 (by decide +kernel) (by decide +kernel)
theorem wd723 : Cond.methodLink RX2 45 yX2_spanTo ∈ gW := gW_in 723 (by decide +kernel) (by decide +kernel)
theorem dX2_span_0 : decode cX2_span 0 = .ok (.aload_n 0, 1) := by decide +kernel
theorem dX2_span_1 : decode cX2_span 1 = .ok (.iload_n 2, 1) := by decide +kernel
theorem dX2_span_2 : decode cX2_span 2 = .ok (.invokevirtual 41, 3) := by decide +kernel
theorem dX2_span_5 : decode cX2_span 5 = .ok (.ifCond .ne 5, 3) := by decide +kernel
theorem dX2_span_8 : decode cX2_span 8 = .ok (.iconst 0, 1) := by decide +kernel
theorem dX2_span_9 : decode cX2_span 9 = .ok (.ireturn, 1) := by decide +kernel
theorem dX2_span_10 : decode cX2_span 10 = .ok (.aload_n 0, 1) := by decide +kernel
theorem dX2_span_11 : decode cX2_span 11 = .ok (.iload_n 1, 1) := by decide +kernel
theorem dX2_span_12 : decode cX2_span 12 = .ok (.aload_n 0, 1) := by decide +kernel
theorem dX2_span_13 : decode cX2_span 13 = .ok (.getfield 9, 3) := by decide +kernel
theorem dX2_span_16 : decode cX2_span 16 = .ok (.iload_n 2, 1) := by decide +kernel
theorem dX2_span_17 : decode cX2_span 17 = .ok (.iaload, 1) := by decide +kernel
theorem dX2_span_18 : decode cX2_span 18 = .ok (.aload_n 0, 1) := by decide +kernel
theorem dX2_span_19 : decode cX2_span 19 = .ok (.getfield 15, 3) := by decide +kernel
theorem dX2_span_22 : decode cX2_span 22 = .ok (.iload_n 2, 1) := by decide +kernel
theorem dX2_span_23 : decode cX2_span 23 = .ok (.iaload, 1) := by decide +kernel
theorem dX2_span_24 : decode cX2_span 24 = .ok (.invokevirtual 45, 3) := by decide +kernel
theorem dX2_span_27 : decode cX2_span 27 = .ok (.ireturn, 1) := by decide +kernel
theorem wd1178 : Cond.code yX2_span cX2_span 3 (some .int) ∈ gW := gW_in 1178 (by decide +kernel) (by decide +kernel)
theorem mvX2_span : MV yX2_span cX2_span 3 (some .int) 2 := ⟨wd1178, wd25, by decide +kernel, by decide +kernel, by decide +kernel, by decide⟩
theorem wd1176 : Cond.instanceMethod yX2_span ∈ gW := gW_in 1176 (by decide +kernel) (by decide +kernel)
theorem wd1177 : Cond.selects yX2_span.cls yX2_span yX2_span ∈ gW := gW_in 1177 (by decide +kernel) (by decide +kernel)
theorem wd1175 : Cond.methodLink RX2 37 yX2_span ∈ gW := gW_in 1175 (by decide +kernel) (by decide +kernel)
theorem dX2_putStop_0 : decode cX2_putStop 0 = .ok (.aload_n 0, 1) := by decide +kernel
theorem dX2_putStop_1 : decode cX2_putStop 1 = .ok (.getfield 28, 3) := by decide +kernel
theorem dX2_putStop_4 : decode cX2_putStop 4 = .ok (.bipush 6, 2) := by decide +kernel
theorem dX2_putStop_6 : decode cX2_putStop 6 = .ok (.if_icmp .lt 8, 3) := by decide +kernel
theorem dX2_putStop_9 : decode cX2_putStop 9 = .ok (.aload_n 0, 1) := by decide +kernel
theorem dX2_putStop_10 : decode cX2_putStop 10 = .ok (.getfield 28, 3) := by decide +kernel
theorem dX2_putStop_13 : decode cX2_putStop 13 = .ok (.ireturn, 1) := by decide +kernel
theorem dX2_putStop_14 : decode cX2_putStop 14 = .ok (.aload_n 0, 1) := by decide +kernel
theorem dX2_putStop_15 : decode cX2_putStop 15 = .ok (.getfield 28, 3) := by decide +kernel
theorem dX2_putStop_18 : decode cX2_putStop 18 = .ok (.ifCond .le 30, 3) := by decide +kernel
theorem dX2_putStop_21 : decode cX2_putStop 21 = .ok (.aload_n 0, 1) := by decide +kernel
theorem dX2_putStop_22 : decode cX2_putStop 22 = .ok (.getfield 25, 3) := by decide +kernel
theorem dX2_putStop_25 : decode cX2_putStop 25 = .ok (.aload_n 0, 1) := by decide +kernel
theorem dX2_putStop_26 : decode cX2_putStop 26 = .ok (.getfield 28, 3) := by decide +kernel
theorem dX2_putStop_29 : decode cX2_putStop 29 = .ok (.iconst 1, 1) := by decide +kernel
theorem dX2_putStop_30 : decode cX2_putStop 30 = .ok (.isub, 1) := by decide +kernel
theorem dX2_putStop_31 : decode cX2_putStop 31 = .ok (.aload_n 0, 1) := by decide +kernel
theorem dX2_putStop_32 : decode cX2_putStop 32 = .ok (.aload_n 0, 1) := by decide +kernel
theorem dX2_putStop_33 : decode cX2_putStop 33 = .ok (.getfield 22, 3) := by decide +kernel
theorem dX2_putStop_36 : decode cX2_putStop 36 = .ok (.aload_n 0, 1) := by decide +kernel
theorem dX2_putStop_37 : decode cX2_putStop 37 = .ok (.getfield 28, 3) := by decide +kernel
theorem dX2_putStop_40 : decode cX2_putStop 40 = .ok (.iconst 1, 1) := by decide +kernel
theorem dX2_putStop_41 : decode cX2_putStop 41 = .ok (.isub, 1) := by decide +kernel
theorem dX2_putStop_42 : decode cX2_putStop 42 = .ok (.iaload, 1) := by decide +kernel
theorem dX2_putStop_43 : decode cX2_putStop 43 = .ok (.iload_n 1, 1) := by decide +kernel
theorem dX2_putStop_44 : decode cX2_putStop 44 = .ok (.invokevirtual 37, 3) := by decide +kernel
theorem dX2_putStop_47 : decode cX2_putStop 47 = .ok (.iastore, 1) := by decide +kernel
theorem dX2_putStop_48 : decode cX2_putStop 48 = .ok (.aload_n 0, 1) := by decide +kernel
theorem dX2_putStop_49 : decode cX2_putStop 49 = .ok (.getfield 22, 3) := by decide +kernel
theorem dX2_putStop_52 : decode cX2_putStop 52 = .ok (.aload_n 0, 1) := by decide +kernel
theorem dX2_putStop_53 : decode cX2_putStop 53 = .ok (.getfield 28, 3) := by decide +kernel
theorem dX2_putStop_56 : decode cX2_putStop 56 = .ok (.iload_n 1, 1) := by decide +kernel
theorem dX2_putStop_57 : decode cX2_putStop 57 = .ok (.iastore, 1) := by decide +kernel
theorem dX2_putStop_58 : decode cX2_putStop 58 = .ok (.aload_n 0, 1) := by decide +kernel
theorem dX2_putStop_59 : decode cX2_putStop 59 = .ok (.dup, 1) := by decide +kernel
theorem dX2_putStop_60 : decode cX2_putStop 60 = .ok (.getfield 28, 3) := by decide +kernel
theorem dX2_putStop_63 : decode cX2_putStop 63 = .ok (.iconst 1, 1) := by decide +kernel
theorem dX2_putStop_64 : decode cX2_putStop 64 = .ok (.iadd, 1) := by decide +kernel
theorem dX2_putStop_65 : decode cX2_putStop 65 = .ok (.putfield 28, 3) := by decide +kernel
theorem dX2_putStop_68 : decode cX2_putStop 68 = .ok (.aload_n 0, 1) := by decide +kernel
theorem dX2_putStop_69 : decode cX2_putStop 69 = .ok (.getfield 28, 3) := by decide +kernel
theorem dX2_putStop_72 : decode cX2_putStop 72 = .ok (.ireturn, 1) := by decide +kernel
theorem dX2_dropStops_0 : decode cX2_dropStops 0 = .ok (.aload_n 0, 1) := by decide +kernel
theorem dX2_dropStops_1 : decode cX2_dropStops 1 = .ok (.getfield 28, 3) := by decide +kernel
theorem dX2_dropStops_4 : decode cX2_dropStops 4 = .ok (.istore_n 1, 1) := by decide +kernel
theorem dX2_dropStops_5 : decode cX2_dropStops 5 = .ok (.aload_n 0, 1) := by decide +kernel
theorem dX2_dropStops_6 : decode cX2_dropStops 6 = .ok (.iconst 0, 1) := by decide +kernel
theorem dX2_dropStops_7 : decode cX2_dropStops 7 = .ok (.putfield 28, 3) := by decide +kernel
theorem dX2_dropStops_10 : decode cX2_dropStops 10 = .ok (.iload_n 1, 1) := by decide +kernel
theorem dX2_dropStops_11 : decode cX2_dropStops 11 = .ok (.ireturn, 1) := by decide +kernel
theorem wd656 : Cond.code yX2_hasStop cX2_hasStop 2 (some .boolean) ∈ gW := gW_in 656 (by decide +kernel) (by decide +kernel)
theorem mvX2_hasStop : MV yX2_hasStop cX2_hasStop 2 (some .boolean) 1 := ⟨wd656, wd25, by decide +kernel, by decide +kernel, by decide +kernel, by decide⟩
theorem wd654 : Cond.instanceMethod yX2_hasStop ∈ gW := gW_in 654 (by decide +kernel) (by decide +kernel)
theorem wd655 : Cond.selects yX2_hasStop.cls yX2_hasStop yX2_hasStop ∈ gW := gW_in 655 (by decide +kernel) (by decide +kernel)
theorem wd722 : Cond.methodLink RX2 55 yX2_hasStop ∈ gW := gW_in 722 (by decide +kernel) (by decide +kernel)
theorem dX2_spanToStop_0 : decode cX2_spanToStop 0 = .ok (.aload_n 0, 1) := by decide +kernel
theorem dX2_spanToStop_1 : decode cX2_spanToStop 1 = .ok (.iload_n 1, 1) := by decide +kernel
theorem dX2_spanToStop_2 : decode cX2_spanToStop 2 = .ok (.invokevirtual 55, 3) := by decide +kernel
theorem dX2_spanToStop_5 : decode cX2_spanToStop 5 = .ok (.ifCond .ne 5, 3) := by decide +kernel
theorem dX2_spanToStop_8 : decode cX2_spanToStop 8 = .ok (.iconst 0, 1) := by decide +kernel
theorem dX2_spanToStop_9 : decode cX2_spanToStop 9 = .ok (.ireturn, 1) := by decide +kernel
theorem dX2_spanToStop_10 : decode cX2_spanToStop 10 = .ok (.aload_n 0, 1) := by decide +kernel
theorem dX2_spanToStop_11 : decode cX2_spanToStop 11 = .ok (.aload_n 0, 1) := by decide +kernel
theorem dX2_spanToStop_12 : decode cX2_spanToStop 12 = .ok (.getfield 22, 3) := by decide +kernel
theorem dX2_spanToStop_15 : decode cX2_spanToStop 15 = .ok (.iload_n 1, 1) := by decide +kernel
theorem dX2_spanToStop_16 : decode cX2_spanToStop 16 = .ok (.iaload, 1) := by decide +kernel
theorem dX2_spanToStop_17 : decode cX2_spanToStop 17 = .ok (.iload_n 2, 1) := by decide +kernel
theorem dX2_spanToStop_18 : decode cX2_spanToStop 18 = .ok (.iload_n 3, 1) := by decide +kernel
theorem dX2_spanToStop_19 : decode cX2_spanToStop 19 = .ok (.invokevirtual 45, 3) := by decide +kernel
theorem dX2_spanToStop_22 : decode cX2_spanToStop 22 = .ok (.ireturn, 1) := by decide +kernel
theorem dX2_endsAtPositionOf_0 : decode cX2_endsAtPositionOf 0 = .ok (.aload_n 0, 1) := by decide +kernel
theorem dX2_endsAtPositionOf_1 : decode cX2_endsAtPositionOf 1 = .ok (.getfield 28, 3) := by decide +kernel
theorem dX2_endsAtPositionOf_4 : decode cX2_endsAtPositionOf 4 = .ok (.ifCond .le 26, 3) := by decide +kernel
theorem dX2_endsAtPositionOf_7 : decode cX2_endsAtPositionOf 7 = .ok (.aload_n 0, 1) := by decide +kernel
theorem dX2_endsAtPositionOf_8 : decode cX2_endsAtPositionOf 8 = .ok (.aload_n 0, 1) := by decide +kernel
theorem dX2_endsAtPositionOf_9 : decode cX2_endsAtPositionOf 9 = .ok (.getfield 22, 3) := by decide +kernel
theorem dX2_endsAtPositionOf_12 : decode cX2_endsAtPositionOf 12 = .ok (.aload_n 0, 1) := by decide +kernel
theorem dX2_endsAtPositionOf_13 : decode cX2_endsAtPositionOf 13 = .ok (.getfield 28, 3) := by decide +kernel
theorem dX2_endsAtPositionOf_16 : decode cX2_endsAtPositionOf 16 = .ok (.iconst 1, 1) := by decide +kernel
theorem dX2_endsAtPositionOf_17 : decode cX2_endsAtPositionOf 17 = .ok (.isub, 1) := by decide +kernel
theorem dX2_endsAtPositionOf_18 : decode cX2_endsAtPositionOf 18 = .ok (.iaload, 1) := by decide +kernel
theorem dX2_endsAtPositionOf_19 : decode cX2_endsAtPositionOf 19 = .ok (.iload_n 1, 1) := by decide +kernel
theorem dX2_endsAtPositionOf_20 : decode cX2_endsAtPositionOf 20 = .ok (.invokevirtual 37, 3) := by decide +kernel
theorem dX2_endsAtPositionOf_23 : decode cX2_endsAtPositionOf 23 = .ok (.ifCond .ne 7, 3) := by decide +kernel
theorem dX2_endsAtPositionOf_26 : decode cX2_endsAtPositionOf 26 = .ok (.iconst 1, 1) := by decide +kernel
theorem dX2_endsAtPositionOf_27 : decode cX2_endsAtPositionOf 27 = .ok (.goto 4, 3) := by decide +kernel
theorem dX2_endsAtPositionOf_30 : decode cX2_endsAtPositionOf 30 = .ok (.iconst 0, 1) := by decide +kernel
theorem dX2_endsAtPositionOf_31 : decode cX2_endsAtPositionOf 31 = .ok (.ireturn, 1) := by decide +kernel
theorem dX2_isStopAt_0 : decode cX2_isStopAt 0 = .ok (.aload_n 0, 1) := by decide +kernel
theorem dX2_isStopAt_1 : decode cX2_isStopAt 1 = .ok (.iload_n 1, 1) := by decide +kernel
theorem dX2_isStopAt_2 : decode cX2_isStopAt 2 = .ok (.invokevirtual 55, 3) := by decide +kernel
theorem dX2_isStopAt_5 : decode cX2_isStopAt 5 = .ok (.ifCond .eq 22, 3) := by decide +kernel
theorem dX2_isStopAt_8 : decode cX2_isStopAt 8 = .ok (.aload_n 0, 1) := by decide +kernel
theorem dX2_isStopAt_9 : decode cX2_isStopAt 9 = .ok (.aload_n 0, 1) := by decide +kernel
theorem dX2_isStopAt_10 : decode cX2_isStopAt 10 = .ok (.getfield 22, 3) := by decide +kernel
theorem dX2_isStopAt_13 : decode cX2_isStopAt 13 = .ok (.iload_n 1, 1) := by decide +kernel
theorem dX2_isStopAt_14 : decode cX2_isStopAt 14 = .ok (.iaload, 1) := by decide +kernel
theorem dX2_isStopAt_15 : decode cX2_isStopAt 15 = .ok (.iload_n 2, 1) := by decide +kernel
theorem dX2_isStopAt_16 : decode cX2_isStopAt 16 = .ok (.iload_n 3, 1) := by decide +kernel
theorem dX2_isStopAt_17 : decode cX2_isStopAt 17 = .ok (.invokevirtual 45, 3) := by decide +kernel
theorem dX2_isStopAt_20 : decode cX2_isStopAt 20 = .ok (.ifCond .ne 7, 3) := by decide +kernel
theorem dX2_isStopAt_23 : decode cX2_isStopAt 23 = .ok (.iconst 1, 1) := by decide +kernel
theorem dX2_isStopAt_24 : decode cX2_isStopAt 24 = .ok (.goto 4, 3) := by decide +kernel
theorem dX2_isStopAt_27 : decode cX2_isStopAt 27 = .ok (.iconst 0, 1) := by decide +kernel
theorem dX2_isStopAt_28 : decode cX2_isStopAt 28 = .ok (.ireturn, 1) := by decide +kernel
theorem dX2_sumOfLegs_0 : decode cX2_sumOfLegs 0 = .ok (.iload_n 1, 1) := by decide +kernel
theorem dX2_sumOfLegs_1 : decode cX2_sumOfLegs 1 = .ok (.ifCond .lt 9, 3) := by decide +kernel
theorem dX2_sumOfLegs_4 : decode cX2_sumOfLegs 4 = .ok (.iload_n 2, 1) := by decide +kernel
theorem dX2_sumOfLegs_5 : decode cX2_sumOfLegs 5 = .ok (.bipush 6, 2) := by decide +kernel
theorem dX2_sumOfLegs_7 : decode cX2_sumOfLegs 7 = .ok (.if_icmp .le 5, 3) := by decide +kernel
theorem dX2_sumOfLegs_10 : decode cX2_sumOfLegs 10 = .ok (.iconst 0, 1) := by decide +kernel
theorem dX2_sumOfLegs_11 : decode cX2_sumOfLegs 11 = .ok (.ireturn, 1) := by decide +kernel
theorem dX2_sumOfLegs_12 : decode cX2_sumOfLegs 12 = .ok (.iconst 0, 1) := by decide +kernel
theorem dX2_sumOfLegs_13 : decode cX2_sumOfLegs 13 = .ok (.istore_n 3, 1) := by decide +kernel
theorem dX2_sumOfLegs_14 : decode cX2_sumOfLegs 14 = .ok (.iload_n 1, 1) := by decide +kernel
theorem dX2_sumOfLegs_15 : decode cX2_sumOfLegs 15 = .ok (.istore 4, 2) := by decide +kernel
theorem dX2_sumOfLegs_17 : decode cX2_sumOfLegs 17 = .ok (.iload 4, 2) := by decide +kernel
theorem dX2_sumOfLegs_19 : decode cX2_sumOfLegs 19 = .ok (.iload_n 2, 1) := by decide +kernel
theorem dX2_sumOfLegs_20 : decode cX2_sumOfLegs 20 = .ok (.if_icmp .ge 19, 3) := by decide +kernel
theorem dX2_sumOfLegs_23 : decode cX2_sumOfLegs 23 = .ok (.iload_n 3, 1) := by decide +kernel
theorem dX2_sumOfLegs_24 : decode cX2_sumOfLegs 24 = .ok (.aload_n 0, 1) := by decide +kernel
theorem dX2_sumOfLegs_25 : decode cX2_sumOfLegs 25 = .ok (.getfield 25, 3) := by decide +kernel
theorem dX2_sumOfLegs_28 : decode cX2_sumOfLegs 28 = .ok (.iload 4, 2) := by decide +kernel
theorem dX2_sumOfLegs_30 : decode cX2_sumOfLegs 30 = .ok (.iaload, 1) := by decide +kernel
theorem dX2_sumOfLegs_31 : decode cX2_sumOfLegs 31 = .ok (.iadd, 1) := by decide +kernel
theorem dX2_sumOfLegs_32 : decode cX2_sumOfLegs 32 = .ok (.istore_n 3, 1) := by decide +kernel
theorem dX2_sumOfLegs_33 : decode cX2_sumOfLegs 33 = .ok (.iinc 4 1, 3) := by decide +kernel
theorem dX2_sumOfLegs_36 : decode cX2_sumOfLegs 36 = .ok (.goto (-19), 3) := by decide +kernel
theorem dX2_sumOfLegs_39 : decode cX2_sumOfLegs 39 = .ok (.iload_n 3, 1) := by decide +kernel
theorem dX2_sumOfLegs_40 : decode cX2_sumOfLegs 40 = .ok (.ireturn, 1) := by decide +kernel
theorem wd764 : Cond.code yX2_sumOfLegs cX2_sumOfLegs 5 (some .int) ∈ gW := gW_in 764 (by decide +kernel) (by decide +kernel)
theorem mvX2_sumOfLegs : MV yX2_sumOfLegs cX2_sumOfLegs 5 (some .int) 2 := ⟨wd764, wd25, by decide +kernel, by decide +kernel, by decide +kernel, by decide⟩
theorem wd762 : Cond.instanceMethod yX2_sumOfLegs ∈ gW := gW_in 762 (by decide +kernel) (by decide +kernel)
theorem wd763 : Cond.selects yX2_sumOfLegs.cls yX2_sumOfLegs yX2_sumOfLegs ∈ gW := gW_in 763 (by decide +kernel) (by decide +kernel)
theorem wd774 : Cond.methodLink RX2 58 yX2_sumOfLegs ∈ gW := gW_in 774 (by decide +kernel) (by decide +kernel)
theorem dX2_wholeDistance_0 : decode cX2_wholeDistance 0 = .ok (.aload_n 0, 1) := by decide +kernel
theorem dX2_wholeDistance_1 : decode cX2_wholeDistance 1 = .ok (.iconst 0, 1) := by decide +kernel
theorem dX2_wholeDistance_2 : decode cX2_wholeDistance 2 = .ok (.aload_n 0, 1) := by decide +kernel
theorem dX2_wholeDistance_3 : decode cX2_wholeDistance 3 = .ok (.getfield 28, 3) := by decide +kernel
theorem dX2_wholeDistance_6 : decode cX2_wholeDistance 6 = .ok (.iconst 1, 1) := by decide +kernel
theorem dX2_wholeDistance_7 : decode cX2_wholeDistance 7 = .ok (.isub, 1) := by decide +kernel
theorem dX2_wholeDistance_8 : decode cX2_wholeDistance 8 = .ok (.invokevirtual 58, 3) := by decide +kernel
theorem dX2_wholeDistance_11 : decode cX2_wholeDistance 11 = .ok (.ireturn, 1) := by decide +kernel
theorem dX2_directionTo_0 : decode cX2_directionTo 0 = .ok (.aload_n 0, 1) := by decide +kernel
theorem dX2_directionTo_1 : decode cX2_directionTo 1 = .ok (.iload_n 1, 1) := by decide +kernel
theorem dX2_directionTo_2 : decode cX2_directionTo 2 = .ok (.invokevirtual 55, 3) := by decide +kernel
theorem dX2_directionTo_5 : decode cX2_directionTo 5 = .ok (.ifCond .eq 16, 3) := by decide +kernel
theorem dX2_directionTo_8 : decode cX2_directionTo 8 = .ok (.aload_n 0, 1) := by decide +kernel
theorem dX2_directionTo_9 : decode cX2_directionTo 9 = .ok (.aload_n 0, 1) := by decide +kernel
theorem dX2_directionTo_10 : decode cX2_directionTo 10 = .ok (.getfield 22, 3) := by decide +kernel
theorem dX2_directionTo_13 : decode cX2_directionTo 13 = .ok (.iload_n 1, 1) := by decide +kernel
theorem dX2_directionTo_14 : decode cX2_directionTo 14 = .ok (.iaload, 1) := by decide +kernel
theorem dX2_directionTo_15 : decode cX2_directionTo 15 = .ok (.invokevirtual 41, 3) := by decide +kernel
theorem dX2_directionTo_18 : decode cX2_directionTo 18 = .ok (.ifCond .ne 5, 3) := by decide +kernel
theorem dX2_directionTo_21 : decode cX2_directionTo 21 = .ok (.iconst 0, 1) := by decide +kernel
theorem dX2_directionTo_22 : decode cX2_directionTo 22 = .ok (.ireturn, 1) := by decide +kernel
theorem dX2_directionTo_23 : decode cX2_directionTo 23 = .ok (.aload_n 0, 1) := by decide +kernel
theorem dX2_directionTo_24 : decode cX2_directionTo 24 = .ok (.getfield 22, 3) := by decide +kernel
theorem dX2_directionTo_27 : decode cX2_directionTo 27 = .ok (.iload_n 1, 1) := by decide +kernel
theorem dX2_directionTo_28 : decode cX2_directionTo 28 = .ok (.iaload, 1) := by decide +kernel
theorem dX2_directionTo_29 : decode cX2_directionTo 29 = .ok (.istore 4, 2) := by decide +kernel
theorem dX2_directionTo_31 : decode cX2_directionTo 31 = .ok (.aload_n 0, 1) := by decide +kernel
theorem dX2_directionTo_32 : decode cX2_directionTo 32 = .ok (.getfield 9, 3) := by decide +kernel
theorem dX2_directionTo_35 : decode cX2_directionTo 35 = .ok (.iload 4, 2) := by decide +kernel
theorem dX2_directionTo_37 : decode cX2_directionTo 37 = .ok (.iaload, 1) := by decide +kernel
theorem dX2_directionTo_38 : decode cX2_directionTo 38 = .ok (.iload_n 2, 1) := by decide +kernel
theorem dX2_directionTo_39 : decode cX2_directionTo 39 = .ok (.if_icmp .eq 20, 3) := by decide +kernel
theorem dX2_directionTo_42 : decode cX2_directionTo 42 = .ok (.aload_n 0, 1) := by decide +kernel
theorem dX2_directionTo_43 : decode cX2_directionTo 43 = .ok (.getfield 9, 3) := by decide +kernel
theorem dX2_directionTo_46 : decode cX2_directionTo 46 = .ok (.iload 4, 2) := by decide +kernel
theorem dX2_directionTo_48 : decode cX2_directionTo 48 = .ok (.iaload, 1) := by decide +kernel
theorem dX2_directionTo_49 : decode cX2_directionTo 49 = .ok (.iload_n 2, 1) := by decide +kernel
theorem dX2_directionTo_50 : decode cX2_directionTo 50 = .ok (.if_icmp .le 7, 3) := by decide +kernel
theorem dX2_directionTo_53 : decode cX2_directionTo 53 = .ok (.iconst 1, 1) := by decide +kernel
theorem dX2_directionTo_54 : decode cX2_directionTo 54 = .ok (.goto 4, 3) := by decide +kernel
theorem dX2_directionTo_57 : decode cX2_directionTo 57 = .ok (.iconst 3, 1) := by decide +kernel
theorem dX2_directionTo_58 : decode cX2_directionTo 58 = .ok (.ireturn, 1) := by decide +kernel
theorem dX2_directionTo_59 : decode cX2_directionTo 59 = .ok (.aload_n 0, 1) := by decide +kernel
theorem dX2_directionTo_60 : decode cX2_directionTo 60 = .ok (.getfield 15, 3) := by decide +kernel
theorem dX2_directionTo_63 : decode cX2_directionTo 63 = .ok (.iload 4, 2) := by decide +kernel
theorem dX2_directionTo_65 : decode cX2_directionTo 65 = .ok (.iaload, 1) := by decide +kernel
theorem dX2_directionTo_66 : decode cX2_directionTo 66 = .ok (.iload_n 3, 1) := by decide +kernel
theorem dX2_directionTo_67 : decode cX2_directionTo 67 = .ok (.if_icmp .le 7, 3) := by decide +kernel
theorem dX2_directionTo_70 : decode cX2_directionTo 70 = .ok (.iconst 0, 1) := by decide +kernel
theorem dX2_directionTo_71 : decode cX2_directionTo 71 = .ok (.goto 4, 3) := by decide +kernel
theorem dX2_directionTo_74 : decode cX2_directionTo 74 = .ok (.iconst 2, 1) := by decide +kernel
theorem dX2_directionTo_75 : decode cX2_directionTo 75 = .ok (.ireturn, 1) := by decide +kernel
theorem wd991 : Cond.fieldLink RX3 9 (TX3 0).1 (TX3 0).2.1 (TX3 0).2.2.1 ∈ gW := gW_in 991 (by decide +kernel) (by decide +kernel)
theorem kfX3 : KF 8 RX3 TX3 9 tyX3 := ⟨by decide, by decide, rfl, gW_all (by decide +kernel), tyX3_ok, nmX3⟩
theorem wd992 : Cond.fieldLink RX3 21 (TX3 1).1 (TX3 1).2.1 (TX3 1).2.2.1 ∈ gW := gW_in 992 (by decide +kernel) (by decide +kernel)
theorem wd995 : Cond.fieldLink RX3 24 (TX3 2).1 (TX3 2).2.1 (TX3 2).2.2.1 ∈ gW := gW_in 995 (by decide +kernel) (by decide +kernel)
theorem wd998 : Cond.fieldLink RX3 27 (TX3 3).1 (TX3 3).2.1 (TX3 3).2.2.1 ∈ gW := gW_in 998 (by decide +kernel) (by decide +kernel)
theorem wd1001 : Cond.fieldLink RX3 30 (TX3 4).1 (TX3 4).2.1 (TX3 4).2.2.1 ∈ gW := gW_in 1001 (by decide +kernel) (by decide +kernel)
theorem wd1004 : Cond.fieldLink RX3 33 (TX3 5).1 (TX3 5).2.1 (TX3 5).2.2.1 ∈ gW := gW_in 1004 (by decide +kernel) (by decide +kernel)
theorem wd1007 : Cond.fieldLink RX3 36 (TX3 6).1 (TX3 6).2.1 (TX3 6).2.2.1 ∈ gW := gW_in 1007 (by decide +kernel) (by decide +kernel)
theorem wd1010 : Cond.fieldLink RX3 39 (TX3 7).1 (TX3 7).2.1 (TX3 7).2.2.1 ∈ gW := gW_in 1010 (by decide +kernel) (by decide +kernel)
theorem wd1013 : Cond.fieldLink RX3 42 (TX3 8).1 (TX3 8).2.1 (TX3 8).2.2.1 ∈ gW := gW_in 1013 (by decide +kernel) (by decide +kernel)
theorem dX3_copyFrom_0 : decode cX3_copyFrom 0 = .ok (.aload_n 0, 1) := by decide +kernel
theorem dX3_copyFrom_1 : decode cX3_copyFrom 1 = .ok (.aload_n 1, 1) := by decide +kernel
theorem dX3_copyFrom_2 : decode cX3_copyFrom 2 = .ok (.getfield 9, 3) := by decide +kernel
theorem dX3_copyFrom_5 : decode cX3_copyFrom 5 = .ok (.putfield 9, 3) := by decide +kernel
theorem dX3_copyFrom_8 : decode cX3_copyFrom 8 = .ok (.aload_n 0, 1) := by decide +kernel
theorem dX3_copyFrom_9 : decode cX3_copyFrom 9 = .ok (.aload_n 1, 1) := by decide +kernel
theorem dX3_copyFrom_10 : decode cX3_copyFrom 10 = .ok (.getfield 21, 3) := by decide +kernel
theorem dX3_copyFrom_13 : decode cX3_copyFrom 13 = .ok (.putfield 21, 3) := by decide +kernel
theorem dX3_copyFrom_16 : decode cX3_copyFrom 16 = .ok (.aload_n 0, 1) := by decide +kernel
theorem dX3_copyFrom_17 : decode cX3_copyFrom 17 = .ok (.aload_n 1, 1) := by decide +kernel
theorem dX3_copyFrom_18 : decode cX3_copyFrom 18 = .ok (.getfield 24, 3) := by decide +kernel
theorem dX3_copyFrom_21 : decode cX3_copyFrom 21 = .ok (.putfield 24, 3) := by decide +kernel
theorem dX3_copyFrom_24 : decode cX3_copyFrom 24 = .ok (.aload_n 0, 1) := by decide +kernel
theorem dX3_copyFrom_25 : decode cX3_copyFrom 25 = .ok (.aload_n 1, 1) := by decide +kernel
theorem dX3_copyFrom_26 : decode cX3_copyFrom 26 = .ok (.getfield 27, 3) := by decide +kernel
theorem dX3_copyFrom_29 : decode cX3_copyFrom 29 = .ok (.putfield 27, 3) := by decide +kernel
theorem dX3_copyFrom_32 : decode cX3_copyFrom 32 = .ok (.aload_n 0, 1) := by decide +kernel
theorem dX3_copyFrom_33 : decode cX3_copyFrom 33 = .ok (.aload_n 1, 1) := by decide +kernel
theorem dX3_copyFrom_34 : decode cX3_copyFrom 34 = .ok (.getfield 30, 3) := by decide +kernel
theorem dX3_copyFrom_37 : decode cX3_copyFrom 37 = .ok (.putfield 30, 3) := by decide +kernel
theorem dX3_copyFrom_40 : decode cX3_copyFrom 40 = .ok (.aload_n 0, 1) := by decide +kernel
theorem dX3_copyFrom_41 : decode cX3_copyFrom 41 = .ok (.aload_n 1, 1) := by decide +kernel
theorem dX3_copyFrom_42 : decode cX3_copyFrom 42 = .ok (.getfield 33, 3) := by decide +kernel
theorem dX3_copyFrom_45 : decode cX3_copyFrom 45 = .ok (.putfield 33, 3) := by decide +kernel
theorem dX3_copyFrom_48 : decode cX3_copyFrom 48 = .ok (.aload_n 0, 1) := by decide +kernel
theorem dX3_copyFrom_49 : decode cX3_copyFrom 49 = .ok (.aload_n 1, 1) := by decide +kernel
theorem dX3_copyFrom_50 : decode cX3_copyFrom 50 = .ok (.getfield 36, 3) := by decide +kernel
theorem dX3_copyFrom_53 : decode cX3_copyFrom 53 = .ok (.putfield 36, 3) := by decide +kernel
theorem dX3_copyFrom_56 : decode cX3_copyFrom 56 = .ok (.aload_n 0, 1) := by decide +kernel
theorem dX3_copyFrom_57 : decode cX3_copyFrom 57 = .ok (.aload_n 1, 1) := by decide +kernel
theorem dX3_copyFrom_58 : decode cX3_copyFrom 58 = .ok (.getfield 39, 3) := by decide +kernel
theorem dX3_copyFrom_61 : decode cX3_copyFrom 61 = .ok (.putfield 39, 3) := by decide +kernel
theorem dX3_copyFrom_64 : decode cX3_copyFrom 64 = .ok (.aload_n 0, 1) := by decide +kernel
theorem dX3_copyFrom_65 : decode cX3_copyFrom 65 = .ok (.aload_n 1, 1) := by decide +kernel
theorem dX3_copyFrom_66 : decode cX3_copyFrom 66 = .ok (.getfield 42, 3) := by decide +kernel
theorem dX3_copyFrom_69 : decode cX3_copyFrom 69 = .ok (.putfield 42, 3) := by decide +kernel
theorem dX3_copyFrom_72 : decode cX3_copyFrom 72 = .ok (.return_, 1) := by decide +kernel
theorem wd628 : Cond.fieldLink RX3 15 "GlidingContest$Phase" "WAITING" "LGlidingContest$Phase;" ∈ gW := gW_in 628 (by decide +kernel) (by decide +kernel)
theorem dX3_rest_0 : decode cX3_rest 0 = .ok (.aload_n 0, 1) := by decide +kernel
theorem dX3_rest_1 : decode cX3_rest 1 = .ok (.getstatic 15, 3) := by decide +kernel
theorem dX3_rest_4 : decode cX3_rest 4 = .ok (.putfield 21, 3) := by decide +kernel
theorem dX3_rest_7 : decode cX3_rest 7 = .ok (.aload_n 0, 1) := by decide +kernel
theorem dX3_rest_8 : decode cX3_rest 8 = .ok (.iconst 0, 1) := by decide +kernel
theorem dX3_rest_9 : decode cX3_rest 9 = .ok (.putfield 24, 3) := by decide +kernel
theorem dX3_rest_12 : decode cX3_rest 12 = .ok (.aload_n 0, 1) := by decide +kernel
theorem dX3_rest_13 : decode cX3_rest 13 = .ok (.iconst 0, 1) := by decide +kernel
theorem dX3_rest_14 : decode cX3_rest 14 = .ok (.putfield 27, 3) := by decide +kernel
theorem dX3_rest_17 : decode cX3_rest 17 = .ok (.aload_n 0, 1) := by decide +kernel
theorem dX3_rest_18 : decode cX3_rest 18 = .ok (.iconst 0, 1) := by decide +kernel
theorem dX3_rest_19 : decode cX3_rest 19 = .ok (.putfield 30, 3) := by decide +kernel
theorem dX3_rest_22 : decode cX3_rest 22 = .ok (.aload_n 0, 1) := by decide +kernel
theorem dX3_rest_23 : decode cX3_rest 23 = .ok (.iconst 0, 1) := by decide +kernel
theorem dX3_rest_24 : decode cX3_rest 24 = .ok (.putfield 33, 3) := by decide +kernel
theorem dX3_rest_27 : decode cX3_rest 27 = .ok (.aload_n 0, 1) := by decide +kernel
theorem dX3_rest_28 : decode cX3_rest 28 = .ok (.iconst 0, 1) := by decide +kernel
theorem dX3_rest_29 : decode cX3_rest 29 = .ok (.putfield 36, 3) := by decide +kernel
theorem dX3_rest_32 : decode cX3_rest 32 = .ok (.aload_n 0, 1) := by decide +kernel
theorem dX3_rest_33 : decode cX3_rest 33 = .ok (.iconst 0, 1) := by decide +kernel
theorem dX3_rest_34 : decode cX3_rest 34 = .ok (.putfield 39, 3) := by decide +kernel
theorem dX3_rest_37 : decode cX3_rest 37 = .ok (.return_, 1) := by decide +kernel
theorem wd627 : Cond.code yX3_rest cX3_rest 1 none ∈ gW := gW_in 627 (by decide +kernel) (by decide +kernel)
theorem wd28 : Cond.initialized RX3 ∈ gW := gW_in 28 (by decide +kernel) (by decide +kernel)
theorem mvX3_rest : MV yX3_rest cX3_rest 1 none 0 := ⟨wd627, wd28, by decide +kernel, by decide +kernel, by decide +kernel, by decide⟩
theorem wd625 : Cond.instanceMethod yX3_rest ∈ gW := gW_in 625 (by decide +kernel) (by decide +kernel)
theorem wd626 : Cond.selects yX3_rest.cls yX3_rest yX3_rest ∈ gW := gW_in 626 (by decide +kernel) (by decide +kernel)
theorem wd624 : Cond.methodLink RX3 46 yX3_rest ∈ gW := gW_in 624 (by decide +kernel) (by decide +kernel)
theorem dX3_enter_0 : decode cX3_enter 0 = .ok (.aload_n 0, 1) := by decide +kernel
theorem dX3_enter_1 : decode cX3_enter 1 = .ok (.iload_n 1, 1) := by decide +kernel
theorem dX3_enter_2 : decode cX3_enter 2 = .ok (.putfield 9, 3) := by decide +kernel
theorem dX3_enter_5 : decode cX3_enter 5 = .ok (.aload_n 0, 1) := by decide +kernel
theorem dX3_enter_6 : decode cX3_enter 6 = .ok (.lconst 0, 1) := by decide +kernel
theorem dX3_enter_7 : decode cX3_enter 7 = .ok (.putfield 42, 3) := by decide +kernel
theorem dX3_enter_10 : decode cX3_enter 10 = .ok (.aload_n 0, 1) := by decide +kernel
theorem dX3_enter_11 : decode cX3_enter 11 = .ok (.invokevirtual 46, 3) := by decide +kernel
theorem dX3_enter_14 : decode cX3_enter 14 = .ok (.return_, 1) := by decide +kernel
theorem wd494 : Cond.fieldLink RX3 49 "GlidingContest$Phase" "FLYING" "LGlidingContest$Phase;" ∈ gW := gW_in 494 (by decide +kernel) (by decide +kernel)
theorem dX3_takeOff_0 : decode cX3_takeOff 0 = .ok (.aload_n 0, 1) := by decide +kernel
theorem dX3_takeOff_1 : decode cX3_takeOff 1 = .ok (.getstatic 49, 3) := by decide +kernel
theorem dX3_takeOff_4 : decode cX3_takeOff 4 = .ok (.putfield 21, 3) := by decide +kernel
theorem dX3_takeOff_7 : decode cX3_takeOff 7 = .ok (.aload_n 0, 1) := by decide +kernel
theorem dX3_takeOff_8 : decode cX3_takeOff 8 = .ok (.iload_n 1, 1) := by decide +kernel
theorem dX3_takeOff_9 : decode cX3_takeOff 9 = .ok (.putfield 24, 3) := by decide +kernel
theorem dX3_takeOff_12 : decode cX3_takeOff 12 = .ok (.aload_n 0, 1) := by decide +kernel
theorem dX3_takeOff_13 : decode cX3_takeOff 13 = .ok (.iload_n 2, 1) := by decide +kernel
theorem dX3_takeOff_14 : decode cX3_takeOff 14 = .ok (.putfield 27, 3) := by decide +kernel
theorem dX3_takeOff_17 : decode cX3_takeOff 17 = .ok (.aload_n 0, 1) := by decide +kernel
theorem dX3_takeOff_18 : decode cX3_takeOff 18 = .ok (.sipush 1000, 3) := by decide +kernel
theorem dX3_takeOff_21 : decode cX3_takeOff 21 = .ok (.putfield 30, 3) := by decide +kernel
theorem dX3_takeOff_24 : decode cX3_takeOff 24 = .ok (.aload_n 0, 1) := by decide +kernel
theorem dX3_takeOff_25 : decode cX3_takeOff 25 = .ok (.iconst 0, 1) := by decide +kernel
theorem dX3_takeOff_26 : decode cX3_takeOff 26 = .ok (.putfield 33, 3) := by decide +kernel
theorem dX3_takeOff_29 : decode cX3_takeOff 29 = .ok (.aload_n 0, 1) := by decide +kernel
theorem dX3_takeOff_30 : decode cX3_takeOff 30 = .ok (.iconst 0, 1) := by decide +kernel
theorem dX3_takeOff_31 : decode cX3_takeOff 31 = .ok (.putfield 36, 3) := by decide +kernel
theorem dX3_takeOff_34 : decode cX3_takeOff 34 = .ok (.aload_n 0, 1) := by decide +kernel
theorem dX3_takeOff_35 : decode cX3_takeOff 35 = .ok (.iconst 1, 1) := by decide +kernel
theorem dX3_takeOff_36 : decode cX3_takeOff 36 = .ok (.putfield 39, 3) := by decide +kernel
theorem dX3_takeOff_39 : decode cX3_takeOff 39 = .ok (.return_, 1) := by decide +kernel
theorem dX9_quotient_0 : decode cX9_quotient 0 = .ok (.iload_n 1, 1) := by decide +kernel
theorem dX9_quotient_1 : decode cX9_quotient 1 = .ok (.ifCond .le 9, 3) := by decide +kernel
theorem dX9_quotient_4 : decode cX9_quotient 4 = .ok (.iload_n 0, 1) := by decide +kernel
theorem dX9_quotient_5 : decode cX9_quotient 5 = .ok (.iload_n 1, 1) := by decide +kernel
theorem dX9_quotient_6 : decode cX9_quotient 6 = .ok (.idiv, 1) := by decide +kernel
theorem dX9_quotient_7 : decode cX9_quotient 7 = .ok (.goto 4, 3) := by decide +kernel
theorem dX9_quotient_10 : decode cX9_quotient 10 = .ok (.iconst 0, 1) := by decide +kernel
theorem dX9_quotient_11 : decode cX9_quotient 11 = .ok (.ireturn, 1) := by decide +kernel
theorem wd712 : Cond.code yX9_quotient cX9_quotient 2 (some .int) ∈ gW := gW_in 712 (by decide +kernel) (by decide +kernel)
theorem wd23 : Cond.initialized RX9 ∈ gW := gW_in 23 (by decide +kernel) (by decide +kernel)
theorem mvX9_quotient : MV yX9_quotient cX9_quotient 2 (some .int) 2 := ⟨wd712, wd23, by decide +kernel, by decide +kernel, by decide +kernel, by decide⟩
theorem wd711 : Cond.static yX9_quotient ∈ gW := gW_in 711 (by decide +kernel) (by decide +kernel)
theorem wd710 : Cond.methodLinkNest RX3 52 yX9_quotient "GlidingContest" ∈ gNW := gNW_in 710 (by decide +kernel) (by decide +kernel)
theorem dX3_sinkRate_0 : decode cX3_sinkRate 0 = .ok (.sipush 1000, 3) := by decide +kernel
theorem dX3_sinkRate_3 : decode cX3_sinkRate 3 = .ok (.aload_n 0, 1) := by decide +kernel
theorem dX3_sinkRate_4 : decode cX3_sinkRate 4 = .ok (.getfield 9, 3) := by decide +kernel
theorem dX3_sinkRate_7 : decode cX3_sinkRate 7 = .ok (.invokestatic 52, 3) := by decide +kernel
theorem dX3_sinkRate_10 : decode cX3_sinkRate 10 = .ok (.ireturn, 1) := by decide +kernel
theorem dX9_eastward_0 : decode cX9_eastward 0 = .ok (.iload_n 0, 1) := by decide +kernel
theorem dX9_eastward_1 : decode cX9_eastward 1 = .ok (.iconst 1, 1) := by decide +kernel
theorem dX9_eastward_2 : decode cX9_eastward 2 = .ok (.if_icmp .ne 5, 3) := by decide +kernel
theorem dX9_eastward_5 : decode cX9_eastward 5 = .ok (.iconst 1, 1) := by decide +kernel
theorem dX9_eastward_6 : decode cX9_eastward 6 = .ok (.ireturn, 1) := by decide +kernel
theorem dX9_eastward_7 : decode cX9_eastward 7 = .ok (.iload_n 0, 1) := by decide +kernel
theorem dX9_eastward_8 : decode cX9_eastward 8 = .ok (.iconst 3, 1) := by decide +kernel
theorem dX9_eastward_9 : decode cX9_eastward 9 = .ok (.if_icmp .ne 7, 3) := by decide +kernel
theorem dX9_eastward_12 : decode cX9_eastward 12 = .ok (.iconst (-1), 1) := by decide +kernel
theorem dX9_eastward_13 : decode cX9_eastward 13 = .ok (.goto 4, 3) := by decide +kernel
theorem dX9_eastward_16 : decode cX9_eastward 16 = .ok (.iconst 0, 1) := by decide +kernel
theorem dX9_eastward_17 : decode cX9_eastward 17 = .ok (.ireturn, 1) := by decide +kernel
theorem dX9_northward_0 : decode cX9_northward 0 = .ok (.iload_n 0, 1) := by decide +kernel
theorem dX9_northward_1 : decode cX9_northward 1 = .ok (.ifCond .ne 5, 3) := by decide +kernel
theorem dX9_northward_4 : decode cX9_northward 4 = .ok (.iconst 1, 1) := by decide +kernel
theorem dX9_northward_5 : decode cX9_northward 5 = .ok (.ireturn, 1) := by decide +kernel
theorem dX9_northward_6 : decode cX9_northward 6 = .ok (.iload_n 0, 1) := by decide +kernel
theorem dX9_northward_7 : decode cX9_northward 7 = .ok (.iconst 2, 1) := by decide +kernel
theorem dX9_northward_8 : decode cX9_northward 8 = .ok (.if_icmp .ne 7, 3) := by decide +kernel
theorem dX9_northward_11 : decode cX9_northward 11 = .ok (.iconst (-1), 1) := by decide +kernel
theorem dX9_northward_12 : decode cX9_northward 12 = .ok (.goto 4, 3) := by decide +kernel
theorem dX9_northward_15 : decode cX9_northward 15 = .ok (.iconst 0, 1) := by decide +kernel
theorem dX9_northward_16 : decode cX9_northward 16 = .ok (.ireturn, 1) := by decide +kernel
theorem wd684 : Cond.code yX9_eastward cX9_eastward 1 (some .int) ∈ gW := gW_in 684 (by decide +kernel) (by decide +kernel)
theorem mvX9_eastward : MV yX9_eastward cX9_eastward 1 (some .int) 1 := ⟨wd684, wd23, by decide +kernel, by decide +kernel, by decide +kernel, by decide⟩
theorem wd683 : Cond.static yX9_eastward ∈ gW := gW_in 683 (by decide +kernel) (by decide +kernel)
theorem wd704 : Cond.methodLinkNest RX3 56 yX9_eastward "GlidingContest" ∈ gNW := gNW_in 704 (by decide +kernel) (by decide +kernel)
theorem wd687 : Cond.code yX9_northward cX9_northward 1 (some .int) ∈ gW := gW_in 687 (by decide +kernel) (by decide +kernel)
theorem mvX9_northward : MV yX9_northward cX9_northward 1 (some .int) 1 := ⟨wd687, wd23, by decide +kernel, by decide +kernel, by decide +kernel, by decide⟩
theorem wd686 : Cond.static yX9_northward ∈ gW := gW_in 686 (by decide +kernel) (by decide +kernel)
theorem wd705 : Cond.methodLinkNest RX3 60 yX9_northward "GlidingContest" ∈ gNW := gNW_in 705 (by decide +kernel) (by decide +kernel)
theorem wd709 : Cond.code yX3_sinkRate cX3_sinkRate 1 (some .int) ∈ gW := gW_in 709 (by decide +kernel) (by decide +kernel)
theorem mvX3_sinkRate : MV yX3_sinkRate cX3_sinkRate 1 (some .int) 0 := ⟨wd709, wd28, by decide +kernel, by decide +kernel, by decide +kernel, by decide⟩
theorem wd707 : Cond.instanceMethod yX3_sinkRate ∈ gW := gW_in 707 (by decide +kernel) (by decide +kernel)
theorem wd708 : Cond.selects yX3_sinkRate.cls yX3_sinkRate yX3_sinkRate ∈ gW := gW_in 708 (by decide +kernel) (by decide +kernel)
theorem wd706 : Cond.methodLink RX3 63 yX3_sinkRate ∈ gW := gW_in 706 (by decide +kernel) (by decide +kernel)
theorem wd713 : Cond.methodLink RX3 67 Lib.Math.max.name ∈ gW := gW_in 713 (by decide +kernel) (by decide +kernel)
theorem dX3_move_0 : decode cX3_move 0 = .ok (.aload_n 0, 1) := by decide +kernel
theorem dX3_move_1 : decode cX3_move 1 = .ok (.dup, 1) := by decide +kernel
theorem dX3_move_2 : decode cX3_move 2 = .ok (.getfield 24, 3) := by decide +kernel
theorem dX3_move_5 : decode cX3_move 5 = .ok (.iload_n 1, 1) := by decide +kernel
theorem dX3_move_6 : decode cX3_move 6 = .ok (.invokestatic 56, 3) := by decide +kernel
theorem dX3_move_9 : decode cX3_move 9 = .ok (.iadd, 1) := by decide +kernel
theorem dX3_move_10 : decode cX3_move 10 = .ok (.putfield 24, 3) := by decide +kernel
theorem dX3_move_13 : decode cX3_move 13 = .ok (.aload_n 0, 1) := by decide +kernel
theorem dX3_move_14 : decode cX3_move 14 = .ok (.dup, 1) := by decide +kernel
theorem dX3_move_15 : decode cX3_move 15 = .ok (.getfield 27, 3) := by decide +kernel
theorem dX3_move_18 : decode cX3_move 18 = .ok (.iload_n 1, 1) := by decide +kernel
theorem dX3_move_19 : decode cX3_move 19 = .ok (.invokestatic 60, 3) := by decide +kernel
theorem dX3_move_22 : decode cX3_move 22 = .ok (.iadd, 1) := by decide +kernel
theorem dX3_move_23 : decode cX3_move 23 = .ok (.putfield 27, 3) := by decide +kernel
theorem dX3_move_26 : decode cX3_move 26 = .ok (.aload_n 0, 1) := by decide +kernel
theorem dX3_move_27 : decode cX3_move 27 = .ok (.dup, 1) := by decide +kernel
theorem dX3_move_28 : decode cX3_move 28 = .ok (.getfield 33, 3) := by decide +kernel
theorem dX3_move_31 : decode cX3_move 31 = .ok (.iconst 1, 1) := by decide +kernel
theorem dX3_move_32 : decode cX3_move 32 = .ok (.iadd, 1) := by decide +kernel
theorem dX3_move_33 : decode cX3_move 33 = .ok (.putfield 33, 3) := by decide +kernel
theorem dX3_move_36 : decode cX3_move 36 = .ok (.aload_n 0, 1) := by decide +kernel
theorem dX3_move_37 : decode cX3_move 37 = .ok (.iconst 0, 1) := by decide +kernel
theorem dX3_move_38 : decode cX3_move 38 = .ok (.aload_n 0, 1) := by decide +kernel
theorem dX3_move_39 : decode cX3_move 39 = .ok (.getfield 30, 3) := by decide +kernel
theorem dX3_move_42 : decode cX3_move 42 = .ok (.aload_n 0, 1) := by decide +kernel
theorem dX3_move_43 : decode cX3_move 43 = .ok (.invokevirtual 63, 3) := by decide +kernel
theorem dX3_move_46 : decode cX3_move 46 = .ok (.isub, 1) := by decide +kernel
theorem dX3_move_47 : decode cX3_move 47 = .ok (.invokestatic 67, 3) := by decide +kernel
theorem dX3_move_50 : decode cX3_move 50 = .ok (.putfield 30, 3) := by decide +kernel
theorem dX3_move_53 : decode cX3_move 53 = .ok (.return_, 1) := by decide +kernel
theorem wd1264 : Cond.methodLink RX3 72 Lib.Math.min.name ∈ gW := gW_in 1264 (by decide +kernel) (by decide +kernel)
theorem wd229 : Cond.static Lib.Math.min.name ∈ gW := gW_in 229 (by decide +kernel) (by decide +kernel)
theorem wd230 : Cond.code Lib.Math.min.name Lib.Math.min.code 2 (some .int) ∈ gW := gW_in 230 (by decide +kernel) (by decide +kernel)
theorem dX3_rise_0 : decode cX3_rise 0 = .ok (.aload_n 0, 1) := by decide +kernel
theorem dX3_rise_1 : decode cX3_rise 1 = .ok (.getfield 30, 3) := by decide +kernel
theorem dX3_rise_4 : decode cX3_rise 4 = .ok (.iload_n 3, 1) := by decide +kernel
theorem dX3_rise_5 : decode cX3_rise 5 = .ok (.if_icmp .ge 22, 3) := by decide +kernel
theorem dX3_rise_8 : decode cX3_rise 8 = .ok (.aload_n 0, 1) := by decide +kernel
theorem dX3_rise_9 : decode cX3_rise 9 = .ok (.iload_n 3, 1) := by decide +kernel
theorem dX3_rise_10 : decode cX3_rise 10 = .ok (.aload_n 0, 1) := by decide +kernel
theorem dX3_rise_11 : decode cX3_rise 11 = .ok (.getfield 30, 3) := by decide +kernel
theorem dX3_rise_14 : decode cX3_rise 14 = .ok (.bipush 60, 2) := by decide +kernel
theorem dX3_rise_16 : decode cX3_rise 16 = .ok (.iload_n 1, 1) := by decide +kernel
theorem dX3_rise_17 : decode cX3_rise 17 = .ok (.imul, 1) := by decide +kernel
theorem dX3_rise_18 : decode cX3_rise 18 = .ok (.iload_n 2, 1) := by decide +kernel
theorem dX3_rise_19 : decode cX3_rise 19 = .ok (.imul, 1) := by decide +kernel
theorem dX3_rise_20 : decode cX3_rise 20 = .ok (.iadd, 1) := by decide +kernel
theorem dX3_rise_21 : decode cX3_rise 21 = .ok (.invokestatic 72, 3) := by decide +kernel
theorem dX3_rise_24 : decode cX3_rise 24 = .ok (.putfield 30, 3) := by decide +kernel
theorem dX3_rise_27 : decode cX3_rise 27 = .ok (.aload_n 0, 1) := by decide +kernel
theorem dX3_rise_28 : decode cX3_rise 28 = .ok (.dup, 1) := by decide +kernel
theorem dX3_rise_29 : decode cX3_rise 29 = .ok (.getfield 33, 3) := by decide +kernel
theorem dX3_rise_32 : decode cX3_rise 32 = .ok (.iload_n 2, 1) := by decide +kernel
theorem dX3_rise_33 : decode cX3_rise 33 = .ok (.iadd, 1) := by decide +kernel
theorem dX3_rise_34 : decode cX3_rise 34 = .ok (.putfield 33, 3) := by decide +kernel
theorem dX3_rise_37 : decode cX3_rise 37 = .ok (.return_, 1) := by decide +kernel
theorem wd496 : Cond.fieldLink RX3 75 "GlidingContest$Phase" "LANDED" "LGlidingContest$Phase;" ∈ gW := gW_in 496 (by decide +kernel) (by decide +kernel)
theorem dX3_phaseSign_0 : decode cX3_phaseSign 0 = .ok (.aload_n 0, 1) := by decide +kernel
theorem dX3_phaseSign_1 : decode cX3_phaseSign 1 = .ok (.getfield 21, 3) := by decide +kernel
theorem dX3_phaseSign_4 : decode cX3_phaseSign 4 = .ok (.getstatic 49, 3) := by decide +kernel
theorem dX3_phaseSign_7 : decode cX3_phaseSign 7 = .ok (.if_acmp .ne 6, 3) := by decide +kernel
theorem dX3_phaseSign_10 : decode cX3_phaseSign 10 = .ok (.bipush 102, 2) := by decide +kernel
theorem dX3_phaseSign_12 : decode cX3_phaseSign 12 = .ok (.ireturn, 1) := by decide +kernel
theorem dX3_phaseSign_13 : decode cX3_phaseSign 13 = .ok (.aload_n 0, 1) := by decide +kernel
theorem dX3_phaseSign_14 : decode cX3_phaseSign 14 = .ok (.getfield 21, 3) := by decide +kernel
theorem dX3_phaseSign_17 : decode cX3_phaseSign 17 = .ok (.getstatic 75, 3) := by decide +kernel
theorem dX3_phaseSign_20 : decode cX3_phaseSign 20 = .ok (.if_acmp .ne 8, 3) := by decide +kernel
theorem dX3_phaseSign_23 : decode cX3_phaseSign 23 = .ok (.bipush 108, 2) := by decide +kernel
theorem dX3_phaseSign_25 : decode cX3_phaseSign 25 = .ok (.goto 5, 3) := by decide +kernel
theorem dX3_phaseSign_28 : decode cX3_phaseSign 28 = .ok (.bipush 33, 2) := by decide +kernel
theorem dX3_phaseSign_30 : decode cX3_phaseSign 30 = .ok (.ireturn, 1) := by decide +kernel
theorem dX9_isCoordinate_0 : decode cX9_isCoordinate 0 = .ok (.iload_n 0, 1) := by decide +kernel
theorem dX9_isCoordinate_1 : decode cX9_isCoordinate 1 = .ok (.ifCond .lt 13, 3) := by decide +kernel
theorem dX9_isCoordinate_4 : decode cX9_isCoordinate 4 = .ok (.iload_n 0, 1) := by decide +kernel
theorem dX9_isCoordinate_5 : decode cX9_isCoordinate 5 = .ok (.bipush 60, 2) := by decide +kernel
theorem dX9_isCoordinate_7 : decode cX9_isCoordinate 7 = .ok (.if_icmp .gt 7, 3) := by decide +kernel
theorem dX9_isCoordinate_10 : decode cX9_isCoordinate 10 = .ok (.iconst 1, 1) := by decide +kernel
theorem dX9_isCoordinate_11 : decode cX9_isCoordinate 11 = .ok (.goto 4, 3) := by decide +kernel
theorem dX9_isCoordinate_14 : decode cX9_isCoordinate 14 = .ok (.iconst 0, 1) := by decide +kernel
theorem dX9_isCoordinate_15 : decode cX9_isCoordinate 15 = .ok (.ireturn, 1) := by decide +kernel
