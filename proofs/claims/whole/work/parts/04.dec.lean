theorem dX0_init_0 : decode cX0_init 0 = .ok (.aload_n 0, 1) := by decide +kernel
theorem dX0_init_1 : decode cX0_init 1 = .ok (.invokespecial 3, 3) := by decide +kernel
theorem dX0_init_4 : decode cX0_init 4 = .ok (.aload_n 0, 1) := by decide +kernel
theorem dX0_init_5 : decode cX0_init 5 = .ok (.bipush 6, 2) := by decide +kernel
theorem dX0_init_7 : decode cX0_init 7 = .ok (.newarray .int, 2) := by decide +kernel
theorem dX0_init_9 : decode cX0_init 9 = .ok (.putfield 9, 3) := by decide +kernel
theorem dX0_init_12 : decode cX0_init 12 = .ok (.aload_n 0, 1) := by decide +kernel
theorem dX0_init_13 : decode cX0_init 13 = .ok (.bipush 6, 2) := by decide +kernel
theorem dX0_init_15 : decode cX0_init 15 = .ok (.newarray .int, 2) := by decide +kernel
theorem dX0_init_17 : decode cX0_init 17 = .ok (.putfield 15, 3) := by decide +kernel
theorem dX0_init_20 : decode cX0_init 20 = .ok (.aload_n 0, 1) := by decide +kernel
theorem dX0_init_21 : decode cX0_init 21 = .ok (.bipush 6, 2) := by decide +kernel
theorem dX0_init_23 : decode cX0_init 23 = .ok (.newarray .int, 2) := by decide +kernel
theorem dX0_init_25 : decode cX0_init 25 = .ok (.putfield 18, 3) := by decide +kernel
theorem dX0_init_28 : decode cX0_init 28 = .ok (.aload_n 0, 1) := by decide +kernel
theorem dX0_init_29 : decode cX0_init 29 = .ok (.iconst 0, 1) := by decide +kernel
theorem dX0_init_30 : decode cX0_init 30 = .ok (.putfield 21, 3) := by decide +kernel
theorem dX0_init_33 : decode cX0_init 33 = .ok (.aload_n 0, 1) := by decide +kernel
theorem dX0_init_34 : decode cX0_init 34 = .ok (.sipush 1500, 3) := by decide +kernel
theorem dX0_init_37 : decode cX0_init 37 = .ok (.putfield 25, 3) := by decide +kernel
theorem dX0_init_40 : decode cX0_init 40 = .ok (.return_, 1) := by decide +kernel
theorem dX0_copyFrom_0 : decode cX0_copyFrom 0 = .ok (.aload_n 1, 1) := by decide +kernel
theorem dX0_copyFrom_1 : decode cX0_copyFrom 1 = .ok (.getfield 9, 3) := by decide +kernel
theorem dX0_copyFrom_4 : decode cX0_copyFrom 4 = .ok (.iconst 0, 1) := by decide +kernel
theorem dX0_copyFrom_5 : decode cX0_copyFrom 5 = .ok (.aload_n 0, 1) := by decide +kernel
theorem dX0_copyFrom_6 : decode cX0_copyFrom 6 = .ok (.getfield 9, 3) := by decide +kernel
theorem dX0_copyFrom_9 : decode cX0_copyFrom 9 = .ok (.iconst 0, 1) := by decide +kernel
theorem dX0_copyFrom_10 : decode cX0_copyFrom 10 = .ok (.bipush 6, 2) := by decide +kernel
theorem dX0_copyFrom_12 : decode cX0_copyFrom 12 = .ok (.invokestatic 28, 3) := by decide +kernel
theorem dX0_copyFrom_15 : decode cX0_copyFrom 15 = .ok (.aload_n 1, 1) := by decide +kernel
theorem dX0_copyFrom_16 : decode cX0_copyFrom 16 = .ok (.getfield 15, 3) := by decide +kernel
theorem dX0_copyFrom_19 : decode cX0_copyFrom 19 = .ok (.iconst 0, 1) := by decide +kernel
theorem dX0_copyFrom_20 : decode cX0_copyFrom 20 = .ok (.aload_n 0, 1) := by decide +kernel
theorem dX0_copyFrom_21 : decode cX0_copyFrom 21 = .ok (.getfield 15, 3) := by decide +kernel
theorem dX0_copyFrom_24 : decode cX0_copyFrom 24 = .ok (.iconst 0, 1) := by decide +kernel
theorem dX0_copyFrom_25 : decode cX0_copyFrom 25 = .ok (.bipush 6, 2) := by decide +kernel
theorem dX0_copyFrom_27 : decode cX0_copyFrom 27 = .ok (.invokestatic 28, 3) := by decide +kernel
theorem dX0_copyFrom_30 : decode cX0_copyFrom 30 = .ok (.aload_n 1, 1) := by decide +kernel
theorem dX0_copyFrom_31 : decode cX0_copyFrom 31 = .ok (.getfield 18, 3) := by decide +kernel
theorem dX0_copyFrom_34 : decode cX0_copyFrom 34 = .ok (.iconst 0, 1) := by decide +kernel
theorem dX0_copyFrom_35 : decode cX0_copyFrom 35 = .ok (.aload_n 0, 1) := by decide +kernel
theorem dX0_copyFrom_36 : decode cX0_copyFrom 36 = .ok (.getfield 18, 3) := by decide +kernel
theorem dX0_copyFrom_39 : decode cX0_copyFrom 39 = .ok (.iconst 0, 1) := by decide +kernel
theorem dX0_copyFrom_40 : decode cX0_copyFrom 40 = .ok (.bipush 6, 2) := by decide +kernel
theorem dX0_copyFrom_42 : decode cX0_copyFrom 42 = .ok (.invokestatic 28, 3) := by decide +kernel
theorem dX0_copyFrom_45 : decode cX0_copyFrom 45 = .ok (.aload_n 0, 1) := by decide +kernel
theorem dX0_copyFrom_46 : decode cX0_copyFrom 46 = .ok (.aload_n 1, 1) := by decide +kernel
theorem dX0_copyFrom_47 : decode cX0_copyFrom 47 = .ok (.getfield 21, 3) := by decide +kernel
theorem dX0_copyFrom_50 : decode cX0_copyFrom 50 = .ok (.putfield 21, 3) := by decide +kernel
theorem dX0_copyFrom_53 : decode cX0_copyFrom 53 = .ok (.aload_n 0, 1) := by decide +kernel
theorem dX0_copyFrom_54 : decode cX0_copyFrom 54 = .ok (.aload_n 1, 1) := by decide +kernel
theorem dX0_copyFrom_55 : decode cX0_copyFrom 55 = .ok (.getfield 25, 3) := by decide +kernel
theorem dX0_copyFrom_58 : decode cX0_copyFrom 58 = .ok (.putfield 25, 3) := by decide +kernel
theorem dX0_copyFrom_61 : decode cX0_copyFrom 61 = .ok (.return_, 1) := by decide +kernel
theorem dX0_putThermal_0 : decode cX0_putThermal 0 = .ok (.aload_n 0, 1) := by decide +kernel
theorem dX0_putThermal_1 : decode cX0_putThermal 1 = .ok (.getfield 21, 3) := by decide +kernel
theorem dX0_putThermal_4 : decode cX0_putThermal 4 = .ok (.bipush 6, 2) := by decide +kernel
theorem dX0_putThermal_6 : decode cX0_putThermal 6 = .ok (.if_icmp .lt 8, 3) := by decide +kernel
theorem dX0_putThermal_9 : decode cX0_putThermal 9 = .ok (.aload_n 0, 1) := by decide +kernel
theorem dX0_putThermal_10 : decode cX0_putThermal 10 = .ok (.getfield 21, 3) := by decide +kernel
theorem dX0_putThermal_13 : decode cX0_putThermal 13 = .ok (.ireturn, 1) := by decide +kernel
theorem dX0_putThermal_14 : decode cX0_putThermal 14 = .ok (.aload_n 0, 1) := by decide +kernel
theorem dX0_putThermal_15 : decode cX0_putThermal 15 = .ok (.getfield 9, 3) := by decide +kernel
theorem dX0_putThermal_18 : decode cX0_putThermal 18 = .ok (.aload_n 0, 1) := by decide +kernel
theorem dX0_putThermal_19 : decode cX0_putThermal 19 = .ok (.getfield 21, 3) := by decide +kernel
theorem dX0_putThermal_22 : decode cX0_putThermal 22 = .ok (.iload_n 1, 1) := by decide +kernel
theorem dX0_putThermal_23 : decode cX0_putThermal 23 = .ok (.iastore, 1) := by decide +kernel
theorem dX0_putThermal_24 : decode cX0_putThermal 24 = .ok (.aload_n 0, 1) := by decide +kernel
theorem dX0_putThermal_25 : decode cX0_putThermal 25 = .ok (.getfield 15, 3) := by decide +kernel
theorem dX0_putThermal_28 : decode cX0_putThermal 28 = .ok (.aload_n 0, 1) := by decide +kernel
theorem dX0_putThermal_29 : decode cX0_putThermal 29 = .ok (.getfield 21, 3) := by decide +kernel
theorem dX0_putThermal_32 : decode cX0_putThermal 32 = .ok (.iload_n 2, 1) := by decide +kernel
theorem dX0_putThermal_33 : decode cX0_putThermal 33 = .ok (.iastore, 1) := by decide +kernel
theorem dX0_putThermal_34 : decode cX0_putThermal 34 = .ok (.aload_n 0, 1) := by decide +kernel
theorem dX0_putThermal_35 : decode cX0_putThermal 35 = .ok (.getfield 18, 3) := by decide +kernel
theorem dX0_putThermal_38 : decode cX0_putThermal 38 = .ok (.aload_n 0, 1) := by decide +kernel
theorem dX0_putThermal_39 : decode cX0_putThermal 39 = .ok (.getfield 21, 3) := by decide +kernel
theorem dX0_putThermal_42 : decode cX0_putThermal 42 = .ok (.iload_n 3, 1) := by decide +kernel
theorem dX0_putThermal_43 : decode cX0_putThermal 43 = .ok (.iastore, 1) := by decide +kernel
theorem dX0_putThermal_44 : decode cX0_putThermal 44 = .ok (.aload_n 0, 1) := by decide +kernel
theorem dX0_putThermal_45 : decode cX0_putThermal 45 = .ok (.dup, 1) := by decide +kernel
theorem dX0_putThermal_46 : decode cX0_putThermal 46 = .ok (.getfield 21, 3) := by decide +kernel
theorem dX0_putThermal_49 : decode cX0_putThermal 49 = .ok (.iconst 1, 1) := by decide +kernel
theorem dX0_putThermal_50 : decode cX0_putThermal 50 = .ok (.iadd, 1) := by decide +kernel
theorem dX0_putThermal_51 : decode cX0_putThermal 51 = .ok (.putfield 21, 3) := by decide +kernel
theorem dX0_putThermal_54 : decode cX0_putThermal 54 = .ok (.aload_n 0, 1) := by decide +kernel
theorem dX0_putThermal_55 : decode cX0_putThermal 55 = .ok (.getfield 21, 3) := by decide +kernel
theorem dX0_putThermal_58 : decode cX0_putThermal 58 = .ok (.ireturn, 1) := by decide +kernel
theorem dX0_strongestAt_0 : decode cX0_strongestAt 0 = .ok (.iconst 0, 1) := by decide +kernel
theorem dX0_strongestAt_1 : decode cX0_strongestAt 1 = .ok (.istore_n 3, 1) := by decide +kernel
theorem dX0_strongestAt_2 : decode cX0_strongestAt 2 = .ok (.iconst 0, 1) := by decide +kernel
theorem dX0_strongestAt_3 : decode cX0_strongestAt 3 = .ok (.istore 4, 2) := by decide +kernel
theorem dX0_strongestAt_5 : decode cX0_strongestAt 5 = .ok (.iload 4, 2) := by decide +kernel
theorem dX0_strongestAt_7 : decode cX0_strongestAt 7 = .ok (.aload_n 0, 1) := by decide +kernel
theorem dX0_strongestAt_8 : decode cX0_strongestAt 8 = .ok (.getfield 21, 3) := by decide +kernel
theorem dX0_strongestAt_11 : decode cX0_strongestAt 11 = .ok (.if_icmp .ge 61, 3) := by decide +kernel
theorem dX0_strongestAt_14 : decode cX0_strongestAt 14 = .ok (.aload_n 0, 1) := by decide +kernel
theorem dX0_strongestAt_15 : decode cX0_strongestAt 15 = .ok (.getfield 9, 3) := by decide +kernel
theorem dX0_strongestAt_18 : decode cX0_strongestAt 18 = .ok (.iload 4, 2) := by decide +kernel
theorem dX0_strongestAt_20 : decode cX0_strongestAt 20 = .ok (.iaload, 1) := by decide +kernel
theorem dX0_strongestAt_21 : decode cX0_strongestAt 21 = .ok (.iload_n 1, 1) := by decide +kernel
theorem dX0_strongestAt_22 : decode cX0_strongestAt 22 = .ok (.isub, 1) := by decide +kernel
theorem dX0_strongestAt_23 : decode cX0_strongestAt 23 = .ok (.invokestatic 34, 3) := by decide +kernel
theorem dX0_strongestAt_26 : decode cX0_strongestAt 26 = .ok (.aload_n 0, 1) := by decide +kernel
theorem dX0_strongestAt_27 : decode cX0_strongestAt 27 = .ok (.getfield 15, 3) := by decide +kernel
theorem dX0_strongestAt_30 : decode cX0_strongestAt 30 = .ok (.iload 4, 2) := by decide +kernel
theorem dX0_strongestAt_32 : decode cX0_strongestAt 32 = .ok (.iaload, 1) := by decide +kernel
theorem dX0_strongestAt_33 : decode cX0_strongestAt 33 = .ok (.iload_n 2, 1) := by decide +kernel
theorem dX0_strongestAt_34 : decode cX0_strongestAt 34 = .ok (.isub, 1) := by decide +kernel
theorem dX0_strongestAt_35 : decode cX0_strongestAt 35 = .ok (.invokestatic 34, 3) := by decide +kernel
theorem dX0_strongestAt_38 : decode cX0_strongestAt 38 = .ok (.iadd, 1) := by decide +kernel
theorem dX0_strongestAt_39 : decode cX0_strongestAt 39 = .ok (.istore 5, 2) := by decide +kernel
theorem dX0_strongestAt_41 : decode cX0_strongestAt 41 = .ok (.iload 5, 2) := by decide +kernel
theorem dX0_strongestAt_43 : decode cX0_strongestAt 43 = .ok (.iconst 2, 1) := by decide +kernel
theorem dX0_strongestAt_44 : decode cX0_strongestAt 44 = .ok (.if_icmp .gt 22, 3) := by decide +kernel
theorem dX0_strongestAt_47 : decode cX0_strongestAt 47 = .ok (.aload_n 0, 1) := by decide +kernel
theorem dX0_strongestAt_48 : decode cX0_strongestAt 48 = .ok (.getfield 18, 3) := by decide +kernel
theorem dX0_strongestAt_51 : decode cX0_strongestAt 51 = .ok (.iload 4, 2) := by decide +kernel
theorem dX0_strongestAt_53 : decode cX0_strongestAt 53 = .ok (.iaload, 1) := by decide +kernel
theorem dX0_strongestAt_54 : decode cX0_strongestAt 54 = .ok (.iload_n 3, 1) := by decide +kernel
theorem dX0_strongestAt_55 : decode cX0_strongestAt 55 = .ok (.if_icmp .le 11, 3) := by decide +kernel
theorem dX0_strongestAt_58 : decode cX0_strongestAt 58 = .ok (.aload_n 0, 1) := by decide +kernel
theorem dX0_strongestAt_59 : decode cX0_strongestAt 59 = .ok (.getfield 18, 3) := by decide +kernel
theorem dX0_strongestAt_62 : decode cX0_strongestAt 62 = .ok (.iload 4, 2) := by decide +kernel
theorem dX0_strongestAt_64 : decode cX0_strongestAt 64 = .ok (.iaload, 1) := by decide +kernel
theorem dX0_strongestAt_65 : decode cX0_strongestAt 65 = .ok (.istore_n 3, 1) := by decide +kernel
theorem dX0_strongestAt_66 : decode cX0_strongestAt 66 = .ok (.iinc 4 1, 3) := by decide +kernel
theorem dX0_strongestAt_69 : decode cX0_strongestAt 69 = .ok (.goto (-64), 3) := by decide +kernel
theorem dX0_strongestAt_72 : decode cX0_strongestAt 72 = .ok (.iload_n 3, 1) := by decide +kernel
theorem dX0_strongestAt_73 : decode cX0_strongestAt 73 = .ok (.ireturn, 1) := by decide +kernel
theorem dX1_init_0 : decode cX1_init 0 = .ok (.aload_n 0, 1) := by decide +kernel
theorem dX1_init_1 : decode cX1_init 1 = .ok (.invokespecial 3, 3) := by decide +kernel
theorem dX1_init_4 : decode cX1_init 4 = .ok (.aload_n 0, 1) := by decide +kernel
theorem dX1_init_5 : decode cX1_init 5 = .ok (.iconst 3, 1) := by decide +kernel
theorem dX1_init_6 : decode cX1_init 6 = .ok (.newarray .int, 2) := by decide +kernel
theorem dX1_init_8 : decode cX1_init 8 = .ok (.putfield 9, 3) := by decide +kernel
theorem dX1_init_11 : decode cX1_init 11 = .ok (.aload_n 0, 1) := by decide +kernel
theorem dX1_init_12 : decode cX1_init 12 = .ok (.iconst 3, 1) := by decide +kernel
theorem dX1_init_13 : decode cX1_init 13 = .ok (.newarray .int, 2) := by decide +kernel
theorem dX1_init_15 : decode cX1_init 15 = .ok (.putfield 15, 3) := by decide +kernel
theorem dX1_init_18 : decode cX1_init 18 = .ok (.aload_n 0, 1) := by decide +kernel
theorem dX1_init_19 : decode cX1_init 19 = .ok (.iconst 3, 1) := by decide +kernel
theorem dX1_init_20 : decode cX1_init 20 = .ok (.newarray .int, 2) := by decide +kernel
theorem dX1_init_22 : decode cX1_init 22 = .ok (.putfield 18, 3) := by decide +kernel
theorem dX1_init_25 : decode cX1_init 25 = .ok (.aload_n 0, 1) := by decide +kernel
theorem dX1_init_26 : decode cX1_init 26 = .ok (.iconst 3, 1) := by decide +kernel
theorem dX1_init_27 : decode cX1_init 27 = .ok (.newarray .int, 2) := by decide +kernel
theorem dX1_init_29 : decode cX1_init 29 = .ok (.putfield 21, 3) := by decide +kernel
theorem dX1_init_32 : decode cX1_init 32 = .ok (.aload_n 0, 1) := by decide +kernel
theorem dX1_init_33 : decode cX1_init 33 = .ok (.iconst 0, 1) := by decide +kernel
theorem dX1_init_34 : decode cX1_init 34 = .ok (.putfield 24, 3) := by decide +kernel
theorem dX1_init_37 : decode cX1_init 37 = .ok (.aload_n 0, 1) := by decide +kernel
theorem dX1_init_38 : decode cX1_init 38 = .ok (.iconst 3, 1) := by decide +kernel
theorem dX1_init_39 : decode cX1_init 39 = .ok (.newarray .int, 2) := by decide +kernel
theorem dX1_init_41 : decode cX1_init 41 = .ok (.putfield 28, 3) := by decide +kernel
theorem dX1_init_44 : decode cX1_init 44 = .ok (.aload_n 0, 1) := by decide +kernel
theorem dX1_init_45 : decode cX1_init 45 = .ok (.iconst 3, 1) := by decide +kernel
theorem dX1_init_46 : decode cX1_init 46 = .ok (.newarray .int, 2) := by decide +kernel
theorem dX1_init_48 : decode cX1_init 48 = .ok (.putfield 31, 3) := by decide +kernel
theorem dX1_init_51 : decode cX1_init 51 = .ok (.return_, 1) := by decide +kernel
theorem dX1_copyFrom_0 : decode cX1_copyFrom 0 = .ok (.aload_n 1, 1) := by decide +kernel
theorem dX1_copyFrom_1 : decode cX1_copyFrom 1 = .ok (.getfield 9, 3) := by decide +kernel
theorem dX1_copyFrom_4 : decode cX1_copyFrom 4 = .ok (.iconst 0, 1) := by decide +kernel
theorem dX1_copyFrom_5 : decode cX1_copyFrom 5 = .ok (.aload_n 0, 1) := by decide +kernel
theorem dX1_copyFrom_6 : decode cX1_copyFrom 6 = .ok (.getfield 9, 3) := by decide +kernel
theorem dX1_copyFrom_9 : decode cX1_copyFrom 9 = .ok (.iconst 0, 1) := by decide +kernel
theorem dX1_copyFrom_10 : decode cX1_copyFrom 10 = .ok (.iconst 3, 1) := by decide +kernel
theorem dX1_copyFrom_11 : decode cX1_copyFrom 11 = .ok (.invokestatic 34, 3) := by decide +kernel
theorem dX1_copyFrom_14 : decode cX1_copyFrom 14 = .ok (.aload_n 1, 1) := by decide +kernel
theorem dX1_copyFrom_15 : decode cX1_copyFrom 15 = .ok (.getfield 15, 3) := by decide +kernel
theorem dX1_copyFrom_18 : decode cX1_copyFrom 18 = .ok (.iconst 0, 1) := by decide +kernel
theorem dX1_copyFrom_19 : decode cX1_copyFrom 19 = .ok (.aload_n 0, 1) := by decide +kernel
theorem dX1_copyFrom_20 : decode cX1_copyFrom 20 = .ok (.getfield 15, 3) := by decide +kernel
theorem dX1_copyFrom_23 : decode cX1_copyFrom 23 = .ok (.iconst 0, 1) := by decide +kernel
theorem dX1_copyFrom_24 : decode cX1_copyFrom 24 = .ok (.iconst 3, 1) := by decide +kernel
theorem dX1_copyFrom_25 : decode cX1_copyFrom 25 = .ok (.invokestatic 34, 3) := by decide +kernel
theorem dX1_copyFrom_28 : decode cX1_copyFrom 28 = .ok (.aload_n 1, 1) := by decide +kernel
theorem dX1_copyFrom_29 : decode cX1_copyFrom 29 = .ok (.getfield 18, 3) := by decide +kernel
theorem dX1_copyFrom_32 : decode cX1_copyFrom 32 = .ok (.iconst 0, 1) := by decide +kernel
theorem dX1_copyFrom_33 : decode cX1_copyFrom 33 = .ok (.aload_n 0, 1) := by decide +kernel
theorem dX1_copyFrom_34 : decode cX1_copyFrom 34 = .ok (.getfield 18, 3) := by decide +kernel
theorem dX1_copyFrom_37 : decode cX1_copyFrom 37 = .ok (.iconst 0, 1) := by decide +kernel
theorem dX1_copyFrom_38 : decode cX1_copyFrom 38 = .ok (.iconst 3, 1) := by decide +kernel
theorem dX1_copyFrom_39 : decode cX1_copyFrom 39 = .ok (.invokestatic 34, 3) := by decide +kernel
theorem dX1_copyFrom_42 : decode cX1_copyFrom 42 = .ok (.aload_n 1, 1) := by decide +kernel
theorem dX1_copyFrom_43 : decode cX1_copyFrom 43 = .ok (.getfield 21, 3) := by decide +kernel
theorem dX1_copyFrom_46 : decode cX1_copyFrom 46 = .ok (.iconst 0, 1) := by decide +kernel
theorem dX1_copyFrom_47 : decode cX1_copyFrom 47 = .ok (.aload_n 0, 1) := by decide +kernel
theorem dX1_copyFrom_48 : decode cX1_copyFrom 48 = .ok (.getfield 21, 3) := by decide +kernel
theorem dX1_copyFrom_51 : decode cX1_copyFrom 51 = .ok (.iconst 0, 1) := by decide +kernel
theorem dX1_copyFrom_52 : decode cX1_copyFrom 52 = .ok (.iconst 3, 1) := by decide +kernel
theorem dX1_copyFrom_53 : decode cX1_copyFrom 53 = .ok (.invokestatic 34, 3) := by decide +kernel
theorem dX1_copyFrom_56 : decode cX1_copyFrom 56 = .ok (.aload_n 0, 1) := by decide +kernel
theorem dX1_copyFrom_57 : decode cX1_copyFrom 57 = .ok (.aload_n 1, 1) := by decide +kernel
theorem dX1_copyFrom_58 : decode cX1_copyFrom 58 = .ok (.getfield 24, 3) := by decide +kernel
theorem dX1_copyFrom_61 : decode cX1_copyFrom 61 = .ok (.putfield 24, 3) := by decide +kernel
theorem dX1_copyFrom_64 : decode cX1_copyFrom 64 = .ok (.return_, 1) := by decide +kernel
theorem dX1_putArea_0 : decode cX1_putArea 0 = .ok (.aload_n 0, 1) := by decide +kernel
theorem dX1_putArea_1 : decode cX1_putArea 1 = .ok (.getfield 24, 3) := by decide +kernel
theorem dX1_putArea_4 : decode cX1_putArea 4 = .ok (.iconst 3, 1) := by decide +kernel
theorem dX1_putArea_5 : decode cX1_putArea 5 = .ok (.if_icmp .lt 8, 3) := by decide +kernel
theorem dX1_putArea_8 : decode cX1_putArea 8 = .ok (.aload_n 0, 1) := by decide +kernel
theorem dX1_putArea_9 : decode cX1_putArea 9 = .ok (.getfield 24, 3) := by decide +kernel
theorem dX1_putArea_12 : decode cX1_putArea 12 = .ok (.ireturn, 1) := by decide +kernel
theorem dX1_putArea_13 : decode cX1_putArea 13 = .ok (.aload_n 0, 1) := by decide +kernel
theorem dX1_putArea_14 : decode cX1_putArea 14 = .ok (.getfield 9, 3) := by decide +kernel
theorem dX1_putArea_17 : decode cX1_putArea 17 = .ok (.aload_n 0, 1) := by decide +kernel
theorem dX1_putArea_18 : decode cX1_putArea 18 = .ok (.getfield 24, 3) := by decide +kernel
theorem dX1_putArea_21 : decode cX1_putArea 21 = .ok (.iload_n 1, 1) := by decide +kernel
theorem dX1_putArea_22 : decode cX1_putArea 22 = .ok (.iastore, 1) := by decide +kernel
theorem dX1_putArea_23 : decode cX1_putArea 23 = .ok (.aload_n 0, 1) := by decide +kernel
theorem dX1_putArea_24 : decode cX1_putArea 24 = .ok (.getfield 15, 3) := by decide +kernel
theorem dX1_putArea_27 : decode cX1_putArea 27 = .ok (.aload_n 0, 1) := by decide +kernel
theorem dX1_putArea_28 : decode cX1_putArea 28 = .ok (.getfield 24, 3) := by decide +kernel
theorem dX1_putArea_31 : decode cX1_putArea 31 = .ok (.iload_n 2, 1) := by decide +kernel
theorem dX1_putArea_32 : decode cX1_putArea 32 = .ok (.iastore, 1) := by decide +kernel
theorem dX1_putArea_33 : decode cX1_putArea 33 = .ok (.aload_n 0, 1) := by decide +kernel
theorem dX1_putArea_34 : decode cX1_putArea 34 = .ok (.getfield 18, 3) := by decide +kernel
theorem dX1_putArea_37 : decode cX1_putArea 37 = .ok (.aload_n 0, 1) := by decide +kernel
theorem dX1_putArea_38 : decode cX1_putArea 38 = .ok (.getfield 24, 3) := by decide +kernel
theorem dX1_putArea_41 : decode cX1_putArea 41 = .ok (.iload_n 3, 1) := by decide +kernel
theorem dX1_putArea_42 : decode cX1_putArea 42 = .ok (.iastore, 1) := by decide +kernel
theorem dX1_putArea_43 : decode cX1_putArea 43 = .ok (.aload_n 0, 1) := by decide +kernel
theorem dX1_putArea_44 : decode cX1_putArea 44 = .ok (.getfield 21, 3) := by decide +kernel
theorem dX1_putArea_47 : decode cX1_putArea 47 = .ok (.aload_n 0, 1) := by decide +kernel
theorem dX1_putArea_48 : decode cX1_putArea 48 = .ok (.getfield 24, 3) := by decide +kernel
theorem dX1_putArea_51 : decode cX1_putArea 51 = .ok (.iload 4, 2) := by decide +kernel
theorem dX1_putArea_53 : decode cX1_putArea 53 = .ok (.iastore, 1) := by decide +kernel
theorem dX1_putArea_54 : decode cX1_putArea 54 = .ok (.aload_n 0, 1) := by decide +kernel
theorem dX1_putArea_55 : decode cX1_putArea 55 = .ok (.dup, 1) := by decide +kernel
theorem dX1_putArea_56 : decode cX1_putArea 56 = .ok (.getfield 24, 3) := by decide +kernel
theorem dX1_putArea_59 : decode cX1_putArea 59 = .ok (.iconst 1, 1) := by decide +kernel
theorem dX1_putArea_60 : decode cX1_putArea 60 = .ok (.iadd, 1) := by decide +kernel
theorem dX1_putArea_61 : decode cX1_putArea 61 = .ok (.putfield 24, 3) := by decide +kernel
theorem dX1_putArea_64 : decode cX1_putArea 64 = .ok (.aload_n 0, 1) := by decide +kernel
theorem dX1_putArea_65 : decode cX1_putArea 65 = .ok (.getfield 24, 3) := by decide +kernel
theorem dX1_putArea_68 : decode cX1_putArea 68 = .ok (.ireturn, 1) := by decide +kernel
theorem dX1_covers_0 : decode cX1_covers 0 = .ok (.iconst 0, 1) := by decide +kernel
theorem dX1_covers_1 : decode cX1_covers 1 = .ok (.istore_n 3, 1) := by decide +kernel
theorem dX1_covers_2 : decode cX1_covers 2 = .ok (.iload_n 3, 1) := by decide +kernel
theorem dX1_covers_3 : decode cX1_covers 3 = .ok (.aload_n 0, 1) := by decide +kernel
theorem dX1_covers_4 : decode cX1_covers 4 = .ok (.getfield 24, 3) := by decide +kernel
theorem dX1_covers_7 : decode cX1_covers 7 = .ok (.if_icmp .ge 51, 3) := by decide +kernel
theorem dX1_covers_10 : decode cX1_covers 10 = .ok (.aload_n 0, 1) := by decide +kernel
theorem dX1_covers_11 : decode cX1_covers 11 = .ok (.getfield 9, 3) := by decide +kernel
theorem dX1_covers_14 : decode cX1_covers 14 = .ok (.iload_n 3, 1) := by decide +kernel
theorem dX1_covers_15 : decode cX1_covers 15 = .ok (.iaload, 1) := by decide +kernel
theorem dX1_covers_16 : decode cX1_covers 16 = .ok (.iload_n 1, 1) := by decide +kernel
theorem dX1_covers_17 : decode cX1_covers 17 = .ok (.if_icmp .gt 35, 3) := by decide +kernel
theorem dX1_covers_20 : decode cX1_covers 20 = .ok (.iload_n 1, 1) := by decide +kernel
theorem dX1_covers_21 : decode cX1_covers 21 = .ok (.aload_n 0, 1) := by decide +kernel
theorem dX1_covers_22 : decode cX1_covers 22 = .ok (.getfield 18, 3) := by decide +kernel
theorem dX1_covers_25 : decode cX1_covers 25 = .ok (.iload_n 3, 1) := by decide +kernel
theorem dX1_covers_26 : decode cX1_covers 26 = .ok (.iaload, 1) := by decide +kernel
theorem dX1_covers_27 : decode cX1_covers 27 = .ok (.if_icmp .gt 25, 3) := by decide +kernel
theorem dX1_covers_30 : decode cX1_covers 30 = .ok (.aload_n 0, 1) := by decide +kernel
theorem dX1_covers_31 : decode cX1_covers 31 = .ok (.getfield 15, 3) := by decide +kernel
theorem dX1_covers_34 : decode cX1_covers 34 = .ok (.iload_n 3, 1) := by decide +kernel
theorem dX1_covers_35 : decode cX1_covers 35 = .ok (.iaload, 1) := by decide +kernel
theorem dX1_covers_36 : decode cX1_covers 36 = .ok (.iload_n 2, 1) := by decide +kernel
theorem dX1_covers_37 : decode cX1_covers 37 = .ok (.if_icmp .gt 15, 3) := by decide +kernel
theorem dX1_covers_40 : decode cX1_covers 40 = .ok (.iload_n 2, 1) := by decide +kernel
theorem dX1_covers_41 : decode cX1_covers 41 = .ok (.aload_n 0, 1) := by decide +kernel
theorem dX1_covers_42 : decode cX1_covers 42 = .ok (.getfield 21, 3) := by decide +kernel
theorem dX1_covers_45 : decode cX1_covers 45 = .ok (.iload_n 3, 1) := by decide +kernel
theorem dX1_covers_46 : decode cX1_covers 46 = .ok (.iaload, 1) := by decide +kernel
theorem dX1_covers_47 : decode cX1_covers 47 = .ok (.if_icmp .gt 5, 3) := by decide +kernel
theorem dX1_covers_50 : decode cX1_covers 50 = .ok (.iconst 1, 1) := by decide +kernel
theorem dX1_covers_51 : decode cX1_covers 51 = .ok (.ireturn, 1) := by decide +kernel
theorem dX1_covers_52 : decode cX1_covers 52 = .ok (.iinc 3 1, 3) := by decide +kernel
theorem dX1_covers_55 : decode cX1_covers 55 = .ok (.goto (-53), 3) := by decide +kernel
theorem dX1_covers_58 : decode cX1_covers 58 = .ok (.iconst 0, 1) := by decide +kernel
theorem dX1_covers_59 : decode cX1_covers 59 = .ok (.ireturn, 1) := by decide +kernel
theorem dX1_countByPositions_0 : decode cX1_countByPositions 0 = .ok (.iconst 0, 1) := by decide +kernel
theorem dX1_countByPositions_1 : decode cX1_countByPositions 1 = .ok (.istore_n 2, 1) := by decide +kernel
theorem dX1_countByPositions_2 : decode cX1_countByPositions 2 = .ok (.iconst 0, 1) := by decide +kernel
theorem dX1_countByPositions_3 : decode cX1_countByPositions 3 = .ok (.istore_n 3, 1) := by decide +kernel
theorem dX1_countByPositions_4 : decode cX1_countByPositions 4 = .ok (.iload_n 3, 1) := by decide +kernel
theorem dX1_countByPositions_5 : decode cX1_countByPositions 5 = .ok (.bipush 60, 2) := by decide +kernel
theorem dX1_countByPositions_7 : decode cX1_countByPositions 7 = .ok (.if_icmp .gt 21, 3) := by decide +kernel
theorem dX1_countByPositions_10 : decode cX1_countByPositions 10 = .ok (.aload_n 0, 1) := by decide +kernel
theorem dX1_countByPositions_11 : decode cX1_countByPositions 11 = .ok (.iload_n 3, 1) := by decide +kernel
theorem dX1_countByPositions_12 : decode cX1_countByPositions 12 = .ok (.iload_n 1, 1) := by decide +kernel
theorem dX1_countByPositions_13 : decode cX1_countByPositions 13 = .ok (.invokevirtual 40, 3) := by decide +kernel
theorem dX1_countByPositions_16 : decode cX1_countByPositions 16 = .ok (.ifCond .eq 6, 3) := by decide +kernel
theorem dX1_countByPositions_19 : decode cX1_countByPositions 19 = .ok (.iinc 2 1, 3) := by decide +kernel
theorem dX1_countByPositions_22 : decode cX1_countByPositions 22 = .ok (.iinc 3 1, 3) := by decide +kernel
theorem dX1_countByPositions_25 : decode cX1_countByPositions 25 = .ok (.goto (-21), 3) := by decide +kernel
theorem dX1_countByPositions_28 : decode cX1_countByPositions 28 = .ok (.iload_n 2, 1) := by decide +kernel
theorem dX1_countByPositions_29 : decode cX1_countByPositions 29 = .ok (.ireturn, 1) := by decide +kernel
theorem dX1_countByRanges_0 : decode cX1_countByRanges 0 = .ok (.aload_n 0, 1) := by decide +kernel
theorem dX1_countByRanges_1 : decode cX1_countByRanges 1 = .ok (.iload_n 1, 1) := by decide +kernel
theorem dX1_countByRanges_2 : decode cX1_countByRanges 2 = .ok (.invokevirtual 44, 3) := by decide +kernel
theorem dX1_countByRanges_5 : decode cX1_countByRanges 5 = .ok (.istore_n 2, 1) := by decide +kernel
theorem dX1_countByRanges_6 : decode cX1_countByRanges 6 = .ok (.iconst 0, 1) := by decide +kernel
theorem dX1_countByRanges_7 : decode cX1_countByRanges 7 = .ok (.istore_n 3, 1) := by decide +kernel
theorem dX1_countByRanges_8 : decode cX1_countByRanges 8 = .ok (.iconst (-1), 1) := by decide +kernel
theorem dX1_countByRanges_9 : decode cX1_countByRanges 9 = .ok (.istore 4, 2) := by decide +kernel
theorem dX1_countByRanges_11 : decode cX1_countByRanges 11 = .ok (.iconst 0, 1) := by decide +kernel
theorem dX1_countByRanges_12 : decode cX1_countByRanges 12 = .ok (.istore 5, 2) := by decide +kernel
theorem dX1_countByRanges_14 : decode cX1_countByRanges 14 = .ok (.iload 5, 2) := by decide +kernel
theorem dX1_countByRanges_16 : decode cX1_countByRanges 16 = .ok (.iload_n 2, 1) := by decide +kernel
theorem dX1_countByRanges_17 : decode cX1_countByRanges 17 = .ok (.if_icmp .ge 61, 3) := by decide +kernel
theorem dX1_countByRanges_20 : decode cX1_countByRanges 20 = .ok (.aload_n 0, 1) := by decide +kernel
theorem dX1_countByRanges_21 : decode cX1_countByRanges 21 = .ok (.getfield 28, 3) := by decide +kernel
theorem dX1_countByRanges_24 : decode cX1_countByRanges 24 = .ok (.iload 5, 2) := by decide +kernel
theorem dX1_countByRanges_26 : decode cX1_countByRanges 26 = .ok (.iaload, 1) := by decide +kernel
theorem dX1_countByRanges_27 : decode cX1_countByRanges 27 = .ok (.iload 4, 2) := by decide +kernel
theorem dX1_countByRanges_29 : decode cX1_countByRanges 29 = .ok (.iconst 1, 1) := by decide +kernel
theorem dX1_countByRanges_30 : decode cX1_countByRanges 30 = .ok (.iadd, 1) := by decide +kernel
theorem dX1_countByRanges_31 : decode cX1_countByRanges 31 = .ok (.invokestatic 48, 3) := by decide +kernel
theorem dX1_countByRanges_34 : decode cX1_countByRanges 34 = .ok (.istore 6, 2) := by decide +kernel
theorem dX1_countByRanges_36 : decode cX1_countByRanges 36 = .ok (.iload 6, 2) := by decide +kernel
theorem dX1_countByRanges_38 : decode cX1_countByRanges 38 = .ok (.aload_n 0, 1) := by decide +kernel
theorem dX1_countByRanges_39 : decode cX1_countByRanges 39 = .ok (.getfield 31, 3) := by decide +kernel
theorem dX1_countByRanges_42 : decode cX1_countByRanges 42 = .ok (.iload 5, 2) := by decide +kernel
theorem dX1_countByRanges_44 : decode cX1_countByRanges 44 = .ok (.iaload, 1) := by decide +kernel
theorem dX1_countByRanges_45 : decode cX1_countByRanges 45 = .ok (.if_icmp .gt 27, 3) := by decide +kernel
theorem dX1_countByRanges_48 : decode cX1_countByRanges 48 = .ok (.iload_n 3, 1) := by decide +kernel
theorem dX1_countByRanges_49 : decode cX1_countByRanges 49 = .ok (.aload_n 0, 1) := by decide +kernel
theorem dX1_countByRanges_50 : decode cX1_countByRanges 50 = .ok (.getfield 31, 3) := by decide +kernel
theorem dX1_countByRanges_53 : decode cX1_countByRanges 53 = .ok (.iload 5, 2) := by decide +kernel
theorem dX1_countByRanges_55 : decode cX1_countByRanges 55 = .ok (.iaload, 1) := by decide +kernel
theorem dX1_countByRanges_56 : decode cX1_countByRanges 56 = .ok (.iload 6, 2) := by decide +kernel
theorem dX1_countByRanges_58 : decode cX1_countByRanges 58 = .ok (.isub, 1) := by decide +kernel
theorem dX1_countByRanges_59 : decode cX1_countByRanges 59 = .ok (.iconst 1, 1) := by decide +kernel
theorem dX1_countByRanges_60 : decode cX1_countByRanges 60 = .ok (.iadd, 1) := by decide +kernel
theorem dX1_countByRanges_61 : decode cX1_countByRanges 61 = .ok (.iadd, 1) := by decide +kernel
theorem dX1_countByRanges_62 : decode cX1_countByRanges 62 = .ok (.istore_n 3, 1) := by decide +kernel
theorem dX1_countByRanges_63 : decode cX1_countByRanges 63 = .ok (.aload_n 0, 1) := by decide +kernel
theorem dX1_countByRanges_64 : decode cX1_countByRanges 64 = .ok (.getfield 31, 3) := by decide +kernel
theorem dX1_countByRanges_67 : decode cX1_countByRanges 67 = .ok (.iload 5, 2) := by decide +kernel
theorem dX1_countByRanges_69 : decode cX1_countByRanges 69 = .ok (.iaload, 1) := by decide +kernel
theorem dX1_countByRanges_70 : decode cX1_countByRanges 70 = .ok (.istore 4, 2) := by decide +kernel
theorem dX1_countByRanges_72 : decode cX1_countByRanges 72 = .ok (.iinc 5 1, 3) := by decide +kernel
theorem dX1_countByRanges_75 : decode cX1_countByRanges 75 = .ok (.goto (-61), 3) := by decide +kernel
theorem dX1_countByRanges_78 : decode cX1_countByRanges 78 = .ok (.iload_n 3, 1) := by decide +kernel
theorem dX1_countByRanges_79 : decode cX1_countByRanges 79 = .ok (.ireturn, 1) := by decide +kernel
theorem dX1_sortRanges_0 : decode cX1_sortRanges 0 = .ok (.iconst 0, 1) := by decide +kernel
theorem dX1_sortRanges_1 : decode cX1_sortRanges 1 = .ok (.istore_n 2, 1) := by decide +kernel
theorem dX1_sortRanges_2 : decode cX1_sortRanges 2 = .ok (.iconst 0, 1) := by decide +kernel
theorem dX1_sortRanges_3 : decode cX1_sortRanges 3 = .ok (.istore_n 3, 1) := by decide +kernel
theorem dX1_sortRanges_4 : decode cX1_sortRanges 4 = .ok (.iload_n 3, 1) := by decide +kernel
theorem dX1_sortRanges_5 : decode cX1_sortRanges 5 = .ok (.aload_n 0, 1) := by decide +kernel
theorem dX1_sortRanges_6 : decode cX1_sortRanges 6 = .ok (.getfield 24, 3) := by decide +kernel
theorem dX1_sortRanges_9 : decode cX1_sortRanges 9 = .ok (.if_icmp .ge 49, 3) := by decide +kernel
theorem dX1_sortRanges_12 : decode cX1_sortRanges 12 = .ok (.aload_n 0, 1) := by decide +kernel
theorem dX1_sortRanges_13 : decode cX1_sortRanges 13 = .ok (.getfield 15, 3) := by decide +kernel
theorem dX1_sortRanges_16 : decode cX1_sortRanges 16 = .ok (.iload_n 3, 1) := by decide +kernel
theorem dX1_sortRanges_17 : decode cX1_sortRanges 17 = .ok (.iaload, 1) := by decide +kernel
theorem dX1_sortRanges_18 : decode cX1_sortRanges 18 = .ok (.iload_n 1, 1) := by decide +kernel
theorem dX1_sortRanges_19 : decode cX1_sortRanges 19 = .ok (.if_icmp .gt 33, 3) := by decide +kernel
theorem dX1_sortRanges_22 : decode cX1_sortRanges 22 = .ok (.iload_n 1, 1) := by decide +kernel
theorem dX1_sortRanges_23 : decode cX1_sortRanges 23 = .ok (.aload_n 0, 1) := by decide +kernel
theorem dX1_sortRanges_24 : decode cX1_sortRanges 24 = .ok (.getfield 21, 3) := by decide +kernel
theorem dX1_sortRanges_27 : decode cX1_sortRanges 27 = .ok (.iload_n 3, 1) := by decide +kernel
theorem dX1_sortRanges_28 : decode cX1_sortRanges 28 = .ok (.iaload, 1) := by decide +kernel
theorem dX1_sortRanges_29 : decode cX1_sortRanges 29 = .ok (.if_icmp .gt 23, 3) := by decide +kernel
theorem dX1_sortRanges_32 : decode cX1_sortRanges 32 = .ok (.aload_n 0, 1) := by decide +kernel
theorem dX1_sortRanges_33 : decode cX1_sortRanges 33 = .ok (.iload_n 2, 1) := by decide +kernel
theorem dX1_sortRanges_34 : decode cX1_sortRanges 34 = .ok (.aload_n 0, 1) := by decide +kernel
theorem dX1_sortRanges_35 : decode cX1_sortRanges 35 = .ok (.getfield 9, 3) := by decide +kernel
theorem dX1_sortRanges_38 : decode cX1_sortRanges 38 = .ok (.iload_n 3, 1) := by decide +kernel
theorem dX1_sortRanges_39 : decode cX1_sortRanges 39 = .ok (.iaload, 1) := by decide +kernel
theorem dX1_sortRanges_40 : decode cX1_sortRanges 40 = .ok (.aload_n 0, 1) := by decide +kernel
theorem dX1_sortRanges_41 : decode cX1_sortRanges 41 = .ok (.getfield 18, 3) := by decide +kernel
theorem dX1_sortRanges_44 : decode cX1_sortRanges 44 = .ok (.iload_n 3, 1) := by decide +kernel
theorem dX1_sortRanges_45 : decode cX1_sortRanges 45 = .ok (.iaload, 1) := by decide +kernel
theorem dX1_sortRanges_46 : decode cX1_sortRanges 46 = .ok (.invokevirtual 54, 3) := by decide +kernel
theorem dX1_sortRanges_49 : decode cX1_sortRanges 49 = .ok (.iinc 2 1, 3) := by decide +kernel
theorem dX1_sortRanges_52 : decode cX1_sortRanges 52 = .ok (.iinc 3 1, 3) := by decide +kernel
theorem dX1_sortRanges_55 : decode cX1_sortRanges 55 = .ok (.goto (-51), 3) := by decide +kernel
theorem dX1_sortRanges_58 : decode cX1_sortRanges 58 = .ok (.iload_n 2, 1) := by decide +kernel
theorem dX1_sortRanges_59 : decode cX1_sortRanges 59 = .ok (.ireturn, 1) := by decide +kernel
theorem dX1_insertRange_0 : decode cX1_insertRange 0 = .ok (.iload_n 1, 1) := by decide +kernel
theorem dX1_insertRange_1 : decode cX1_insertRange 1 = .ok (.ifCond .lt 8, 3) := by decide +kernel
theorem dX1_insertRange_4 : decode cX1_insertRange 4 = .ok (.iload_n 1, 1) := by decide +kernel
theorem dX1_insertRange_5 : decode cX1_insertRange 5 = .ok (.iconst 3, 1) := by decide +kernel
theorem dX1_insertRange_6 : decode cX1_insertRange 6 = .ok (.if_icmp .lt 4, 3) := by decide +kernel
theorem dX1_insertRange_9 : decode cX1_insertRange 9 = .ok (.return_, 1) := by decide +kernel
theorem dX1_insertRange_10 : decode cX1_insertRange 10 = .ok (.iload_n 1, 1) := by decide +kernel
theorem dX1_insertRange_11 : decode cX1_insertRange 11 = .ok (.istore 4, 2) := by decide +kernel
theorem dX1_insertRange_13 : decode cX1_insertRange 13 = .ok (.iload 4, 2) := by decide +kernel
theorem dX1_insertRange_15 : decode cX1_insertRange 15 = .ok (.ifCond .le 54, 3) := by decide +kernel
theorem dX1_insertRange_18 : decode cX1_insertRange 18 = .ok (.aload_n 0, 1) := by decide +kernel
theorem dX1_insertRange_19 : decode cX1_insertRange 19 = .ok (.getfield 28, 3) := by decide +kernel
theorem dX1_insertRange_22 : decode cX1_insertRange 22 = .ok (.iload 4, 2) := by decide +kernel
theorem dX1_insertRange_24 : decode cX1_insertRange 24 = .ok (.iconst 1, 1) := by decide +kernel
theorem dX1_insertRange_25 : decode cX1_insertRange 25 = .ok (.isub, 1) := by decide +kernel
theorem dX1_insertRange_26 : decode cX1_insertRange 26 = .ok (.iaload, 1) := by decide +kernel
theorem dX1_insertRange_27 : decode cX1_insertRange 27 = .ok (.iload_n 2, 1) := by decide +kernel
theorem dX1_insertRange_28 : decode cX1_insertRange 28 = .ok (.if_icmp .le 41, 3) := by decide +kernel
theorem dX1_insertRange_31 : decode cX1_insertRange 31 = .ok (.aload_n 0, 1) := by decide +kernel
theorem dX1_insertRange_32 : decode cX1_insertRange 32 = .ok (.getfield 28, 3) := by decide +kernel
theorem dX1_insertRange_35 : decode cX1_insertRange 35 = .ok (.iload 4, 2) := by decide +kernel
theorem dX1_insertRange_37 : decode cX1_insertRange 37 = .ok (.aload_n 0, 1) := by decide +kernel
theorem dX1_insertRange_38 : decode cX1_insertRange 38 = .ok (.getfield 28, 3) := by decide +kernel
theorem dX1_insertRange_41 : decode cX1_insertRange 41 = .ok (.iload 4, 2) := by decide +kernel
theorem dX1_insertRange_43 : decode cX1_insertRange 43 = .ok (.iconst 1, 1) := by decide +kernel
theorem dX1_insertRange_44 : decode cX1_insertRange 44 = .ok (.isub, 1) := by decide +kernel
theorem dX1_insertRange_45 : decode cX1_insertRange 45 = .ok (.iaload, 1) := by decide +kernel
theorem dX1_insertRange_46 : decode cX1_insertRange 46 = .ok (.iastore, 1) := by decide +kernel
theorem dX1_insertRange_47 : decode cX1_insertRange 47 = .ok (.aload_n 0, 1) := by decide +kernel
theorem dX1_insertRange_48 : decode cX1_insertRange 48 = .ok (.getfield 31, 3) := by decide +kernel
theorem dX1_insertRange_51 : decode cX1_insertRange 51 = .ok (.iload 4, 2) := by decide +kernel
theorem dX1_insertRange_53 : decode cX1_insertRange 53 = .ok (.aload_n 0, 1) := by decide +kernel
theorem dX1_insertRange_54 : decode cX1_insertRange 54 = .ok (.getfield 31, 3) := by decide +kernel
theorem dX1_insertRange_57 : decode cX1_insertRange 57 = .ok (.iload 4, 2) := by decide +kernel
theorem dX1_insertRange_59 : decode cX1_insertRange 59 = .ok (.iconst 1, 1) := by decide +kernel
theorem dX1_insertRange_60 : decode cX1_insertRange 60 = .ok (.isub, 1) := by decide +kernel
theorem dX1_insertRange_61 : decode cX1_insertRange 61 = .ok (.iaload, 1) := by decide +kernel
theorem dX1_insertRange_62 : decode cX1_insertRange 62 = .ok (.iastore, 1) := by decide +kernel
theorem dX1_insertRange_63 : decode cX1_insertRange 63 = .ok (.iinc 4 (-1), 3) := by decide +kernel
theorem dX1_insertRange_66 : decode cX1_insertRange 66 = .ok (.goto (-53), 3) := by decide +kernel
theorem dX1_insertRange_69 : decode cX1_insertRange 69 = .ok (.aload_n 0, 1) := by decide +kernel
theorem dX1_insertRange_70 : decode cX1_insertRange 70 = .ok (.getfield 28, 3) := by decide +kernel
theorem dX1_insertRange_73 : decode cX1_insertRange 73 = .ok (.iload 4, 2) := by decide +kernel
theorem dX1_insertRange_75 : decode cX1_insertRange 75 = .ok (.iload_n 2, 1) := by decide +kernel
theorem dX1_insertRange_76 : decode cX1_insertRange 76 = .ok (.iastore, 1) := by decide +kernel
theorem dX1_insertRange_77 : decode cX1_insertRange 77 = .ok (.aload_n 0, 1) := by decide +kernel
theorem dX1_insertRange_78 : decode cX1_insertRange 78 = .ok (.getfield 31, 3) := by decide +kernel
theorem dX1_insertRange_81 : decode cX1_insertRange 81 = .ok (.iload 4, 2) := by decide +kernel
theorem dX1_insertRange_83 : decode cX1_insertRange 83 = .ok (.iload_n 3, 1) := by decide +kernel
theorem dX1_insertRange_84 : decode cX1_insertRange 84 = .ok (.iastore, 1) := by decide +kernel
theorem dX1_insertRange_85 : decode cX1_insertRange 85 = .ok (.return_, 1) := by decide +kernel
theorem dX2_init_0 : decode cX2_init 0 = .ok (.aload_n 0, 1) := by decide +kernel
theorem dX2_init_1 : decode cX2_init 1 = .ok (.invokespecial 3, 3) := by decide +kernel
theorem dX2_init_4 : decode cX2_init 4 = .ok (.aload_n 0, 1) := by decide +kernel
theorem dX2_init_5 : decode cX2_init 5 = .ok (.bipush 8, 2) := by decide +kernel
theorem dX2_init_7 : decode cX2_init 7 = .ok (.newarray .int, 2) := by decide +kernel
theorem dX2_init_9 : decode cX2_init 9 = .ok (.putfield 9, 3) := by decide +kernel
theorem dX2_init_12 : decode cX2_init 12 = .ok (.aload_n 0, 1) := by decide +kernel
theorem dX2_init_13 : decode cX2_init 13 = .ok (.bipush 8, 2) := by decide +kernel
theorem dX2_init_15 : decode cX2_init 15 = .ok (.newarray .int, 2) := by decide +kernel
theorem dX2_init_17 : decode cX2_init 17 = .ok (.putfield 15, 3) := by decide +kernel
theorem dX2_init_20 : decode cX2_init 20 = .ok (.aload_n 0, 1) := by decide +kernel
theorem dX2_init_21 : decode cX2_init 21 = .ok (.iconst 0, 1) := by decide +kernel
theorem dX2_init_22 : decode cX2_init 22 = .ok (.putfield 18, 3) := by decide +kernel
theorem dX2_init_25 : decode cX2_init 25 = .ok (.aload_n 0, 1) := by decide +kernel
theorem dX2_init_26 : decode cX2_init 26 = .ok (.bipush 6, 2) := by decide +kernel
theorem dX2_init_28 : decode cX2_init 28 = .ok (.newarray .int, 2) := by decide +kernel
theorem dX2_init_30 : decode cX2_init 30 = .ok (.putfield 22, 3) := by decide +kernel
theorem dX2_init_33 : decode cX2_init 33 = .ok (.aload_n 0, 1) := by decide +kernel
theorem dX2_init_34 : decode cX2_init 34 = .ok (.bipush 6, 2) := by decide +kernel
theorem dX2_init_36 : decode cX2_init 36 = .ok (.newarray .int, 2) := by decide +kernel
theorem dX2_init_38 : decode cX2_init 38 = .ok (.putfield 25, 3) := by decide +kernel
theorem dX2_init_41 : decode cX2_init 41 = .ok (.aload_n 0, 1) := by decide +kernel
theorem dX2_init_42 : decode cX2_init 42 = .ok (.iconst 0, 1) := by decide +kernel
theorem dX2_init_43 : decode cX2_init 43 = .ok (.putfield 28, 3) := by decide +kernel
theorem dX2_init_46 : decode cX2_init 46 = .ok (.return_, 1) := by decide +kernel
theorem dX2_copyFrom_0 : decode cX2_copyFrom 0 = .ok (.aload_n 1, 1) := by decide +kernel
theorem dX2_copyFrom_1 : decode cX2_copyFrom 1 = .ok (.getfield 9, 3) := by decide +kernel
theorem dX2_copyFrom_4 : decode cX2_copyFrom 4 = .ok (.iconst 0, 1) := by decide +kernel
theorem dX2_copyFrom_5 : decode cX2_copyFrom 5 = .ok (.aload_n 0, 1) := by decide +kernel
theorem dX2_copyFrom_6 : decode cX2_copyFrom 6 = .ok (.getfield 9, 3) := by decide +kernel
theorem dX2_copyFrom_9 : decode cX2_copyFrom 9 = .ok (.iconst 0, 1) := by decide +kernel
theorem dX2_copyFrom_10 : decode cX2_copyFrom 10 = .ok (.bipush 8, 2) := by decide +kernel
theorem dX2_copyFrom_12 : decode cX2_copyFrom 12 = .ok (.invokestatic 31, 3) := by decide +kernel
theorem dX2_copyFrom_15 : decode cX2_copyFrom 15 = .ok (.aload_n 1, 1) := by decide +kernel
theorem dX2_copyFrom_16 : decode cX2_copyFrom 16 = .ok (.getfield 15, 3) := by decide +kernel
theorem dX2_copyFrom_19 : decode cX2_copyFrom 19 = .ok (.iconst 0, 1) := by decide +kernel
theorem dX2_copyFrom_20 : decode cX2_copyFrom 20 = .ok (.aload_n 0, 1) := by decide +kernel
theorem dX2_copyFrom_21 : decode cX2_copyFrom 21 = .ok (.getfield 15, 3) := by decide +kernel
theorem dX2_copyFrom_24 : decode cX2_copyFrom 24 = .ok (.iconst 0, 1) := by decide +kernel
theorem dX2_copyFrom_25 : decode cX2_copyFrom 25 = .ok (.bipush 8, 2) := by decide +kernel
theorem dX2_copyFrom_27 : decode cX2_copyFrom 27 = .ok (.invokestatic 31, 3) := by decide +kernel
theorem dX2_copyFrom_30 : decode cX2_copyFrom 30 = .ok (.aload_n 0, 1) := by decide +kernel
theorem dX2_copyFrom_31 : decode cX2_copyFrom 31 = .ok (.aload_n 1, 1) := by decide +kernel
theorem dX2_copyFrom_32 : decode cX2_copyFrom 32 = .ok (.getfield 18, 3) := by decide +kernel
theorem dX2_copyFrom_35 : decode cX2_copyFrom 35 = .ok (.putfield 18, 3) := by decide +kernel
theorem dX2_copyFrom_38 : decode cX2_copyFrom 38 = .ok (.aload_n 1, 1) := by decide +kernel
theorem dX2_copyFrom_39 : decode cX2_copyFrom 39 = .ok (.getfield 22, 3) := by decide +kernel
theorem dX2_copyFrom_42 : decode cX2_copyFrom 42 = .ok (.iconst 0, 1) := by decide +kernel
theorem dX2_copyFrom_43 : decode cX2_copyFrom 43 = .ok (.aload_n 0, 1) := by decide +kernel
theorem dX2_copyFrom_44 : decode cX2_copyFrom 44 = .ok (.getfield 22, 3) := by decide +kernel
theorem dX2_copyFrom_47 : decode cX2_copyFrom 47 = .ok (.iconst 0, 1) := by decide +kernel
theorem dX2_copyFrom_48 : decode cX2_copyFrom 48 = .ok (.bipush 6, 2) := by decide +kernel
theorem dX2_copyFrom_50 : decode cX2_copyFrom 50 = .ok (.invokestatic 31, 3) := by decide +kernel
theorem dX2_copyFrom_53 : decode cX2_copyFrom 53 = .ok (.aload_n 1, 1) := by decide +kernel
theorem dX2_copyFrom_54 : decode cX2_copyFrom 54 = .ok (.getfield 25, 3) := by decide +kernel
theorem dX2_copyFrom_57 : decode cX2_copyFrom 57 = .ok (.iconst 0, 1) := by decide +kernel
theorem dX2_copyFrom_58 : decode cX2_copyFrom 58 = .ok (.aload_n 0, 1) := by decide +kernel
theorem dX2_copyFrom_59 : decode cX2_copyFrom 59 = .ok (.getfield 25, 3) := by decide +kernel
theorem dX2_copyFrom_62 : decode cX2_copyFrom 62 = .ok (.iconst 0, 1) := by decide +kernel
theorem dX2_copyFrom_63 : decode cX2_copyFrom 63 = .ok (.bipush 6, 2) := by decide +kernel
theorem dX2_copyFrom_65 : decode cX2_copyFrom 65 = .ok (.invokestatic 31, 3) := by decide +kernel
theorem dX2_copyFrom_68 : decode cX2_copyFrom 68 = .ok (.aload_n 0, 1) := by decide +kernel
theorem dX2_copyFrom_69 : decode cX2_copyFrom 69 = .ok (.aload_n 1, 1) := by decide +kernel
theorem dX2_copyFrom_70 : decode cX2_copyFrom 70 = .ok (.getfield 28, 3) := by decide +kernel
theorem dX2_copyFrom_73 : decode cX2_copyFrom 73 = .ok (.putfield 28, 3) := by decide +kernel
theorem dX2_copyFrom_76 : decode cX2_copyFrom 76 = .ok (.return_, 1) := by decide +kernel
theorem dX2_hasPoint_0 : decode cX2_hasPoint 0 = .ok (.iload_n 1, 1) := by decide +kernel
theorem dX2_hasPoint_1 : decode cX2_hasPoint 1 = .ok (.ifCond .lt 15, 3) := by decide +kernel
theorem dX2_hasPoint_4 : decode cX2_hasPoint 4 = .ok (.iload_n 1, 1) := by decide +kernel
theorem dX2_hasPoint_5 : decode cX2_hasPoint 5 = .ok (.aload_n 0, 1) := by decide +kernel
theorem dX2_hasPoint_6 : decode cX2_hasPoint 6 = .ok (.getfield 18, 3) := by decide +kernel
theorem dX2_hasPoint_9 : decode cX2_hasPoint 9 = .ok (.if_icmp .ge 7, 3) := by decide +kernel
theorem dX2_hasPoint_12 : decode cX2_hasPoint 12 = .ok (.iconst 1, 1) := by decide +kernel
theorem dX2_hasPoint_13 : decode cX2_hasPoint 13 = .ok (.goto 4, 3) := by decide +kernel
theorem dX2_hasPoint_16 : decode cX2_hasPoint 16 = .ok (.iconst 0, 1) := by decide +kernel
theorem dX2_hasPoint_17 : decode cX2_hasPoint 17 = .ok (.ireturn, 1) := by decide +kernel
theorem dX2_hasStop_0 : decode cX2_hasStop 0 = .ok (.iload_n 1, 1) := by decide +kernel
theorem dX2_hasStop_1 : decode cX2_hasStop 1 = .ok (.ifCond .lt 15, 3) := by decide +kernel
theorem dX2_hasStop_4 : decode cX2_hasStop 4 = .ok (.iload_n 1, 1) := by decide +kernel
theorem dX2_hasStop_5 : decode cX2_hasStop 5 = .ok (.aload_n 0, 1) := by decide +kernel
theorem dX2_hasStop_6 : decode cX2_hasStop 6 = .ok (.getfield 28, 3) := by decide +kernel
theorem dX2_hasStop_9 : decode cX2_hasStop 9 = .ok (.if_icmp .ge 7, 3) := by decide +kernel
theorem dX2_hasStop_12 : decode cX2_hasStop 12 = .ok (.iconst 1, 1) := by decide +kernel
theorem dX2_hasStop_13 : decode cX2_hasStop 13 = .ok (.goto 4, 3) := by decide +kernel
theorem dX2_hasStop_16 : decode cX2_hasStop 16 = .ok (.iconst 0, 1) := by decide +kernel
theorem dX2_hasStop_17 : decode cX2_hasStop 17 = .ok (.ireturn, 1) := by decide +kernel
theorem dX2_putPoint_0 : decode cX2_putPoint 0 = .ok (.aload_n 0, 1) := by decide +kernel
theorem dX2_putPoint_1 : decode cX2_putPoint 1 = .ok (.getfield 18, 3) := by decide +kernel
theorem dX2_putPoint_4 : decode cX2_putPoint 4 = .ok (.bipush 8, 2) := by decide +kernel
theorem dX2_putPoint_6 : decode cX2_putPoint 6 = .ok (.if_icmp .lt 5, 3) := by decide +kernel
theorem dX2_putPoint_9 : decode cX2_putPoint 9 = .ok (.iconst (-1), 1) := by decide +kernel
theorem dX2_putPoint_10 : decode cX2_putPoint 10 = .ok (.ireturn, 1) := by decide +kernel
theorem dX2_putPoint_11 : decode cX2_putPoint 11 = .ok (.aload_n 0, 1) := by decide +kernel
theorem dX2_putPoint_12 : decode cX2_putPoint 12 = .ok (.getfield 9, 3) := by decide +kernel
theorem dX2_putPoint_15 : decode cX2_putPoint 15 = .ok (.aload_n 0, 1) := by decide +kernel
theorem dX2_putPoint_16 : decode cX2_putPoint 16 = .ok (.getfield 18, 3) := by decide +kernel
theorem dX2_putPoint_19 : decode cX2_putPoint 19 = .ok (.iload_n 1, 1) := by decide +kernel
theorem dX2_putPoint_20 : decode cX2_putPoint 20 = .ok (.iastore, 1) := by decide +kernel
theorem dX2_putPoint_21 : decode cX2_putPoint 21 = .ok (.aload_n 0, 1) := by decide +kernel
theorem dX2_putPoint_22 : decode cX2_putPoint 22 = .ok (.getfield 15, 3) := by decide +kernel
theorem dX2_putPoint_25 : decode cX2_putPoint 25 = .ok (.aload_n 0, 1) := by decide +kernel
theorem dX2_putPoint_26 : decode cX2_putPoint 26 = .ok (.getfield 18, 3) := by decide +kernel
theorem dX2_putPoint_29 : decode cX2_putPoint 29 = .ok (.iload_n 2, 1) := by decide +kernel
theorem dX2_putPoint_30 : decode cX2_putPoint 30 = .ok (.iastore, 1) := by decide +kernel
theorem dX2_putPoint_31 : decode cX2_putPoint 31 = .ok (.aload_n 0, 1) := by decide +kernel
theorem dX2_putPoint_32 : decode cX2_putPoint 32 = .ok (.dup, 1) := by decide +kernel
theorem dX2_putPoint_33 : decode cX2_putPoint 33 = .ok (.getfield 18, 3) := by decide +kernel
theorem dX2_putPoint_36 : decode cX2_putPoint 36 = .ok (.iconst 1, 1) := by decide +kernel
theorem dX2_putPoint_37 : decode cX2_putPoint 37 = .ok (.iadd, 1) := by decide +kernel
theorem dX2_putPoint_38 : decode cX2_putPoint 38 = .ok (.putfield 18, 3) := by decide +kernel
theorem dX2_putPoint_41 : decode cX2_putPoint 41 = .ok (.aload_n 0, 1) := by decide +kernel
theorem dX2_putPoint_42 : decode cX2_putPoint 42 = .ok (.getfield 18, 3) := by decide +kernel
theorem dX2_putPoint_45 : decode cX2_putPoint 45 = .ok (.iconst 1, 1) := by decide +kernel
theorem dX2_putPoint_46 : decode cX2_putPoint 46 = .ok (.isub, 1) := by decide +kernel
theorem dX2_putPoint_47 : decode cX2_putPoint 47 = .ok (.ireturn, 1) := by decide +kernel
theorem dX2_putStop_0 : decode cX2_putStop 0 = .ok (.aload_n 0, 1) := by decide +kernel
theorem dX2_putStop_1 : decode cX2_putStop 1 = .ok (.getfield 28, 3) := by decide +kernel
theorem dX2_putStop_4 : decode cX2_putStop 4 = .ok (.bipush 6, 2) := by decide +kernel
theorem dX2_putStop_6 : decode cX2_putStop 6 = .ok (.if_icmp .lt 8, 3) := by decide +kernel
theorem dX2_putStop_9 : decode cX2_putStop 9 = .ok (.aload_n 0, 1) := by decide +kernel
theorem dX2_putStop_10 : decode cX2_putStop 10 = .ok (.getfield 28, 3) := by decide +kernel
theorem dX2_putStop_13 : decode cX2_putStop 13 = .ok (.ireturn, 1) := by decide +kernel
theorem dX2_putStop_14 : decode cX2_putStop 14 = .ok (.aload_n 0, 1) := by decide +kernel
theorem dX2_putStop_15 : decode cX2_putStop 15 = .ok (.getfield 28, 3) := by decide +kernel
theorem dX2_putStop_18 : decode cX2_putStop 18 = .ok (.ifCond .le 30, 3) := by decide +kernel
theorem dX2_putStop_21 : decode cX2_putStop 21 = .ok (.aload_n 0, 1) := by decide +kernel
theorem dX2_putStop_22 : decode cX2_putStop 22 = .ok (.getfield 25, 3) := by decide +kernel
theorem dX2_putStop_25 : decode cX2_putStop 25 = .ok (.aload_n 0, 1) := by decide +kernel
theorem dX2_putStop_26 : decode cX2_putStop 26 = .ok (.getfield 28, 3) := by decide +kernel
theorem dX2_putStop_29 : decode cX2_putStop 29 = .ok (.iconst 1, 1) := by decide +kernel
theorem dX2_putStop_30 : decode cX2_putStop 30 = .ok (.isub, 1) := by decide +kernel
theorem dX2_putStop_31 : decode cX2_putStop 31 = .ok (.aload_n 0, 1) := by decide +kernel
theorem dX2_putStop_32 : decode cX2_putStop 32 = .ok (.aload_n 0, 1) := by decide +kernel
theorem dX2_putStop_33 : decode cX2_putStop 33 = .ok (.getfield 22, 3) := by decide +kernel
theorem dX2_putStop_36 : decode cX2_putStop 36 = .ok (.aload_n 0, 1) := by decide +kernel
theorem dX2_putStop_37 : decode cX2_putStop 37 = .ok (.getfield 28, 3) := by decide +kernel
theorem dX2_putStop_40 : decode cX2_putStop 40 = .ok (.iconst 1, 1) := by decide +kernel
theorem dX2_putStop_41 : decode cX2_putStop 41 = .ok (.isub, 1) := by decide +kernel
theorem dX2_putStop_42 : decode cX2_putStop 42 = .ok (.iaload, 1) := by decide +kernel
theorem dX2_putStop_43 : decode cX2_putStop 43 = .ok (.iload_n 1, 1) := by decide +kernel
theorem dX2_putStop_44 : decode cX2_putStop 44 = .ok (.invokevirtual 37, 3) := by decide +kernel
theorem dX2_putStop_47 : decode cX2_putStop 47 = .ok (.iastore, 1) := by decide +kernel
theorem dX2_putStop_48 : decode cX2_putStop 48 = .ok (.aload_n 0, 1) := by decide +kernel
theorem dX2_putStop_49 : decode cX2_putStop 49 = .ok (.getfield 22, 3) := by decide +kernel
theorem dX2_putStop_52 : decode cX2_putStop 52 = .ok (.aload_n 0, 1) := by decide +kernel
theorem dX2_putStop_53 : decode cX2_putStop 53 = .ok (.getfield 28, 3) := by decide +kernel
theorem dX2_putStop_56 : decode cX2_putStop 56 = .ok (.iload_n 1, 1) := by decide +kernel
theorem dX2_putStop_57 : decode cX2_putStop 57 = .ok (.iastore, 1) := by decide +kernel
theorem dX2_putStop_58 : decode cX2_putStop 58 = .ok (.aload_n 0, 1) := by decide +kernel
theorem dX2_putStop_59 : decode cX2_putStop 59 = .ok (.dup, 1) := by decide +kernel
theorem dX2_putStop_60 : decode cX2_putStop 60 = .ok (.getfield 28, 3) := by decide +kernel
theorem dX2_putStop_63 : decode cX2_putStop 63 = .ok (.iconst 1, 1) := by decide +kernel
theorem dX2_putStop_64 : decode cX2_putStop 64 = .ok (.iadd, 1) := by decide +kernel
theorem dX2_putStop_65 : decode cX2_putStop 65 = .ok (.putfield 28, 3) := by decide +kernel
theorem dX2_putStop_68 : decode cX2_putStop 68 = .ok (.aload_n 0, 1) := by decide +kernel
theorem dX2_putStop_69 : decode cX2_putStop 69 = .ok (.getfield 28, 3) := by decide +kernel
theorem dX2_putStop_72 : decode cX2_putStop 72 = .ok (.ireturn, 1) := by decide +kernel
theorem dX2_dropStops_0 : decode cX2_dropStops 0 = .ok (.aload_n 0, 1) := by decide +kernel
theorem dX2_dropStops_1 : decode cX2_dropStops 1 = .ok (.getfield 28, 3) := by decide +kernel
theorem dX2_dropStops_4 : decode cX2_dropStops 4 = .ok (.istore_n 1, 1) := by decide +kernel
theorem dX2_dropStops_5 : decode cX2_dropStops 5 = .ok (.aload_n 0, 1) := by decide +kernel
theorem dX2_dropStops_6 : decode cX2_dropStops 6 = .ok (.iconst 0, 1) := by decide +kernel
theorem dX2_dropStops_7 : decode cX2_dropStops 7 = .ok (.putfield 28, 3) := by decide +kernel
theorem dX2_dropStops_10 : decode cX2_dropStops 10 = .ok (.iload_n 1, 1) := by decide +kernel
theorem dX2_dropStops_11 : decode cX2_dropStops 11 = .ok (.ireturn, 1) := by decide +kernel
theorem dX2_span_0 : decode cX2_span 0 = .ok (.aload_n 0, 1) := by decide +kernel
theorem dX2_span_1 : decode cX2_span 1 = .ok (.iload_n 2, 1) := by decide +kernel
theorem dX2_span_2 : decode cX2_span 2 = .ok (.invokevirtual 41, 3) := by decide +kernel
theorem dX2_span_5 : decode cX2_span 5 = .ok (.ifCond .ne 5, 3) := by decide +kernel
theorem dX2_span_8 : decode cX2_span 8 = .ok (.iconst 0, 1) := by decide +kernel
theorem dX2_span_9 : decode cX2_span 9 = .ok (.ireturn, 1) := by decide +kernel
theorem dX2_span_10 : decode cX2_span 10 = .ok (.aload_n 0, 1) := by decide +kernel
theorem dX2_span_11 : decode cX2_span 11 = .ok (.iload_n 1, 1) := by decide +kernel
theorem dX2_span_12 : decode cX2_span 12 = .ok (.aload_n 0, 1) := by decide +kernel
theorem dX2_span_13 : decode cX2_span 13 = .ok (.getfield 9, 3) := by decide +kernel
theorem dX2_span_16 : decode cX2_span 16 = .ok (.iload_n 2, 1) := by decide +kernel
theorem dX2_span_17 : decode cX2_span 17 = .ok (.iaload, 1) := by decide +kernel
theorem dX2_span_18 : decode cX2_span 18 = .ok (.aload_n 0, 1) := by decide +kernel
theorem dX2_span_19 : decode cX2_span 19 = .ok (.getfield 15, 3) := by decide +kernel
theorem dX2_span_22 : decode cX2_span 22 = .ok (.iload_n 2, 1) := by decide +kernel
theorem dX2_span_23 : decode cX2_span 23 = .ok (.iaload, 1) := by decide +kernel
theorem dX2_span_24 : decode cX2_span 24 = .ok (.invokevirtual 45, 3) := by decide +kernel
theorem dX2_span_27 : decode cX2_span 27 = .ok (.ireturn, 1) := by decide +kernel
theorem dX2_spanTo_0 : decode cX2_spanTo 0 = .ok (.iload_n 1, 1) := by decide +kernel
theorem dX2_spanTo_1 : decode cX2_spanTo 1 = .ok (.ifCond .lt 11, 3) := by decide +kernel
theorem dX2_spanTo_4 : decode cX2_spanTo 4 = .ok (.iload_n 1, 1) := by decide +kernel
theorem dX2_spanTo_5 : decode cX2_spanTo 5 = .ok (.aload_n 0, 1) := by decide +kernel
theorem dX2_spanTo_6 : decode cX2_spanTo 6 = .ok (.getfield 18, 3) := by decide +kernel
theorem dX2_spanTo_9 : decode cX2_spanTo 9 = .ok (.if_icmp .lt 5, 3) := by decide +kernel
theorem dX2_spanTo_12 : decode cX2_spanTo 12 = .ok (.iconst 0, 1) := by decide +kernel
theorem dX2_spanTo_13 : decode cX2_spanTo 13 = .ok (.ireturn, 1) := by decide +kernel
theorem dX2_spanTo_14 : decode cX2_spanTo 14 = .ok (.aload_n 0, 1) := by decide +kernel
theorem dX2_spanTo_15 : decode cX2_spanTo 15 = .ok (.getfield 9, 3) := by decide +kernel
theorem dX2_spanTo_18 : decode cX2_spanTo 18 = .ok (.iload_n 1, 1) := by decide +kernel
theorem dX2_spanTo_19 : decode cX2_spanTo 19 = .ok (.iaload, 1) := by decide +kernel
theorem dX2_spanTo_20 : decode cX2_spanTo 20 = .ok (.iload_n 2, 1) := by decide +kernel
theorem dX2_spanTo_21 : decode cX2_spanTo 21 = .ok (.isub, 1) := by decide +kernel
theorem dX2_spanTo_22 : decode cX2_spanTo 22 = .ok (.invokestatic 49, 3) := by decide +kernel
theorem dX2_spanTo_25 : decode cX2_spanTo 25 = .ok (.aload_n 0, 1) := by decide +kernel
theorem dX2_spanTo_26 : decode cX2_spanTo 26 = .ok (.getfield 15, 3) := by decide +kernel
theorem dX2_spanTo_29 : decode cX2_spanTo 29 = .ok (.iload_n 1, 1) := by decide +kernel
theorem dX2_spanTo_30 : decode cX2_spanTo 30 = .ok (.iaload, 1) := by decide +kernel
theorem dX2_spanTo_31 : decode cX2_spanTo 31 = .ok (.iload_n 3, 1) := by decide +kernel
theorem dX2_spanTo_32 : decode cX2_spanTo 32 = .ok (.isub, 1) := by decide +kernel
theorem dX2_spanTo_33 : decode cX2_spanTo 33 = .ok (.invokestatic 49, 3) := by decide +kernel
theorem dX2_spanTo_36 : decode cX2_spanTo 36 = .ok (.iadd, 1) := by decide +kernel
theorem dX2_spanTo_37 : decode cX2_spanTo 37 = .ok (.ireturn, 1) := by decide +kernel
theorem dX2_spanToStop_0 : decode cX2_spanToStop 0 = .ok (.aload_n 0, 1) := by decide +kernel
theorem dX2_spanToStop_1 : decode cX2_spanToStop 1 = .ok (.iload_n 1, 1) := by decide +kernel
theorem dX2_spanToStop_2 : decode cX2_spanToStop 2 = .ok (.invokevirtual 55, 3) := by decide +kernel
theorem dX2_spanToStop_5 : decode cX2_spanToStop 5 = .ok (.ifCond .ne 5, 3) := by decide +kernel
theorem dX2_spanToStop_8 : decode cX2_spanToStop 8 = .ok (.iconst 0, 1) := by decide +kernel
theorem dX2_spanToStop_9 : decode cX2_spanToStop 9 = .ok (.ireturn, 1) := by decide +kernel
theorem dX2_spanToStop_10 : decode cX2_spanToStop 10 = .ok (.aload_n 0, 1) := by decide +kernel
theorem dX2_spanToStop_11 : decode cX2_spanToStop 11 = .ok (.aload_n 0, 1) := by decide +kernel
theorem dX2_spanToStop_12 : decode cX2_spanToStop 12 = .ok (.getfield 22, 3) := by decide +kernel
theorem dX2_spanToStop_15 : decode cX2_spanToStop 15 = .ok (.iload_n 1, 1) := by decide +kernel
theorem dX2_spanToStop_16 : decode cX2_spanToStop 16 = .ok (.iaload, 1) := by decide +kernel
theorem dX2_spanToStop_17 : decode cX2_spanToStop 17 = .ok (.iload_n 2, 1) := by decide +kernel
theorem dX2_spanToStop_18 : decode cX2_spanToStop 18 = .ok (.iload_n 3, 1) := by decide +kernel
theorem dX2_spanToStop_19 : decode cX2_spanToStop 19 = .ok (.invokevirtual 45, 3) := by decide +kernel
theorem dX2_spanToStop_22 : decode cX2_spanToStop 22 = .ok (.ireturn, 1) := by decide +kernel
theorem dX2_endsAtPositionOf_0 : decode cX2_endsAtPositionOf 0 = .ok (.aload_n 0, 1) := by decide +kernel
theorem dX2_endsAtPositionOf_1 : decode cX2_endsAtPositionOf 1 = .ok (.getfield 28, 3) := by decide +kernel
theorem dX2_endsAtPositionOf_4 : decode cX2_endsAtPositionOf 4 = .ok (.ifCond .le 26, 3) := by decide +kernel
theorem dX2_endsAtPositionOf_7 : decode cX2_endsAtPositionOf 7 = .ok (.aload_n 0, 1) := by decide +kernel
theorem dX2_endsAtPositionOf_8 : decode cX2_endsAtPositionOf 8 = .ok (.aload_n 0, 1) := by decide +kernel
theorem dX2_endsAtPositionOf_9 : decode cX2_endsAtPositionOf 9 = .ok (.getfield 22, 3) := by decide +kernel
theorem dX2_endsAtPositionOf_12 : decode cX2_endsAtPositionOf 12 = .ok (.aload_n 0, 1) := by decide +kernel
theorem dX2_endsAtPositionOf_13 : decode cX2_endsAtPositionOf 13 = .ok (.getfield 28, 3) := by decide +kernel
theorem dX2_endsAtPositionOf_16 : decode cX2_endsAtPositionOf 16 = .ok (.iconst 1, 1) := by decide +kernel
theorem dX2_endsAtPositionOf_17 : decode cX2_endsAtPositionOf 17 = .ok (.isub, 1) := by decide +kernel
theorem dX2_endsAtPositionOf_18 : decode cX2_endsAtPositionOf 18 = .ok (.iaload, 1) := by decide +kernel
theorem dX2_endsAtPositionOf_19 : decode cX2_endsAtPositionOf 19 = .ok (.iload_n 1, 1) := by decide +kernel
theorem dX2_endsAtPositionOf_20 : decode cX2_endsAtPositionOf 20 = .ok (.invokevirtual 37, 3) := by decide +kernel
theorem dX2_endsAtPositionOf_23 : decode cX2_endsAtPositionOf 23 = .ok (.ifCond .ne 7, 3) := by decide +kernel
theorem dX2_endsAtPositionOf_26 : decode cX2_endsAtPositionOf 26 = .ok (.iconst 1, 1) := by decide +kernel
theorem dX2_endsAtPositionOf_27 : decode cX2_endsAtPositionOf 27 = .ok (.goto 4, 3) := by decide +kernel
theorem dX2_endsAtPositionOf_30 : decode cX2_endsAtPositionOf 30 = .ok (.iconst 0, 1) := by decide +kernel
theorem dX2_endsAtPositionOf_31 : decode cX2_endsAtPositionOf 31 = .ok (.ireturn, 1) := by decide +kernel
theorem dX2_isStopAt_0 : decode cX2_isStopAt 0 = .ok (.aload_n 0, 1) := by decide +kernel
theorem dX2_isStopAt_1 : decode cX2_isStopAt 1 = .ok (.iload_n 1, 1) := by decide +kernel
theorem dX2_isStopAt_2 : decode cX2_isStopAt 2 = .ok (.invokevirtual 55, 3) := by decide +kernel
theorem dX2_isStopAt_5 : decode cX2_isStopAt 5 = .ok (.ifCond .eq 22, 3) := by decide +kernel
theorem dX2_isStopAt_8 : decode cX2_isStopAt 8 = .ok (.aload_n 0, 1) := by decide +kernel
theorem dX2_isStopAt_9 : decode cX2_isStopAt 9 = .ok (.aload_n 0, 1) := by decide +kernel
theorem dX2_isStopAt_10 : decode cX2_isStopAt 10 = .ok (.getfield 22, 3) := by decide +kernel
theorem dX2_isStopAt_13 : decode cX2_isStopAt 13 = .ok (.iload_n 1, 1) := by decide +kernel
theorem dX2_isStopAt_14 : decode cX2_isStopAt 14 = .ok (.iaload, 1) := by decide +kernel
theorem dX2_isStopAt_15 : decode cX2_isStopAt 15 = .ok (.iload_n 2, 1) := by decide +kernel
theorem dX2_isStopAt_16 : decode cX2_isStopAt 16 = .ok (.iload_n 3, 1) := by decide +kernel
theorem dX2_isStopAt_17 : decode cX2_isStopAt 17 = .ok (.invokevirtual 45, 3) := by decide +kernel
theorem dX2_isStopAt_20 : decode cX2_isStopAt 20 = .ok (.ifCond .ne 7, 3) := by decide +kernel
theorem dX2_isStopAt_23 : decode cX2_isStopAt 23 = .ok (.iconst 1, 1) := by decide +kernel
theorem dX2_isStopAt_24 : decode cX2_isStopAt 24 = .ok (.goto 4, 3) := by decide +kernel
theorem dX2_isStopAt_27 : decode cX2_isStopAt 27 = .ok (.iconst 0, 1) := by decide +kernel
theorem dX2_isStopAt_28 : decode cX2_isStopAt 28 = .ok (.ireturn, 1) := by decide +kernel
theorem dX2_sumOfLegs_0 : decode cX2_sumOfLegs 0 = .ok (.iload_n 1, 1) := by decide +kernel
theorem dX2_sumOfLegs_1 : decode cX2_sumOfLegs 1 = .ok (.ifCond .lt 9, 3) := by decide +kernel
theorem dX2_sumOfLegs_4 : decode cX2_sumOfLegs 4 = .ok (.iload_n 2, 1) := by decide +kernel
theorem dX2_sumOfLegs_5 : decode cX2_sumOfLegs 5 = .ok (.bipush 6, 2) := by decide +kernel
theorem dX2_sumOfLegs_7 : decode cX2_sumOfLegs 7 = .ok (.if_icmp .le 5, 3) := by decide +kernel
theorem dX2_sumOfLegs_10 : decode cX2_sumOfLegs 10 = .ok (.iconst 0, 1) := by decide +kernel
theorem dX2_sumOfLegs_11 : decode cX2_sumOfLegs 11 = .ok (.ireturn, 1) := by decide +kernel
theorem dX2_sumOfLegs_12 : decode cX2_sumOfLegs 12 = .ok (.iconst 0, 1) := by decide +kernel
theorem dX2_sumOfLegs_13 : decode cX2_sumOfLegs 13 = .ok (.istore_n 3, 1) := by decide +kernel
theorem dX2_sumOfLegs_14 : decode cX2_sumOfLegs 14 = .ok (.iload_n 1, 1) := by decide +kernel
theorem dX2_sumOfLegs_15 : decode cX2_sumOfLegs 15 = .ok (.istore 4, 2) := by decide +kernel
theorem dX2_sumOfLegs_17 : decode cX2_sumOfLegs 17 = .ok (.iload 4, 2) := by decide +kernel
theorem dX2_sumOfLegs_19 : decode cX2_sumOfLegs 19 = .ok (.iload_n 2, 1) := by decide +kernel
theorem dX2_sumOfLegs_20 : decode cX2_sumOfLegs 20 = .ok (.if_icmp .ge 19, 3) := by decide +kernel
theorem dX2_sumOfLegs_23 : decode cX2_sumOfLegs 23 = .ok (.iload_n 3, 1) := by decide +kernel
theorem dX2_sumOfLegs_24 : decode cX2_sumOfLegs 24 = .ok (.aload_n 0, 1) := by decide +kernel
theorem dX2_sumOfLegs_25 : decode cX2_sumOfLegs 25 = .ok (.getfield 25, 3) := by decide +kernel
theorem dX2_sumOfLegs_28 : decode cX2_sumOfLegs 28 = .ok (.iload 4, 2) := by decide +kernel
theorem dX2_sumOfLegs_30 : decode cX2_sumOfLegs 30 = .ok (.iaload, 1) := by decide +kernel
theorem dX2_sumOfLegs_31 : decode cX2_sumOfLegs 31 = .ok (.iadd, 1) := by decide +kernel
theorem dX2_sumOfLegs_32 : decode cX2_sumOfLegs 32 = .ok (.istore_n 3, 1) := by decide +kernel
theorem dX2_sumOfLegs_33 : decode cX2_sumOfLegs 33 = .ok (.iinc 4 1, 3) := by decide +kernel
theorem dX2_sumOfLegs_36 : decode cX2_sumOfLegs 36 = .ok (.goto (-19), 3) := by decide +kernel
theorem dX2_sumOfLegs_39 : decode cX2_sumOfLegs 39 = .ok (.iload_n 3, 1) := by decide +kernel
theorem dX2_sumOfLegs_40 : decode cX2_sumOfLegs 40 = .ok (.ireturn, 1) := by decide +kernel
theorem dX2_wholeDistance_0 : decode cX2_wholeDistance 0 = .ok (.aload_n 0, 1) := by decide +kernel
theorem dX2_wholeDistance_1 : decode cX2_wholeDistance 1 = .ok (.iconst 0, 1) := by decide +kernel
theorem dX2_wholeDistance_2 : decode cX2_wholeDistance 2 = .ok (.aload_n 0, 1) := by decide +kernel
theorem dX2_wholeDistance_3 : decode cX2_wholeDistance 3 = .ok (.getfield 28, 3) := by decide +kernel
theorem dX2_wholeDistance_6 : decode cX2_wholeDistance 6 = .ok (.iconst 1, 1) := by decide +kernel
theorem dX2_wholeDistance_7 : decode cX2_wholeDistance 7 = .ok (.isub, 1) := by decide +kernel
theorem dX2_wholeDistance_8 : decode cX2_wholeDistance 8 = .ok (.invokevirtual 58, 3) := by decide +kernel
theorem dX2_wholeDistance_11 : decode cX2_wholeDistance 11 = .ok (.ireturn, 1) := by decide +kernel
theorem dX2_directionTo_0 : decode cX2_directionTo 0 = .ok (.aload_n 0, 1) := by decide +kernel
theorem dX2_directionTo_1 : decode cX2_directionTo 1 = .ok (.iload_n 1, 1) := by decide +kernel
theorem dX2_directionTo_2 : decode cX2_directionTo 2 = .ok (.invokevirtual 55, 3) := by decide +kernel
theorem dX2_directionTo_5 : decode cX2_directionTo 5 = .ok (.ifCond .eq 16, 3) := by decide +kernel
theorem dX2_directionTo_8 : decode cX2_directionTo 8 = .ok (.aload_n 0, 1) := by decide +kernel
theorem dX2_directionTo_9 : decode cX2_directionTo 9 = .ok (.aload_n 0, 1) := by decide +kernel
theorem dX2_directionTo_10 : decode cX2_directionTo 10 = .ok (.getfield 22, 3) := by decide +kernel
theorem dX2_directionTo_13 : decode cX2_directionTo 13 = .ok (.iload_n 1, 1) := by decide +kernel
theorem dX2_directionTo_14 : decode cX2_directionTo 14 = .ok (.iaload, 1) := by decide +kernel
theorem dX2_directionTo_15 : decode cX2_directionTo 15 = .ok (.invokevirtual 41, 3) := by decide +kernel
theorem dX2_directionTo_18 : decode cX2_directionTo 18 = .ok (.ifCond .ne 5, 3) := by decide +kernel
theorem dX2_directionTo_21 : decode cX2_directionTo 21 = .ok (.iconst 0, 1) := by decide +kernel
theorem dX2_directionTo_22 : decode cX2_directionTo 22 = .ok (.ireturn, 1) := by decide +kernel
theorem dX2_directionTo_23 : decode cX2_directionTo 23 = .ok (.aload_n 0, 1) := by decide +kernel
theorem dX2_directionTo_24 : decode cX2_directionTo 24 = .ok (.getfield 22, 3) := by decide +kernel
theorem dX2_directionTo_27 : decode cX2_directionTo 27 = .ok (.iload_n 1, 1) := by decide +kernel
theorem dX2_directionTo_28 : decode cX2_directionTo 28 = .ok (.iaload, 1) := by decide +kernel
theorem dX2_directionTo_29 : decode cX2_directionTo 29 = .ok (.istore 4, 2) := by decide +kernel
theorem dX2_directionTo_31 : decode cX2_directionTo 31 = .ok (.aload_n 0, 1) := by decide +kernel
theorem dX2_directionTo_32 : decode cX2_directionTo 32 = .ok (.getfield 9, 3) := by decide +kernel
theorem dX2_directionTo_35 : decode cX2_directionTo 35 = .ok (.iload 4, 2) := by decide +kernel
theorem dX2_directionTo_37 : decode cX2_directionTo 37 = .ok (.iaload, 1) := by decide +kernel
theorem dX2_directionTo_38 : decode cX2_directionTo 38 = .ok (.iload_n 2, 1) := by decide +kernel
theorem dX2_directionTo_39 : decode cX2_directionTo 39 = .ok (.if_icmp .eq 20, 3) := by decide +kernel
theorem dX2_directionTo_42 : decode cX2_directionTo 42 = .ok (.aload_n 0, 1) := by decide +kernel
theorem dX2_directionTo_43 : decode cX2_directionTo 43 = .ok (.getfield 9, 3) := by decide +kernel
theorem dX2_directionTo_46 : decode cX2_directionTo 46 = .ok (.iload 4, 2) := by decide +kernel
theorem dX2_directionTo_48 : decode cX2_directionTo 48 = .ok (.iaload, 1) := by decide +kernel
theorem dX2_directionTo_49 : decode cX2_directionTo 49 = .ok (.iload_n 2, 1) := by decide +kernel
theorem dX2_directionTo_50 : decode cX2_directionTo 50 = .ok (.if_icmp .le 7, 3) := by decide +kernel
theorem dX2_directionTo_53 : decode cX2_directionTo 53 = .ok (.iconst 1, 1) := by decide +kernel
theorem dX2_directionTo_54 : decode cX2_directionTo 54 = .ok (.goto 4, 3) := by decide +kernel
theorem dX2_directionTo_57 : decode cX2_directionTo 57 = .ok (.iconst 3, 1) := by decide +kernel
theorem dX2_directionTo_58 : decode cX2_directionTo 58 = .ok (.ireturn, 1) := by decide +kernel
theorem dX2_directionTo_59 : decode cX2_directionTo 59 = .ok (.aload_n 0, 1) := by decide +kernel
theorem dX2_directionTo_60 : decode cX2_directionTo 60 = .ok (.getfield 15, 3) := by decide +kernel
theorem dX2_directionTo_63 : decode cX2_directionTo 63 = .ok (.iload 4, 2) := by decide +kernel
theorem dX2_directionTo_65 : decode cX2_directionTo 65 = .ok (.iaload, 1) := by decide +kernel
theorem dX2_directionTo_66 : decode cX2_directionTo 66 = .ok (.iload_n 3, 1) := by decide +kernel
theorem dX2_directionTo_67 : decode cX2_directionTo 67 = .ok (.if_icmp .le 7, 3) := by decide +kernel
theorem dX2_directionTo_70 : decode cX2_directionTo 70 = .ok (.iconst 0, 1) := by decide +kernel
theorem dX2_directionTo_71 : decode cX2_directionTo 71 = .ok (.goto 4, 3) := by decide +kernel
theorem dX2_directionTo_74 : decode cX2_directionTo 74 = .ok (.iconst 2, 1) := by decide +kernel
theorem dX2_directionTo_75 : decode cX2_directionTo 75 = .ok (.ireturn, 1) := by decide +kernel
theorem dX3_init_0 : decode cX3_init 0 = .ok (.aload_n 0, 1) := by decide +kernel
theorem dX3_init_1 : decode cX3_init 1 = .ok (.invokespecial 3, 3) := by decide +kernel
theorem dX3_init_4 : decode cX3_init 4 = .ok (.aload_n 0, 1) := by decide +kernel
theorem dX3_init_5 : decode cX3_init 5 = .ok (.iconst 0, 1) := by decide +kernel
theorem dX3_init_6 : decode cX3_init 6 = .ok (.putfield 9, 3) := by decide +kernel
theorem dX3_init_9 : decode cX3_init 9 = .ok (.aload_n 0, 1) := by decide +kernel
theorem dX3_init_10 : decode cX3_init 10 = .ok (.getstatic 15, 3) := by decide +kernel
theorem dX3_init_13 : decode cX3_init 13 = .ok (.putfield 21, 3) := by decide +kernel
theorem dX3_init_16 : decode cX3_init 16 = .ok (.aload_n 0, 1) := by decide +kernel
theorem dX3_init_17 : decode cX3_init 17 = .ok (.iconst 0, 1) := by decide +kernel
theorem dX3_init_18 : decode cX3_init 18 = .ok (.putfield 24, 3) := by decide +kernel
theorem dX3_init_21 : decode cX3_init 21 = .ok (.aload_n 0, 1) := by decide +kernel
theorem dX3_init_22 : decode cX3_init 22 = .ok (.iconst 0, 1) := by decide +kernel
theorem dX3_init_23 : decode cX3_init 23 = .ok (.putfield 27, 3) := by decide +kernel
theorem dX3_init_26 : decode cX3_init 26 = .ok (.aload_n 0, 1) := by decide +kernel
theorem dX3_init_27 : decode cX3_init 27 = .ok (.iconst 0, 1) := by decide +kernel
theorem dX3_init_28 : decode cX3_init 28 = .ok (.putfield 30, 3) := by decide +kernel
theorem dX3_init_31 : decode cX3_init 31 = .ok (.aload_n 0, 1) := by decide +kernel
theorem dX3_init_32 : decode cX3_init 32 = .ok (.iconst 0, 1) := by decide +kernel
theorem dX3_init_33 : decode cX3_init 33 = .ok (.putfield 33, 3) := by decide +kernel
theorem dX3_init_36 : decode cX3_init 36 = .ok (.aload_n 0, 1) := by decide +kernel
theorem dX3_init_37 : decode cX3_init 37 = .ok (.iconst 0, 1) := by decide +kernel
theorem dX3_init_38 : decode cX3_init 38 = .ok (.putfield 36, 3) := by decide +kernel
theorem dX3_init_41 : decode cX3_init 41 = .ok (.aload_n 0, 1) := by decide +kernel
theorem dX3_init_42 : decode cX3_init 42 = .ok (.iconst 0, 1) := by decide +kernel
theorem dX3_init_43 : decode cX3_init 43 = .ok (.putfield 39, 3) := by decide +kernel
theorem dX3_init_46 : decode cX3_init 46 = .ok (.aload_n 0, 1) := by decide +kernel
theorem dX3_init_47 : decode cX3_init 47 = .ok (.lconst 0, 1) := by decide +kernel
theorem dX3_init_48 : decode cX3_init 48 = .ok (.putfield 42, 3) := by decide +kernel
theorem dX3_init_51 : decode cX3_init 51 = .ok (.return_, 1) := by decide +kernel
theorem dX3_copyFrom_0 : decode cX3_copyFrom 0 = .ok (.aload_n 0, 1) := by decide +kernel
theorem dX3_copyFrom_1 : decode cX3_copyFrom 1 = .ok (.aload_n 1, 1) := by decide +kernel
theorem dX3_copyFrom_2 : decode cX3_copyFrom 2 = .ok (.getfield 9, 3) := by decide +kernel
theorem dX3_copyFrom_5 : decode cX3_copyFrom 5 = .ok (.putfield 9, 3) := by decide +kernel
theorem dX3_copyFrom_8 : decode cX3_copyFrom 8 = .ok (.aload_n 0, 1) := by decide +kernel
theorem dX3_copyFrom_9 : decode cX3_copyFrom 9 = .ok (.aload_n 1, 1) := by decide +kernel
theorem dX3_copyFrom_10 : decode cX3_copyFrom 10 = .ok (.getfield 21, 3) := by decide +kernel
theorem dX3_copyFrom_13 : decode cX3_copyFrom 13 = .ok (.putfield 21, 3) := by decide +kernel
theorem dX3_copyFrom_16 : decode cX3_copyFrom 16 = .ok (.aload_n 0, 1) := by decide +kernel
theorem dX3_copyFrom_17 : decode cX3_copyFrom 17 = .ok (.aload_n 1, 1) := by decide +kernel
theorem dX3_copyFrom_18 : decode cX3_copyFrom 18 = .ok (.getfield 24, 3) := by decide +kernel
theorem dX3_copyFrom_21 : decode cX3_copyFrom 21 = .ok (.putfield 24, 3) := by decide +kernel
theorem dX3_copyFrom_24 : decode cX3_copyFrom 24 = .ok (.aload_n 0, 1) := by decide +kernel
theorem dX3_copyFrom_25 : decode cX3_copyFrom 25 = .ok (.aload_n 1, 1) := by decide +kernel
theorem dX3_copyFrom_26 : decode cX3_copyFrom 26 = .ok (.getfield 27, 3) := by decide +kernel
theorem dX3_copyFrom_29 : decode cX3_copyFrom 29 = .ok (.putfield 27, 3) := by decide +kernel
theorem dX3_copyFrom_32 : decode cX3_copyFrom 32 = .ok (.aload_n 0, 1) := by decide +kernel
theorem dX3_copyFrom_33 : decode cX3_copyFrom 33 = .ok (.aload_n 1, 1) := by decide +kernel
theorem dX3_copyFrom_34 : decode cX3_copyFrom 34 = .ok (.getfield 30, 3) := by decide +kernel
theorem dX3_copyFrom_37 : decode cX3_copyFrom 37 = .ok (.putfield 30, 3) := by decide +kernel
theorem dX3_copyFrom_40 : decode cX3_copyFrom 40 = .ok (.aload_n 0, 1) := by decide +kernel
theorem dX3_copyFrom_41 : decode cX3_copyFrom 41 = .ok (.aload_n 1, 1) := by decide +kernel
theorem dX3_copyFrom_42 : decode cX3_copyFrom 42 = .ok (.getfield 33, 3) := by decide +kernel
theorem dX3_copyFrom_45 : decode cX3_copyFrom 45 = .ok (.putfield 33, 3) := by decide +kernel
theorem dX3_copyFrom_48 : decode cX3_copyFrom 48 = .ok (.aload_n 0, 1) := by decide +kernel
theorem dX3_copyFrom_49 : decode cX3_copyFrom 49 = .ok (.aload_n 1, 1) := by decide +kernel
theorem dX3_copyFrom_50 : decode cX3_copyFrom 50 = .ok (.getfield 36, 3) := by decide +kernel
theorem dX3_copyFrom_53 : decode cX3_copyFrom 53 = .ok (.putfield 36, 3) := by decide +kernel
theorem dX3_copyFrom_56 : decode cX3_copyFrom 56 = .ok (.aload_n 0, 1) := by decide +kernel
theorem dX3_copyFrom_57 : decode cX3_copyFrom 57 = .ok (.aload_n 1, 1) := by decide +kernel
theorem dX3_copyFrom_58 : decode cX3_copyFrom 58 = .ok (.getfield 39, 3) := by decide +kernel
theorem dX3_copyFrom_61 : decode cX3_copyFrom 61 = .ok (.putfield 39, 3) := by decide +kernel
theorem dX3_copyFrom_64 : decode cX3_copyFrom 64 = .ok (.aload_n 0, 1) := by decide +kernel
theorem dX3_copyFrom_65 : decode cX3_copyFrom 65 = .ok (.aload_n 1, 1) := by decide +kernel
theorem dX3_copyFrom_66 : decode cX3_copyFrom 66 = .ok (.getfield 42, 3) := by decide +kernel
theorem dX3_copyFrom_69 : decode cX3_copyFrom 69 = .ok (.putfield 42, 3) := by decide +kernel
theorem dX3_copyFrom_72 : decode cX3_copyFrom 72 = .ok (.return_, 1) := by decide +kernel
theorem dX3_enter_0 : decode cX3_enter 0 = .ok (.aload_n 0, 1) := by decide +kernel
theorem dX3_enter_1 : decode cX3_enter 1 = .ok (.iload_n 1, 1) := by decide +kernel
theorem dX3_enter_2 : decode cX3_enter 2 = .ok (.putfield 9, 3) := by decide +kernel
theorem dX3_enter_5 : decode cX3_enter 5 = .ok (.aload_n 0, 1) := by decide +kernel
theorem dX3_enter_6 : decode cX3_enter 6 = .ok (.lconst 0, 1) := by decide +kernel
theorem dX3_enter_7 : decode cX3_enter 7 = .ok (.putfield 42, 3) := by decide +kernel
theorem dX3_enter_10 : decode cX3_enter 10 = .ok (.aload_n 0, 1) := by decide +kernel
theorem dX3_enter_11 : decode cX3_enter 11 = .ok (.invokevirtual 46, 3) := by decide +kernel
theorem dX3_enter_14 : decode cX3_enter 14 = .ok (.return_, 1) := by decide +kernel
theorem dX3_rest_0 : decode cX3_rest 0 = .ok (.aload_n 0, 1) := by decide +kernel
theorem dX3_rest_1 : decode cX3_rest 1 = .ok (.getstatic 15, 3) := by decide +kernel
theorem dX3_rest_4 : decode cX3_rest 4 = .ok (.putfield 21, 3) := by decide +kernel
theorem dX3_rest_7 : decode cX3_rest 7 = .ok (.aload_n 0, 1) := by decide +kernel
theorem dX3_rest_8 : decode cX3_rest 8 = .ok (.iconst 0, 1) := by decide +kernel
theorem dX3_rest_9 : decode cX3_rest 9 = .ok (.putfield 24, 3) := by decide +kernel
theorem dX3_rest_12 : decode cX3_rest 12 = .ok (.aload_n 0, 1) := by decide +kernel
theorem dX3_rest_13 : decode cX3_rest 13 = .ok (.iconst 0, 1) := by decide +kernel
theorem dX3_rest_14 : decode cX3_rest 14 = .ok (.putfield 27, 3) := by decide +kernel
theorem dX3_rest_17 : decode cX3_rest 17 = .ok (.aload_n 0, 1) := by decide +kernel
theorem dX3_rest_18 : decode cX3_rest 18 = .ok (.iconst 0, 1) := by decide +kernel
theorem dX3_rest_19 : decode cX3_rest 19 = .ok (.putfield 30, 3) := by decide +kernel
theorem dX3_rest_22 : decode cX3_rest 22 = .ok (.aload_n 0, 1) := by decide +kernel
theorem dX3_rest_23 : decode cX3_rest 23 = .ok (.iconst 0, 1) := by decide +kernel
theorem dX3_rest_24 : decode cX3_rest 24 = .ok (.putfield 33, 3) := by decide +kernel
theorem dX3_rest_27 : decode cX3_rest 27 = .ok (.aload_n 0, 1) := by decide +kernel
theorem dX3_rest_28 : decode cX3_rest 28 = .ok (.iconst 0, 1) := by decide +kernel
theorem dX3_rest_29 : decode cX3_rest 29 = .ok (.putfield 36, 3) := by decide +kernel
theorem dX3_rest_32 : decode cX3_rest 32 = .ok (.aload_n 0, 1) := by decide +kernel
theorem dX3_rest_33 : decode cX3_rest 33 = .ok (.iconst 0, 1) := by decide +kernel
theorem dX3_rest_34 : decode cX3_rest 34 = .ok (.putfield 39, 3) := by decide +kernel
theorem dX3_rest_37 : decode cX3_rest 37 = .ok (.return_, 1) := by decide +kernel
theorem dX3_takeOff_0 : decode cX3_takeOff 0 = .ok (.aload_n 0, 1) := by decide +kernel
theorem dX3_takeOff_1 : decode cX3_takeOff 1 = .ok (.getstatic 49, 3) := by decide +kernel
theorem dX3_takeOff_4 : decode cX3_takeOff 4 = .ok (.putfield 21, 3) := by decide +kernel
theorem dX3_takeOff_7 : decode cX3_takeOff 7 = .ok (.aload_n 0, 1) := by decide +kernel
theorem dX3_takeOff_8 : decode cX3_takeOff 8 = .ok (.iload_n 1, 1) := by decide +kernel
theorem dX3_takeOff_9 : decode cX3_takeOff 9 = .ok (.putfield 24, 3) := by decide +kernel
theorem dX3_takeOff_12 : decode cX3_takeOff 12 = .ok (.aload_n 0, 1) := by decide +kernel
theorem dX3_takeOff_13 : decode cX3_takeOff 13 = .ok (.iload_n 2, 1) := by decide +kernel
theorem dX3_takeOff_14 : decode cX3_takeOff 14 = .ok (.putfield 27, 3) := by decide +kernel
theorem dX3_takeOff_17 : decode cX3_takeOff 17 = .ok (.aload_n 0, 1) := by decide +kernel
theorem dX3_takeOff_18 : decode cX3_takeOff 18 = .ok (.sipush 1000, 3) := by decide +kernel
theorem dX3_takeOff_21 : decode cX3_takeOff 21 = .ok (.putfield 30, 3) := by decide +kernel
theorem dX3_takeOff_24 : decode cX3_takeOff 24 = .ok (.aload_n 0, 1) := by decide +kernel
theorem dX3_takeOff_25 : decode cX3_takeOff 25 = .ok (.iconst 0, 1) := by decide +kernel
theorem dX3_takeOff_26 : decode cX3_takeOff 26 = .ok (.putfield 33, 3) := by decide +kernel
theorem dX3_takeOff_29 : decode cX3_takeOff 29 = .ok (.aload_n 0, 1) := by decide +kernel
theorem dX3_takeOff_30 : decode cX3_takeOff 30 = .ok (.iconst 0, 1) := by decide +kernel
theorem dX3_takeOff_31 : decode cX3_takeOff 31 = .ok (.putfield 36, 3) := by decide +kernel
theorem dX3_takeOff_34 : decode cX3_takeOff 34 = .ok (.aload_n 0, 1) := by decide +kernel
theorem dX3_takeOff_35 : decode cX3_takeOff 35 = .ok (.iconst 1, 1) := by decide +kernel
theorem dX3_takeOff_36 : decode cX3_takeOff 36 = .ok (.putfield 39, 3) := by decide +kernel
theorem dX3_takeOff_39 : decode cX3_takeOff 39 = .ok (.return_, 1) := by decide +kernel
theorem dX3_sinkRate_0 : decode cX3_sinkRate 0 = .ok (.sipush 1000, 3) := by decide +kernel
theorem dX3_sinkRate_3 : decode cX3_sinkRate 3 = .ok (.aload_n 0, 1) := by decide +kernel
theorem dX3_sinkRate_4 : decode cX3_sinkRate 4 = .ok (.getfield 9, 3) := by decide +kernel
theorem dX3_sinkRate_7 : decode cX3_sinkRate 7 = .ok (.invokestatic 52, 3) := by decide +kernel
theorem dX3_sinkRate_10 : decode cX3_sinkRate 10 = .ok (.ireturn, 1) := by decide +kernel
theorem dX3_move_0 : decode cX3_move 0 = .ok (.aload_n 0, 1) := by decide +kernel
theorem dX3_move_1 : decode cX3_move 1 = .ok (.dup, 1) := by decide +kernel
theorem dX3_move_2 : decode cX3_move 2 = .ok (.getfield 24, 3) := by decide +kernel
theorem dX3_move_5 : decode cX3_move 5 = .ok (.iload_n 1, 1) := by decide +kernel
theorem dX3_move_6 : decode cX3_move 6 = .ok (.invokestatic 56, 3) := by decide +kernel
theorem dX3_move_9 : decode cX3_move 9 = .ok (.iadd, 1) := by decide +kernel
theorem dX3_move_10 : decode cX3_move 10 = .ok (.putfield 24, 3) := by decide +kernel
theorem dX3_move_13 : decode cX3_move 13 = .ok (.aload_n 0, 1) := by decide +kernel
theorem dX3_move_14 : decode cX3_move 14 = .ok (.dup, 1) := by decide +kernel
theorem dX3_move_15 : decode cX3_move 15 = .ok (.getfield 27, 3) := by decide +kernel
theorem dX3_move_18 : decode cX3_move 18 = .ok (.iload_n 1, 1) := by decide +kernel
theorem dX3_move_19 : decode cX3_move 19 = .ok (.invokestatic 60, 3) := by decide +kernel
theorem dX3_move_22 : decode cX3_move 22 = .ok (.iadd, 1) := by decide +kernel
theorem dX3_move_23 : decode cX3_move 23 = .ok (.putfield 27, 3) := by decide +kernel
theorem dX3_move_26 : decode cX3_move 26 = .ok (.aload_n 0, 1) := by decide +kernel
theorem dX3_move_27 : decode cX3_move 27 = .ok (.dup, 1) := by decide +kernel
theorem dX3_move_28 : decode cX3_move 28 = .ok (.getfield 33, 3) := by decide +kernel
theorem dX3_move_31 : decode cX3_move 31 = .ok (.iconst 1, 1) := by decide +kernel
theorem dX3_move_32 : decode cX3_move 32 = .ok (.iadd, 1) := by decide +kernel
theorem dX3_move_33 : decode cX3_move 33 = .ok (.putfield 33, 3) := by decide +kernel
theorem dX3_move_36 : decode cX3_move 36 = .ok (.aload_n 0, 1) := by decide +kernel
theorem dX3_move_37 : decode cX3_move 37 = .ok (.iconst 0, 1) := by decide +kernel
theorem dX3_move_38 : decode cX3_move 38 = .ok (.aload_n 0, 1) := by decide +kernel
theorem dX3_move_39 : decode cX3_move 39 = .ok (.getfield 30, 3) := by decide +kernel
theorem dX3_move_42 : decode cX3_move 42 = .ok (.aload_n 0, 1) := by decide +kernel
theorem dX3_move_43 : decode cX3_move 43 = .ok (.invokevirtual 63, 3) := by decide +kernel
theorem dX3_move_46 : decode cX3_move 46 = .ok (.isub, 1) := by decide +kernel
theorem dX3_move_47 : decode cX3_move 47 = .ok (.invokestatic 67, 3) := by decide +kernel
theorem dX3_move_50 : decode cX3_move 50 = .ok (.putfield 30, 3) := by decide +kernel
theorem dX3_move_53 : decode cX3_move 53 = .ok (.return_, 1) := by decide +kernel
theorem dX3_rise_0 : decode cX3_rise 0 = .ok (.aload_n 0, 1) := by decide +kernel
theorem dX3_rise_1 : decode cX3_rise 1 = .ok (.getfield 30, 3) := by decide +kernel
theorem dX3_rise_4 : decode cX3_rise 4 = .ok (.iload_n 3, 1) := by decide +kernel
theorem dX3_rise_5 : decode cX3_rise 5 = .ok (.if_icmp .ge 22, 3) := by decide +kernel
theorem dX3_rise_8 : decode cX3_rise 8 = .ok (.aload_n 0, 1) := by decide +kernel
theorem dX3_rise_9 : decode cX3_rise 9 = .ok (.iload_n 3, 1) := by decide +kernel
theorem dX3_rise_10 : decode cX3_rise 10 = .ok (.aload_n 0, 1) := by decide +kernel
theorem dX3_rise_11 : decode cX3_rise 11 = .ok (.getfield 30, 3) := by decide +kernel
theorem dX3_rise_14 : decode cX3_rise 14 = .ok (.bipush 60, 2) := by decide +kernel
theorem dX3_rise_16 : decode cX3_rise 16 = .ok (.iload_n 1, 1) := by decide +kernel
theorem dX3_rise_17 : decode cX3_rise 17 = .ok (.imul, 1) := by decide +kernel
theorem dX3_rise_18 : decode cX3_rise 18 = .ok (.iload_n 2, 1) := by decide +kernel
theorem dX3_rise_19 : decode cX3_rise 19 = .ok (.imul, 1) := by decide +kernel
theorem dX3_rise_20 : decode cX3_rise 20 = .ok (.iadd, 1) := by decide +kernel
theorem dX3_rise_21 : decode cX3_rise 21 = .ok (.invokestatic 72, 3) := by decide +kernel
theorem dX3_rise_24 : decode cX3_rise 24 = .ok (.putfield 30, 3) := by decide +kernel
theorem dX3_rise_27 : decode cX3_rise 27 = .ok (.aload_n 0, 1) := by decide +kernel
theorem dX3_rise_28 : decode cX3_rise 28 = .ok (.dup, 1) := by decide +kernel
theorem dX3_rise_29 : decode cX3_rise 29 = .ok (.getfield 33, 3) := by decide +kernel
theorem dX3_rise_32 : decode cX3_rise 32 = .ok (.iload_n 2, 1) := by decide +kernel
theorem dX3_rise_33 : decode cX3_rise 33 = .ok (.iadd, 1) := by decide +kernel
theorem dX3_rise_34 : decode cX3_rise 34 = .ok (.putfield 33, 3) := by decide +kernel
theorem dX3_rise_37 : decode cX3_rise 37 = .ok (.return_, 1) := by decide +kernel
theorem dX3_phaseSign_0 : decode cX3_phaseSign 0 = .ok (.aload_n 0, 1) := by decide +kernel
theorem dX3_phaseSign_1 : decode cX3_phaseSign 1 = .ok (.getfield 21, 3) := by decide +kernel
theorem dX3_phaseSign_4 : decode cX3_phaseSign 4 = .ok (.getstatic 49, 3) := by decide +kernel
theorem dX3_phaseSign_7 : decode cX3_phaseSign 7 = .ok (.if_acmp .ne 6, 3) := by decide +kernel
theorem dX3_phaseSign_10 : decode cX3_phaseSign 10 = .ok (.bipush 102, 2) := by decide +kernel
theorem dX3_phaseSign_12 : decode cX3_phaseSign 12 = .ok (.ireturn, 1) := by decide +kernel
theorem dX3_phaseSign_13 : decode cX3_phaseSign 13 = .ok (.aload_n 0, 1) := by decide +kernel
theorem dX3_phaseSign_14 : decode cX3_phaseSign 14 = .ok (.getfield 21, 3) := by decide +kernel
theorem dX3_phaseSign_17 : decode cX3_phaseSign 17 = .ok (.getstatic 75, 3) := by decide +kernel
theorem dX3_phaseSign_20 : decode cX3_phaseSign 20 = .ok (.if_acmp .ne 8, 3) := by decide +kernel
theorem dX3_phaseSign_23 : decode cX3_phaseSign 23 = .ok (.bipush 108, 2) := by decide +kernel
theorem dX3_phaseSign_25 : decode cX3_phaseSign 25 = .ok (.goto 5, 3) := by decide +kernel
theorem dX3_phaseSign_28 : decode cX3_phaseSign 28 = .ok (.bipush 33, 2) := by decide +kernel
theorem dX3_phaseSign_30 : decode cX3_phaseSign 30 = .ok (.ireturn, 1) := by decide +kernel
theorem dX4_init_0 : decode cX4_init 0 = .ok (.aload_n 0, 1) := by decide +kernel
theorem dX4_init_1 : decode cX4_init 1 = .ok (.invokespecial 3, 3) := by decide +kernel
theorem dX4_init_4 : decode cX4_init 4 = .ok (.aload_n 0, 1) := by decide +kernel
theorem dX4_init_5 : decode cX4_init 5 = .ok (.bipush 8, 2) := by decide +kernel
theorem dX4_init_7 : decode cX4_init 7 = .ok (.anewarray 9, 3) := by decide +kernel
theorem dX4_init_10 : decode cX4_init 10 = .ok (.putfield 11, 3) := by decide +kernel
theorem dX4_init_13 : decode cX4_init 13 = .ok (.aload_n 0, 1) := by decide +kernel
theorem dX4_init_14 : decode cX4_init 14 = .ok (.iconst 0, 1) := by decide +kernel
theorem dX4_init_15 : decode cX4_init 15 = .ok (.putfield 17, 3) := by decide +kernel
theorem dX4_init_18 : decode cX4_init 18 = .ok (.iconst 0, 1) := by decide +kernel
theorem dX4_init_19 : decode cX4_init 19 = .ok (.istore_n 1, 1) := by decide +kernel
theorem dX4_init_20 : decode cX4_init 20 = .ok (.iload_n 1, 1) := by decide +kernel
theorem dX4_init_21 : decode cX4_init 21 = .ok (.bipush 8, 2) := by decide +kernel
theorem dX4_init_23 : decode cX4_init 23 = .ok (.if_icmp .ge 22, 3) := by decide +kernel
theorem dX4_init_26 : decode cX4_init 26 = .ok (.aload_n 0, 1) := by decide +kernel
theorem dX4_init_27 : decode cX4_init 27 = .ok (.getfield 11, 3) := by decide +kernel
theorem dX4_init_30 : decode cX4_init 30 = .ok (.iload_n 1, 1) := by decide +kernel
theorem dX4_init_31 : decode cX4_init 31 = .ok (.new 9, 3) := by decide +kernel
theorem dX4_init_34 : decode cX4_init 34 = .ok (.dup, 1) := by decide +kernel
theorem dX4_init_35 : decode cX4_init 35 = .ok (.invokespecial 21, 3) := by decide +kernel
theorem dX4_init_38 : decode cX4_init 38 = .ok (.aastore, 1) := by decide +kernel
theorem dX4_init_39 : decode cX4_init 39 = .ok (.iinc 1 1, 3) := by decide +kernel
theorem dX4_init_42 : decode cX4_init 42 = .ok (.goto (-22), 3) := by decide +kernel
theorem dX4_init_45 : decode cX4_init 45 = .ok (.return_, 1) := by decide +kernel
theorem dX4_keep_0 : decode cX4_keep 0 = .ok (.aload_n 0, 1) := by decide +kernel
theorem dX4_keep_1 : decode cX4_keep 1 = .ok (.getfield 17, 3) := by decide +kernel
theorem dX4_keep_4 : decode cX4_keep 4 = .ok (.bipush 8, 2) := by decide +kernel
theorem dX4_keep_6 : decode cX4_keep 6 = .ok (.if_icmp .lt 7, 3) := by decide +kernel
theorem dX4_keep_9 : decode cX4_keep 9 = .ok (.aload_n 0, 1) := by decide +kernel
theorem dX4_keep_10 : decode cX4_keep 10 = .ok (.invokevirtual 22, 3) := by decide +kernel
theorem dX4_keep_13 : decode cX4_keep 13 = .ok (.aload_n 0, 1) := by decide +kernel
theorem dX4_keep_14 : decode cX4_keep 14 = .ok (.getfield 11, 3) := by decide +kernel
theorem dX4_keep_17 : decode cX4_keep 17 = .ok (.aload_n 0, 1) := by decide +kernel
theorem dX4_keep_18 : decode cX4_keep 18 = .ok (.getfield 17, 3) := by decide +kernel
theorem dX4_keep_21 : decode cX4_keep 21 = .ok (.aaload, 1) := by decide +kernel
theorem dX4_keep_22 : decode cX4_keep 22 = .ok (.aload_n 1, 1) := by decide +kernel
theorem dX4_keep_23 : decode cX4_keep 23 = .ok (.invokevirtual 25, 3) := by decide +kernel
theorem dX4_keep_26 : decode cX4_keep 26 = .ok (.aload_n 0, 1) := by decide +kernel
theorem dX4_keep_27 : decode cX4_keep 27 = .ok (.dup, 1) := by decide +kernel
theorem dX4_keep_28 : decode cX4_keep 28 = .ok (.getfield 17, 3) := by decide +kernel
theorem dX4_keep_31 : decode cX4_keep 31 = .ok (.iconst 1, 1) := by decide +kernel
theorem dX4_keep_32 : decode cX4_keep 32 = .ok (.iadd, 1) := by decide +kernel
theorem dX4_keep_33 : decode cX4_keep 33 = .ok (.putfield 17, 3) := by decide +kernel
theorem dX4_keep_36 : decode cX4_keep 36 = .ok (.return_, 1) := by decide +kernel
theorem dX4_dropOldest_0 : decode cX4_dropOldest 0 = .ok (.aload_n 0, 1) := by decide +kernel
theorem dX4_dropOldest_1 : decode cX4_dropOldest 1 = .ok (.getfield 11, 3) := by decide +kernel
theorem dX4_dropOldest_4 : decode cX4_dropOldest 4 = .ok (.iconst 0, 1) := by decide +kernel
theorem dX4_dropOldest_5 : decode cX4_dropOldest 5 = .ok (.aaload, 1) := by decide +kernel
theorem dX4_dropOldest_6 : decode cX4_dropOldest 6 = .ok (.astore_n 1, 1) := by decide +kernel
theorem dX4_dropOldest_7 : decode cX4_dropOldest 7 = .ok (.iconst 1, 1) := by decide +kernel
theorem dX4_dropOldest_8 : decode cX4_dropOldest 8 = .ok (.istore_n 2, 1) := by decide +kernel
theorem dX4_dropOldest_9 : decode cX4_dropOldest 9 = .ok (.iload_n 2, 1) := by decide +kernel
theorem dX4_dropOldest_10 : decode cX4_dropOldest 10 = .ok (.bipush 8, 2) := by decide +kernel
theorem dX4_dropOldest_12 : decode cX4_dropOldest 12 = .ok (.if_icmp .ge 23, 3) := by decide +kernel
theorem dX4_dropOldest_15 : decode cX4_dropOldest 15 = .ok (.aload_n 0, 1) := by decide +kernel
theorem dX4_dropOldest_16 : decode cX4_dropOldest 16 = .ok (.getfield 11, 3) := by decide +kernel
theorem dX4_dropOldest_19 : decode cX4_dropOldest 19 = .ok (.iload_n 2, 1) := by decide +kernel
theorem dX4_dropOldest_20 : decode cX4_dropOldest 20 = .ok (.iconst 1, 1) := by decide +kernel
theorem dX4_dropOldest_21 : decode cX4_dropOldest 21 = .ok (.isub, 1) := by decide +kernel
theorem dX4_dropOldest_22 : decode cX4_dropOldest 22 = .ok (.aload_n 0, 1) := by decide +kernel
theorem dX4_dropOldest_23 : decode cX4_dropOldest 23 = .ok (.getfield 11, 3) := by decide +kernel
theorem dX4_dropOldest_26 : decode cX4_dropOldest 26 = .ok (.iload_n 2, 1) := by decide +kernel
theorem dX4_dropOldest_27 : decode cX4_dropOldest 27 = .ok (.aaload, 1) := by decide +kernel
theorem dX4_dropOldest_28 : decode cX4_dropOldest 28 = .ok (.aastore, 1) := by decide +kernel
theorem dX4_dropOldest_29 : decode cX4_dropOldest 29 = .ok (.iinc 2 1, 3) := by decide +kernel
theorem dX4_dropOldest_32 : decode cX4_dropOldest 32 = .ok (.goto (-23), 3) := by decide +kernel
theorem dX4_dropOldest_35 : decode cX4_dropOldest 35 = .ok (.aload_n 0, 1) := by decide +kernel
theorem dX4_dropOldest_36 : decode cX4_dropOldest 36 = .ok (.getfield 11, 3) := by decide +kernel
theorem dX4_dropOldest_39 : decode cX4_dropOldest 39 = .ok (.bipush 7, 2) := by decide +kernel
theorem dX4_dropOldest_41 : decode cX4_dropOldest 41 = .ok (.aload_n 1, 1) := by decide +kernel
theorem dX4_dropOldest_42 : decode cX4_dropOldest 42 = .ok (.aastore, 1) := by decide +kernel
theorem dX4_dropOldest_43 : decode cX4_dropOldest 43 = .ok (.aload_n 0, 1) := by decide +kernel
theorem dX4_dropOldest_44 : decode cX4_dropOldest 44 = .ok (.bipush 7, 2) := by decide +kernel
theorem dX4_dropOldest_46 : decode cX4_dropOldest 46 = .ok (.putfield 17, 3) := by decide +kernel
theorem dX4_dropOldest_49 : decode cX4_dropOldest 49 = .ok (.return_, 1) := by decide +kernel
theorem dX4_takeBack_0 : decode cX4_takeBack 0 = .ok (.aload_n 0, 1) := by decide +kernel
theorem dX4_takeBack_1 : decode cX4_takeBack 1 = .ok (.getfield 17, 3) := by decide +kernel
theorem dX4_takeBack_4 : decode cX4_takeBack 4 = .ok (.ifCond .le 26, 3) := by decide +kernel
theorem dX4_takeBack_7 : decode cX4_takeBack 7 = .ok (.aload_n 0, 1) := by decide +kernel
theorem dX4_takeBack_8 : decode cX4_takeBack 8 = .ok (.dup, 1) := by decide +kernel
theorem dX4_takeBack_9 : decode cX4_takeBack 9 = .ok (.getfield 17, 3) := by decide +kernel
theorem dX4_takeBack_12 : decode cX4_takeBack 12 = .ok (.iconst 1, 1) := by decide +kernel
theorem dX4_takeBack_13 : decode cX4_takeBack 13 = .ok (.isub, 1) := by decide +kernel
theorem dX4_takeBack_14 : decode cX4_takeBack 14 = .ok (.putfield 17, 3) := by decide +kernel
theorem dX4_takeBack_17 : decode cX4_takeBack 17 = .ok (.aload_n 1, 1) := by decide +kernel
theorem dX4_takeBack_18 : decode cX4_takeBack 18 = .ok (.aload_n 0, 1) := by decide +kernel
theorem dX4_takeBack_19 : decode cX4_takeBack 19 = .ok (.getfield 11, 3) := by decide +kernel
theorem dX4_takeBack_22 : decode cX4_takeBack 22 = .ok (.aload_n 0, 1) := by decide +kernel
theorem dX4_takeBack_23 : decode cX4_takeBack 23 = .ok (.getfield 17, 3) := by decide +kernel
theorem dX4_takeBack_26 : decode cX4_takeBack 26 = .ok (.aaload, 1) := by decide +kernel
theorem dX4_takeBack_27 : decode cX4_takeBack 27 = .ok (.invokevirtual 25, 3) := by decide +kernel
theorem dX4_takeBack_30 : decode cX4_takeBack 30 = .ok (.return_, 1) := by decide +kernel
theorem dX7_init_0 : decode cX7_init 0 = .ok (.aload_n 0, 1) := by decide +kernel
theorem dX7_init_1 : decode cX7_init 1 = .ok (.invokespecial 3, 3) := by decide +kernel
theorem dX7_init_4 : decode cX7_init 4 = .ok (.aload_n 0, 1) := by decide +kernel
theorem dX7_init_5 : decode cX7_init 5 = .ok (.bipush 60, 2) := by decide +kernel
theorem dX7_init_7 : decode cX7_init 7 = .ok (.newarray .char, 2) := by decide +kernel
theorem dX7_init_9 : decode cX7_init 9 = .ok (.putfield 9, 3) := by decide +kernel
theorem dX7_init_12 : decode cX7_init 12 = .ok (.aload_n 0, 1) := by decide +kernel
theorem dX7_init_13 : decode cX7_init 13 = .ok (.iconst 0, 1) := by decide +kernel
theorem dX7_init_14 : decode cX7_init 14 = .ok (.putfield 15, 3) := by decide +kernel
theorem dX7_init_17 : decode cX7_init 17 = .ok (.aload_n 0, 1) := by decide +kernel
theorem dX7_init_18 : decode cX7_init 18 = .ok (.bipush 15, 2) := by decide +kernel
theorem dX7_init_20 : decode cX7_init 20 = .ok (.newarray .int, 2) := by decide +kernel
theorem dX7_init_22 : decode cX7_init 22 = .ok (.putfield 19, 3) := by decide +kernel
theorem dX7_init_25 : decode cX7_init 25 = .ok (.aload_n 0, 1) := by decide +kernel
theorem dX7_init_26 : decode cX7_init 26 = .ok (.bipush 15, 2) := by decide +kernel
theorem dX7_init_28 : decode cX7_init 28 = .ok (.iconst 4, 1) := by decide +kernel
theorem dX7_init_29 : decode cX7_init 29 = .ok (.multianewarray 23 2, 4) := by decide +kernel
theorem dX7_init_33 : decode cX7_init 33 = .ok (.putfield 25, 3) := by decide +kernel
theorem dX7_init_36 : decode cX7_init 36 = .ok (.aload_n 0, 1) := by decide +kernel
theorem dX7_init_37 : decode cX7_init 37 = .ok (.iconst 0, 1) := by decide +kernel
theorem dX7_init_38 : decode cX7_init 38 = .ok (.putfield 28, 3) := by decide +kernel
theorem dX7_init_41 : decode cX7_init 41 = .ok (.aload_n 0, 1) := by decide +kernel
theorem dX7_init_42 : decode cX7_init 42 = .ok (.iconst 0, 1) := by decide +kernel
theorem dX7_init_43 : decode cX7_init 43 = .ok (.putfield 31, 3) := by decide +kernel
theorem dX7_init_46 : decode cX7_init 46 = .ok (.return_, 1) := by decide +kernel
theorem dX7_hasRoom_0 : decode cX7_hasRoom 0 = .ok (.aload_n 0, 1) := by decide +kernel
theorem dX7_hasRoom_1 : decode cX7_hasRoom 1 = .ok (.getfield 15, 3) := by decide +kernel
theorem dX7_hasRoom_4 : decode cX7_hasRoom 4 = .ok (.bipush 60, 2) := by decide +kernel
theorem dX7_hasRoom_6 : decode cX7_hasRoom 6 = .ok (.if_icmp .ge 7, 3) := by decide +kernel
theorem dX7_hasRoom_9 : decode cX7_hasRoom 9 = .ok (.iconst 1, 1) := by decide +kernel
theorem dX7_hasRoom_10 : decode cX7_hasRoom 10 = .ok (.goto 4, 3) := by decide +kernel
theorem dX7_hasRoom_13 : decode cX7_hasRoom 13 = .ok (.iconst 0, 1) := by decide +kernel
theorem dX7_hasRoom_14 : decode cX7_hasRoom 14 = .ok (.ireturn, 1) := by decide +kernel
theorem dX7_add_0 : decode cX7_add 0 = .ok (.aload_n 0, 1) := by decide +kernel
theorem dX7_add_1 : decode cX7_add 1 = .ok (.invokevirtual 34, 3) := by decide +kernel
theorem dX7_add_4 : decode cX7_add 4 = .ok (.ifCond .eq 23, 3) := by decide +kernel
theorem dX7_add_7 : decode cX7_add 7 = .ok (.aload_n 0, 1) := by decide +kernel
theorem dX7_add_8 : decode cX7_add 8 = .ok (.getfield 9, 3) := by decide +kernel
theorem dX7_add_11 : decode cX7_add 11 = .ok (.aload_n 0, 1) := by decide +kernel
theorem dX7_add_12 : decode cX7_add 12 = .ok (.getfield 15, 3) := by decide +kernel
theorem dX7_add_15 : decode cX7_add 15 = .ok (.iload_n 1, 1) := by decide +kernel
theorem dX7_add_16 : decode cX7_add 16 = .ok (.castore, 1) := by decide +kernel
theorem dX7_add_17 : decode cX7_add 17 = .ok (.aload_n 0, 1) := by decide +kernel
theorem dX7_add_18 : decode cX7_add 18 = .ok (.dup, 1) := by decide +kernel
theorem dX7_add_19 : decode cX7_add 19 = .ok (.getfield 15, 3) := by decide +kernel
theorem dX7_add_22 : decode cX7_add 22 = .ok (.iconst 1, 1) := by decide +kernel
theorem dX7_add_23 : decode cX7_add 23 = .ok (.iadd, 1) := by decide +kernel
theorem dX7_add_24 : decode cX7_add 24 = .ok (.putfield 15, 3) := by decide +kernel
theorem dX7_add_27 : decode cX7_add 27 = .ok (.aload_n 0, 1) := by decide +kernel
theorem dX7_add_28 : decode cX7_add 28 = .ok (.getfield 15, 3) := by decide +kernel
theorem dX7_add_31 : decode cX7_add 31 = .ok (.ireturn, 1) := by decide +kernel
theorem dX7_findError_0 : decode cX7_findError 0 = .ok (.aload_n 0, 1) := by decide +kernel
theorem dX7_findError_1 : decode cX7_findError 1 = .ok (.iconst 0, 1) := by decide +kernel
theorem dX7_findError_2 : decode cX7_findError 2 = .ok (.putfield 28, 3) := by decide +kernel
theorem dX7_findError_5 : decode cX7_findError 5 = .ok (.iconst 0, 1) := by decide +kernel
theorem dX7_findError_6 : decode cX7_findError 6 = .ok (.istore_n 1, 1) := by decide +kernel
theorem dX7_findError_7 : decode cX7_findError 7 = .ok (.aload_n 0, 1) := by decide +kernel
theorem dX7_findError_8 : decode cX7_findError 8 = .ok (.getfield 28, 3) := by decide +kernel
theorem dX7_findError_11 : decode cX7_findError 11 = .ok (.bipush 15, 2) := by decide +kernel
theorem dX7_findError_13 : decode cX7_findError 13 = .ok (.if_icmp .ge 68, 3) := by decide +kernel
theorem dX7_findError_16 : decode cX7_findError 16 = .ok (.aload_n 0, 1) := by decide +kernel
theorem dX7_findError_17 : decode cX7_findError 17 = .ok (.iload_n 1, 1) := by decide +kernel
theorem dX7_findError_18 : decode cX7_findError 18 = .ok (.invokevirtual 38, 3) := by decide +kernel
theorem dX7_findError_21 : decode cX7_findError 21 = .ok (.ifCond .ne 8, 3) := by decide +kernel
theorem dX7_findError_24 : decode cX7_findError 24 = .ok (.aload_n 0, 1) := by decide +kernel
theorem dX7_findError_25 : decode cX7_findError 25 = .ok (.getfield 31, 3) := by decide +kernel
theorem dX7_findError_28 : decode cX7_findError 28 = .ok (.ireturn, 1) := by decide +kernel
theorem dX7_findError_29 : decode cX7_findError 29 = .ok (.aload_n 0, 1) := by decide +kernel
theorem dX7_findError_30 : decode cX7_findError 30 = .ok (.dup, 1) := by decide +kernel
theorem dX7_findError_31 : decode cX7_findError 31 = .ok (.getfield 28, 3) := by decide +kernel
theorem dX7_findError_34 : decode cX7_findError 34 = .ok (.iconst 1, 1) := by decide +kernel
theorem dX7_findError_35 : decode cX7_findError 35 = .ok (.iadd, 1) := by decide +kernel
theorem dX7_findError_36 : decode cX7_findError 36 = .ok (.putfield 28, 3) := by decide +kernel
theorem dX7_findError_39 : decode cX7_findError 39 = .ok (.aload_n 0, 1) := by decide +kernel
theorem dX7_findError_40 : decode cX7_findError 40 = .ok (.getfield 31, 3) := by decide +kernel
theorem dX7_findError_43 : decode cX7_findError 43 = .ok (.aload_n 0, 1) := by decide +kernel
theorem dX7_findError_44 : decode cX7_findError 44 = .ok (.getfield 15, 3) := by decide +kernel
theorem dX7_findError_47 : decode cX7_findError 47 = .ok (.if_icmp .lt 5, 3) := by decide +kernel
theorem dX7_findError_50 : decode cX7_findError 50 = .ok (.iconst (-1), 1) := by decide +kernel
theorem dX7_findError_51 : decode cX7_findError 51 = .ok (.ireturn, 1) := by decide +kernel
theorem dX7_findError_52 : decode cX7_findError 52 = .ok (.aload_n 0, 1) := by decide +kernel
theorem dX7_findError_53 : decode cX7_findError 53 = .ok (.getfield 9, 3) := by decide +kernel
theorem dX7_findError_56 : decode cX7_findError 56 = .ok (.aload_n 0, 1) := by decide +kernel
theorem dX7_findError_57 : decode cX7_findError 57 = .ok (.getfield 31, 3) := by decide +kernel
theorem dX7_findError_60 : decode cX7_findError 60 = .ok (.caload, 1) := by decide +kernel
theorem dX7_findError_61 : decode cX7_findError 61 = .ok (.bipush 59, 2) := by decide +kernel
theorem dX7_findError_63 : decode cX7_findError 63 = .ok (.if_icmp .eq 8, 3) := by decide +kernel
theorem dX7_findError_66 : decode cX7_findError 66 = .ok (.aload_n 0, 1) := by decide +kernel
theorem dX7_findError_67 : decode cX7_findError 67 = .ok (.getfield 31, 3) := by decide +kernel
theorem dX7_findError_70 : decode cX7_findError 70 = .ok (.ireturn, 1) := by decide +kernel
theorem dX7_findError_71 : decode cX7_findError 71 = .ok (.aload_n 0, 1) := by decide +kernel
theorem dX7_findError_72 : decode cX7_findError 72 = .ok (.getfield 31, 3) := by decide +kernel
theorem dX7_findError_75 : decode cX7_findError 75 = .ok (.iconst 1, 1) := by decide +kernel
theorem dX7_findError_76 : decode cX7_findError 76 = .ok (.iadd, 1) := by decide +kernel
theorem dX7_findError_77 : decode cX7_findError 77 = .ok (.istore_n 1, 1) := by decide +kernel
theorem dX7_findError_78 : decode cX7_findError 78 = .ok (.goto (-71), 3) := by decide +kernel
theorem dX7_findError_81 : decode cX7_findError 81 = .ok (.iload_n 1, 1) := by decide +kernel
theorem dX7_findError_82 : decode cX7_findError 82 = .ok (.ireturn, 1) := by decide +kernel
theorem dX7_readCommand_0 : decode cX7_readCommand 0 = .ok (.aload_n 0, 1) := by decide +kernel
theorem dX7_readCommand_1 : decode cX7_readCommand 1 = .ok (.iload_n 1, 1) := by decide +kernel
theorem dX7_readCommand_2 : decode cX7_readCommand 2 = .ok (.putfield 31, 3) := by decide +kernel
theorem dX7_readCommand_5 : decode cX7_readCommand 5 = .ok (.iconst 0, 1) := by decide +kernel
theorem dX7_readCommand_6 : decode cX7_readCommand 6 = .ok (.istore_n 2, 1) := by decide +kernel
theorem dX7_readCommand_7 : decode cX7_readCommand 7 = .ok (.iload_n 2, 1) := by decide +kernel
theorem dX7_readCommand_8 : decode cX7_readCommand 8 = .ok (.bipush 9, 2) := by decide +kernel
theorem dX7_readCommand_10 : decode cX7_readCommand 10 = .ok (.if_icmp .ge 33, 3) := by decide +kernel
theorem dX7_readCommand_13 : decode cX7_readCommand 13 = .ok (.aload_n 0, 1) := by decide +kernel
theorem dX7_readCommand_14 : decode cX7_readCommand 14 = .ok (.iload_n 2, 1) := by decide +kernel
theorem dX7_readCommand_15 : decode cX7_readCommand 15 = .ok (.invokestatic 42, 3) := by decide +kernel
theorem dX7_readCommand_18 : decode cX7_readCommand 18 = .ok (.iload_n 1, 1) := by decide +kernel
theorem dX7_readCommand_19 : decode cX7_readCommand 19 = .ok (.invokevirtual 46, 3) := by decide +kernel
theorem dX7_readCommand_22 : decode cX7_readCommand 22 = .ok (.ifCond .eq 15, 3) := by decide +kernel
theorem dX7_readCommand_25 : decode cX7_readCommand 25 = .ok (.aload_n 0, 1) := by decide +kernel
theorem dX7_readCommand_26 : decode cX7_readCommand 26 = .ok (.getfield 19, 3) := by decide +kernel
theorem dX7_readCommand_29 : decode cX7_readCommand 29 = .ok (.aload_n 0, 1) := by decide +kernel
theorem dX7_readCommand_30 : decode cX7_readCommand 30 = .ok (.getfield 28, 3) := by decide +kernel
theorem dX7_readCommand_33 : decode cX7_readCommand 33 = .ok (.iload_n 2, 1) := by decide +kernel
theorem dX7_readCommand_34 : decode cX7_readCommand 34 = .ok (.iastore, 1) := by decide +kernel
theorem dX7_readCommand_35 : decode cX7_readCommand 35 = .ok (.iconst 1, 1) := by decide +kernel
theorem dX7_readCommand_36 : decode cX7_readCommand 36 = .ok (.ireturn, 1) := by decide +kernel
theorem dX7_readCommand_37 : decode cX7_readCommand 37 = .ok (.iinc 2 1, 3) := by decide +kernel
theorem dX7_readCommand_40 : decode cX7_readCommand 40 = .ok (.goto (-33), 3) := by decide +kernel
theorem dX7_readCommand_43 : decode cX7_readCommand 43 = .ok (.iconst 0, 1) := by decide +kernel
theorem dX7_readCommand_44 : decode cX7_readCommand 44 = .ok (.ireturn, 1) := by decide +kernel
theorem dX7_formOf_0 : decode cX7_formOf 0 = .ok (.iload_n 0, 1) := by decide +kernel
theorem dX7_formOf_1 : decode cX7_formOf 1 = .ok (.tableswitch 71 0 7 #[47, 50, 53, 56, 59, 62, 65, 68], 47) := by decide +kernel
theorem dX7_formOf_48 : decode cX7_formOf 48 = .ok (.ldc 50, 2) := by decide +kernel
theorem dX7_formOf_50 : decode cX7_formOf 50 = .ok (.areturn, 1) := by decide +kernel
theorem dX7_formOf_51 : decode cX7_formOf 51 = .ok (.ldc 52, 2) := by decide +kernel
theorem dX7_formOf_53 : decode cX7_formOf 53 = .ok (.areturn, 1) := by decide +kernel
theorem dX7_formOf_54 : decode cX7_formOf 54 = .ok (.ldc 54, 2) := by decide +kernel
theorem dX7_formOf_56 : decode cX7_formOf 56 = .ok (.areturn, 1) := by decide +kernel
theorem dX7_formOf_57 : decode cX7_formOf 57 = .ok (.ldc 56, 2) := by decide +kernel
theorem dX7_formOf_59 : decode cX7_formOf 59 = .ok (.areturn, 1) := by decide +kernel
theorem dX7_formOf_60 : decode cX7_formOf 60 = .ok (.ldc 58, 2) := by decide +kernel
theorem dX7_formOf_62 : decode cX7_formOf 62 = .ok (.areturn, 1) := by decide +kernel
theorem dX7_formOf_63 : decode cX7_formOf 63 = .ok (.ldc 60, 2) := by decide +kernel
theorem dX7_formOf_65 : decode cX7_formOf 65 = .ok (.areturn, 1) := by decide +kernel
theorem dX7_formOf_66 : decode cX7_formOf 66 = .ok (.ldc 62, 2) := by decide +kernel
theorem dX7_formOf_68 : decode cX7_formOf 68 = .ok (.areturn, 1) := by decide +kernel
theorem dX7_formOf_69 : decode cX7_formOf 69 = .ok (.ldc 64, 2) := by decide +kernel
theorem dX7_formOf_71 : decode cX7_formOf 71 = .ok (.areturn, 1) := by decide +kernel
theorem dX7_formOf_72 : decode cX7_formOf 72 = .ok (.ldc 66, 2) := by decide +kernel
theorem dX7_formOf_74 : decode cX7_formOf 74 = .ok (.areturn, 1) := by decide +kernel
theorem dX7_fits_0 : decode cX7_fits 0 = .ok (.iload_n 2, 1) := by decide +kernel
theorem dX7_fits_1 : decode cX7_fits 1 = .ok (.istore_n 3, 1) := by decide +kernel
theorem dX7_fits_2 : decode cX7_fits 2 = .ok (.iconst 0, 1) := by decide +kernel
theorem dX7_fits_3 : decode cX7_fits 3 = .ok (.istore 4, 2) := by decide +kernel
theorem dX7_fits_5 : decode cX7_fits 5 = .ok (.iconst 0, 1) := by decide +kernel
theorem dX7_fits_6 : decode cX7_fits 6 = .ok (.istore 5, 2) := by decide +kernel
theorem dX7_fits_8 : decode cX7_fits 8 = .ok (.iload 5, 2) := by decide +kernel
theorem dX7_fits_10 : decode cX7_fits 10 = .ok (.aload_n 1, 1) := by decide +kernel
theorem dX7_fits_11 : decode cX7_fits 11 = .ok (.invokevirtual 68, 3) := by decide +kernel
theorem dX7_fits_14 : decode cX7_fits 14 = .ok (.if_icmp .ge 81, 3) := by decide +kernel
theorem dX7_fits_17 : decode cX7_fits 17 = .ok (.aload_n 1, 1) := by decide +kernel
theorem dX7_fits_18 : decode cX7_fits 18 = .ok (.iload 5, 2) := by decide +kernel
theorem dX7_fits_20 : decode cX7_fits 20 = .ok (.invokevirtual 73, 3) := by decide +kernel
theorem dX7_fits_23 : decode cX7_fits 23 = .ok (.istore 6, 2) := by decide +kernel
theorem dX7_fits_25 : decode cX7_fits 25 = .ok (.aload_n 0, 1) := by decide +kernel
theorem dX7_fits_26 : decode cX7_fits 26 = .ok (.iload 6, 2) := by decide +kernel
theorem dX7_fits_28 : decode cX7_fits 28 = .ok (.iload_n 3, 1) := by decide +kernel
theorem dX7_fits_29 : decode cX7_fits 29 = .ok (.invokevirtual 77, 3) := by decide +kernel
theorem dX7_fits_32 : decode cX7_fits 32 = .ok (.istore 7, 2) := by decide +kernel
theorem dX7_fits_34 : decode cX7_fits 34 = .ok (.iload 7, 2) := by decide +kernel
theorem dX7_fits_36 : decode cX7_fits 36 = .ok (.ifCond .le 29, 3) := by decide +kernel
theorem dX7_fits_39 : decode cX7_fits 39 = .ok (.iload 6, 2) := by decide +kernel
theorem dX7_fits_41 : decode cX7_fits 41 = .ok (.invokestatic 81, 3) := by decide +kernel
theorem dX7_fits_44 : decode cX7_fits 44 = .ok (.ifCond .eq 21, 3) := by decide +kernel
theorem dX7_fits_47 : decode cX7_fits 47 = .ok (.aload_n 0, 1) := by decide +kernel
theorem dX7_fits_48 : decode cX7_fits 48 = .ok (.iload 4, 2) := by decide +kernel
theorem dX7_fits_50 : decode cX7_fits 50 = .ok (.aload_n 0, 1) := by decide +kernel
theorem dX7_fits_51 : decode cX7_fits 51 = .ok (.iload 6, 2) := by decide +kernel
theorem dX7_fits_53 : decode cX7_fits 53 = .ok (.iload_n 3, 1) := by decide +kernel
theorem dX7_fits_54 : decode cX7_fits 54 = .ok (.iload 7, 2) := by decide +kernel
theorem dX7_fits_56 : decode cX7_fits 56 = .ok (.invokevirtual 85, 3) := by decide +kernel
theorem dX7_fits_59 : decode cX7_fits 59 = .ok (.invokevirtual 89, 3) := by decide +kernel
theorem dX7_fits_62 : decode cX7_fits 62 = .ok (.iinc 4 1, 3) := by decide +kernel
theorem dX7_fits_65 : decode cX7_fits 65 = .ok (.iload_n 3, 1) := by decide +kernel
theorem dX7_fits_66 : decode cX7_fits 66 = .ok (.iload 7, 2) := by decide +kernel
theorem dX7_fits_68 : decode cX7_fits 68 = .ok (.iadd, 1) := by decide +kernel
theorem dX7_fits_69 : decode cX7_fits 69 = .ok (.istore_n 3, 1) := by decide +kernel
theorem dX7_fits_70 : decode cX7_fits 70 = .ok (.aload_n 0, 1) := by decide +kernel
theorem dX7_fits_71 : decode cX7_fits 71 = .ok (.aload_n 0, 1) := by decide +kernel
theorem dX7_fits_72 : decode cX7_fits 72 = .ok (.getfield 31, 3) := by decide +kernel
theorem dX7_fits_75 : decode cX7_fits 75 = .ok (.iload_n 3, 1) := by decide +kernel
theorem dX7_fits_76 : decode cX7_fits 76 = .ok (.invokestatic 93, 3) := by decide +kernel
theorem dX7_fits_79 : decode cX7_fits 79 = .ok (.putfield 31, 3) := by decide +kernel
theorem dX7_fits_82 : decode cX7_fits 82 = .ok (.iload 7, 2) := by decide +kernel
theorem dX7_fits_84 : decode cX7_fits 84 = .ok (.ifCond .ne 5, 3) := by decide +kernel
theorem dX7_fits_87 : decode cX7_fits 87 = .ok (.iconst 0, 1) := by decide +kernel
theorem dX7_fits_88 : decode cX7_fits 88 = .ok (.ireturn, 1) := by decide +kernel
theorem dX7_fits_89 : decode cX7_fits 89 = .ok (.iinc 5 1, 3) := by decide +kernel
theorem dX7_fits_92 : decode cX7_fits 92 = .ok (.goto (-84), 3) := by decide +kernel
theorem dX7_fits_95 : decode cX7_fits 95 = .ok (.iconst 1, 1) := by decide +kernel
theorem dX7_fits_96 : decode cX7_fits 96 = .ok (.ireturn, 1) := by decide +kernel
theorem dX7_isSlot_0 : decode cX7_isSlot 0 = .ok (.iload_n 0, 1) := by decide +kernel
theorem dX7_isSlot_1 : decode cX7_isSlot 1 = .ok (.bipush 78, 2) := by decide +kernel
theorem dX7_isSlot_3 : decode cX7_isSlot 3 = .ok (.if_icmp .eq 15, 3) := by decide +kernel
theorem dX7_isSlot_6 : decode cX7_isSlot 6 = .ok (.iload_n 0, 1) := by decide +kernel
theorem dX7_isSlot_7 : decode cX7_isSlot 7 = .ok (.bipush 68, 2) := by decide +kernel
theorem dX7_isSlot_9 : decode cX7_isSlot 9 = .ok (.if_icmp .eq 9, 3) := by decide +kernel
theorem dX7_isSlot_12 : decode cX7_isSlot 12 = .ok (.iload_n 0, 1) := by decide +kernel
theorem dX7_isSlot_13 : decode cX7_isSlot 13 = .ok (.bipush 87, 2) := by decide +kernel
theorem dX7_isSlot_15 : decode cX7_isSlot 15 = .ok (.if_icmp .ne 7, 3) := by decide +kernel
theorem dX7_isSlot_18 : decode cX7_isSlot 18 = .ok (.iconst 1, 1) := by decide +kernel
theorem dX7_isSlot_19 : decode cX7_isSlot 19 = .ok (.goto 4, 3) := by decide +kernel
theorem dX7_isSlot_22 : decode cX7_isSlot 22 = .ok (.iconst 0, 1) := by decide +kernel
theorem dX7_isSlot_23 : decode cX7_isSlot 23 = .ok (.ireturn, 1) := by decide +kernel
theorem dX7_widthOf_0 : decode cX7_widthOf 0 = .ok (.iload_n 1, 1) := by decide +kernel
theorem dX7_widthOf_1 : decode cX7_widthOf 1 = .ok (.bipush 78, 2) := by decide +kernel
theorem dX7_widthOf_3 : decode cX7_widthOf 3 = .ok (.if_icmp .ne 29, 3) := by decide +kernel
theorem dX7_widthOf_6 : decode cX7_widthOf 6 = .ok (.aload_n 0, 1) := by decide +kernel
theorem dX7_widthOf_7 : decode cX7_widthOf 7 = .ok (.iload_n 2, 1) := by decide +kernel
theorem dX7_widthOf_8 : decode cX7_widthOf 8 = .ok (.invokevirtual 99, 3) := by decide +kernel
theorem dX7_widthOf_11 : decode cX7_widthOf 11 = .ok (.ifCond .ne 5, 3) := by decide +kernel
theorem dX7_widthOf_14 : decode cX7_widthOf 14 = .ok (.iconst 0, 1) := by decide +kernel
theorem dX7_widthOf_15 : decode cX7_widthOf 15 = .ok (.ireturn, 1) := by decide +kernel
theorem dX7_widthOf_16 : decode cX7_widthOf 16 = .ok (.aload_n 0, 1) := by decide +kernel
theorem dX7_widthOf_17 : decode cX7_widthOf 17 = .ok (.iload_n 2, 1) := by decide +kernel
theorem dX7_widthOf_18 : decode cX7_widthOf 18 = .ok (.iconst 1, 1) := by decide +kernel
theorem dX7_widthOf_19 : decode cX7_widthOf 19 = .ok (.iadd, 1) := by decide +kernel
theorem dX7_widthOf_20 : decode cX7_widthOf 20 = .ok (.invokevirtual 99, 3) := by decide +kernel
theorem dX7_widthOf_23 : decode cX7_widthOf 23 = .ok (.ifCond .eq 7, 3) := by decide +kernel
theorem dX7_widthOf_26 : decode cX7_widthOf 26 = .ok (.iconst 2, 1) := by decide +kernel
theorem dX7_widthOf_27 : decode cX7_widthOf 27 = .ok (.goto 4, 3) := by decide +kernel
theorem dX7_widthOf_30 : decode cX7_widthOf 30 = .ok (.iconst 1, 1) := by decide +kernel
theorem dX7_widthOf_31 : decode cX7_widthOf 31 = .ok (.ireturn, 1) := by decide +kernel
theorem dX7_widthOf_32 : decode cX7_widthOf 32 = .ok (.iload_n 1, 1) := by decide +kernel
theorem dX7_widthOf_33 : decode cX7_widthOf 33 = .ok (.bipush 68, 2) := by decide +kernel
theorem dX7_widthOf_35 : decode cX7_widthOf 35 = .ok (.if_icmp .ne 17, 3) := by decide +kernel
theorem dX7_widthOf_38 : decode cX7_widthOf 38 = .ok (.aload_n 0, 1) := by decide +kernel
theorem dX7_widthOf_39 : decode cX7_widthOf 39 = .ok (.iload_n 2, 1) := by decide +kernel
theorem dX7_widthOf_40 : decode cX7_widthOf 40 = .ok (.invokevirtual 99, 3) := by decide +kernel
theorem dX7_widthOf_43 : decode cX7_widthOf 43 = .ok (.ifCond .eq 7, 3) := by decide +kernel
theorem dX7_widthOf_46 : decode cX7_widthOf 46 = .ok (.iconst 1, 1) := by decide +kernel
theorem dX7_widthOf_47 : decode cX7_widthOf 47 = .ok (.goto 4, 3) := by decide +kernel
theorem dX7_widthOf_50 : decode cX7_widthOf 50 = .ok (.iconst 0, 1) := by decide +kernel
theorem dX7_widthOf_51 : decode cX7_widthOf 51 = .ok (.ireturn, 1) := by decide +kernel
theorem dX7_widthOf_52 : decode cX7_widthOf 52 = .ok (.iload_n 1, 1) := by decide +kernel
theorem dX7_widthOf_53 : decode cX7_widthOf 53 = .ok (.bipush 87, 2) := by decide +kernel
theorem dX7_widthOf_55 : decode cX7_widthOf 55 = .ok (.if_icmp .ne 17, 3) := by decide +kernel
theorem dX7_widthOf_58 : decode cX7_widthOf 58 = .ok (.aload_n 0, 1) := by decide +kernel
theorem dX7_widthOf_59 : decode cX7_widthOf 59 = .ok (.iload_n 2, 1) := by decide +kernel
theorem dX7_widthOf_60 : decode cX7_widthOf 60 = .ok (.invokevirtual 102, 3) := by decide +kernel
theorem dX7_widthOf_63 : decode cX7_widthOf 63 = .ok (.ifCond .lt 7, 3) := by decide +kernel
theorem dX7_widthOf_66 : decode cX7_widthOf 66 = .ok (.iconst 1, 1) := by decide +kernel
theorem dX7_widthOf_67 : decode cX7_widthOf 67 = .ok (.goto 4, 3) := by decide +kernel
theorem dX7_widthOf_70 : decode cX7_widthOf 70 = .ok (.iconst 0, 1) := by decide +kernel
theorem dX7_widthOf_71 : decode cX7_widthOf 71 = .ok (.ireturn, 1) := by decide +kernel
theorem dX7_widthOf_72 : decode cX7_widthOf 72 = .ok (.iload_n 2, 1) := by decide +kernel
theorem dX7_widthOf_73 : decode cX7_widthOf 73 = .ok (.ifCond .lt 25, 3) := by decide +kernel
theorem dX7_widthOf_76 : decode cX7_widthOf 76 = .ok (.iload_n 2, 1) := by decide +kernel
theorem dX7_widthOf_77 : decode cX7_widthOf 77 = .ok (.aload_n 0, 1) := by decide +kernel
theorem dX7_widthOf_78 : decode cX7_widthOf 78 = .ok (.getfield 15, 3) := by decide +kernel
theorem dX7_widthOf_81 : decode cX7_widthOf 81 = .ok (.if_icmp .ge 17, 3) := by decide +kernel
theorem dX7_widthOf_84 : decode cX7_widthOf 84 = .ok (.aload_n 0, 1) := by decide +kernel
theorem dX7_widthOf_85 : decode cX7_widthOf 85 = .ok (.getfield 9, 3) := by decide +kernel
theorem dX7_widthOf_88 : decode cX7_widthOf 88 = .ok (.iload_n 2, 1) := by decide +kernel
theorem dX7_widthOf_89 : decode cX7_widthOf 89 = .ok (.caload, 1) := by decide +kernel
theorem dX7_widthOf_90 : decode cX7_widthOf 90 = .ok (.iload_n 1, 1) := by decide +kernel
theorem dX7_widthOf_91 : decode cX7_widthOf 91 = .ok (.if_icmp .ne 7, 3) := by decide +kernel
theorem dX7_widthOf_94 : decode cX7_widthOf 94 = .ok (.iconst 1, 1) := by decide +kernel
theorem dX7_widthOf_95 : decode cX7_widthOf 95 = .ok (.goto 4, 3) := by decide +kernel
theorem dX7_widthOf_98 : decode cX7_widthOf 98 = .ok (.iconst 0, 1) := by decide +kernel
theorem dX7_widthOf_99 : decode cX7_widthOf 99 = .ok (.ireturn, 1) := by decide +kernel
theorem dX7_valueOf_0 : decode cX7_valueOf 0 = .ok (.iload_n 1, 1) := by decide +kernel
theorem dX7_valueOf_1 : decode cX7_valueOf 1 = .ok (.bipush 87, 2) := by decide +kernel
theorem dX7_valueOf_3 : decode cX7_valueOf 3 = .ok (.if_icmp .ne 9, 3) := by decide +kernel
theorem dX7_valueOf_6 : decode cX7_valueOf 6 = .ok (.aload_n 0, 1) := by decide +kernel
theorem dX7_valueOf_7 : decode cX7_valueOf 7 = .ok (.iload_n 2, 1) := by decide +kernel
theorem dX7_valueOf_8 : decode cX7_valueOf 8 = .ok (.invokevirtual 102, 3) := by decide +kernel
theorem dX7_valueOf_11 : decode cX7_valueOf 11 = .ok (.ireturn, 1) := by decide +kernel
theorem dX7_valueOf_12 : decode cX7_valueOf 12 = .ok (.aload_n 0, 1) := by decide +kernel
theorem dX7_valueOf_13 : decode cX7_valueOf 13 = .ok (.iload_n 2, 1) := by decide +kernel
theorem dX7_valueOf_14 : decode cX7_valueOf 14 = .ok (.invokevirtual 106, 3) := by decide +kernel
theorem dX7_valueOf_17 : decode cX7_valueOf 17 = .ok (.istore 4, 2) := by decide +kernel
theorem dX7_valueOf_19 : decode cX7_valueOf 19 = .ok (.iload_n 3, 1) := by decide +kernel
theorem dX7_valueOf_20 : decode cX7_valueOf 20 = .ok (.iconst 2, 1) := by decide +kernel
theorem dX7_valueOf_21 : decode cX7_valueOf 21 = .ok (.if_icmp .ne 19, 3) := by decide +kernel
theorem dX7_valueOf_24 : decode cX7_valueOf 24 = .ok (.bipush 10, 2) := by decide +kernel
theorem dX7_valueOf_26 : decode cX7_valueOf 26 = .ok (.iload 4, 2) := by decide +kernel
theorem dX7_valueOf_28 : decode cX7_valueOf 28 = .ok (.imul, 1) := by decide +kernel
theorem dX7_valueOf_29 : decode cX7_valueOf 29 = .ok (.aload_n 0, 1) := by decide +kernel
theorem dX7_valueOf_30 : decode cX7_valueOf 30 = .ok (.iload_n 2, 1) := by decide +kernel
theorem dX7_valueOf_31 : decode cX7_valueOf 31 = .ok (.iconst 1, 1) := by decide +kernel
theorem dX7_valueOf_32 : decode cX7_valueOf 32 = .ok (.iadd, 1) := by decide +kernel
theorem dX7_valueOf_33 : decode cX7_valueOf 33 = .ok (.invokevirtual 106, 3) := by decide +kernel
theorem dX7_valueOf_36 : decode cX7_valueOf 36 = .ok (.iadd, 1) := by decide +kernel
theorem dX7_valueOf_37 : decode cX7_valueOf 37 = .ok (.goto 5, 3) := by decide +kernel
theorem dX7_valueOf_40 : decode cX7_valueOf 40 = .ok (.iload 4, 2) := by decide +kernel
theorem dX7_valueOf_42 : decode cX7_valueOf 42 = .ok (.ireturn, 1) := by decide +kernel
theorem dX7_isDigitAt_0 : decode cX7_isDigitAt 0 = .ok (.aload_n 0, 1) := by decide +kernel
theorem dX7_isDigitAt_1 : decode cX7_isDigitAt 1 = .ok (.iload_n 1, 1) := by decide +kernel
theorem dX7_isDigitAt_2 : decode cX7_isDigitAt 2 = .ok (.invokevirtual 106, 3) := by decide +kernel
theorem dX7_isDigitAt_5 : decode cX7_isDigitAt 5 = .ok (.ifCond .lt 7, 3) := by decide +kernel
theorem dX7_isDigitAt_8 : decode cX7_isDigitAt 8 = .ok (.iconst 1, 1) := by decide +kernel
theorem dX7_isDigitAt_9 : decode cX7_isDigitAt 9 = .ok (.goto 4, 3) := by decide +kernel
theorem dX7_isDigitAt_12 : decode cX7_isDigitAt 12 = .ok (.iconst 0, 1) := by decide +kernel
theorem dX7_isDigitAt_13 : decode cX7_isDigitAt 13 = .ok (.ireturn, 1) := by decide +kernel
theorem dX7_digitAt_0 : decode cX7_digitAt 0 = .ok (.iload_n 1, 1) := by decide +kernel
theorem dX7_digitAt_1 : decode cX7_digitAt 1 = .ok (.ifCond .lt 11, 3) := by decide +kernel
theorem dX7_digitAt_4 : decode cX7_digitAt 4 = .ok (.iload_n 1, 1) := by decide +kernel
theorem dX7_digitAt_5 : decode cX7_digitAt 5 = .ok (.aload_n 0, 1) := by decide +kernel
theorem dX7_digitAt_6 : decode cX7_digitAt 6 = .ok (.getfield 15, 3) := by decide +kernel
theorem dX7_digitAt_9 : decode cX7_digitAt 9 = .ok (.if_icmp .lt 5, 3) := by decide +kernel
theorem dX7_digitAt_12 : decode cX7_digitAt 12 = .ok (.iconst (-1), 1) := by decide +kernel
theorem dX7_digitAt_13 : decode cX7_digitAt 13 = .ok (.ireturn, 1) := by decide +kernel
theorem dX7_digitAt_14 : decode cX7_digitAt 14 = .ok (.aload_n 0, 1) := by decide +kernel
theorem dX7_digitAt_15 : decode cX7_digitAt 15 = .ok (.getfield 9, 3) := by decide +kernel
theorem dX7_digitAt_18 : decode cX7_digitAt 18 = .ok (.iload_n 1, 1) := by decide +kernel
theorem dX7_digitAt_19 : decode cX7_digitAt 19 = .ok (.caload, 1) := by decide +kernel
theorem dX7_digitAt_20 : decode cX7_digitAt 20 = .ok (.istore_n 2, 1) := by decide +kernel
theorem dX7_digitAt_21 : decode cX7_digitAt 21 = .ok (.iload_n 2, 1) := by decide +kernel
theorem dX7_digitAt_22 : decode cX7_digitAt 22 = .ok (.bipush 48, 2) := by decide +kernel
theorem dX7_digitAt_24 : decode cX7_digitAt 24 = .ok (.if_icmp .lt 16, 3) := by decide +kernel
theorem dX7_digitAt_27 : decode cX7_digitAt 27 = .ok (.iload_n 2, 1) := by decide +kernel
theorem dX7_digitAt_28 : decode cX7_digitAt 28 = .ok (.bipush 57, 2) := by decide +kernel
theorem dX7_digitAt_30 : decode cX7_digitAt 30 = .ok (.if_icmp .gt 10, 3) := by decide +kernel
theorem dX7_digitAt_33 : decode cX7_digitAt 33 = .ok (.iload_n 2, 1) := by decide +kernel
theorem dX7_digitAt_34 : decode cX7_digitAt 34 = .ok (.bipush 48, 2) := by decide +kernel
theorem dX7_digitAt_36 : decode cX7_digitAt 36 = .ok (.isub, 1) := by decide +kernel
theorem dX7_digitAt_37 : decode cX7_digitAt 37 = .ok (.goto 4, 3) := by decide +kernel
theorem dX7_digitAt_40 : decode cX7_digitAt 40 = .ok (.iconst (-1), 1) := by decide +kernel
theorem dX7_digitAt_41 : decode cX7_digitAt 41 = .ok (.ireturn, 1) := by decide +kernel
theorem dX7_wayAt_0 : decode cX7_wayAt 0 = .ok (.iload_n 1, 1) := by decide +kernel
theorem dX7_wayAt_1 : decode cX7_wayAt 1 = .ok (.ifCond .lt 11, 3) := by decide +kernel
theorem dX7_wayAt_4 : decode cX7_wayAt 4 = .ok (.iload_n 1, 1) := by decide +kernel
theorem dX7_wayAt_5 : decode cX7_wayAt 5 = .ok (.aload_n 0, 1) := by decide +kernel
theorem dX7_wayAt_6 : decode cX7_wayAt 6 = .ok (.getfield 15, 3) := by decide +kernel
theorem dX7_wayAt_9 : decode cX7_wayAt 9 = .ok (.if_icmp .lt 5, 3) := by decide +kernel
theorem dX7_wayAt_12 : decode cX7_wayAt 12 = .ok (.iconst (-1), 1) := by decide +kernel
theorem dX7_wayAt_13 : decode cX7_wayAt 13 = .ok (.ireturn, 1) := by decide +kernel
theorem dX7_wayAt_14 : decode cX7_wayAt 14 = .ok (.iconst 0, 1) := by decide +kernel
theorem dX7_wayAt_15 : decode cX7_wayAt 15 = .ok (.istore_n 2, 1) := by decide +kernel
theorem dX7_wayAt_16 : decode cX7_wayAt 16 = .ok (.iload_n 2, 1) := by decide +kernel
theorem dX7_wayAt_17 : decode cX7_wayAt 17 = .ok (.ldc 109, 2) := by decide +kernel
theorem dX7_wayAt_19 : decode cX7_wayAt 19 = .ok (.invokevirtual 68, 3) := by decide +kernel
theorem dX7_wayAt_22 : decode cX7_wayAt 22 = .ok (.if_icmp .ge 26, 3) := by decide +kernel
theorem dX7_wayAt_25 : decode cX7_wayAt 25 = .ok (.ldc 109, 2) := by decide +kernel
theorem dX7_wayAt_27 : decode cX7_wayAt 27 = .ok (.iload_n 2, 1) := by decide +kernel
theorem dX7_wayAt_28 : decode cX7_wayAt 28 = .ok (.invokevirtual 73, 3) := by decide +kernel
theorem dX7_wayAt_31 : decode cX7_wayAt 31 = .ok (.aload_n 0, 1) := by decide +kernel
theorem dX7_wayAt_32 : decode cX7_wayAt 32 = .ok (.getfield 9, 3) := by decide +kernel
theorem dX7_wayAt_35 : decode cX7_wayAt 35 = .ok (.iload_n 1, 1) := by decide +kernel
theorem dX7_wayAt_36 : decode cX7_wayAt 36 = .ok (.caload, 1) := by decide +kernel
theorem dX7_wayAt_37 : decode cX7_wayAt 37 = .ok (.if_icmp .ne 5, 3) := by decide +kernel
theorem dX7_wayAt_40 : decode cX7_wayAt 40 = .ok (.iload_n 2, 1) := by decide +kernel
theorem dX7_wayAt_41 : decode cX7_wayAt 41 = .ok (.ireturn, 1) := by decide +kernel
theorem dX7_wayAt_42 : decode cX7_wayAt 42 = .ok (.iinc 2 1, 3) := by decide +kernel
theorem dX7_wayAt_45 : decode cX7_wayAt 45 = .ok (.goto (-29), 3) := by decide +kernel
theorem dX7_wayAt_48 : decode cX7_wayAt 48 = .ok (.iconst (-1), 1) := by decide +kernel
theorem dX7_wayAt_49 : decode cX7_wayAt 49 = .ok (.ireturn, 1) := by decide +kernel
theorem dX7_putNumber_0 : decode cX7_putNumber 0 = .ok (.iload_n 1, 1) := by decide +kernel
theorem dX7_putNumber_1 : decode cX7_putNumber 1 = .ok (.iconst 4, 1) := by decide +kernel
theorem dX7_putNumber_2 : decode cX7_putNumber 2 = .ok (.if_icmp .ge 24, 3) := by decide +kernel
theorem dX7_putNumber_5 : decode cX7_putNumber 5 = .ok (.aload_n 0, 1) := by decide +kernel
theorem dX7_putNumber_6 : decode cX7_putNumber 6 = .ok (.getfield 28, 3) := by decide +kernel
theorem dX7_putNumber_9 : decode cX7_putNumber 9 = .ok (.bipush 15, 2) := by decide +kernel
theorem dX7_putNumber_11 : decode cX7_putNumber 11 = .ok (.if_icmp .ge 15, 3) := by decide +kernel
theorem dX7_putNumber_14 : decode cX7_putNumber 14 = .ok (.aload_n 0, 1) := by decide +kernel
theorem dX7_putNumber_15 : decode cX7_putNumber 15 = .ok (.getfield 25, 3) := by decide +kernel
theorem dX7_putNumber_18 : decode cX7_putNumber 18 = .ok (.aload_n 0, 1) := by decide +kernel
theorem dX7_putNumber_19 : decode cX7_putNumber 19 = .ok (.getfield 28, 3) := by decide +kernel
theorem dX7_putNumber_22 : decode cX7_putNumber 22 = .ok (.aaload, 1) := by decide +kernel
theorem dX7_putNumber_23 : decode cX7_putNumber 23 = .ok (.iload_n 1, 1) := by decide +kernel
theorem dX7_putNumber_24 : decode cX7_putNumber 24 = .ok (.iload_n 2, 1) := by decide +kernel
theorem dX7_putNumber_25 : decode cX7_putNumber 25 = .ok (.iastore, 1) := by decide +kernel
theorem dX7_putNumber_26 : decode cX7_putNumber 26 = .ok (.return_, 1) := by decide +kernel
theorem dX8_init_0 : decode cX8_init 0 = .ok (.aload_n 0, 1) := by decide +kernel
theorem dX8_init_1 : decode cX8_init 1 = .ok (.invokespecial 3, 3) := by decide +kernel
theorem dX8_init_4 : decode cX8_init 4 = .ok (.aload_n 0, 1) := by decide +kernel
theorem dX8_init_5 : decode cX8_init 5 = .ok (.new 9, 3) := by decide +kernel
theorem dX8_init_8 : decode cX8_init 8 = .ok (.dup, 1) := by decide +kernel
theorem dX8_init_9 : decode cX8_init 9 = .ok (.invokespecial 11, 3) := by decide +kernel
theorem dX8_init_12 : decode cX8_init 12 = .ok (.putfield 12, 3) := by decide +kernel
theorem dX8_init_15 : decode cX8_init 15 = .ok (.aload_n 0, 1) := by decide +kernel
theorem dX8_init_16 : decode cX8_init 16 = .ok (.new 18, 3) := by decide +kernel
theorem dX8_init_19 : decode cX8_init 19 = .ok (.dup, 1) := by decide +kernel
theorem dX8_init_20 : decode cX8_init 20 = .ok (.invokespecial 20, 3) := by decide +kernel
theorem dX8_init_23 : decode cX8_init 23 = .ok (.putfield 21, 3) := by decide +kernel
theorem dX8_init_26 : decode cX8_init 26 = .ok (.aload_n 0, 1) := by decide +kernel
theorem dX8_init_27 : decode cX8_init 27 = .ok (.new 25, 3) := by decide +kernel
theorem dX8_init_30 : decode cX8_init 30 = .ok (.dup, 1) := by decide +kernel
theorem dX8_init_31 : decode cX8_init 31 = .ok (.invokespecial 27, 3) := by decide +kernel
theorem dX8_init_34 : decode cX8_init 34 = .ok (.putfield 28, 3) := by decide +kernel
theorem dX8_init_37 : decode cX8_init 37 = .ok (.aload_n 0, 1) := by decide +kernel
theorem dX8_init_38 : decode cX8_init 38 = .ok (.bipush 6, 2) := by decide +kernel
theorem dX8_init_40 : decode cX8_init 40 = .ok (.anewarray 32, 3) := by decide +kernel
theorem dX8_init_43 : decode cX8_init 43 = .ok (.putfield 34, 3) := by decide +kernel
theorem dX8_init_46 : decode cX8_init 46 = .ok (.aload_n 0, 1) := by decide +kernel
theorem dX8_init_47 : decode cX8_init 47 = .ok (.iconst 0, 1) := by decide +kernel
theorem dX8_init_48 : decode cX8_init 48 = .ok (.putfield 38, 3) := by decide +kernel
theorem dX8_init_51 : decode cX8_init 51 = .ok (.aload_n 0, 1) := by decide +kernel
theorem dX8_init_52 : decode cX8_init 52 = .ok (.iconst 0, 1) := by decide +kernel
theorem dX8_init_53 : decode cX8_init 53 = .ok (.putfield 42, 3) := by decide +kernel
theorem dX8_init_56 : decode cX8_init 56 = .ok (.aload_n 0, 1) := by decide +kernel
theorem dX8_init_57 : decode cX8_init 57 = .ok (.bipush 6, 2) := by decide +kernel
theorem dX8_init_59 : decode cX8_init 59 = .ok (.newarray .long, 2) := by decide +kernel
theorem dX8_init_61 : decode cX8_init 61 = .ok (.putfield 45, 3) := by decide +kernel
theorem dX8_init_64 : decode cX8_init 64 = .ok (.aload_n 0, 1) := by decide +kernel
theorem dX8_init_65 : decode cX8_init 65 = .ok (.new 32, 3) := by decide +kernel
theorem dX8_init_68 : decode cX8_init 68 = .ok (.dup, 1) := by decide +kernel
theorem dX8_init_69 : decode cX8_init 69 = .ok (.invokespecial 49, 3) := by decide +kernel
theorem dX8_init_72 : decode cX8_init 72 = .ok (.putfield 50, 3) := by decide +kernel
theorem dX8_init_75 : decode cX8_init 75 = .ok (.iconst 0, 1) := by decide +kernel
theorem dX8_init_76 : decode cX8_init 76 = .ok (.istore_n 1, 1) := by decide +kernel
theorem dX8_init_77 : decode cX8_init 77 = .ok (.iload_n 1, 1) := by decide +kernel
theorem dX8_init_78 : decode cX8_init 78 = .ok (.bipush 6, 2) := by decide +kernel
theorem dX8_init_80 : decode cX8_init 80 = .ok (.if_icmp .ge 22, 3) := by decide +kernel
theorem dX8_init_83 : decode cX8_init 83 = .ok (.aload_n 0, 1) := by decide +kernel
theorem dX8_init_84 : decode cX8_init 84 = .ok (.getfield 34, 3) := by decide +kernel
theorem dX8_init_87 : decode cX8_init 87 = .ok (.iload_n 1, 1) := by decide +kernel
theorem dX8_init_88 : decode cX8_init 88 = .ok (.new 32, 3) := by decide +kernel
theorem dX8_init_91 : decode cX8_init 91 = .ok (.dup, 1) := by decide +kernel
theorem dX8_init_92 : decode cX8_init 92 = .ok (.invokespecial 49, 3) := by decide +kernel
theorem dX8_init_95 : decode cX8_init 95 = .ok (.aastore, 1) := by decide +kernel
theorem dX8_init_96 : decode cX8_init 96 = .ok (.iinc 1 1, 3) := by decide +kernel
theorem dX8_init_99 : decode cX8_init 99 = .ok (.goto (-22), 3) := by decide +kernel
theorem dX8_init_102 : decode cX8_init 102 = .ok (.return_, 1) := by decide +kernel
theorem dX8_copyFrom_0 : decode cX8_copyFrom 0 = .ok (.aload_n 0, 1) := by decide +kernel
theorem dX8_copyFrom_1 : decode cX8_copyFrom 1 = .ok (.getfield 12, 3) := by decide +kernel
theorem dX8_copyFrom_4 : decode cX8_copyFrom 4 = .ok (.aload_n 1, 1) := by decide +kernel
theorem dX8_copyFrom_5 : decode cX8_copyFrom 5 = .ok (.getfield 12, 3) := by decide +kernel
theorem dX8_copyFrom_8 : decode cX8_copyFrom 8 = .ok (.invokevirtual 54, 3) := by decide +kernel
theorem dX8_copyFrom_11 : decode cX8_copyFrom 11 = .ok (.aload_n 0, 1) := by decide +kernel
theorem dX8_copyFrom_12 : decode cX8_copyFrom 12 = .ok (.getfield 21, 3) := by decide +kernel
theorem dX8_copyFrom_15 : decode cX8_copyFrom 15 = .ok (.aload_n 1, 1) := by decide +kernel
theorem dX8_copyFrom_16 : decode cX8_copyFrom 16 = .ok (.getfield 21, 3) := by decide +kernel
theorem dX8_copyFrom_19 : decode cX8_copyFrom 19 = .ok (.invokevirtual 58, 3) := by decide +kernel
theorem dX8_copyFrom_22 : decode cX8_copyFrom 22 = .ok (.aload_n 0, 1) := by decide +kernel
theorem dX8_copyFrom_23 : decode cX8_copyFrom 23 = .ok (.getfield 28, 3) := by decide +kernel
theorem dX8_copyFrom_26 : decode cX8_copyFrom 26 = .ok (.aload_n 1, 1) := by decide +kernel
theorem dX8_copyFrom_27 : decode cX8_copyFrom 27 = .ok (.getfield 28, 3) := by decide +kernel
theorem dX8_copyFrom_30 : decode cX8_copyFrom 30 = .ok (.invokevirtual 61, 3) := by decide +kernel
theorem dX8_copyFrom_33 : decode cX8_copyFrom 33 = .ok (.iconst 0, 1) := by decide +kernel
theorem dX8_copyFrom_34 : decode cX8_copyFrom 34 = .ok (.istore_n 2, 1) := by decide +kernel
theorem dX8_copyFrom_35 : decode cX8_copyFrom 35 = .ok (.iload_n 2, 1) := by decide +kernel
theorem dX8_copyFrom_36 : decode cX8_copyFrom 36 = .ok (.bipush 6, 2) := by decide +kernel
theorem dX8_copyFrom_38 : decode cX8_copyFrom 38 = .ok (.if_icmp .ge 24, 3) := by decide +kernel
theorem dX8_copyFrom_41 : decode cX8_copyFrom 41 = .ok (.aload_n 0, 1) := by decide +kernel
theorem dX8_copyFrom_42 : decode cX8_copyFrom 42 = .ok (.getfield 34, 3) := by decide +kernel
theorem dX8_copyFrom_45 : decode cX8_copyFrom 45 = .ok (.iload_n 2, 1) := by decide +kernel
theorem dX8_copyFrom_46 : decode cX8_copyFrom 46 = .ok (.aaload, 1) := by decide +kernel
theorem dX8_copyFrom_47 : decode cX8_copyFrom 47 = .ok (.aload_n 1, 1) := by decide +kernel
theorem dX8_copyFrom_48 : decode cX8_copyFrom 48 = .ok (.getfield 34, 3) := by decide +kernel
theorem dX8_copyFrom_51 : decode cX8_copyFrom 51 = .ok (.iload_n 2, 1) := by decide +kernel
theorem dX8_copyFrom_52 : decode cX8_copyFrom 52 = .ok (.aaload, 1) := by decide +kernel
theorem dX8_copyFrom_53 : decode cX8_copyFrom 53 = .ok (.invokevirtual 64, 3) := by decide +kernel
theorem dX8_copyFrom_56 : decode cX8_copyFrom 56 = .ok (.iinc 2 1, 3) := by decide +kernel
theorem dX8_copyFrom_59 : decode cX8_copyFrom 59 = .ok (.goto (-24), 3) := by decide +kernel
theorem dX8_copyFrom_62 : decode cX8_copyFrom 62 = .ok (.aload_n 0, 1) := by decide +kernel
theorem dX8_copyFrom_63 : decode cX8_copyFrom 63 = .ok (.aload_n 1, 1) := by decide +kernel
theorem dX8_copyFrom_64 : decode cX8_copyFrom 64 = .ok (.getfield 38, 3) := by decide +kernel
theorem dX8_copyFrom_67 : decode cX8_copyFrom 67 = .ok (.putfield 38, 3) := by decide +kernel
theorem dX8_copyFrom_70 : decode cX8_copyFrom 70 = .ok (.aload_n 0, 1) := by decide +kernel
theorem dX8_copyFrom_71 : decode cX8_copyFrom 71 = .ok (.aload_n 1, 1) := by decide +kernel
theorem dX8_copyFrom_72 : decode cX8_copyFrom 72 = .ok (.getfield 42, 3) := by decide +kernel
theorem dX8_copyFrom_75 : decode cX8_copyFrom 75 = .ok (.putfield 42, 3) := by decide +kernel
theorem dX8_copyFrom_78 : decode cX8_copyFrom 78 = .ok (.return_, 1) := by decide +kernel
theorem dX8_hasPilot_0 : decode cX8_hasPilot 0 = .ok (.iload_n 1, 1) := by decide +kernel
theorem dX8_hasPilot_1 : decode cX8_hasPilot 1 = .ok (.ifCond .lt 15, 3) := by decide +kernel
theorem dX8_hasPilot_4 : decode cX8_hasPilot 4 = .ok (.iload_n 1, 1) := by decide +kernel
theorem dX8_hasPilot_5 : decode cX8_hasPilot 5 = .ok (.aload_n 0, 1) := by decide +kernel
theorem dX8_hasPilot_6 : decode cX8_hasPilot 6 = .ok (.getfield 38, 3) := by decide +kernel
theorem dX8_hasPilot_9 : decode cX8_hasPilot 9 = .ok (.if_icmp .ge 7, 3) := by decide +kernel
theorem dX8_hasPilot_12 : decode cX8_hasPilot 12 = .ok (.iconst 1, 1) := by decide +kernel
theorem dX8_hasPilot_13 : decode cX8_hasPilot 13 = .ok (.goto 4, 3) := by decide +kernel
theorem dX8_hasPilot_16 : decode cX8_hasPilot 16 = .ok (.iconst 0, 1) := by decide +kernel
theorem dX8_hasPilot_17 : decode cX8_hasPilot 17 = .ok (.ireturn, 1) := by decide +kernel
theorem dX8_countInPhase_0 : decode cX8_countInPhase 0 = .ok (.iconst 0, 1) := by decide +kernel
theorem dX8_countInPhase_1 : decode cX8_countInPhase 1 = .ok (.istore_n 2, 1) := by decide +kernel
theorem dX8_countInPhase_2 : decode cX8_countInPhase 2 = .ok (.iconst 0, 1) := by decide +kernel
theorem dX8_countInPhase_3 : decode cX8_countInPhase 3 = .ok (.istore_n 3, 1) := by decide +kernel
theorem dX8_countInPhase_4 : decode cX8_countInPhase 4 = .ok (.iload_n 3, 1) := by decide +kernel
theorem dX8_countInPhase_5 : decode cX8_countInPhase 5 = .ok (.aload_n 0, 1) := by decide +kernel
theorem dX8_countInPhase_6 : decode cX8_countInPhase 6 = .ok (.getfield 38, 3) := by decide +kernel
theorem dX8_countInPhase_9 : decode cX8_countInPhase 9 = .ok (.if_icmp .ge 25, 3) := by decide +kernel
theorem dX8_countInPhase_12 : decode cX8_countInPhase 12 = .ok (.aload_n 0, 1) := by decide +kernel
theorem dX8_countInPhase_13 : decode cX8_countInPhase 13 = .ok (.getfield 34, 3) := by decide +kernel
theorem dX8_countInPhase_16 : decode cX8_countInPhase 16 = .ok (.iload_n 3, 1) := by decide +kernel
theorem dX8_countInPhase_17 : decode cX8_countInPhase 17 = .ok (.aaload, 1) := by decide +kernel
theorem dX8_countInPhase_18 : decode cX8_countInPhase 18 = .ok (.getfield 67, 3) := by decide +kernel
theorem dX8_countInPhase_21 : decode cX8_countInPhase 21 = .ok (.aload_n 1, 1) := by decide +kernel
theorem dX8_countInPhase_22 : decode cX8_countInPhase 22 = .ok (.if_acmp .ne 6, 3) := by decide +kernel
theorem dX8_countInPhase_25 : decode cX8_countInPhase 25 = .ok (.iinc 2 1, 3) := by decide +kernel
theorem dX8_countInPhase_28 : decode cX8_countInPhase 28 = .ok (.iinc 3 1, 3) := by decide +kernel
theorem dX8_countInPhase_31 : decode cX8_countInPhase 31 = .ok (.goto (-27), 3) := by decide +kernel
theorem dX8_countInPhase_34 : decode cX8_countInPhase 34 = .ok (.iload_n 2, 1) := by decide +kernel
theorem dX8_countInPhase_35 : decode cX8_countInPhase 35 = .ok (.ireturn, 1) := by decide +kernel
theorem dX8_allWaiting_0 : decode cX8_allWaiting 0 = .ok (.aload_n 0, 1) := by decide +kernel
theorem dX8_allWaiting_1 : decode cX8_allWaiting 1 = .ok (.getstatic 71, 3) := by decide +kernel
theorem dX8_allWaiting_4 : decode cX8_allWaiting 4 = .ok (.invokevirtual 76, 3) := by decide +kernel
theorem dX8_allWaiting_7 : decode cX8_allWaiting 7 = .ok (.aload_n 0, 1) := by decide +kernel
theorem dX8_allWaiting_8 : decode cX8_allWaiting 8 = .ok (.getfield 38, 3) := by decide +kernel
theorem dX8_allWaiting_11 : decode cX8_allWaiting 11 = .ok (.if_icmp .ne 7, 3) := by decide +kernel
theorem dX8_allWaiting_14 : decode cX8_allWaiting 14 = .ok (.iconst 1, 1) := by decide +kernel
theorem dX8_allWaiting_15 : decode cX8_allWaiting 15 = .ok (.goto 4, 3) := by decide +kernel
theorem dX8_allWaiting_18 : decode cX8_allWaiting 18 = .ok (.iconst 0, 1) := by decide +kernel
theorem dX8_allWaiting_19 : decode cX8_allWaiting 19 = .ok (.ireturn, 1) := by decide +kernel
theorem dX8_refusalOfPoint_0 : decode cX8_refusalOfPoint 0 = .ok (.iload_n 1, 1) := by decide +kernel
theorem dX8_refusalOfPoint_1 : decode cX8_refusalOfPoint 1 = .ok (.invokestatic 80, 3) := by decide +kernel
theorem dX8_refusalOfPoint_4 : decode cX8_refusalOfPoint 4 = .ok (.ifCond .eq 10, 3) := by decide +kernel
theorem dX8_refusalOfPoint_7 : decode cX8_refusalOfPoint 7 = .ok (.iload_n 2, 1) := by decide +kernel
theorem dX8_refusalOfPoint_8 : decode cX8_refusalOfPoint 8 = .ok (.invokestatic 80, 3) := by decide +kernel
theorem dX8_refusalOfPoint_11 : decode cX8_refusalOfPoint 11 = .ok (.ifCond .ne 7, 3) := by decide +kernel
theorem dX8_refusalOfPoint_14 : decode cX8_refusalOfPoint 14 = .ok (.getstatic 84, 3) := by decide +kernel
theorem dX8_refusalOfPoint_17 : decode cX8_refusalOfPoint 17 = .ok (.areturn, 1) := by decide +kernel
theorem dX8_refusalOfPoint_18 : decode cX8_refusalOfPoint 18 = .ok (.aload_n 0, 1) := by decide +kernel
theorem dX8_refusalOfPoint_19 : decode cX8_refusalOfPoint 19 = .ok (.getfield 12, 3) := by decide +kernel
theorem dX8_refusalOfPoint_22 : decode cX8_refusalOfPoint 22 = .ok (.getfield 90, 3) := by decide +kernel
theorem dX8_refusalOfPoint_25 : decode cX8_refusalOfPoint 25 = .ok (.bipush 8, 2) := by decide +kernel
theorem dX8_refusalOfPoint_27 : decode cX8_refusalOfPoint 27 = .ok (.if_icmp .lt 9, 3) := by decide +kernel
theorem dX8_refusalOfPoint_30 : decode cX8_refusalOfPoint 30 = .ok (.getstatic 93, 3) := by decide +kernel
theorem dX8_refusalOfPoint_33 : decode cX8_refusalOfPoint 33 = .ok (.goto 6, 3) := by decide +kernel
theorem dX8_refusalOfPoint_36 : decode cX8_refusalOfPoint 36 = .ok (.getstatic 96, 3) := by decide +kernel
theorem dX8_refusalOfPoint_39 : decode cX8_refusalOfPoint 39 = .ok (.areturn, 1) := by decide +kernel
theorem dX8_refusalOfStop_0 : decode cX8_refusalOfStop 0 = .ok (.aload_n 0, 1) := by decide +kernel
theorem dX8_refusalOfStop_1 : decode cX8_refusalOfStop 1 = .ok (.getfield 12, 3) := by decide +kernel
theorem dX8_refusalOfStop_4 : decode cX8_refusalOfStop 4 = .ok (.iload_n 1, 1) := by decide +kernel
theorem dX8_refusalOfStop_5 : decode cX8_refusalOfStop 5 = .ok (.invokevirtual 99, 3) := by decide +kernel
theorem dX8_refusalOfStop_8 : decode cX8_refusalOfStop 8 = .ok (.ifCond .ne 7, 3) := by decide +kernel
theorem dX8_refusalOfStop_11 : decode cX8_refusalOfStop 11 = .ok (.getstatic 102, 3) := by decide +kernel
theorem dX8_refusalOfStop_14 : decode cX8_refusalOfStop 14 = .ok (.areturn, 1) := by decide +kernel
theorem dX8_refusalOfStop_15 : decode cX8_refusalOfStop 15 = .ok (.aload_n 0, 1) := by decide +kernel
theorem dX8_refusalOfStop_16 : decode cX8_refusalOfStop 16 = .ok (.invokevirtual 105, 3) := by decide +kernel
theorem dX8_refusalOfStop_19 : decode cX8_refusalOfStop 19 = .ok (.ifCond .eq 15, 3) := by decide +kernel
theorem dX8_refusalOfStop_22 : decode cX8_refusalOfStop 22 = .ok (.aload_n 0, 1) := by decide +kernel
theorem dX8_refusalOfStop_23 : decode cX8_refusalOfStop 23 = .ok (.getfield 12, 3) := by decide +kernel
theorem dX8_refusalOfStop_26 : decode cX8_refusalOfStop 26 = .ok (.getfield 109, 3) := by decide +kernel
theorem dX8_refusalOfStop_29 : decode cX8_refusalOfStop 29 = .ok (.bipush 6, 2) := by decide +kernel
theorem dX8_refusalOfStop_31 : decode cX8_refusalOfStop 31 = .ok (.if_icmp .lt 7, 3) := by decide +kernel
theorem dX8_refusalOfStop_34 : decode cX8_refusalOfStop 34 = .ok (.getstatic 93, 3) := by decide +kernel
theorem dX8_refusalOfStop_37 : decode cX8_refusalOfStop 37 = .ok (.areturn, 1) := by decide +kernel
theorem dX8_refusalOfStop_38 : decode cX8_refusalOfStop 38 = .ok (.aload_n 0, 1) := by decide +kernel
theorem dX8_refusalOfStop_39 : decode cX8_refusalOfStop 39 = .ok (.getfield 12, 3) := by decide +kernel
theorem dX8_refusalOfStop_42 : decode cX8_refusalOfStop 42 = .ok (.iload_n 1, 1) := by decide +kernel
theorem dX8_refusalOfStop_43 : decode cX8_refusalOfStop 43 = .ok (.invokevirtual 112, 3) := by decide +kernel
theorem dX8_refusalOfStop_46 : decode cX8_refusalOfStop 46 = .ok (.ifCond .eq 9, 3) := by decide +kernel
theorem dX8_refusalOfStop_49 : decode cX8_refusalOfStop 49 = .ok (.getstatic 115, 3) := by decide +kernel
theorem dX8_refusalOfStop_52 : decode cX8_refusalOfStop 52 = .ok (.goto 6, 3) := by decide +kernel
theorem dX8_refusalOfStop_55 : decode cX8_refusalOfStop 55 = .ok (.getstatic 96, 3) := by decide +kernel
theorem dX8_refusalOfStop_58 : decode cX8_refusalOfStop 58 = .ok (.areturn, 1) := by decide +kernel
theorem dX8_refusalOfThermal_0 : decode cX8_refusalOfThermal 0 = .ok (.iload_n 1, 1) := by decide +kernel
theorem dX8_refusalOfThermal_1 : decode cX8_refusalOfThermal 1 = .ok (.invokestatic 80, 3) := by decide +kernel
theorem dX8_refusalOfThermal_4 : decode cX8_refusalOfThermal 4 = .ok (.ifCond .eq 20, 3) := by decide +kernel
theorem dX8_refusalOfThermal_7 : decode cX8_refusalOfThermal 7 = .ok (.iload_n 2, 1) := by decide +kernel
theorem dX8_refusalOfThermal_8 : decode cX8_refusalOfThermal 8 = .ok (.invokestatic 80, 3) := by decide +kernel
theorem dX8_refusalOfThermal_11 : decode cX8_refusalOfThermal 11 = .ok (.ifCond .eq 13, 3) := by decide +kernel
theorem dX8_refusalOfThermal_14 : decode cX8_refusalOfThermal 14 = .ok (.iload_n 3, 1) := by decide +kernel
theorem dX8_refusalOfThermal_15 : decode cX8_refusalOfThermal 15 = .ok (.iconst 1, 1) := by decide +kernel
theorem dX8_refusalOfThermal_16 : decode cX8_refusalOfThermal 16 = .ok (.if_icmp .lt 8, 3) := by decide +kernel
theorem dX8_refusalOfThermal_19 : decode cX8_refusalOfThermal 19 = .ok (.iload_n 3, 1) := by decide +kernel
theorem dX8_refusalOfThermal_20 : decode cX8_refusalOfThermal 20 = .ok (.iconst 5, 1) := by decide +kernel
theorem dX8_refusalOfThermal_21 : decode cX8_refusalOfThermal 21 = .ok (.if_icmp .le 7, 3) := by decide +kernel
theorem dX8_refusalOfThermal_24 : decode cX8_refusalOfThermal 24 = .ok (.getstatic 84, 3) := by decide +kernel
theorem dX8_refusalOfThermal_27 : decode cX8_refusalOfThermal 27 = .ok (.areturn, 1) := by decide +kernel
theorem dX8_refusalOfThermal_28 : decode cX8_refusalOfThermal 28 = .ok (.aload_n 0, 1) := by decide +kernel
theorem dX8_refusalOfThermal_29 : decode cX8_refusalOfThermal 29 = .ok (.getfield 21, 3) := by decide +kernel
theorem dX8_refusalOfThermal_32 : decode cX8_refusalOfThermal 32 = .ok (.getfield 118, 3) := by decide +kernel
theorem dX8_refusalOfThermal_35 : decode cX8_refusalOfThermal 35 = .ok (.bipush 6, 2) := by decide +kernel
theorem dX8_refusalOfThermal_37 : decode cX8_refusalOfThermal 37 = .ok (.if_icmp .lt 9, 3) := by decide +kernel
theorem dX8_refusalOfThermal_40 : decode cX8_refusalOfThermal 40 = .ok (.getstatic 93, 3) := by decide +kernel
theorem dX8_refusalOfThermal_43 : decode cX8_refusalOfThermal 43 = .ok (.goto 6, 3) := by decide +kernel
theorem dX8_refusalOfThermal_46 : decode cX8_refusalOfThermal 46 = .ok (.getstatic 96, 3) := by decide +kernel
theorem dX8_refusalOfThermal_49 : decode cX8_refusalOfThermal 49 = .ok (.areturn, 1) := by decide +kernel
theorem dX8_refusalOfArea_0 : decode cX8_refusalOfArea 0 = .ok (.iload_n 1, 1) := by decide +kernel
theorem dX8_refusalOfArea_1 : decode cX8_refusalOfArea 1 = .ok (.invokestatic 80, 3) := by decide +kernel
theorem dX8_refusalOfArea_4 : decode cX8_refusalOfArea 4 = .ok (.ifCond .eq 10, 3) := by decide +kernel
theorem dX8_refusalOfArea_7 : decode cX8_refusalOfArea 7 = .ok (.iload_n 2, 1) := by decide +kernel
theorem dX8_refusalOfArea_8 : decode cX8_refusalOfArea 8 = .ok (.invokestatic 80, 3) := by decide +kernel
theorem dX8_refusalOfArea_11 : decode cX8_refusalOfArea 11 = .ok (.ifCond .ne 7, 3) := by decide +kernel
theorem dX8_refusalOfArea_14 : decode cX8_refusalOfArea 14 = .ok (.getstatic 84, 3) := by decide +kernel
theorem dX8_refusalOfArea_17 : decode cX8_refusalOfArea 17 = .ok (.areturn, 1) := by decide +kernel
theorem dX8_refusalOfArea_18 : decode cX8_refusalOfArea 18 = .ok (.iload_n 3, 1) := by decide +kernel
theorem dX8_refusalOfArea_19 : decode cX8_refusalOfArea 19 = .ok (.iload_n 1, 1) := by decide +kernel
theorem dX8_refusalOfArea_20 : decode cX8_refusalOfArea 20 = .ok (.if_icmp .lt 22, 3) := by decide +kernel
theorem dX8_refusalOfArea_23 : decode cX8_refusalOfArea 23 = .ok (.iload_n 3, 1) := by decide +kernel
theorem dX8_refusalOfArea_24 : decode cX8_refusalOfArea 24 = .ok (.bipush 60, 2) := by decide +kernel
theorem dX8_refusalOfArea_26 : decode cX8_refusalOfArea 26 = .ok (.if_icmp .gt 16, 3) := by decide +kernel
theorem dX8_refusalOfArea_29 : decode cX8_refusalOfArea 29 = .ok (.iload 4, 2) := by decide +kernel
theorem dX8_refusalOfArea_31 : decode cX8_refusalOfArea 31 = .ok (.iload_n 2, 1) := by decide +kernel
theorem dX8_refusalOfArea_32 : decode cX8_refusalOfArea 32 = .ok (.if_icmp .lt 10, 3) := by decide +kernel
theorem dX8_refusalOfArea_35 : decode cX8_refusalOfArea 35 = .ok (.iload 4, 2) := by decide +kernel
theorem dX8_refusalOfArea_37 : decode cX8_refusalOfArea 37 = .ok (.bipush 60, 2) := by decide +kernel
theorem dX8_refusalOfArea_39 : decode cX8_refusalOfArea 39 = .ok (.if_icmp .le 7, 3) := by decide +kernel
theorem dX8_refusalOfArea_42 : decode cX8_refusalOfArea 42 = .ok (.getstatic 84, 3) := by decide +kernel
theorem dX8_refusalOfArea_45 : decode cX8_refusalOfArea 45 = .ok (.areturn, 1) := by decide +kernel
theorem dX8_refusalOfArea_46 : decode cX8_refusalOfArea 46 = .ok (.aload_n 0, 1) := by decide +kernel
theorem dX8_refusalOfArea_47 : decode cX8_refusalOfArea 47 = .ok (.getfield 28, 3) := by decide +kernel
theorem dX8_refusalOfArea_50 : decode cX8_refusalOfArea 50 = .ok (.getfield 121, 3) := by decide +kernel
theorem dX8_refusalOfArea_53 : decode cX8_refusalOfArea 53 = .ok (.iconst 3, 1) := by decide +kernel
theorem dX8_refusalOfArea_54 : decode cX8_refusalOfArea 54 = .ok (.if_icmp .lt 9, 3) := by decide +kernel
theorem dX8_refusalOfArea_57 : decode cX8_refusalOfArea 57 = .ok (.getstatic 93, 3) := by decide +kernel
theorem dX8_refusalOfArea_60 : decode cX8_refusalOfArea 60 = .ok (.goto 6, 3) := by decide +kernel
theorem dX8_refusalOfArea_63 : decode cX8_refusalOfArea 63 = .ok (.getstatic 96, 3) := by decide +kernel
theorem dX8_refusalOfArea_66 : decode cX8_refusalOfArea 66 = .ok (.areturn, 1) := by decide +kernel
theorem dX8_refusalOfPilot_0 : decode cX8_refusalOfPilot 0 = .ok (.iload_n 1, 1) := by decide +kernel
theorem dX8_refusalOfPilot_1 : decode cX8_refusalOfPilot 1 = .ok (.bipush 20, 2) := by decide +kernel
theorem dX8_refusalOfPilot_3 : decode cX8_refusalOfPilot 3 = .ok (.if_icmp .lt 9, 3) := by decide +kernel
theorem dX8_refusalOfPilot_6 : decode cX8_refusalOfPilot 6 = .ok (.iload_n 1, 1) := by decide +kernel
theorem dX8_refusalOfPilot_7 : decode cX8_refusalOfPilot 7 = .ok (.bipush 60, 2) := by decide +kernel
theorem dX8_refusalOfPilot_9 : decode cX8_refusalOfPilot 9 = .ok (.if_icmp .le 7, 3) := by decide +kernel
theorem dX8_refusalOfPilot_12 : decode cX8_refusalOfPilot 12 = .ok (.getstatic 84, 3) := by decide +kernel
theorem dX8_refusalOfPilot_15 : decode cX8_refusalOfPilot 15 = .ok (.areturn, 1) := by decide +kernel
theorem dX8_refusalOfPilot_16 : decode cX8_refusalOfPilot 16 = .ok (.aload_n 0, 1) := by decide +kernel
theorem dX8_refusalOfPilot_17 : decode cX8_refusalOfPilot 17 = .ok (.getfield 38, 3) := by decide +kernel
theorem dX8_refusalOfPilot_20 : decode cX8_refusalOfPilot 20 = .ok (.bipush 6, 2) := by decide +kernel
theorem dX8_refusalOfPilot_22 : decode cX8_refusalOfPilot 22 = .ok (.if_icmp .lt 9, 3) := by decide +kernel
theorem dX8_refusalOfPilot_25 : decode cX8_refusalOfPilot 25 = .ok (.getstatic 93, 3) := by decide +kernel
theorem dX8_refusalOfPilot_28 : decode cX8_refusalOfPilot 28 = .ok (.goto 6, 3) := by decide +kernel
theorem dX8_refusalOfPilot_31 : decode cX8_refusalOfPilot 31 = .ok (.getstatic 96, 3) := by decide +kernel
theorem dX8_refusalOfPilot_34 : decode cX8_refusalOfPilot 34 = .ok (.areturn, 1) := by decide +kernel
theorem dX8_refusalOfLaunch_0 : decode cX8_refusalOfLaunch 0 = .ok (.aload_n 0, 1) := by decide +kernel
theorem dX8_refusalOfLaunch_1 : decode cX8_refusalOfLaunch 1 = .ok (.iload_n 1, 1) := by decide +kernel
theorem dX8_refusalOfLaunch_2 : decode cX8_refusalOfLaunch 2 = .ok (.invokevirtual 124, 3) := by decide +kernel
theorem dX8_refusalOfLaunch_5 : decode cX8_refusalOfLaunch 5 = .ok (.ifCond .ne 7, 3) := by decide +kernel
theorem dX8_refusalOfLaunch_8 : decode cX8_refusalOfLaunch 8 = .ok (.getstatic 102, 3) := by decide +kernel
theorem dX8_refusalOfLaunch_11 : decode cX8_refusalOfLaunch 11 = .ok (.areturn, 1) := by decide +kernel
theorem dX8_refusalOfLaunch_12 : decode cX8_refusalOfLaunch 12 = .ok (.aload_n 0, 1) := by decide +kernel
theorem dX8_refusalOfLaunch_13 : decode cX8_refusalOfLaunch 13 = .ok (.getfield 34, 3) := by decide +kernel
theorem dX8_refusalOfLaunch_16 : decode cX8_refusalOfLaunch 16 = .ok (.iload_n 1, 1) := by decide +kernel
theorem dX8_refusalOfLaunch_17 : decode cX8_refusalOfLaunch 17 = .ok (.aaload, 1) := by decide +kernel
theorem dX8_refusalOfLaunch_18 : decode cX8_refusalOfLaunch 18 = .ok (.getfield 67, 3) := by decide +kernel
theorem dX8_refusalOfLaunch_21 : decode cX8_refusalOfLaunch 21 = .ok (.getstatic 71, 3) := by decide +kernel
theorem dX8_refusalOfLaunch_24 : decode cX8_refusalOfLaunch 24 = .ok (.if_acmp .eq 7, 3) := by decide +kernel
theorem dX8_refusalOfLaunch_27 : decode cX8_refusalOfLaunch 27 = .ok (.getstatic 93, 3) := by decide +kernel
theorem dX8_refusalOfLaunch_30 : decode cX8_refusalOfLaunch 30 = .ok (.areturn, 1) := by decide +kernel
theorem dX8_refusalOfLaunch_31 : decode cX8_refusalOfLaunch 31 = .ok (.aload_n 0, 1) := by decide +kernel
theorem dX8_refusalOfLaunch_32 : decode cX8_refusalOfLaunch 32 = .ok (.getfield 12, 3) := by decide +kernel
theorem dX8_refusalOfLaunch_35 : decode cX8_refusalOfLaunch 35 = .ok (.getfield 109, 3) := by decide +kernel
theorem dX8_refusalOfLaunch_38 : decode cX8_refusalOfLaunch 38 = .ok (.iconst 2, 1) := by decide +kernel
theorem dX8_refusalOfLaunch_39 : decode cX8_refusalOfLaunch 39 = .ok (.if_icmp .ge 9, 3) := by decide +kernel
theorem dX8_refusalOfLaunch_42 : decode cX8_refusalOfLaunch 42 = .ok (.getstatic 115, 3) := by decide +kernel
theorem dX8_refusalOfLaunch_45 : decode cX8_refusalOfLaunch 45 = .ok (.goto 6, 3) := by decide +kernel
theorem dX8_refusalOfLaunch_48 : decode cX8_refusalOfLaunch 48 = .ok (.getstatic 96, 3) := by decide +kernel
theorem dX8_refusalOfLaunch_51 : decode cX8_refusalOfLaunch 51 = .ok (.areturn, 1) := by decide +kernel
theorem dX8_refusalOfFlight_0 : decode cX8_refusalOfFlight 0 = .ok (.aload_n 0, 1) := by decide +kernel
theorem dX8_refusalOfFlight_1 : decode cX8_refusalOfFlight 1 = .ok (.iload_n 1, 1) := by decide +kernel
theorem dX8_refusalOfFlight_2 : decode cX8_refusalOfFlight 2 = .ok (.invokevirtual 124, 3) := by decide +kernel
theorem dX8_refusalOfFlight_5 : decode cX8_refusalOfFlight 5 = .ok (.ifCond .ne 7, 3) := by decide +kernel
theorem dX8_refusalOfFlight_8 : decode cX8_refusalOfFlight 8 = .ok (.getstatic 102, 3) := by decide +kernel
theorem dX8_refusalOfFlight_11 : decode cX8_refusalOfFlight 11 = .ok (.areturn, 1) := by decide +kernel
theorem dX8_refusalOfFlight_12 : decode cX8_refusalOfFlight 12 = .ok (.iload_n 2, 1) := by decide +kernel
theorem dX8_refusalOfFlight_13 : decode cX8_refusalOfFlight 13 = .ok (.ifCond .lt 19, 3) := by decide +kernel
theorem dX8_refusalOfFlight_16 : decode cX8_refusalOfFlight 16 = .ok (.iload_n 2, 1) := by decide +kernel
theorem dX8_refusalOfFlight_17 : decode cX8_refusalOfFlight 17 = .ok (.iconst 3, 1) := by decide +kernel
theorem dX8_refusalOfFlight_18 : decode cX8_refusalOfFlight 18 = .ok (.if_icmp .gt 14, 3) := by decide +kernel
theorem dX8_refusalOfFlight_21 : decode cX8_refusalOfFlight 21 = .ok (.iload_n 3, 1) := by decide +kernel
theorem dX8_refusalOfFlight_22 : decode cX8_refusalOfFlight 22 = .ok (.iconst 1, 1) := by decide +kernel
theorem dX8_refusalOfFlight_23 : decode cX8_refusalOfFlight 23 = .ok (.if_icmp .lt 9, 3) := by decide +kernel
theorem dX8_refusalOfFlight_26 : decode cX8_refusalOfFlight 26 = .ok (.iload_n 3, 1) := by decide +kernel
theorem dX8_refusalOfFlight_27 : decode cX8_refusalOfFlight 27 = .ok (.bipush 60, 2) := by decide +kernel
theorem dX8_refusalOfFlight_29 : decode cX8_refusalOfFlight 29 = .ok (.if_icmp .le 7, 3) := by decide +kernel
theorem dX8_refusalOfFlight_32 : decode cX8_refusalOfFlight 32 = .ok (.getstatic 84, 3) := by decide +kernel
theorem dX8_refusalOfFlight_35 : decode cX8_refusalOfFlight 35 = .ok (.areturn, 1) := by decide +kernel
theorem dX8_refusalOfFlight_36 : decode cX8_refusalOfFlight 36 = .ok (.aload_n 0, 1) := by decide +kernel
theorem dX8_refusalOfFlight_37 : decode cX8_refusalOfFlight 37 = .ok (.getfield 34, 3) := by decide +kernel
theorem dX8_refusalOfFlight_40 : decode cX8_refusalOfFlight 40 = .ok (.iload_n 1, 1) := by decide +kernel
theorem dX8_refusalOfFlight_41 : decode cX8_refusalOfFlight 41 = .ok (.aaload, 1) := by decide +kernel
theorem dX8_refusalOfFlight_42 : decode cX8_refusalOfFlight 42 = .ok (.astore 4, 2) := by decide +kernel
theorem dX8_refusalOfFlight_44 : decode cX8_refusalOfFlight 44 = .ok (.aload 4, 2) := by decide +kernel
theorem dX8_refusalOfFlight_46 : decode cX8_refusalOfFlight 46 = .ok (.getfield 67, 3) := by decide +kernel
theorem dX8_refusalOfFlight_49 : decode cX8_refusalOfFlight 49 = .ok (.getstatic 127, 3) := by decide +kernel
theorem dX8_refusalOfFlight_52 : decode cX8_refusalOfFlight 52 = .ok (.if_acmp .eq 7, 3) := by decide +kernel
theorem dX8_refusalOfFlight_55 : decode cX8_refusalOfFlight 55 = .ok (.getstatic 93, 3) := by decide +kernel
theorem dX8_refusalOfFlight_58 : decode cX8_refusalOfFlight 58 = .ok (.areturn, 1) := by decide +kernel
theorem dX8_refusalOfFlight_59 : decode cX8_refusalOfFlight 59 = .ok (.aload 4, 2) := by decide +kernel
theorem dX8_refusalOfFlight_61 : decode cX8_refusalOfFlight 61 = .ok (.getfield 130, 3) := by decide +kernel
theorem dX8_refusalOfFlight_64 : decode cX8_refusalOfFlight 64 = .ok (.iload_n 2, 1) := by decide +kernel
theorem dX8_refusalOfFlight_65 : decode cX8_refusalOfFlight 65 = .ok (.invokestatic 133, 3) := by decide +kernel
theorem dX8_refusalOfFlight_68 : decode cX8_refusalOfFlight 68 = .ok (.iload_n 3, 1) := by decide +kernel
theorem dX8_refusalOfFlight_69 : decode cX8_refusalOfFlight 69 = .ok (.imul, 1) := by decide +kernel
theorem dX8_refusalOfFlight_70 : decode cX8_refusalOfFlight 70 = .ok (.iadd, 1) := by decide +kernel
theorem dX8_refusalOfFlight_71 : decode cX8_refusalOfFlight 71 = .ok (.istore 5, 2) := by decide +kernel
theorem dX8_refusalOfFlight_73 : decode cX8_refusalOfFlight 73 = .ok (.aload 4, 2) := by decide +kernel
theorem dX8_refusalOfFlight_75 : decode cX8_refusalOfFlight 75 = .ok (.getfield 137, 3) := by decide +kernel
theorem dX8_refusalOfFlight_78 : decode cX8_refusalOfFlight 78 = .ok (.iload_n 2, 1) := by decide +kernel
theorem dX8_refusalOfFlight_79 : decode cX8_refusalOfFlight 79 = .ok (.invokestatic 140, 3) := by decide +kernel
theorem dX8_refusalOfFlight_82 : decode cX8_refusalOfFlight 82 = .ok (.iload_n 3, 1) := by decide +kernel
theorem dX8_refusalOfFlight_83 : decode cX8_refusalOfFlight 83 = .ok (.imul, 1) := by decide +kernel
theorem dX8_refusalOfFlight_84 : decode cX8_refusalOfFlight 84 = .ok (.iadd, 1) := by decide +kernel
theorem dX8_refusalOfFlight_85 : decode cX8_refusalOfFlight 85 = .ok (.istore 6, 2) := by decide +kernel
theorem dX8_refusalOfFlight_87 : decode cX8_refusalOfFlight 87 = .ok (.iload 5, 2) := by decide +kernel
theorem dX8_refusalOfFlight_89 : decode cX8_refusalOfFlight 89 = .ok (.invokestatic 80, 3) := by decide +kernel
theorem dX8_refusalOfFlight_92 : decode cX8_refusalOfFlight 92 = .ok (.ifCond .eq 17, 3) := by decide +kernel
theorem dX8_refusalOfFlight_95 : decode cX8_refusalOfFlight 95 = .ok (.iload 6, 2) := by decide +kernel
theorem dX8_refusalOfFlight_97 : decode cX8_refusalOfFlight 97 = .ok (.invokestatic 80, 3) := by decide +kernel
theorem dX8_refusalOfFlight_100 : decode cX8_refusalOfFlight 100 = .ok (.ifCond .eq 9, 3) := by decide +kernel
theorem dX8_refusalOfFlight_103 : decode cX8_refusalOfFlight 103 = .ok (.getstatic 96, 3) := by decide +kernel
theorem dX8_refusalOfFlight_106 : decode cX8_refusalOfFlight 106 = .ok (.goto 6, 3) := by decide +kernel
theorem dX8_refusalOfFlight_109 : decode cX8_refusalOfFlight 109 = .ok (.getstatic 115, 3) := by decide +kernel
theorem dX8_refusalOfFlight_112 : decode cX8_refusalOfFlight 112 = .ok (.areturn, 1) := by decide +kernel
theorem dX8_refusalOfClimb_0 : decode cX8_refusalOfClimb 0 = .ok (.aload_n 0, 1) := by decide +kernel
theorem dX8_refusalOfClimb_1 : decode cX8_refusalOfClimb 1 = .ok (.iload_n 1, 1) := by decide +kernel
theorem dX8_refusalOfClimb_2 : decode cX8_refusalOfClimb 2 = .ok (.invokevirtual 124, 3) := by decide +kernel
theorem dX8_refusalOfClimb_5 : decode cX8_refusalOfClimb 5 = .ok (.ifCond .ne 7, 3) := by decide +kernel
theorem dX8_refusalOfClimb_8 : decode cX8_refusalOfClimb 8 = .ok (.getstatic 102, 3) := by decide +kernel
theorem dX8_refusalOfClimb_11 : decode cX8_refusalOfClimb 11 = .ok (.areturn, 1) := by decide +kernel
theorem dX8_refusalOfClimb_12 : decode cX8_refusalOfClimb 12 = .ok (.iload_n 2, 1) := by decide +kernel
theorem dX8_refusalOfClimb_13 : decode cX8_refusalOfClimb 13 = .ok (.iconst 1, 1) := by decide +kernel
theorem dX8_refusalOfClimb_14 : decode cX8_refusalOfClimb 14 = .ok (.if_icmp .lt 9, 3) := by decide +kernel
theorem dX8_refusalOfClimb_17 : decode cX8_refusalOfClimb 17 = .ok (.iload_n 2, 1) := by decide +kernel
theorem dX8_refusalOfClimb_18 : decode cX8_refusalOfClimb 18 = .ok (.bipush 30, 2) := by decide +kernel
theorem dX8_refusalOfClimb_20 : decode cX8_refusalOfClimb 20 = .ok (.if_icmp .le 7, 3) := by decide +kernel
theorem dX8_refusalOfClimb_23 : decode cX8_refusalOfClimb 23 = .ok (.getstatic 84, 3) := by decide +kernel
theorem dX8_refusalOfClimb_26 : decode cX8_refusalOfClimb 26 = .ok (.areturn, 1) := by decide +kernel
theorem dX8_refusalOfClimb_27 : decode cX8_refusalOfClimb 27 = .ok (.aload_n 0, 1) := by decide +kernel
theorem dX8_refusalOfClimb_28 : decode cX8_refusalOfClimb 28 = .ok (.getfield 34, 3) := by decide +kernel
theorem dX8_refusalOfClimb_31 : decode cX8_refusalOfClimb 31 = .ok (.iload_n 1, 1) := by decide +kernel
theorem dX8_refusalOfClimb_32 : decode cX8_refusalOfClimb 32 = .ok (.aaload, 1) := by decide +kernel
theorem dX8_refusalOfClimb_33 : decode cX8_refusalOfClimb 33 = .ok (.astore_n 3, 1) := by decide +kernel
theorem dX8_refusalOfClimb_34 : decode cX8_refusalOfClimb 34 = .ok (.aload_n 3, 1) := by decide +kernel
theorem dX8_refusalOfClimb_35 : decode cX8_refusalOfClimb 35 = .ok (.getfield 67, 3) := by decide +kernel
theorem dX8_refusalOfClimb_38 : decode cX8_refusalOfClimb 38 = .ok (.getstatic 127, 3) := by decide +kernel
theorem dX8_refusalOfClimb_41 : decode cX8_refusalOfClimb 41 = .ok (.if_acmp .eq 7, 3) := by decide +kernel
theorem dX8_refusalOfClimb_44 : decode cX8_refusalOfClimb 44 = .ok (.getstatic 93, 3) := by decide +kernel
theorem dX8_refusalOfClimb_47 : decode cX8_refusalOfClimb 47 = .ok (.areturn, 1) := by decide +kernel
theorem dX8_refusalOfClimb_48 : decode cX8_refusalOfClimb 48 = .ok (.aload_n 0, 1) := by decide +kernel
theorem dX8_refusalOfClimb_49 : decode cX8_refusalOfClimb 49 = .ok (.getfield 21, 3) := by decide +kernel
theorem dX8_refusalOfClimb_52 : decode cX8_refusalOfClimb 52 = .ok (.aload_n 3, 1) := by decide +kernel
theorem dX8_refusalOfClimb_53 : decode cX8_refusalOfClimb 53 = .ok (.getfield 130, 3) := by decide +kernel
theorem dX8_refusalOfClimb_56 : decode cX8_refusalOfClimb 56 = .ok (.aload_n 3, 1) := by decide +kernel
theorem dX8_refusalOfClimb_57 : decode cX8_refusalOfClimb 57 = .ok (.getfield 137, 3) := by decide +kernel
theorem dX8_refusalOfClimb_60 : decode cX8_refusalOfClimb 60 = .ok (.invokevirtual 143, 3) := by decide +kernel
theorem dX8_refusalOfClimb_63 : decode cX8_refusalOfClimb 63 = .ok (.ifCond .le 7, 3) := by decide +kernel
theorem dX8_refusalOfClimb_66 : decode cX8_refusalOfClimb 66 = .ok (.iconst 1, 1) := by decide +kernel
theorem dX8_refusalOfClimb_67 : decode cX8_refusalOfClimb 67 = .ok (.goto 4, 3) := by decide +kernel
theorem dX8_refusalOfClimb_70 : decode cX8_refusalOfClimb 70 = .ok (.iconst 0, 1) := by decide +kernel
theorem dX8_refusalOfClimb_71 : decode cX8_refusalOfClimb 71 = .ok (.istore 4, 2) := by decide +kernel
theorem dX8_refusalOfClimb_73 : decode cX8_refusalOfClimb 73 = .ok (.iload 4, 2) := by decide +kernel
theorem dX8_refusalOfClimb_75 : decode cX8_refusalOfClimb 75 = .ok (.ifCond .eq 9, 3) := by decide +kernel
theorem dX8_refusalOfClimb_78 : decode cX8_refusalOfClimb 78 = .ok (.getstatic 96, 3) := by decide +kernel
theorem dX8_refusalOfClimb_81 : decode cX8_refusalOfClimb 81 = .ok (.goto 6, 3) := by decide +kernel
theorem dX8_refusalOfClimb_84 : decode cX8_refusalOfClimb 84 = .ok (.getstatic 115, 3) := by decide +kernel
theorem dX8_refusalOfClimb_87 : decode cX8_refusalOfClimb 87 = .ok (.areturn, 1) := by decide +kernel
theorem dX8_refusalOfEnd_0 : decode cX8_refusalOfEnd 0 = .ok (.aload_n 0, 1) := by decide +kernel
theorem dX8_refusalOfEnd_1 : decode cX8_refusalOfEnd 1 = .ok (.invokevirtual 105, 3) := by decide +kernel
theorem dX8_refusalOfEnd_4 : decode cX8_refusalOfEnd 4 = .ok (.ifCond .ne 13, 3) := by decide +kernel
theorem dX8_refusalOfEnd_7 : decode cX8_refusalOfEnd 7 = .ok (.aload_n 0, 1) := by decide +kernel
theorem dX8_refusalOfEnd_8 : decode cX8_refusalOfEnd 8 = .ok (.getstatic 127, 3) := by decide +kernel
theorem dX8_refusalOfEnd_11 : decode cX8_refusalOfEnd 11 = .ok (.invokevirtual 76, 3) := by decide +kernel
theorem dX8_refusalOfEnd_14 : decode cX8_refusalOfEnd 14 = .ok (.ifCond .le 7, 3) := by decide +kernel
theorem dX8_refusalOfEnd_17 : decode cX8_refusalOfEnd 17 = .ok (.iconst 1, 1) := by decide +kernel
theorem dX8_refusalOfEnd_18 : decode cX8_refusalOfEnd 18 = .ok (.goto 4, 3) := by decide +kernel
theorem dX8_refusalOfEnd_21 : decode cX8_refusalOfEnd 21 = .ok (.iconst 0, 1) := by decide +kernel
theorem dX8_refusalOfEnd_22 : decode cX8_refusalOfEnd 22 = .ok (.istore_n 1, 1) := by decide +kernel
theorem dX8_refusalOfEnd_23 : decode cX8_refusalOfEnd 23 = .ok (.iload_n 1, 1) := by decide +kernel
theorem dX8_refusalOfEnd_24 : decode cX8_refusalOfEnd 24 = .ok (.ifCond .eq 9, 3) := by decide +kernel
theorem dX8_refusalOfEnd_27 : decode cX8_refusalOfEnd 27 = .ok (.getstatic 93, 3) := by decide +kernel
theorem dX8_refusalOfEnd_30 : decode cX8_refusalOfEnd 30 = .ok (.goto 6, 3) := by decide +kernel
theorem dX8_refusalOfEnd_33 : decode cX8_refusalOfEnd 33 = .ok (.getstatic 96, 3) := by decide +kernel
theorem dX8_refusalOfEnd_36 : decode cX8_refusalOfEnd 36 = .ok (.areturn, 1) := by decide +kernel
theorem dX8_putPilot_0 : decode cX8_putPilot 0 = .ok (.aload_n 0, 1) := by decide +kernel
theorem dX8_putPilot_1 : decode cX8_putPilot 1 = .ok (.getfield 38, 3) := by decide +kernel
theorem dX8_putPilot_4 : decode cX8_putPilot 4 = .ok (.bipush 6, 2) := by decide +kernel
theorem dX8_putPilot_6 : decode cX8_putPilot 6 = .ok (.if_icmp .lt 5, 3) := by decide +kernel
theorem dX8_putPilot_9 : decode cX8_putPilot 9 = .ok (.iconst (-1), 1) := by decide +kernel
theorem dX8_putPilot_10 : decode cX8_putPilot 10 = .ok (.ireturn, 1) := by decide +kernel
theorem dX8_putPilot_11 : decode cX8_putPilot 11 = .ok (.aload_n 0, 1) := by decide +kernel
theorem dX8_putPilot_12 : decode cX8_putPilot 12 = .ok (.getfield 34, 3) := by decide +kernel
theorem dX8_putPilot_15 : decode cX8_putPilot 15 = .ok (.aload_n 0, 1) := by decide +kernel
theorem dX8_putPilot_16 : decode cX8_putPilot 16 = .ok (.getfield 38, 3) := by decide +kernel
theorem dX8_putPilot_19 : decode cX8_putPilot 19 = .ok (.aaload, 1) := by decide +kernel
theorem dX8_putPilot_20 : decode cX8_putPilot 20 = .ok (.iload_n 1, 1) := by decide +kernel
theorem dX8_putPilot_21 : decode cX8_putPilot 21 = .ok (.invokevirtual 147, 3) := by decide +kernel
theorem dX8_putPilot_24 : decode cX8_putPilot 24 = .ok (.aload_n 0, 1) := by decide +kernel
theorem dX8_putPilot_25 : decode cX8_putPilot 25 = .ok (.dup, 1) := by decide +kernel
theorem dX8_putPilot_26 : decode cX8_putPilot 26 = .ok (.getfield 38, 3) := by decide +kernel
theorem dX8_putPilot_29 : decode cX8_putPilot 29 = .ok (.iconst 1, 1) := by decide +kernel
theorem dX8_putPilot_30 : decode cX8_putPilot 30 = .ok (.iadd, 1) := by decide +kernel
theorem dX8_putPilot_31 : decode cX8_putPilot 31 = .ok (.putfield 38, 3) := by decide +kernel
theorem dX8_putPilot_34 : decode cX8_putPilot 34 = .ok (.aload_n 0, 1) := by decide +kernel
theorem dX8_putPilot_35 : decode cX8_putPilot 35 = .ok (.getfield 38, 3) := by decide +kernel
theorem dX8_putPilot_38 : decode cX8_putPilot 38 = .ok (.iconst 1, 1) := by decide +kernel
theorem dX8_putPilot_39 : decode cX8_putPilot 39 = .ok (.isub, 1) := by decide +kernel
theorem dX8_putPilot_40 : decode cX8_putPilot 40 = .ok (.ireturn, 1) := by decide +kernel
theorem dX8_start_0 : decode cX8_start 0 = .ok (.aload_n 0, 1) := by decide +kernel
theorem dX8_start_1 : decode cX8_start 1 = .ok (.iload_n 1, 1) := by decide +kernel
theorem dX8_start_2 : decode cX8_start 2 = .ok (.invokevirtual 124, 3) := by decide +kernel
theorem dX8_start_5 : decode cX8_start 5 = .ok (.ifCond .eq 70, 3) := by decide +kernel
theorem dX8_start_8 : decode cX8_start 8 = .ok (.aload_n 0, 1) := by decide +kernel
theorem dX8_start_9 : decode cX8_start 9 = .ok (.getfield 12, 3) := by decide +kernel
theorem dX8_start_12 : decode cX8_start 12 = .ok (.iconst 0, 1) := by decide +kernel
theorem dX8_start_13 : decode cX8_start 13 = .ok (.invokevirtual 151, 3) := by decide +kernel
theorem dX8_start_16 : decode cX8_start 16 = .ok (.ifCond .eq 59, 3) := by decide +kernel
theorem dX8_start_19 : decode cX8_start 19 = .ok (.aload_n 0, 1) := by decide +kernel
theorem dX8_start_20 : decode cX8_start 20 = .ok (.getfield 12, 3) := by decide +kernel
theorem dX8_start_23 : decode cX8_start 23 = .ok (.aload_n 0, 1) := by decide +kernel
theorem dX8_start_24 : decode cX8_start 24 = .ok (.getfield 12, 3) := by decide +kernel
theorem dX8_start_27 : decode cX8_start 27 = .ok (.getfield 154, 3) := by decide +kernel
theorem dX8_start_30 : decode cX8_start 30 = .ok (.iconst 0, 1) := by decide +kernel
theorem dX8_start_31 : decode cX8_start 31 = .ok (.iaload, 1) := by decide +kernel
theorem dX8_start_32 : decode cX8_start 32 = .ok (.invokevirtual 99, 3) := by decide +kernel
theorem dX8_start_35 : decode cX8_start 35 = .ok (.ifCond .eq 40, 3) := by decide +kernel
theorem dX8_start_38 : decode cX8_start 38 = .ok (.aload_n 0, 1) := by decide +kernel
theorem dX8_start_39 : decode cX8_start 39 = .ok (.getfield 12, 3) := by decide +kernel
theorem dX8_start_42 : decode cX8_start 42 = .ok (.getfield 154, 3) := by decide +kernel
theorem dX8_start_45 : decode cX8_start 45 = .ok (.iconst 0, 1) := by decide +kernel
theorem dX8_start_46 : decode cX8_start 46 = .ok (.iaload, 1) := by decide +kernel
theorem dX8_start_47 : decode cX8_start 47 = .ok (.istore_n 2, 1) := by decide +kernel
theorem dX8_start_48 : decode cX8_start 48 = .ok (.aload_n 0, 1) := by decide +kernel
theorem dX8_start_49 : decode cX8_start 49 = .ok (.getfield 34, 3) := by decide +kernel
theorem dX8_start_52 : decode cX8_start 52 = .ok (.iload_n 1, 1) := by decide +kernel
theorem dX8_start_53 : decode cX8_start 53 = .ok (.aaload, 1) := by decide +kernel
theorem dX8_start_54 : decode cX8_start 54 = .ok (.aload_n 0, 1) := by decide +kernel
theorem dX8_start_55 : decode cX8_start 55 = .ok (.getfield 12, 3) := by decide +kernel
theorem dX8_start_58 : decode cX8_start 58 = .ok (.getfield 158, 3) := by decide +kernel
theorem dX8_start_61 : decode cX8_start 61 = .ok (.iload_n 2, 1) := by decide +kernel
theorem dX8_start_62 : decode cX8_start 62 = .ok (.iaload, 1) := by decide +kernel
theorem dX8_start_63 : decode cX8_start 63 = .ok (.aload_n 0, 1) := by decide +kernel
theorem dX8_start_64 : decode cX8_start 64 = .ok (.getfield 12, 3) := by decide +kernel
theorem dX8_start_67 : decode cX8_start 67 = .ok (.getfield 161, 3) := by decide +kernel
theorem dX8_start_70 : decode cX8_start 70 = .ok (.iload_n 2, 1) := by decide +kernel
theorem dX8_start_71 : decode cX8_start 71 = .ok (.iaload, 1) := by decide +kernel
theorem dX8_start_72 : decode cX8_start 72 = .ok (.invokevirtual 164, 3) := by decide +kernel
theorem dX8_start_75 : decode cX8_start 75 = .ok (.aload_n 0, 1) := by decide +kernel
theorem dX8_start_76 : decode cX8_start 76 = .ok (.getstatic 127, 3) := by decide +kernel
theorem dX8_start_79 : decode cX8_start 79 = .ok (.invokevirtual 76, 3) := by decide +kernel
theorem dX8_start_82 : decode cX8_start 82 = .ok (.ireturn, 1) := by decide +kernel
theorem dX8_glide_0 : decode cX8_glide 0 = .ok (.aload_n 0, 1) := by decide +kernel
theorem dX8_glide_1 : decode cX8_glide 1 = .ok (.iload_n 1, 1) := by decide +kernel
theorem dX8_glide_2 : decode cX8_glide 2 = .ok (.invokevirtual 124, 3) := by decide +kernel
theorem dX8_glide_5 : decode cX8_glide 5 = .ok (.ifCond .ne 5, 3) := by decide +kernel
theorem dX8_glide_8 : decode cX8_glide 8 = .ok (.iconst 0, 1) := by decide +kernel
theorem dX8_glide_9 : decode cX8_glide 9 = .ok (.ireturn, 1) := by decide +kernel
theorem dX8_glide_10 : decode cX8_glide 10 = .ok (.aload_n 0, 1) := by decide +kernel
theorem dX8_glide_11 : decode cX8_glide 11 = .ok (.getfield 34, 3) := by decide +kernel
theorem dX8_glide_14 : decode cX8_glide 14 = .ok (.iload_n 1, 1) := by decide +kernel
theorem dX8_glide_15 : decode cX8_glide 15 = .ok (.aaload, 1) := by decide +kernel
theorem dX8_glide_16 : decode cX8_glide 16 = .ok (.astore 4, 2) := by decide +kernel
theorem dX8_glide_18 : decode cX8_glide 18 = .ok (.iconst 0, 1) := by decide +kernel
theorem dX8_glide_19 : decode cX8_glide 19 = .ok (.istore 5, 2) := by decide +kernel
theorem dX8_glide_21 : decode cX8_glide 21 = .ok (.iload 5, 2) := by decide +kernel
theorem dX8_glide_23 : decode cX8_glide 23 = .ok (.iload_n 3, 1) := by decide +kernel
theorem dX8_glide_24 : decode cX8_glide 24 = .ok (.if_icmp .ge 27, 3) := by decide +kernel
theorem dX8_glide_27 : decode cX8_glide 27 = .ok (.aload 4, 2) := by decide +kernel
theorem dX8_glide_29 : decode cX8_glide 29 = .ok (.getfield 67, 3) := by decide +kernel
theorem dX8_glide_32 : decode cX8_glide 32 = .ok (.getstatic 127, 3) := by decide +kernel
theorem dX8_glide_35 : decode cX8_glide 35 = .ok (.if_acmp .ne 16, 3) := by decide +kernel
theorem dX8_glide_38 : decode cX8_glide 38 = .ok (.aload_n 0, 1) := by decide +kernel
theorem dX8_glide_39 : decode cX8_glide 39 = .ok (.aload 4, 2) := by decide +kernel
theorem dX8_glide_41 : decode cX8_glide 41 = .ok (.iload_n 2, 1) := by decide +kernel
theorem dX8_glide_42 : decode cX8_glide 42 = .ok (.invokevirtual 168, 3) := by decide +kernel
theorem dX8_glide_45 : decode cX8_glide 45 = .ok (.iinc 5 1, 3) := by decide +kernel
theorem dX8_glide_48 : decode cX8_glide 48 = .ok (.goto (-27), 3) := by decide +kernel
theorem dX8_glide_51 : decode cX8_glide 51 = .ok (.iload 5, 2) := by decide +kernel
theorem dX8_glide_53 : decode cX8_glide 53 = .ok (.ireturn, 1) := by decide +kernel
theorem dX8_glideKilometre_0 : decode cX8_glideKilometre 0 = .ok (.aload_n 1, 1) := by decide +kernel
theorem dX8_glideKilometre_1 : decode cX8_glideKilometre 1 = .ok (.iload_n 2, 1) := by decide +kernel
theorem dX8_glideKilometre_2 : decode cX8_glideKilometre 2 = .ok (.invokevirtual 172, 3) := by decide +kernel
theorem dX8_glideKilometre_5 : decode cX8_glideKilometre 5 = .ok (.aload_n 0, 1) := by decide +kernel
theorem dX8_glideKilometre_6 : decode cX8_glideKilometre 6 = .ok (.getfield 28, 3) := by decide +kernel
theorem dX8_glideKilometre_9 : decode cX8_glideKilometre 9 = .ok (.aload_n 1, 1) := by decide +kernel
theorem dX8_glideKilometre_10 : decode cX8_glideKilometre 10 = .ok (.getfield 130, 3) := by decide +kernel
theorem dX8_glideKilometre_13 : decode cX8_glideKilometre 13 = .ok (.aload_n 1, 1) := by decide +kernel
theorem dX8_glideKilometre_14 : decode cX8_glideKilometre 14 = .ok (.getfield 137, 3) := by decide +kernel
theorem dX8_glideKilometre_17 : decode cX8_glideKilometre 17 = .ok (.invokevirtual 175, 3) := by decide +kernel
theorem dX8_glideKilometre_20 : decode cX8_glideKilometre 20 = .ok (.ifCond .eq 14, 3) := by decide +kernel
theorem dX8_glideKilometre_23 : decode cX8_glideKilometre 23 = .ok (.aload_n 1, 1) := by decide +kernel
theorem dX8_glideKilometre_24 : decode cX8_glideKilometre 24 = .ok (.dup, 1) := by decide +kernel
theorem dX8_glideKilometre_25 : decode cX8_glideKilometre 25 = .ok (.getfield 179, 3) := by decide +kernel
theorem dX8_glideKilometre_28 : decode cX8_glideKilometre 28 = .ok (.bipush 10, 2) := by decide +kernel
theorem dX8_glideKilometre_30 : decode cX8_glideKilometre 30 = .ok (.iadd, 1) := by decide +kernel
theorem dX8_glideKilometre_31 : decode cX8_glideKilometre 31 = .ok (.putfield 179, 3) := by decide +kernel
theorem dX8_glideKilometre_34 : decode cX8_glideKilometre 34 = .ok (.aload_n 0, 1) := by decide +kernel
theorem dX8_glideKilometre_35 : decode cX8_glideKilometre 35 = .ok (.getfield 12, 3) := by decide +kernel
theorem dX8_glideKilometre_38 : decode cX8_glideKilometre 38 = .ok (.aload_n 1, 1) := by decide +kernel
theorem dX8_glideKilometre_39 : decode cX8_glideKilometre 39 = .ok (.getfield 182, 3) := by decide +kernel
theorem dX8_glideKilometre_42 : decode cX8_glideKilometre 42 = .ok (.aload_n 1, 1) := by decide +kernel
theorem dX8_glideKilometre_43 : decode cX8_glideKilometre 43 = .ok (.getfield 130, 3) := by decide +kernel
theorem dX8_glideKilometre_46 : decode cX8_glideKilometre 46 = .ok (.aload_n 1, 1) := by decide +kernel
theorem dX8_glideKilometre_47 : decode cX8_glideKilometre 47 = .ok (.getfield 137, 3) := by decide +kernel
theorem dX8_glideKilometre_50 : decode cX8_glideKilometre 50 = .ok (.invokevirtual 185, 3) := by decide +kernel
theorem dX8_glideKilometre_53 : decode cX8_glideKilometre 53 = .ok (.ifCond .eq 34, 3) := by decide +kernel
theorem dX8_glideKilometre_56 : decode cX8_glideKilometre 56 = .ok (.aload_n 1, 1) := by decide +kernel
theorem dX8_glideKilometre_57 : decode cX8_glideKilometre 57 = .ok (.dup, 1) := by decide +kernel
theorem dX8_glideKilometre_58 : decode cX8_glideKilometre 58 = .ok (.getfield 182, 3) := by decide +kernel
theorem dX8_glideKilometre_61 : decode cX8_glideKilometre 61 = .ok (.iconst 1, 1) := by decide +kernel
theorem dX8_glideKilometre_62 : decode cX8_glideKilometre 62 = .ok (.iadd, 1) := by decide +kernel
theorem dX8_glideKilometre_63 : decode cX8_glideKilometre 63 = .ok (.putfield 182, 3) := by decide +kernel
theorem dX8_glideKilometre_66 : decode cX8_glideKilometre 66 = .ok (.aload_n 1, 1) := by decide +kernel
theorem dX8_glideKilometre_67 : decode cX8_glideKilometre 67 = .ok (.getfield 182, 3) := by decide +kernel
theorem dX8_glideKilometre_70 : decode cX8_glideKilometre 70 = .ok (.aload_n 0, 1) := by decide +kernel
theorem dX8_glideKilometre_71 : decode cX8_glideKilometre 71 = .ok (.getfield 12, 3) := by decide +kernel
theorem dX8_glideKilometre_74 : decode cX8_glideKilometre 74 = .ok (.getfield 109, 3) := by decide +kernel
theorem dX8_glideKilometre_77 : decode cX8_glideKilometre 77 = .ok (.if_icmp .ne 10, 3) := by decide +kernel
theorem dX8_glideKilometre_80 : decode cX8_glideKilometre 80 = .ok (.aload_n 1, 1) := by decide +kernel
theorem dX8_glideKilometre_81 : decode cX8_glideKilometre 81 = .ok (.getstatic 189, 3) := by decide +kernel
theorem dX8_glideKilometre_84 : decode cX8_glideKilometre 84 = .ok (.putfield 67, 3) := by decide +kernel
theorem dX8_glideKilometre_87 : decode cX8_glideKilometre 87 = .ok (.aload_n 1, 1) := by decide +kernel
theorem dX8_glideKilometre_88 : decode cX8_glideKilometre 88 = .ok (.getfield 67, 3) := by decide +kernel
theorem dX8_glideKilometre_91 : decode cX8_glideKilometre 91 = .ok (.getstatic 127, 3) := by decide +kernel
theorem dX8_glideKilometre_94 : decode cX8_glideKilometre 94 = .ok (.if_acmp .ne 17, 3) := by decide +kernel
theorem dX8_glideKilometre_97 : decode cX8_glideKilometre 97 = .ok (.aload_n 1, 1) := by decide +kernel
theorem dX8_glideKilometre_98 : decode cX8_glideKilometre 98 = .ok (.getfield 192, 3) := by decide +kernel
theorem dX8_glideKilometre_101 : decode cX8_glideKilometre 101 = .ok (.ifCond .ne 10, 3) := by decide +kernel
theorem dX8_glideKilometre_104 : decode cX8_glideKilometre 104 = .ok (.aload_n 1, 1) := by decide +kernel
theorem dX8_glideKilometre_105 : decode cX8_glideKilometre 105 = .ok (.getstatic 195, 3) := by decide +kernel
theorem dX8_glideKilometre_108 : decode cX8_glideKilometre 108 = .ok (.putfield 67, 3) := by decide +kernel
theorem dX8_glideKilometre_111 : decode cX8_glideKilometre 111 = .ok (.return_, 1) := by decide +kernel
theorem dX8_soar_0 : decode cX8_soar 0 = .ok (.aload_n 0, 1) := by decide +kernel
theorem dX8_soar_1 : decode cX8_soar 1 = .ok (.iload_n 1, 1) := by decide +kernel
theorem dX8_soar_2 : decode cX8_soar 2 = .ok (.invokevirtual 124, 3) := by decide +kernel
theorem dX8_soar_5 : decode cX8_soar 5 = .ok (.ifCond .ne 5, 3) := by decide +kernel
theorem dX8_soar_8 : decode cX8_soar 8 = .ok (.iconst 0, 1) := by decide +kernel
theorem dX8_soar_9 : decode cX8_soar 9 = .ok (.ireturn, 1) := by decide +kernel
theorem dX8_soar_10 : decode cX8_soar 10 = .ok (.aload_n 0, 1) := by decide +kernel
theorem dX8_soar_11 : decode cX8_soar 11 = .ok (.getfield 34, 3) := by decide +kernel
theorem dX8_soar_14 : decode cX8_soar 14 = .ok (.iload_n 1, 1) := by decide +kernel
theorem dX8_soar_15 : decode cX8_soar 15 = .ok (.aaload, 1) := by decide +kernel
theorem dX8_soar_16 : decode cX8_soar 16 = .ok (.astore_n 3, 1) := by decide +kernel
theorem dX8_soar_17 : decode cX8_soar 17 = .ok (.aload_n 3, 1) := by decide +kernel
theorem dX8_soar_18 : decode cX8_soar 18 = .ok (.aload_n 0, 1) := by decide +kernel
theorem dX8_soar_19 : decode cX8_soar 19 = .ok (.getfield 21, 3) := by decide +kernel
theorem dX8_soar_22 : decode cX8_soar 22 = .ok (.aload_n 3, 1) := by decide +kernel
theorem dX8_soar_23 : decode cX8_soar 23 = .ok (.getfield 130, 3) := by decide +kernel
theorem dX8_soar_26 : decode cX8_soar 26 = .ok (.aload_n 3, 1) := by decide +kernel
theorem dX8_soar_27 : decode cX8_soar 27 = .ok (.getfield 137, 3) := by decide +kernel
theorem dX8_soar_30 : decode cX8_soar 30 = .ok (.invokevirtual 143, 3) := by decide +kernel
theorem dX8_soar_33 : decode cX8_soar 33 = .ok (.iload_n 2, 1) := by decide +kernel
theorem dX8_soar_34 : decode cX8_soar 34 = .ok (.aload_n 0, 1) := by decide +kernel
theorem dX8_soar_35 : decode cX8_soar 35 = .ok (.getfield 21, 3) := by decide +kernel
theorem dX8_soar_38 : decode cX8_soar 38 = .ok (.getfield 198, 3) := by decide +kernel
theorem dX8_soar_41 : decode cX8_soar 41 = .ok (.invokevirtual 201, 3) := by decide +kernel
theorem dX8_soar_44 : decode cX8_soar 44 = .ok (.aload_n 3, 1) := by decide +kernel
theorem dX8_soar_45 : decode cX8_soar 45 = .ok (.getfield 192, 3) := by decide +kernel
theorem dX8_soar_48 : decode cX8_soar 48 = .ok (.ireturn, 1) := by decide +kernel
theorem dX8_closeDay_0 : decode cX8_closeDay 0 = .ok (.aload_n 0, 1) := by decide +kernel
theorem dX8_closeDay_1 : decode cX8_closeDay 1 = .ok (.getstatic 189, 3) := by decide +kernel
theorem dX8_closeDay_4 : decode cX8_closeDay 4 = .ok (.invokevirtual 76, 3) := by decide +kernel
theorem dX8_closeDay_7 : decode cX8_closeDay 7 = .ok (.istore_n 1, 1) := by decide +kernel
theorem dX8_closeDay_8 : decode cX8_closeDay 8 = .ok (.iconst 0, 1) := by decide +kernel
theorem dX8_closeDay_9 : decode cX8_closeDay 9 = .ok (.istore_n 2, 1) := by decide +kernel
theorem dX8_closeDay_10 : decode cX8_closeDay 10 = .ok (.iload_n 2, 1) := by decide +kernel
theorem dX8_closeDay_11 : decode cX8_closeDay 11 = .ok (.aload_n 0, 1) := by decide +kernel
theorem dX8_closeDay_12 : decode cX8_closeDay 12 = .ok (.getfield 38, 3) := by decide +kernel
theorem dX8_closeDay_15 : decode cX8_closeDay 15 = .ok (.if_icmp .ge 34, 3) := by decide +kernel
theorem dX8_closeDay_18 : decode cX8_closeDay 18 = .ok (.aload_n 0, 1) := by decide +kernel
theorem dX8_closeDay_19 : decode cX8_closeDay 19 = .ok (.getfield 34, 3) := by decide +kernel
theorem dX8_closeDay_22 : decode cX8_closeDay 22 = .ok (.iload_n 2, 1) := by decide +kernel
theorem dX8_closeDay_23 : decode cX8_closeDay 23 = .ok (.aaload, 1) := by decide +kernel
theorem dX8_closeDay_24 : decode cX8_closeDay 24 = .ok (.dup, 1) := by decide +kernel
theorem dX8_closeDay_25 : decode cX8_closeDay 25 = .ok (.getfield 205, 3) := by decide +kernel
theorem dX8_closeDay_28 : decode cX8_closeDay 28 = .ok (.aload_n 0, 1) := by decide +kernel
theorem dX8_closeDay_29 : decode cX8_closeDay 29 = .ok (.aload_n 0, 1) := by decide +kernel
theorem dX8_closeDay_30 : decode cX8_closeDay 30 = .ok (.getfield 34, 3) := by decide +kernel
theorem dX8_closeDay_33 : decode cX8_closeDay 33 = .ok (.iload_n 2, 1) := by decide +kernel
theorem dX8_closeDay_34 : decode cX8_closeDay 34 = .ok (.aaload, 1) := by decide +kernel
theorem dX8_closeDay_35 : decode cX8_closeDay 35 = .ok (.invokevirtual 209, 3) := by decide +kernel
theorem dX8_closeDay_38 : decode cX8_closeDay 38 = .ok (.i2l, 1) := by decide +kernel
theorem dX8_closeDay_39 : decode cX8_closeDay 39 = .ok (.ladd, 1) := by decide +kernel
theorem dX8_closeDay_40 : decode cX8_closeDay 40 = .ok (.putfield 205, 3) := by decide +kernel
theorem dX8_closeDay_43 : decode cX8_closeDay 43 = .ok (.iinc 2 1, 3) := by decide +kernel
theorem dX8_closeDay_46 : decode cX8_closeDay 46 = .ok (.goto (-36), 3) := by decide +kernel
theorem dX8_closeDay_49 : decode cX8_closeDay 49 = .ok (.iconst 0, 1) := by decide +kernel
theorem dX8_closeDay_50 : decode cX8_closeDay 50 = .ok (.istore_n 2, 1) := by decide +kernel
theorem dX8_closeDay_51 : decode cX8_closeDay 51 = .ok (.iload_n 2, 1) := by decide +kernel
theorem dX8_closeDay_52 : decode cX8_closeDay 52 = .ok (.aload_n 0, 1) := by decide +kernel
theorem dX8_closeDay_53 : decode cX8_closeDay 53 = .ok (.getfield 38, 3) := by decide +kernel
theorem dX8_closeDay_56 : decode cX8_closeDay 56 = .ok (.if_icmp .ge 18, 3) := by decide +kernel
theorem dX8_closeDay_59 : decode cX8_closeDay 59 = .ok (.aload_n 0, 1) := by decide +kernel
theorem dX8_closeDay_60 : decode cX8_closeDay 60 = .ok (.getfield 34, 3) := by decide +kernel
theorem dX8_closeDay_63 : decode cX8_closeDay 63 = .ok (.iload_n 2, 1) := by decide +kernel
theorem dX8_closeDay_64 : decode cX8_closeDay 64 = .ok (.aaload, 1) := by decide +kernel
theorem dX8_closeDay_65 : decode cX8_closeDay 65 = .ok (.invokevirtual 213, 3) := by decide +kernel
theorem dX8_closeDay_68 : decode cX8_closeDay 68 = .ok (.iinc 2 1, 3) := by decide +kernel
theorem dX8_closeDay_71 : decode cX8_closeDay 71 = .ok (.goto (-20), 3) := by decide +kernel
theorem dX8_closeDay_74 : decode cX8_closeDay 74 = .ok (.aload_n 0, 1) := by decide +kernel
theorem dX8_closeDay_75 : decode cX8_closeDay 75 = .ok (.dup, 1) := by decide +kernel
theorem dX8_closeDay_76 : decode cX8_closeDay 76 = .ok (.getfield 42, 3) := by decide +kernel
theorem dX8_closeDay_79 : decode cX8_closeDay 79 = .ok (.iconst 1, 1) := by decide +kernel
theorem dX8_closeDay_80 : decode cX8_closeDay 80 = .ok (.iadd, 1) := by decide +kernel
theorem dX8_closeDay_81 : decode cX8_closeDay 81 = .ok (.putfield 42, 3) := by decide +kernel
theorem dX8_closeDay_84 : decode cX8_closeDay 84 = .ok (.iload_n 1, 1) := by decide +kernel
theorem dX8_closeDay_85 : decode cX8_closeDay 85 = .ok (.ireturn, 1) := by decide +kernel
theorem dX8_distanceLeft_0 : decode cX8_distanceLeft 0 = .ok (.aload_n 0, 1) := by decide +kernel
theorem dX8_distanceLeft_1 : decode cX8_distanceLeft 1 = .ok (.getfield 12, 3) := by decide +kernel
theorem dX8_distanceLeft_4 : decode cX8_distanceLeft 4 = .ok (.aload_n 1, 1) := by decide +kernel
theorem dX8_distanceLeft_5 : decode cX8_distanceLeft 5 = .ok (.getfield 182, 3) := by decide +kernel
theorem dX8_distanceLeft_8 : decode cX8_distanceLeft 8 = .ok (.aload_n 1, 1) := by decide +kernel
theorem dX8_distanceLeft_9 : decode cX8_distanceLeft 9 = .ok (.getfield 130, 3) := by decide +kernel
theorem dX8_distanceLeft_12 : decode cX8_distanceLeft 12 = .ok (.aload_n 1, 1) := by decide +kernel
theorem dX8_distanceLeft_13 : decode cX8_distanceLeft 13 = .ok (.getfield 137, 3) := by decide +kernel
theorem dX8_distanceLeft_16 : decode cX8_distanceLeft 16 = .ok (.invokevirtual 216, 3) := by decide +kernel
theorem dX8_distanceLeft_19 : decode cX8_distanceLeft 19 = .ok (.istore_n 2, 1) := by decide +kernel
theorem dX8_distanceLeft_20 : decode cX8_distanceLeft 20 = .ok (.iload_n 2, 1) := by decide +kernel
theorem dX8_distanceLeft_21 : decode cX8_distanceLeft 21 = .ok (.aload_n 0, 1) := by decide +kernel
theorem dX8_distanceLeft_22 : decode cX8_distanceLeft 22 = .ok (.getfield 12, 3) := by decide +kernel
theorem dX8_distanceLeft_25 : decode cX8_distanceLeft 25 = .ok (.aload_n 1, 1) := by decide +kernel
theorem dX8_distanceLeft_26 : decode cX8_distanceLeft 26 = .ok (.getfield 182, 3) := by decide +kernel
theorem dX8_distanceLeft_29 : decode cX8_distanceLeft 29 = .ok (.aload_n 0, 1) := by decide +kernel
theorem dX8_distanceLeft_30 : decode cX8_distanceLeft 30 = .ok (.getfield 12, 3) := by decide +kernel
theorem dX8_distanceLeft_33 : decode cX8_distanceLeft 33 = .ok (.getfield 109, 3) := by decide +kernel
theorem dX8_distanceLeft_36 : decode cX8_distanceLeft 36 = .ok (.iconst 1, 1) := by decide +kernel
theorem dX8_distanceLeft_37 : decode cX8_distanceLeft 37 = .ok (.isub, 1) := by decide +kernel
theorem dX8_distanceLeft_38 : decode cX8_distanceLeft 38 = .ok (.invokevirtual 220, 3) := by decide +kernel
theorem dX8_distanceLeft_41 : decode cX8_distanceLeft 41 = .ok (.iadd, 1) := by decide +kernel
theorem dX8_distanceLeft_42 : decode cX8_distanceLeft 42 = .ok (.ireturn, 1) := by decide +kernel
theorem dX8_finishesByHeight_0 : decode cX8_finishesByHeight 0 = .ok (.aload_n 1, 1) := by decide +kernel
theorem dX8_finishesByHeight_1 : decode cX8_finishesByHeight 1 = .ok (.getfield 192, 3) := by decide +kernel
theorem dX8_finishesByHeight_4 : decode cX8_finishesByHeight 4 = .ok (.aload_n 0, 1) := by decide +kernel
theorem dX8_finishesByHeight_5 : decode cX8_finishesByHeight 5 = .ok (.aload_n 1, 1) := by decide +kernel
theorem dX8_finishesByHeight_6 : decode cX8_finishesByHeight 6 = .ok (.invokevirtual 223, 3) := by decide +kernel
theorem dX8_finishesByHeight_9 : decode cX8_finishesByHeight 9 = .ok (.iconst 1, 1) := by decide +kernel
theorem dX8_finishesByHeight_10 : decode cX8_finishesByHeight 10 = .ok (.isub, 1) := by decide +kernel
theorem dX8_finishesByHeight_11 : decode cX8_finishesByHeight 11 = .ok (.aload_n 1, 1) := by decide +kernel
theorem dX8_finishesByHeight_12 : decode cX8_finishesByHeight 12 = .ok (.invokevirtual 226, 3) := by decide +kernel
theorem dX8_finishesByHeight_15 : decode cX8_finishesByHeight 15 = .ok (.imul, 1) := by decide +kernel
theorem dX8_finishesByHeight_16 : decode cX8_finishesByHeight 16 = .ok (.if_icmp .le 7, 3) := by decide +kernel
theorem dX8_finishesByHeight_19 : decode cX8_finishesByHeight 19 = .ok (.iconst 1, 1) := by decide +kernel
theorem dX8_finishesByHeight_20 : decode cX8_finishesByHeight 20 = .ok (.goto 4, 3) := by decide +kernel
theorem dX8_finishesByHeight_23 : decode cX8_finishesByHeight 23 = .ok (.iconst 0, 1) := by decide +kernel
theorem dX8_finishesByHeight_24 : decode cX8_finishesByHeight 24 = .ok (.ireturn, 1) := by decide +kernel
theorem dX8_finishesInFlight_0 : decode cX8_finishesInFlight 0 = .ok (.aload_n 0, 1) := by decide +kernel
theorem dX8_finishesInFlight_1 : decode cX8_finishesInFlight 1 = .ok (.getfield 50, 3) := by decide +kernel
theorem dX8_finishesInFlight_4 : decode cX8_finishesInFlight 4 = .ok (.aload_n 1, 1) := by decide +kernel
theorem dX8_finishesInFlight_5 : decode cX8_finishesInFlight 5 = .ok (.invokevirtual 64, 3) := by decide +kernel
theorem dX8_finishesInFlight_8 : decode cX8_finishesInFlight 8 = .ok (.iconst 0, 1) := by decide +kernel
theorem dX8_finishesInFlight_9 : decode cX8_finishesInFlight 9 = .ok (.istore_n 2, 1) := by decide +kernel
theorem dX8_finishesInFlight_10 : decode cX8_finishesInFlight 10 = .ok (.iload_n 2, 1) := by decide +kernel
theorem dX8_finishesInFlight_11 : decode cX8_finishesInFlight 11 = .ok (.sipush 10000, 3) := by decide +kernel
theorem dX8_finishesInFlight_14 : decode cX8_finishesInFlight 14 = .ok (.if_icmp .ge 61, 3) := by decide +kernel
theorem dX8_finishesInFlight_17 : decode cX8_finishesInFlight 17 = .ok (.aload_n 0, 1) := by decide +kernel
theorem dX8_finishesInFlight_18 : decode cX8_finishesInFlight 18 = .ok (.getfield 50, 3) := by decide +kernel
theorem dX8_finishesInFlight_21 : decode cX8_finishesInFlight 21 = .ok (.getfield 67, 3) := by decide +kernel
theorem dX8_finishesInFlight_24 : decode cX8_finishesInFlight 24 = .ok (.getstatic 127, 3) := by decide +kernel
theorem dX8_finishesInFlight_27 : decode cX8_finishesInFlight 27 = .ok (.if_acmp .eq 6, 3) := by decide +kernel
theorem dX8_finishesInFlight_30 : decode cX8_finishesInFlight 30 = .ok (.goto 45, 3) := by decide +kernel
theorem dX8_finishesInFlight_33 : decode cX8_finishesInFlight 33 = .ok (.aload_n 0, 1) := by decide +kernel
theorem dX8_finishesInFlight_34 : decode cX8_finishesInFlight 34 = .ok (.aload_n 0, 1) := by decide +kernel
theorem dX8_finishesInFlight_35 : decode cX8_finishesInFlight 35 = .ok (.getfield 50, 3) := by decide +kernel
theorem dX8_finishesInFlight_38 : decode cX8_finishesInFlight 38 = .ok (.aload_n 0, 1) := by decide +kernel
theorem dX8_finishesInFlight_39 : decode cX8_finishesInFlight 39 = .ok (.getfield 12, 3) := by decide +kernel
theorem dX8_finishesInFlight_42 : decode cX8_finishesInFlight 42 = .ok (.aload_n 0, 1) := by decide +kernel
theorem dX8_finishesInFlight_43 : decode cX8_finishesInFlight 43 = .ok (.getfield 50, 3) := by decide +kernel
theorem dX8_finishesInFlight_46 : decode cX8_finishesInFlight 46 = .ok (.getfield 182, 3) := by decide +kernel
theorem dX8_finishesInFlight_49 : decode cX8_finishesInFlight 49 = .ok (.aload_n 0, 1) := by decide +kernel
theorem dX8_finishesInFlight_50 : decode cX8_finishesInFlight 50 = .ok (.getfield 50, 3) := by decide +kernel
theorem dX8_finishesInFlight_53 : decode cX8_finishesInFlight 53 = .ok (.getfield 130, 3) := by decide +kernel
theorem dX8_finishesInFlight_56 : decode cX8_finishesInFlight 56 = .ok (.aload_n 0, 1) := by decide +kernel
theorem dX8_finishesInFlight_57 : decode cX8_finishesInFlight 57 = .ok (.getfield 50, 3) := by decide +kernel
theorem dX8_finishesInFlight_60 : decode cX8_finishesInFlight 60 = .ok (.getfield 137, 3) := by decide +kernel
theorem dX8_finishesInFlight_63 : decode cX8_finishesInFlight 63 = .ok (.invokevirtual 230, 3) := by decide +kernel
theorem dX8_finishesInFlight_66 : decode cX8_finishesInFlight 66 = .ok (.invokevirtual 168, 3) := by decide +kernel
theorem dX8_finishesInFlight_69 : decode cX8_finishesInFlight 69 = .ok (.iinc 2 1, 3) := by decide +kernel
theorem dX8_finishesInFlight_72 : decode cX8_finishesInFlight 72 = .ok (.goto (-62), 3) := by decide +kernel
theorem dX8_finishesInFlight_75 : decode cX8_finishesInFlight 75 = .ok (.aload_n 0, 1) := by decide +kernel
theorem dX8_finishesInFlight_76 : decode cX8_finishesInFlight 76 = .ok (.getfield 50, 3) := by decide +kernel
theorem dX8_finishesInFlight_79 : decode cX8_finishesInFlight 79 = .ok (.getfield 67, 3) := by decide +kernel
theorem dX8_finishesInFlight_82 : decode cX8_finishesInFlight 82 = .ok (.getstatic 189, 3) := by decide +kernel
theorem dX8_finishesInFlight_85 : decode cX8_finishesInFlight 85 = .ok (.if_acmp .ne 7, 3) := by decide +kernel
theorem dX8_finishesInFlight_88 : decode cX8_finishesInFlight 88 = .ok (.iconst 1, 1) := by decide +kernel
theorem dX8_finishesInFlight_89 : decode cX8_finishesInFlight 89 = .ok (.goto 4, 3) := by decide +kernel
theorem dX8_finishesInFlight_92 : decode cX8_finishesInFlight 92 = .ok (.iconst 0, 1) := by decide +kernel
theorem dX8_finishesInFlight_93 : decode cX8_finishesInFlight 93 = .ok (.ireturn, 1) := by decide +kernel
theorem dX8_distanceDone_0 : decode cX8_distanceDone 0 = .ok (.aload_n 1, 1) := by decide +kernel
theorem dX8_distanceDone_1 : decode cX8_distanceDone 1 = .ok (.getfield 67, 3) := by decide +kernel
theorem dX8_distanceDone_4 : decode cX8_distanceDone 4 = .ok (.getstatic 71, 3) := by decide +kernel
theorem dX8_distanceDone_7 : decode cX8_distanceDone 7 = .ok (.if_acmp .ne 5, 3) := by decide +kernel
theorem dX8_distanceDone_10 : decode cX8_distanceDone 10 = .ok (.iconst 0, 1) := by decide +kernel
theorem dX8_distanceDone_11 : decode cX8_distanceDone 11 = .ok (.ireturn, 1) := by decide +kernel
theorem dX8_distanceDone_12 : decode cX8_distanceDone 12 = .ok (.aload_n 0, 1) := by decide +kernel
theorem dX8_distanceDone_13 : decode cX8_distanceDone 13 = .ok (.getfield 12, 3) := by decide +kernel
theorem dX8_distanceDone_16 : decode cX8_distanceDone 16 = .ok (.iconst 0, 1) := by decide +kernel
theorem dX8_distanceDone_17 : decode cX8_distanceDone 17 = .ok (.aload_n 1, 1) := by decide +kernel
theorem dX8_distanceDone_18 : decode cX8_distanceDone 18 = .ok (.getfield 182, 3) := by decide +kernel
theorem dX8_distanceDone_21 : decode cX8_distanceDone 21 = .ok (.iconst 1, 1) := by decide +kernel
theorem dX8_distanceDone_22 : decode cX8_distanceDone 22 = .ok (.isub, 1) := by decide +kernel
theorem dX8_distanceDone_23 : decode cX8_distanceDone 23 = .ok (.invokevirtual 220, 3) := by decide +kernel
theorem dX8_distanceDone_26 : decode cX8_distanceDone 26 = .ok (.istore_n 2, 1) := by decide +kernel
theorem dX8_distanceDone_27 : decode cX8_distanceDone 27 = .ok (.aload_n 1, 1) := by decide +kernel
theorem dX8_distanceDone_28 : decode cX8_distanceDone 28 = .ok (.getfield 67, 3) := by decide +kernel
theorem dX8_distanceDone_31 : decode cX8_distanceDone 31 = .ok (.getstatic 189, 3) := by decide +kernel
theorem dX8_distanceDone_34 : decode cX8_distanceDone 34 = .ok (.if_acmp .ne 5, 3) := by decide +kernel
theorem dX8_distanceDone_37 : decode cX8_distanceDone 37 = .ok (.iload_n 2, 1) := by decide +kernel
theorem dX8_distanceDone_38 : decode cX8_distanceDone 38 = .ok (.ireturn, 1) := by decide +kernel
theorem dX8_distanceDone_39 : decode cX8_distanceDone 39 = .ok (.aload_n 0, 1) := by decide +kernel
theorem dX8_distanceDone_40 : decode cX8_distanceDone 40 = .ok (.getfield 12, 3) := by decide +kernel
theorem dX8_distanceDone_43 : decode cX8_distanceDone 43 = .ok (.aload_n 1, 1) := by decide +kernel
theorem dX8_distanceDone_44 : decode cX8_distanceDone 44 = .ok (.getfield 182, 3) := by decide +kernel
theorem dX8_distanceDone_47 : decode cX8_distanceDone 47 = .ok (.iconst 1, 1) := by decide +kernel
theorem dX8_distanceDone_48 : decode cX8_distanceDone 48 = .ok (.isub, 1) := by decide +kernel
theorem dX8_distanceDone_49 : decode cX8_distanceDone 49 = .ok (.aload_n 1, 1) := by decide +kernel
theorem dX8_distanceDone_50 : decode cX8_distanceDone 50 = .ok (.getfield 182, 3) := by decide +kernel
theorem dX8_distanceDone_53 : decode cX8_distanceDone 53 = .ok (.invokevirtual 220, 3) := by decide +kernel
theorem dX8_distanceDone_56 : decode cX8_distanceDone 56 = .ok (.istore_n 3, 1) := by decide +kernel
theorem dX8_distanceDone_57 : decode cX8_distanceDone 57 = .ok (.iload_n 3, 1) := by decide +kernel
theorem dX8_distanceDone_58 : decode cX8_distanceDone 58 = .ok (.aload_n 0, 1) := by decide +kernel
theorem dX8_distanceDone_59 : decode cX8_distanceDone 59 = .ok (.getfield 12, 3) := by decide +kernel
theorem dX8_distanceDone_62 : decode cX8_distanceDone 62 = .ok (.aload_n 1, 1) := by decide +kernel
theorem dX8_distanceDone_63 : decode cX8_distanceDone 63 = .ok (.getfield 182, 3) := by decide +kernel
theorem dX8_distanceDone_66 : decode cX8_distanceDone 66 = .ok (.aload_n 1, 1) := by decide +kernel
theorem dX8_distanceDone_67 : decode cX8_distanceDone 67 = .ok (.getfield 130, 3) := by decide +kernel
theorem dX8_distanceDone_70 : decode cX8_distanceDone 70 = .ok (.aload_n 1, 1) := by decide +kernel
theorem dX8_distanceDone_71 : decode cX8_distanceDone 71 = .ok (.getfield 137, 3) := by decide +kernel
theorem dX8_distanceDone_74 : decode cX8_distanceDone 74 = .ok (.invokevirtual 216, 3) := by decide +kernel
theorem dX8_distanceDone_77 : decode cX8_distanceDone 77 = .ok (.isub, 1) := by decide +kernel
theorem dX8_distanceDone_78 : decode cX8_distanceDone 78 = .ok (.istore 4, 2) := by decide +kernel
theorem dX8_distanceDone_80 : decode cX8_distanceDone 80 = .ok (.iload_n 2, 1) := by decide +kernel
theorem dX8_distanceDone_81 : decode cX8_distanceDone 81 = .ok (.iconst 0, 1) := by decide +kernel
theorem dX8_distanceDone_82 : decode cX8_distanceDone 82 = .ok (.iload 4, 2) := by decide +kernel
theorem dX8_distanceDone_84 : decode cX8_distanceDone 84 = .ok (.invokestatic 233, 3) := by decide +kernel
theorem dX8_distanceDone_87 : decode cX8_distanceDone 87 = .ok (.iadd, 1) := by decide +kernel
theorem dX8_distanceDone_88 : decode cX8_distanceDone 88 = .ok (.ireturn, 1) := by decide +kernel
theorem dX8_scoreOf_0 : decode cX8_scoreOf 0 = .ok (.aload_n 1, 1) := by decide +kernel
theorem dX8_scoreOf_1 : decode cX8_scoreOf 1 = .ok (.getfield 67, 3) := by decide +kernel
theorem dX8_scoreOf_4 : decode cX8_scoreOf 4 = .ok (.getstatic 71, 3) := by decide +kernel
theorem dX8_scoreOf_7 : decode cX8_scoreOf 7 = .ok (.if_acmp .ne 5, 3) := by decide +kernel
theorem dX8_scoreOf_10 : decode cX8_scoreOf 10 = .ok (.iconst 0, 1) := by decide +kernel
theorem dX8_scoreOf_11 : decode cX8_scoreOf 11 = .ok (.ireturn, 1) := by decide +kernel
theorem dX8_scoreOf_12 : decode cX8_scoreOf 12 = .ok (.sipush 1000, 3) := by decide +kernel
theorem dX8_scoreOf_15 : decode cX8_scoreOf 15 = .ok (.aload_n 0, 1) := by decide +kernel
theorem dX8_scoreOf_16 : decode cX8_scoreOf 16 = .ok (.aload_n 1, 1) := by decide +kernel
theorem dX8_scoreOf_17 : decode cX8_scoreOf 17 = .ok (.invokevirtual 238, 3) := by decide +kernel
theorem dX8_scoreOf_20 : decode cX8_scoreOf 20 = .ok (.imul, 1) := by decide +kernel
theorem dX8_scoreOf_21 : decode cX8_scoreOf 21 = .ok (.aload_n 0, 1) := by decide +kernel
theorem dX8_scoreOf_22 : decode cX8_scoreOf 22 = .ok (.getfield 12, 3) := by decide +kernel
theorem dX8_scoreOf_25 : decode cX8_scoreOf 25 = .ok (.invokevirtual 241, 3) := by decide +kernel
theorem dX8_scoreOf_28 : decode cX8_scoreOf 28 = .ok (.invokestatic 244, 3) := by decide +kernel
theorem dX8_scoreOf_31 : decode cX8_scoreOf 31 = .ok (.istore_n 2, 1) := by decide +kernel
theorem dX8_scoreOf_32 : decode cX8_scoreOf 32 = .ok (.aload_n 1, 1) := by decide +kernel
theorem dX8_scoreOf_33 : decode cX8_scoreOf 33 = .ok (.getfield 67, 3) := by decide +kernel
theorem dX8_scoreOf_36 : decode cX8_scoreOf 36 = .ok (.getstatic 189, 3) := by decide +kernel
theorem dX8_scoreOf_39 : decode cX8_scoreOf 39 = .ok (.if_acmp .ne 25, 3) := by decide +kernel
theorem dX8_scoreOf_42 : decode cX8_scoreOf 42 = .ok (.iload_n 2, 1) := by decide +kernel
theorem dX8_scoreOf_43 : decode cX8_scoreOf 43 = .ok (.sipush 500, 3) := by decide +kernel
theorem dX8_scoreOf_46 : decode cX8_scoreOf 46 = .ok (.aload_n 0, 1) := by decide +kernel
theorem dX8_scoreOf_47 : decode cX8_scoreOf 47 = .ok (.aload_n 1, 1) := by decide +kernel
theorem dX8_scoreOf_48 : decode cX8_scoreOf 48 = .ok (.getfield 247, 3) := by decide +kernel
theorem dX8_scoreOf_51 : decode cX8_scoreOf 51 = .ok (.invokevirtual 250, 3) := by decide +kernel
theorem dX8_scoreOf_54 : decode cX8_scoreOf 54 = .ok (.imul, 1) := by decide +kernel
theorem dX8_scoreOf_55 : decode cX8_scoreOf 55 = .ok (.aload_n 1, 1) := by decide +kernel
theorem dX8_scoreOf_56 : decode cX8_scoreOf 56 = .ok (.getfield 247, 3) := by decide +kernel
theorem dX8_scoreOf_59 : decode cX8_scoreOf 59 = .ok (.invokestatic 244, 3) := by decide +kernel
theorem dX8_scoreOf_62 : decode cX8_scoreOf 62 = .ok (.iadd, 1) := by decide +kernel
theorem dX8_scoreOf_63 : decode cX8_scoreOf 63 = .ok (.istore_n 2, 1) := by decide +kernel
theorem dX8_scoreOf_64 : decode cX8_scoreOf 64 = .ok (.iconst 0, 1) := by decide +kernel
theorem dX8_scoreOf_65 : decode cX8_scoreOf 65 = .ok (.iload_n 2, 1) := by decide +kernel
theorem dX8_scoreOf_66 : decode cX8_scoreOf 66 = .ok (.aload_n 1, 1) := by decide +kernel
theorem dX8_scoreOf_67 : decode cX8_scoreOf 67 = .ok (.getfield 179, 3) := by decide +kernel
theorem dX8_scoreOf_70 : decode cX8_scoreOf 70 = .ok (.isub, 1) := by decide +kernel
theorem dX8_scoreOf_71 : decode cX8_scoreOf 71 = .ok (.invokestatic 233, 3) := by decide +kernel
theorem dX8_scoreOf_74 : decode cX8_scoreOf 74 = .ok (.ireturn, 1) := by decide +kernel
theorem dX8_leastMinutes_0 : decode cX8_leastMinutes 0 = .ok (.iload_n 1, 1) := by decide +kernel
theorem dX8_leastMinutes_1 : decode cX8_leastMinutes 1 = .ok (.istore_n 2, 1) := by decide +kernel
theorem dX8_leastMinutes_2 : decode cX8_leastMinutes 2 = .ok (.iconst 0, 1) := by decide +kernel
theorem dX8_leastMinutes_3 : decode cX8_leastMinutes 3 = .ok (.istore_n 3, 1) := by decide +kernel
theorem dX8_leastMinutes_4 : decode cX8_leastMinutes 4 = .ok (.iload_n 3, 1) := by decide +kernel
theorem dX8_leastMinutes_5 : decode cX8_leastMinutes 5 = .ok (.aload_n 0, 1) := by decide +kernel
theorem dX8_leastMinutes_6 : decode cX8_leastMinutes 6 = .ok (.getfield 38, 3) := by decide +kernel
theorem dX8_leastMinutes_9 : decode cX8_leastMinutes 9 = .ok (.if_icmp .ge 38, 3) := by decide +kernel
theorem dX8_leastMinutes_12 : decode cX8_leastMinutes 12 = .ok (.aload_n 0, 1) := by decide +kernel
theorem dX8_leastMinutes_13 : decode cX8_leastMinutes 13 = .ok (.getfield 34, 3) := by decide +kernel
theorem dX8_leastMinutes_16 : decode cX8_leastMinutes 16 = .ok (.iload_n 3, 1) := by decide +kernel
theorem dX8_leastMinutes_17 : decode cX8_leastMinutes 17 = .ok (.aaload, 1) := by decide +kernel
theorem dX8_leastMinutes_18 : decode cX8_leastMinutes 18 = .ok (.getfield 67, 3) := by decide +kernel
theorem dX8_leastMinutes_21 : decode cX8_leastMinutes 21 = .ok (.getstatic 189, 3) := by decide +kernel
theorem dX8_leastMinutes_24 : decode cX8_leastMinutes 24 = .ok (.if_acmp .ne 17, 3) := by decide +kernel
theorem dX8_leastMinutes_27 : decode cX8_leastMinutes 27 = .ok (.iload_n 2, 1) := by decide +kernel
theorem dX8_leastMinutes_28 : decode cX8_leastMinutes 28 = .ok (.aload_n 0, 1) := by decide +kernel
theorem dX8_leastMinutes_29 : decode cX8_leastMinutes 29 = .ok (.getfield 34, 3) := by decide +kernel
theorem dX8_leastMinutes_32 : decode cX8_leastMinutes 32 = .ok (.iload_n 3, 1) := by decide +kernel
theorem dX8_leastMinutes_33 : decode cX8_leastMinutes 33 = .ok (.aaload, 1) := by decide +kernel
theorem dX8_leastMinutes_34 : decode cX8_leastMinutes 34 = .ok (.getfield 247, 3) := by decide +kernel
theorem dX8_leastMinutes_37 : decode cX8_leastMinutes 37 = .ok (.invokestatic 253, 3) := by decide +kernel
theorem dX8_leastMinutes_40 : decode cX8_leastMinutes 40 = .ok (.istore_n 2, 1) := by decide +kernel
theorem dX8_leastMinutes_41 : decode cX8_leastMinutes 41 = .ok (.iinc 3 1, 3) := by decide +kernel
theorem dX8_leastMinutes_44 : decode cX8_leastMinutes 44 = .ok (.goto (-40), 3) := by decide +kernel
theorem dX8_leastMinutes_47 : decode cX8_leastMinutes 47 = .ok (.iload_n 2, 1) := by decide +kernel
theorem dX8_leastMinutes_48 : decode cX8_leastMinutes 48 = .ok (.ireturn, 1) := by decide +kernel
theorem dX8_scoreOfAll_0 : decode cX8_scoreOfAll 0 = .ok (.iconst 0, 1) := by decide +kernel
theorem dX8_scoreOfAll_1 : decode cX8_scoreOfAll 1 = .ok (.istore_n 1, 1) := by decide +kernel
theorem dX8_scoreOfAll_2 : decode cX8_scoreOfAll 2 = .ok (.iconst 0, 1) := by decide +kernel
theorem dX8_scoreOfAll_3 : decode cX8_scoreOfAll 3 = .ok (.istore_n 2, 1) := by decide +kernel
theorem dX8_scoreOfAll_4 : decode cX8_scoreOfAll 4 = .ok (.iload_n 2, 1) := by decide +kernel
theorem dX8_scoreOfAll_5 : decode cX8_scoreOfAll 5 = .ok (.aload_n 0, 1) := by decide +kernel
theorem dX8_scoreOfAll_6 : decode cX8_scoreOfAll 6 = .ok (.getfield 38, 3) := by decide +kernel
theorem dX8_scoreOfAll_9 : decode cX8_scoreOfAll 9 = .ok (.if_icmp .ge 22, 3) := by decide +kernel
theorem dX8_scoreOfAll_12 : decode cX8_scoreOfAll 12 = .ok (.iload_n 1, 1) := by decide +kernel
theorem dX8_scoreOfAll_13 : decode cX8_scoreOfAll 13 = .ok (.aload_n 0, 1) := by decide +kernel
theorem dX8_scoreOfAll_14 : decode cX8_scoreOfAll 14 = .ok (.aload_n 0, 1) := by decide +kernel
theorem dX8_scoreOfAll_15 : decode cX8_scoreOfAll 15 = .ok (.getfield 34, 3) := by decide +kernel
theorem dX8_scoreOfAll_18 : decode cX8_scoreOfAll 18 = .ok (.iload_n 2, 1) := by decide +kernel
theorem dX8_scoreOfAll_19 : decode cX8_scoreOfAll 19 = .ok (.aaload, 1) := by decide +kernel
theorem dX8_scoreOfAll_20 : decode cX8_scoreOfAll 20 = .ok (.invokevirtual 209, 3) := by decide +kernel
theorem dX8_scoreOfAll_23 : decode cX8_scoreOfAll 23 = .ok (.iadd, 1) := by decide +kernel
theorem dX8_scoreOfAll_24 : decode cX8_scoreOfAll 24 = .ok (.istore_n 1, 1) := by decide +kernel
theorem dX8_scoreOfAll_25 : decode cX8_scoreOfAll 25 = .ok (.iinc 2 1, 3) := by decide +kernel
theorem dX8_scoreOfAll_28 : decode cX8_scoreOfAll 28 = .ok (.goto (-24), 3) := by decide +kernel
theorem dX8_scoreOfAll_31 : decode cX8_scoreOfAll 31 = .ok (.iload_n 1, 1) := by decide +kernel
theorem dX8_scoreOfAll_32 : decode cX8_scoreOfAll 32 = .ok (.ireturn, 1) := by decide +kernel
theorem dX8_rankedAt_0 : decode cX8_rankedAt 0 = .ok (.iconst 0, 1) := by decide +kernel
theorem dX8_rankedAt_1 : decode cX8_rankedAt 1 = .ok (.istore_n 2, 1) := by decide +kernel
theorem dX8_rankedAt_2 : decode cX8_rankedAt 2 = .ok (.iload_n 2, 1) := by decide +kernel
theorem dX8_rankedAt_3 : decode cX8_rankedAt 3 = .ok (.aload_n 0, 1) := by decide +kernel
theorem dX8_rankedAt_4 : decode cX8_rankedAt 4 = .ok (.getfield 38, 3) := by decide +kernel
theorem dX8_rankedAt_7 : decode cX8_rankedAt 7 = .ok (.if_icmp .ge 36, 3) := by decide +kernel
theorem dX8_rankedAt_10 : decode cX8_rankedAt 10 = .ok (.aload_n 0, 1) := by decide +kernel
theorem dX8_rankedAt_11 : decode cX8_rankedAt 11 = .ok (.getfield 45, 3) := by decide +kernel
theorem dX8_rankedAt_14 : decode cX8_rankedAt 14 = .ok (.iload_n 2, 1) := by decide +kernel
theorem dX8_rankedAt_15 : decode cX8_rankedAt 15 = .ok (.aload_n 0, 1) := by decide +kernel
theorem dX8_rankedAt_16 : decode cX8_rankedAt 16 = .ok (.getfield 34, 3) := by decide +kernel
theorem dX8_rankedAt_19 : decode cX8_rankedAt 19 = .ok (.iload_n 2, 1) := by decide +kernel
theorem dX8_rankedAt_20 : decode cX8_rankedAt 20 = .ok (.aaload, 1) := by decide +kernel
theorem dX8_rankedAt_21 : decode cX8_rankedAt 21 = .ok (.getfield 205, 3) := by decide +kernel
theorem dX8_rankedAt_24 : decode cX8_rankedAt 24 = .ok (.aload_n 0, 1) := by decide +kernel
theorem dX8_rankedAt_25 : decode cX8_rankedAt 25 = .ok (.aload_n 0, 1) := by decide +kernel
theorem dX8_rankedAt_26 : decode cX8_rankedAt 26 = .ok (.getfield 34, 3) := by decide +kernel
theorem dX8_rankedAt_29 : decode cX8_rankedAt 29 = .ok (.iload_n 2, 1) := by decide +kernel
theorem dX8_rankedAt_30 : decode cX8_rankedAt 30 = .ok (.aaload, 1) := by decide +kernel
theorem dX8_rankedAt_31 : decode cX8_rankedAt 31 = .ok (.invokevirtual 209, 3) := by decide +kernel
theorem dX8_rankedAt_34 : decode cX8_rankedAt 34 = .ok (.i2l, 1) := by decide +kernel
theorem dX8_rankedAt_35 : decode cX8_rankedAt 35 = .ok (.ladd, 1) := by decide +kernel
theorem dX8_rankedAt_36 : decode cX8_rankedAt 36 = .ok (.lastore, 1) := by decide +kernel
theorem dX8_rankedAt_37 : decode cX8_rankedAt 37 = .ok (.iinc 2 1, 3) := by decide +kernel
theorem dX8_rankedAt_40 : decode cX8_rankedAt 40 = .ok (.goto (-38), 3) := by decide +kernel
theorem dX8_rankedAt_43 : decode cX8_rankedAt 43 = .ok (.iconst 0, 1) := by decide +kernel
theorem dX8_rankedAt_44 : decode cX8_rankedAt 44 = .ok (.istore_n 2, 1) := by decide +kernel
theorem dX8_rankedAt_45 : decode cX8_rankedAt 45 = .ok (.iload_n 2, 1) := by decide +kernel
theorem dX8_rankedAt_46 : decode cX8_rankedAt 46 = .ok (.aload_n 0, 1) := by decide +kernel
theorem dX8_rankedAt_47 : decode cX8_rankedAt 47 = .ok (.getfield 38, 3) := by decide +kernel
theorem dX8_rankedAt_50 : decode cX8_rankedAt 50 = .ok (.if_icmp .ge 20, 3) := by decide +kernel
theorem dX8_rankedAt_53 : decode cX8_rankedAt 53 = .ok (.aload_n 0, 1) := by decide +kernel
theorem dX8_rankedAt_54 : decode cX8_rankedAt 54 = .ok (.iload_n 2, 1) := by decide +kernel
theorem dX8_rankedAt_55 : decode cX8_rankedAt 55 = .ok (.invokevirtual 256, 3) := by decide +kernel
theorem dX8_rankedAt_58 : decode cX8_rankedAt 58 = .ok (.iload_n 1, 1) := by decide +kernel
theorem dX8_rankedAt_59 : decode cX8_rankedAt 59 = .ok (.if_icmp .ne 5, 3) := by decide +kernel
theorem dX8_rankedAt_62 : decode cX8_rankedAt 62 = .ok (.iload_n 2, 1) := by decide +kernel
theorem dX8_rankedAt_63 : decode cX8_rankedAt 63 = .ok (.ireturn, 1) := by decide +kernel
theorem dX8_rankedAt_64 : decode cX8_rankedAt 64 = .ok (.iinc 2 1, 3) := by decide +kernel
theorem dX8_rankedAt_67 : decode cX8_rankedAt 67 = .ok (.goto (-22), 3) := by decide +kernel
theorem dX8_rankedAt_70 : decode cX8_rankedAt 70 = .ok (.iconst (-1), 1) := by decide +kernel
theorem dX8_rankedAt_71 : decode cX8_rankedAt 71 = .ok (.ireturn, 1) := by decide +kernel
theorem dX8_countAhead_0 : decode cX8_countAhead 0 = .ok (.iconst 0, 1) := by decide +kernel
theorem dX8_countAhead_1 : decode cX8_countAhead 1 = .ok (.istore_n 2, 1) := by decide +kernel
theorem dX8_countAhead_2 : decode cX8_countAhead 2 = .ok (.iconst 0, 1) := by decide +kernel
theorem dX8_countAhead_3 : decode cX8_countAhead 3 = .ok (.istore_n 3, 1) := by decide +kernel
theorem dX8_countAhead_4 : decode cX8_countAhead 4 = .ok (.iload_n 3, 1) := by decide +kernel
theorem dX8_countAhead_5 : decode cX8_countAhead 5 = .ok (.aload_n 0, 1) := by decide +kernel
theorem dX8_countAhead_6 : decode cX8_countAhead 6 = .ok (.getfield 38, 3) := by decide +kernel
theorem dX8_countAhead_9 : decode cX8_countAhead 9 = .ok (.if_icmp .ge 26, 3) := by decide +kernel
theorem dX8_countAhead_12 : decode cX8_countAhead 12 = .ok (.iload_n 3, 1) := by decide +kernel
theorem dX8_countAhead_13 : decode cX8_countAhead 13 = .ok (.iload_n 1, 1) := by decide +kernel
theorem dX8_countAhead_14 : decode cX8_countAhead 14 = .ok (.if_icmp .eq 15, 3) := by decide +kernel
theorem dX8_countAhead_17 : decode cX8_countAhead 17 = .ok (.aload_n 0, 1) := by decide +kernel
theorem dX8_countAhead_18 : decode cX8_countAhead 18 = .ok (.iload_n 3, 1) := by decide +kernel
theorem dX8_countAhead_19 : decode cX8_countAhead 19 = .ok (.iload_n 1, 1) := by decide +kernel
theorem dX8_countAhead_20 : decode cX8_countAhead 20 = .ok (.invokevirtual 259, 3) := by decide +kernel
theorem dX8_countAhead_23 : decode cX8_countAhead 23 = .ok (.ifCond .eq 6, 3) := by decide +kernel
theorem dX8_countAhead_26 : decode cX8_countAhead 26 = .ok (.iinc 2 1, 3) := by decide +kernel
theorem dX8_countAhead_29 : decode cX8_countAhead 29 = .ok (.iinc 3 1, 3) := by decide +kernel
theorem dX8_countAhead_32 : decode cX8_countAhead 32 = .ok (.goto (-28), 3) := by decide +kernel
theorem dX8_countAhead_35 : decode cX8_countAhead 35 = .ok (.iload_n 2, 1) := by decide +kernel
theorem dX8_countAhead_36 : decode cX8_countAhead 36 = .ok (.ireturn, 1) := by decide +kernel
theorem dX8_isAhead_0 : decode cX8_isAhead 0 = .ok (.aload_n 0, 1) := by decide +kernel
theorem dX8_isAhead_1 : decode cX8_isAhead 1 = .ok (.iload_n 1, 1) := by decide +kernel
theorem dX8_isAhead_2 : decode cX8_isAhead 2 = .ok (.invokevirtual 124, 3) := by decide +kernel
theorem dX8_isAhead_5 : decode cX8_isAhead 5 = .ok (.ifCond .eq 11, 3) := by decide +kernel
theorem dX8_isAhead_8 : decode cX8_isAhead 8 = .ok (.aload_n 0, 1) := by decide +kernel
theorem dX8_isAhead_9 : decode cX8_isAhead 9 = .ok (.iload_n 2, 1) := by decide +kernel
theorem dX8_isAhead_10 : decode cX8_isAhead 10 = .ok (.invokevirtual 124, 3) := by decide +kernel
theorem dX8_isAhead_13 : decode cX8_isAhead 13 = .ok (.ifCond .ne 5, 3) := by decide +kernel
theorem dX8_isAhead_16 : decode cX8_isAhead 16 = .ok (.iconst 0, 1) := by decide +kernel
theorem dX8_isAhead_17 : decode cX8_isAhead 17 = .ok (.ireturn, 1) := by decide +kernel
theorem dX8_isAhead_18 : decode cX8_isAhead 18 = .ok (.aload_n 0, 1) := by decide +kernel
theorem dX8_isAhead_19 : decode cX8_isAhead 19 = .ok (.getfield 45, 3) := by decide +kernel
theorem dX8_isAhead_22 : decode cX8_isAhead 22 = .ok (.iload_n 1, 1) := by decide +kernel
theorem dX8_isAhead_23 : decode cX8_isAhead 23 = .ok (.laload, 1) := by decide +kernel
theorem dX8_isAhead_24 : decode cX8_isAhead 24 = .ok (.aload_n 0, 1) := by decide +kernel
theorem dX8_isAhead_25 : decode cX8_isAhead 25 = .ok (.getfield 45, 3) := by decide +kernel
theorem dX8_isAhead_28 : decode cX8_isAhead 28 = .ok (.iload_n 2, 1) := by decide +kernel
theorem dX8_isAhead_29 : decode cX8_isAhead 29 = .ok (.laload, 1) := by decide +kernel
theorem dX8_isAhead_30 : decode cX8_isAhead 30 = .ok (.lcmp, 1) := by decide +kernel
theorem dX8_isAhead_31 : decode cX8_isAhead 31 = .ok (.ifCond .eq 25, 3) := by decide +kernel
theorem dX8_isAhead_34 : decode cX8_isAhead 34 = .ok (.aload_n 0, 1) := by decide +kernel
theorem dX8_isAhead_35 : decode cX8_isAhead 35 = .ok (.getfield 45, 3) := by decide +kernel
theorem dX8_isAhead_38 : decode cX8_isAhead 38 = .ok (.iload_n 1, 1) := by decide +kernel
theorem dX8_isAhead_39 : decode cX8_isAhead 39 = .ok (.laload, 1) := by decide +kernel
theorem dX8_isAhead_40 : decode cX8_isAhead 40 = .ok (.aload_n 0, 1) := by decide +kernel
theorem dX8_isAhead_41 : decode cX8_isAhead 41 = .ok (.getfield 45, 3) := by decide +kernel
theorem dX8_isAhead_44 : decode cX8_isAhead 44 = .ok (.iload_n 2, 1) := by decide +kernel
theorem dX8_isAhead_45 : decode cX8_isAhead 45 = .ok (.laload, 1) := by decide +kernel
theorem dX8_isAhead_46 : decode cX8_isAhead 46 = .ok (.lcmp, 1) := by decide +kernel
theorem dX8_isAhead_47 : decode cX8_isAhead 47 = .ok (.ifCond .le 7, 3) := by decide +kernel
theorem dX8_isAhead_50 : decode cX8_isAhead 50 = .ok (.iconst 1, 1) := by decide +kernel
theorem dX8_isAhead_51 : decode cX8_isAhead 51 = .ok (.goto 4, 3) := by decide +kernel
theorem dX8_isAhead_54 : decode cX8_isAhead 54 = .ok (.iconst 0, 1) := by decide +kernel
theorem dX8_isAhead_55 : decode cX8_isAhead 55 = .ok (.ireturn, 1) := by decide +kernel
theorem dX8_isAhead_56 : decode cX8_isAhead 56 = .ok (.aload_n 0, 1) := by decide +kernel
theorem dX8_isAhead_57 : decode cX8_isAhead 57 = .ok (.getfield 34, 3) := by decide +kernel
theorem dX8_isAhead_60 : decode cX8_isAhead 60 = .ok (.iload_n 1, 1) := by decide +kernel
theorem dX8_isAhead_61 : decode cX8_isAhead 61 = .ok (.aaload, 1) := by decide +kernel
theorem dX8_isAhead_62 : decode cX8_isAhead 62 = .ok (.getfield 179, 3) := by decide +kernel
theorem dX8_isAhead_65 : decode cX8_isAhead 65 = .ok (.aload_n 0, 1) := by decide +kernel
theorem dX8_isAhead_66 : decode cX8_isAhead 66 = .ok (.getfield 34, 3) := by decide +kernel
theorem dX8_isAhead_69 : decode cX8_isAhead 69 = .ok (.iload_n 2, 1) := by decide +kernel
theorem dX8_isAhead_70 : decode cX8_isAhead 70 = .ok (.aaload, 1) := by decide +kernel
theorem dX8_isAhead_71 : decode cX8_isAhead 71 = .ok (.getfield 179, 3) := by decide +kernel
theorem dX8_isAhead_74 : decode cX8_isAhead 74 = .ok (.if_icmp .eq 30, 3) := by decide +kernel
theorem dX8_isAhead_77 : decode cX8_isAhead 77 = .ok (.aload_n 0, 1) := by decide +kernel
theorem dX8_isAhead_78 : decode cX8_isAhead 78 = .ok (.getfield 34, 3) := by decide +kernel
theorem dX8_isAhead_81 : decode cX8_isAhead 81 = .ok (.iload_n 1, 1) := by decide +kernel
theorem dX8_isAhead_82 : decode cX8_isAhead 82 = .ok (.aaload, 1) := by decide +kernel
theorem dX8_isAhead_83 : decode cX8_isAhead 83 = .ok (.getfield 179, 3) := by decide +kernel
theorem dX8_isAhead_86 : decode cX8_isAhead 86 = .ok (.aload_n 0, 1) := by decide +kernel
theorem dX8_isAhead_87 : decode cX8_isAhead 87 = .ok (.getfield 34, 3) := by decide +kernel
theorem dX8_isAhead_90 : decode cX8_isAhead 90 = .ok (.iload_n 2, 1) := by decide +kernel
theorem dX8_isAhead_91 : decode cX8_isAhead 91 = .ok (.aaload, 1) := by decide +kernel
theorem dX8_isAhead_92 : decode cX8_isAhead 92 = .ok (.getfield 179, 3) := by decide +kernel
theorem dX8_isAhead_95 : decode cX8_isAhead 95 = .ok (.if_icmp .ge 7, 3) := by decide +kernel
theorem dX8_isAhead_98 : decode cX8_isAhead 98 = .ok (.iconst 1, 1) := by decide +kernel
theorem dX8_isAhead_99 : decode cX8_isAhead 99 = .ok (.goto 4, 3) := by decide +kernel
theorem dX8_isAhead_102 : decode cX8_isAhead 102 = .ok (.iconst 0, 1) := by decide +kernel
theorem dX8_isAhead_103 : decode cX8_isAhead 103 = .ok (.ireturn, 1) := by decide +kernel
theorem dX8_isAhead_104 : decode cX8_isAhead 104 = .ok (.iload_n 1, 1) := by decide +kernel
theorem dX8_isAhead_105 : decode cX8_isAhead 105 = .ok (.iload_n 2, 1) := by decide +kernel
theorem dX8_isAhead_106 : decode cX8_isAhead 106 = .ok (.if_icmp .ge 7, 3) := by decide +kernel
theorem dX8_isAhead_109 : decode cX8_isAhead 109 = .ok (.iconst 1, 1) := by decide +kernel
theorem dX8_isAhead_110 : decode cX8_isAhead 110 = .ok (.goto 4, 3) := by decide +kernel
theorem dX8_isAhead_113 : decode cX8_isAhead 113 = .ok (.iconst 0, 1) := by decide +kernel
theorem dX8_isAhead_114 : decode cX8_isAhead 114 = .ok (.ireturn, 1) := by decide +kernel
theorem dX8_rowCountsAgree_0 : decode cX8_rowCountsAgree 0 = .ok (.iconst 0, 1) := by decide +kernel
theorem dX8_rowCountsAgree_1 : decode cX8_rowCountsAgree 1 = .ok (.istore_n 1, 1) := by decide +kernel
theorem dX8_rowCountsAgree_2 : decode cX8_rowCountsAgree 2 = .ok (.iload_n 1, 1) := by decide +kernel
theorem dX8_rowCountsAgree_3 : decode cX8_rowCountsAgree 3 = .ok (.bipush 60, 2) := by decide +kernel
theorem dX8_rowCountsAgree_5 : decode cX8_rowCountsAgree 5 = .ok (.if_icmp .gt 30, 3) := by decide +kernel
theorem dX8_rowCountsAgree_8 : decode cX8_rowCountsAgree 8 = .ok (.aload_n 0, 1) := by decide +kernel
theorem dX8_rowCountsAgree_9 : decode cX8_rowCountsAgree 9 = .ok (.getfield 28, 3) := by decide +kernel
theorem dX8_rowCountsAgree_12 : decode cX8_rowCountsAgree 12 = .ok (.iload_n 1, 1) := by decide +kernel
theorem dX8_rowCountsAgree_13 : decode cX8_rowCountsAgree 13 = .ok (.invokevirtual 262, 3) := by decide +kernel
theorem dX8_rowCountsAgree_16 : decode cX8_rowCountsAgree 16 = .ok (.aload_n 0, 1) := by decide +kernel
theorem dX8_rowCountsAgree_17 : decode cX8_rowCountsAgree 17 = .ok (.getfield 28, 3) := by decide +kernel
theorem dX8_rowCountsAgree_20 : decode cX8_rowCountsAgree 20 = .ok (.iload_n 1, 1) := by decide +kernel
theorem dX8_rowCountsAgree_21 : decode cX8_rowCountsAgree 21 = .ok (.invokevirtual 265, 3) := by decide +kernel
theorem dX8_rowCountsAgree_24 : decode cX8_rowCountsAgree 24 = .ok (.if_icmp .eq 5, 3) := by decide +kernel
theorem dX8_rowCountsAgree_27 : decode cX8_rowCountsAgree 27 = .ok (.iconst 0, 1) := by decide +kernel
theorem dX8_rowCountsAgree_28 : decode cX8_rowCountsAgree 28 = .ok (.ireturn, 1) := by decide +kernel
theorem dX8_rowCountsAgree_29 : decode cX8_rowCountsAgree 29 = .ok (.iinc 1 1, 3) := by decide +kernel
theorem dX8_rowCountsAgree_32 : decode cX8_rowCountsAgree 32 = .ok (.goto (-30), 3) := by decide +kernel
theorem dX8_rowCountsAgree_35 : decode cX8_rowCountsAgree 35 = .ok (.iconst 1, 1) := by decide +kernel
theorem dX8_rowCountsAgree_36 : decode cX8_rowCountsAgree 36 = .ok (.ireturn, 1) := by decide +kernel
theorem dX8_finishForecastsAgree_0 : decode cX8_finishForecastsAgree 0 = .ok (.iconst 0, 1) := by decide +kernel
theorem dX8_finishForecastsAgree_1 : decode cX8_finishForecastsAgree 1 = .ok (.istore_n 1, 1) := by decide +kernel
theorem dX8_finishForecastsAgree_2 : decode cX8_finishForecastsAgree 2 = .ok (.iload_n 1, 1) := by decide +kernel
theorem dX8_finishForecastsAgree_3 : decode cX8_finishForecastsAgree 3 = .ok (.aload_n 0, 1) := by decide +kernel
theorem dX8_finishForecastsAgree_4 : decode cX8_finishForecastsAgree 4 = .ok (.getfield 38, 3) := by decide +kernel
theorem dX8_finishForecastsAgree_7 : decode cX8_finishForecastsAgree 7 = .ok (.if_icmp .ge 41, 3) := by decide +kernel
theorem dX8_finishForecastsAgree_10 : decode cX8_finishForecastsAgree 10 = .ok (.aload_n 0, 1) := by decide +kernel
theorem dX8_finishForecastsAgree_11 : decode cX8_finishForecastsAgree 11 = .ok (.getfield 34, 3) := by decide +kernel
theorem dX8_finishForecastsAgree_14 : decode cX8_finishForecastsAgree 14 = .ok (.iload_n 1, 1) := by decide +kernel
theorem dX8_finishForecastsAgree_15 : decode cX8_finishForecastsAgree 15 = .ok (.aaload, 1) := by decide +kernel
theorem dX8_finishForecastsAgree_16 : decode cX8_finishForecastsAgree 16 = .ok (.astore_n 2, 1) := by decide +kernel
theorem dX8_finishForecastsAgree_17 : decode cX8_finishForecastsAgree 17 = .ok (.aload_n 2, 1) := by decide +kernel
theorem dX8_finishForecastsAgree_18 : decode cX8_finishForecastsAgree 18 = .ok (.getfield 67, 3) := by decide +kernel
theorem dX8_finishForecastsAgree_21 : decode cX8_finishForecastsAgree 21 = .ok (.getstatic 127, 3) := by decide +kernel
theorem dX8_finishForecastsAgree_24 : decode cX8_finishForecastsAgree 24 = .ok (.if_acmp .ne 18, 3) := by decide +kernel
theorem dX8_finishForecastsAgree_27 : decode cX8_finishForecastsAgree 27 = .ok (.aload_n 0, 1) := by decide +kernel
theorem dX8_finishForecastsAgree_28 : decode cX8_finishForecastsAgree 28 = .ok (.aload_n 2, 1) := by decide +kernel
theorem dX8_finishForecastsAgree_29 : decode cX8_finishForecastsAgree 29 = .ok (.invokevirtual 268, 3) := by decide +kernel
theorem dX8_finishForecastsAgree_32 : decode cX8_finishForecastsAgree 32 = .ok (.aload_n 0, 1) := by decide +kernel
theorem dX8_finishForecastsAgree_33 : decode cX8_finishForecastsAgree 33 = .ok (.aload_n 2, 1) := by decide +kernel
theorem dX8_finishForecastsAgree_34 : decode cX8_finishForecastsAgree 34 = .ok (.invokevirtual 272, 3) := by decide +kernel
theorem dX8_finishForecastsAgree_37 : decode cX8_finishForecastsAgree 37 = .ok (.if_icmp .eq 5, 3) := by decide +kernel
theorem dX8_finishForecastsAgree_40 : decode cX8_finishForecastsAgree 40 = .ok (.iconst 0, 1) := by decide +kernel
theorem dX8_finishForecastsAgree_41 : decode cX8_finishForecastsAgree 41 = .ok (.ireturn, 1) := by decide +kernel
theorem dX8_finishForecastsAgree_42 : decode cX8_finishForecastsAgree 42 = .ok (.iinc 1 1, 3) := by decide +kernel
theorem dX8_finishForecastsAgree_45 : decode cX8_finishForecastsAgree 45 = .ok (.goto (-43), 3) := by decide +kernel
theorem dX8_finishForecastsAgree_48 : decode cX8_finishForecastsAgree 48 = .ok (.iconst 1, 1) := by decide +kernel
theorem dX8_finishForecastsAgree_49 : decode cX8_finishForecastsAgree 49 = .ok (.ireturn, 1) := by decide +kernel
theorem dX8_distancesAreBounded_0 : decode cX8_distancesAreBounded 0 = .ok (.iconst 0, 1) := by decide +kernel
theorem dX8_distancesAreBounded_1 : decode cX8_distancesAreBounded 1 = .ok (.istore_n 1, 1) := by decide +kernel
theorem dX8_distancesAreBounded_2 : decode cX8_distancesAreBounded 2 = .ok (.iload_n 1, 1) := by decide +kernel
theorem dX8_distancesAreBounded_3 : decode cX8_distancesAreBounded 3 = .ok (.aload_n 0, 1) := by decide +kernel
theorem dX8_distancesAreBounded_4 : decode cX8_distancesAreBounded 4 = .ok (.getfield 38, 3) := by decide +kernel
theorem dX8_distancesAreBounded_7 : decode cX8_distancesAreBounded 7 = .ok (.if_icmp .ge 31, 3) := by decide +kernel
theorem dX8_distancesAreBounded_10 : decode cX8_distancesAreBounded 10 = .ok (.aload_n 0, 1) := by decide +kernel
theorem dX8_distancesAreBounded_11 : decode cX8_distancesAreBounded 11 = .ok (.aload_n 0, 1) := by decide +kernel
theorem dX8_distancesAreBounded_12 : decode cX8_distancesAreBounded 12 = .ok (.getfield 34, 3) := by decide +kernel
theorem dX8_distancesAreBounded_15 : decode cX8_distancesAreBounded 15 = .ok (.iload_n 1, 1) := by decide +kernel
theorem dX8_distancesAreBounded_16 : decode cX8_distancesAreBounded 16 = .ok (.aaload, 1) := by decide +kernel
theorem dX8_distancesAreBounded_17 : decode cX8_distancesAreBounded 17 = .ok (.invokevirtual 238, 3) := by decide +kernel
theorem dX8_distancesAreBounded_20 : decode cX8_distancesAreBounded 20 = .ok (.aload_n 0, 1) := by decide +kernel
theorem dX8_distancesAreBounded_21 : decode cX8_distancesAreBounded 21 = .ok (.getfield 12, 3) := by decide +kernel
theorem dX8_distancesAreBounded_24 : decode cX8_distancesAreBounded 24 = .ok (.invokevirtual 241, 3) := by decide +kernel
theorem dX8_distancesAreBounded_27 : decode cX8_distancesAreBounded 27 = .ok (.if_icmp .le 5, 3) := by decide +kernel
theorem dX8_distancesAreBounded_30 : decode cX8_distancesAreBounded 30 = .ok (.iconst 0, 1) := by decide +kernel
theorem dX8_distancesAreBounded_31 : decode cX8_distancesAreBounded 31 = .ok (.ireturn, 1) := by decide +kernel
theorem dX8_distancesAreBounded_32 : decode cX8_distancesAreBounded 32 = .ok (.iinc 1 1, 3) := by decide +kernel
theorem dX8_distancesAreBounded_35 : decode cX8_distancesAreBounded 35 = .ok (.goto (-33), 3) := by decide +kernel
theorem dX8_distancesAreBounded_38 : decode cX8_distancesAreBounded 38 = .ok (.iconst 1, 1) := by decide +kernel
theorem dX8_distancesAreBounded_39 : decode cX8_distancesAreBounded 39 = .ok (.ireturn, 1) := by decide +kernel
theorem dX9_init_0 : decode cX9_init 0 = .ok (.aload_n 0, 1) := by decide +kernel
theorem dX9_init_1 : decode cX9_init 1 = .ok (.invokespecial 1, 3) := by decide +kernel
theorem dX9_init_4 : decode cX9_init 4 = .ok (.aload_n 0, 1) := by decide +kernel
theorem dX9_init_5 : decode cX9_init 5 = .ok (.new 7, 3) := by decide +kernel
theorem dX9_init_8 : decode cX9_init 8 = .ok (.dup, 1) := by decide +kernel
theorem dX9_init_9 : decode cX9_init 9 = .ok (.invokespecial 9, 3) := by decide +kernel
theorem dX9_init_12 : decode cX9_init 12 = .ok (.putfield 10, 3) := by decide +kernel
theorem dX9_init_15 : decode cX9_init 15 = .ok (.aload_n 0, 1) := by decide +kernel
theorem dX9_init_16 : decode cX9_init 16 = .ok (.new 7, 3) := by decide +kernel
theorem dX9_init_19 : decode cX9_init 19 = .ok (.dup, 1) := by decide +kernel
theorem dX9_init_20 : decode cX9_init 20 = .ok (.invokespecial 9, 3) := by decide +kernel
theorem dX9_init_23 : decode cX9_init 23 = .ok (.putfield 16, 3) := by decide +kernel
theorem dX9_init_26 : decode cX9_init 26 = .ok (.aload_n 0, 1) := by decide +kernel
theorem dX9_init_27 : decode cX9_init 27 = .ok (.new 7, 3) := by decide +kernel
theorem dX9_init_30 : decode cX9_init 30 = .ok (.dup, 1) := by decide +kernel
theorem dX9_init_31 : decode cX9_init 31 = .ok (.invokespecial 9, 3) := by decide +kernel
theorem dX9_init_34 : decode cX9_init 34 = .ok (.putfield 19, 3) := by decide +kernel
theorem dX9_init_37 : decode cX9_init 37 = .ok (.aload_n 0, 1) := by decide +kernel
theorem dX9_init_38 : decode cX9_init 38 = .ok (.new 22, 3) := by decide +kernel
theorem dX9_init_41 : decode cX9_init 41 = .ok (.dup, 1) := by decide +kernel
theorem dX9_init_42 : decode cX9_init 42 = .ok (.invokespecial 24, 3) := by decide +kernel
theorem dX9_init_45 : decode cX9_init 45 = .ok (.putfield 25, 3) := by decide +kernel
theorem dX9_init_48 : decode cX9_init 48 = .ok (.aload_n 0, 1) := by decide +kernel
theorem dX9_init_49 : decode cX9_init 49 = .ok (.new 29, 3) := by decide +kernel
theorem dX9_init_52 : decode cX9_init 52 = .ok (.dup, 1) := by decide +kernel
theorem dX9_init_53 : decode cX9_init 53 = .ok (.invokespecial 31, 3) := by decide +kernel
theorem dX9_init_56 : decode cX9_init 56 = .ok (.putfield 32, 3) := by decide +kernel
theorem dX9_init_59 : decode cX9_init 59 = .ok (.aload_n 0, 1) := by decide +kernel
theorem dX9_init_60 : decode cX9_init 60 = .ok (.new 36, 3) := by decide +kernel
theorem dX9_init_63 : decode cX9_init 63 = .ok (.dup, 1) := by decide +kernel
theorem dX9_init_64 : decode cX9_init 64 = .ok (.invokespecial 38, 3) := by decide +kernel
theorem dX9_init_67 : decode cX9_init 67 = .ok (.putfield 39, 3) := by decide +kernel
theorem dX9_init_70 : decode cX9_init 70 = .ok (.aload_n 0, 1) := by decide +kernel
theorem dX9_init_71 : decode cX9_init 71 = .ok (.iconst 0, 1) := by decide +kernel
theorem dX9_init_72 : decode cX9_init 72 = .ok (.putfield 43, 3) := by decide +kernel
theorem dX9_init_75 : decode cX9_init 75 = .ok (.aload_n 0, 1) := by decide +kernel
theorem dX9_init_76 : decode cX9_init 76 = .ok (.iconst (-1), 1) := by decide +kernel
theorem dX9_init_77 : decode cX9_init 77 = .ok (.putfield 47, 3) := by decide +kernel
theorem dX9_init_80 : decode cX9_init 80 = .ok (.aload_n 0, 1) := by decide +kernel
theorem dX9_init_81 : decode cX9_init 81 = .ok (.iconst (-1), 1) := by decide +kernel
theorem dX9_init_82 : decode cX9_init 82 = .ok (.putfield 51, 3) := by decide +kernel
theorem dX9_init_85 : decode cX9_init 85 = .ok (.return_, 1) := by decide +kernel
theorem dX9_addPoint_0 : decode cX9_addPoint 0 = .ok (.aload_n 0, 1) := by decide +kernel
theorem dX9_addPoint_1 : decode cX9_addPoint 1 = .ok (.getfield 10, 3) := by decide +kernel
theorem dX9_addPoint_4 : decode cX9_addPoint 4 = .ok (.iload_n 1, 1) := by decide +kernel
theorem dX9_addPoint_5 : decode cX9_addPoint 5 = .ok (.iload_n 2, 1) := by decide +kernel
theorem dX9_addPoint_6 : decode cX9_addPoint 6 = .ok (.invokevirtual 54, 3) := by decide +kernel
theorem dX9_addPoint_9 : decode cX9_addPoint 9 = .ok (.invokestatic 58, 3) := by decide +kernel
theorem dX9_addPoint_12 : decode cX9_addPoint 12 = .ok (.aload_n 0, 1) := by decide +kernel
theorem dX9_addPoint_13 : decode cX9_addPoint 13 = .ok (.getfield 25, 3) := by decide +kernel
theorem dX9_addPoint_16 : decode cX9_addPoint 16 = .ok (.aload_n 0, 1) := by decide +kernel
theorem dX9_addPoint_17 : decode cX9_addPoint 17 = .ok (.getfield 10, 3) := by decide +kernel
theorem dX9_addPoint_20 : decode cX9_addPoint 20 = .ok (.invokevirtual 62, 3) := by decide +kernel
theorem dX9_addPoint_23 : decode cX9_addPoint 23 = .ok (.aload_n 0, 1) := by decide +kernel
theorem dX9_addPoint_24 : decode cX9_addPoint 24 = .ok (.getfield 10, 3) := by decide +kernel
theorem dX9_addPoint_27 : decode cX9_addPoint 27 = .ok (.getfield 66, 3) := by decide +kernel
theorem dX9_addPoint_30 : decode cX9_addPoint 30 = .ok (.iload_n 1, 1) := by decide +kernel
theorem dX9_addPoint_31 : decode cX9_addPoint 31 = .ok (.iload_n 2, 1) := by decide +kernel
theorem dX9_addPoint_32 : decode cX9_addPoint 32 = .ok (.invokevirtual 70, 3) := by decide +kernel
theorem dX9_addPoint_35 : decode cX9_addPoint 35 = .ok (.ireturn, 1) := by decide +kernel
theorem dX9_addTaskPoint_0 : decode cX9_addTaskPoint 0 = .ok (.aload_n 0, 1) := by decide +kernel
theorem dX9_addTaskPoint_1 : decode cX9_addTaskPoint 1 = .ok (.getfield 10, 3) := by decide +kernel
theorem dX9_addTaskPoint_4 : decode cX9_addTaskPoint 4 = .ok (.iload_n 1, 1) := by decide +kernel
theorem dX9_addTaskPoint_5 : decode cX9_addTaskPoint 5 = .ok (.invokevirtual 76, 3) := by decide +kernel
theorem dX9_addTaskPoint_8 : decode cX9_addTaskPoint 8 = .ok (.invokestatic 58, 3) := by decide +kernel
theorem dX9_addTaskPoint_11 : decode cX9_addTaskPoint 11 = .ok (.aload_n 0, 1) := by decide +kernel
theorem dX9_addTaskPoint_12 : decode cX9_addTaskPoint 12 = .ok (.getfield 25, 3) := by decide +kernel
theorem dX9_addTaskPoint_15 : decode cX9_addTaskPoint 15 = .ok (.aload_n 0, 1) := by decide +kernel
theorem dX9_addTaskPoint_16 : decode cX9_addTaskPoint 16 = .ok (.getfield 10, 3) := by decide +kernel
theorem dX9_addTaskPoint_19 : decode cX9_addTaskPoint 19 = .ok (.invokevirtual 62, 3) := by decide +kernel
theorem dX9_addTaskPoint_22 : decode cX9_addTaskPoint 22 = .ok (.aload_n 0, 1) := by decide +kernel
theorem dX9_addTaskPoint_23 : decode cX9_addTaskPoint 23 = .ok (.getfield 10, 3) := by decide +kernel
theorem dX9_addTaskPoint_26 : decode cX9_addTaskPoint 26 = .ok (.getfield 66, 3) := by decide +kernel
theorem dX9_addTaskPoint_29 : decode cX9_addTaskPoint 29 = .ok (.iload_n 1, 1) := by decide +kernel
theorem dX9_addTaskPoint_30 : decode cX9_addTaskPoint 30 = .ok (.invokevirtual 80, 3) := by decide +kernel
theorem dX9_addTaskPoint_33 : decode cX9_addTaskPoint 33 = .ok (.ireturn, 1) := by decide +kernel
theorem dX9_clearTask_0 : decode cX9_clearTask 0 = .ok (.aload_n 0, 1) := by decide +kernel
theorem dX9_clearTask_1 : decode cX9_clearTask 1 = .ok (.getfield 10, 3) := by decide +kernel
theorem dX9_clearTask_4 : decode cX9_clearTask 4 = .ok (.invokevirtual 84, 3) := by decide +kernel
theorem dX9_clearTask_7 : decode cX9_clearTask 7 = .ok (.ifCond .ne 13, 3) := by decide +kernel
theorem dX9_clearTask_10 : decode cX9_clearTask 10 = .ok (.new 88, 3) := by decide +kernel
theorem dX9_clearTask_13 : decode cX9_clearTask 13 = .ok (.dup, 1) := by decide +kernel
theorem dX9_clearTask_14 : decode cX9_clearTask 14 = .ok (.ldc 90, 2) := by decide +kernel
theorem dX9_clearTask_16 : decode cX9_clearTask 16 = .ok (.invokespecial 92, 3) := by decide +kernel
theorem dX9_clearTask_19 : decode cX9_clearTask 19 = .ok (.athrow, 1) := by decide +kernel
theorem dX9_clearTask_20 : decode cX9_clearTask 20 = .ok (.aload_n 0, 1) := by decide +kernel
theorem dX9_clearTask_21 : decode cX9_clearTask 21 = .ok (.getfield 25, 3) := by decide +kernel
theorem dX9_clearTask_24 : decode cX9_clearTask 24 = .ok (.aload_n 0, 1) := by decide +kernel
theorem dX9_clearTask_25 : decode cX9_clearTask 25 = .ok (.getfield 10, 3) := by decide +kernel
theorem dX9_clearTask_28 : decode cX9_clearTask 28 = .ok (.invokevirtual 62, 3) := by decide +kernel
theorem dX9_clearTask_31 : decode cX9_clearTask 31 = .ok (.aload_n 0, 1) := by decide +kernel
theorem dX9_clearTask_32 : decode cX9_clearTask 32 = .ok (.getfield 10, 3) := by decide +kernel
theorem dX9_clearTask_35 : decode cX9_clearTask 35 = .ok (.getfield 66, 3) := by decide +kernel
theorem dX9_clearTask_38 : decode cX9_clearTask 38 = .ok (.invokevirtual 95, 3) := by decide +kernel
theorem dX9_clearTask_41 : decode cX9_clearTask 41 = .ok (.ireturn, 1) := by decide +kernel
theorem dX9_addThermal_0 : decode cX9_addThermal 0 = .ok (.aload_n 0, 1) := by decide +kernel
theorem dX9_addThermal_1 : decode cX9_addThermal 1 = .ok (.getfield 10, 3) := by decide +kernel
theorem dX9_addThermal_4 : decode cX9_addThermal 4 = .ok (.iload_n 1, 1) := by decide +kernel
theorem dX9_addThermal_5 : decode cX9_addThermal 5 = .ok (.iload_n 2, 1) := by decide +kernel
theorem dX9_addThermal_6 : decode cX9_addThermal 6 = .ok (.iload_n 3, 1) := by decide +kernel
theorem dX9_addThermal_7 : decode cX9_addThermal 7 = .ok (.invokevirtual 99, 3) := by decide +kernel
theorem dX9_addThermal_10 : decode cX9_addThermal 10 = .ok (.invokestatic 58, 3) := by decide +kernel
theorem dX9_addThermal_13 : decode cX9_addThermal 13 = .ok (.aload_n 0, 1) := by decide +kernel
theorem dX9_addThermal_14 : decode cX9_addThermal 14 = .ok (.getfield 25, 3) := by decide +kernel
theorem dX9_addThermal_17 : decode cX9_addThermal 17 = .ok (.aload_n 0, 1) := by decide +kernel
theorem dX9_addThermal_18 : decode cX9_addThermal 18 = .ok (.getfield 10, 3) := by decide +kernel
theorem dX9_addThermal_21 : decode cX9_addThermal 21 = .ok (.invokevirtual 62, 3) := by decide +kernel
theorem dX9_addThermal_24 : decode cX9_addThermal 24 = .ok (.aload_n 0, 1) := by decide +kernel
theorem dX9_addThermal_25 : decode cX9_addThermal 25 = .ok (.getfield 10, 3) := by decide +kernel
theorem dX9_addThermal_28 : decode cX9_addThermal 28 = .ok (.getfield 103, 3) := by decide +kernel
theorem dX9_addThermal_31 : decode cX9_addThermal 31 = .ok (.iload_n 1, 1) := by decide +kernel
theorem dX9_addThermal_32 : decode cX9_addThermal 32 = .ok (.iload_n 2, 1) := by decide +kernel
theorem dX9_addThermal_33 : decode cX9_addThermal 33 = .ok (.iload_n 3, 1) := by decide +kernel
theorem dX9_addThermal_34 : decode cX9_addThermal 34 = .ok (.invokevirtual 107, 3) := by decide +kernel
theorem dX9_addThermal_37 : decode cX9_addThermal 37 = .ok (.ireturn, 1) := by decide +kernel
theorem dX9_setCloudBase_0 : decode cX9_setCloudBase 0 = .ok (.iload_n 1, 1) := by decide +kernel
theorem dX9_setCloudBase_1 : decode cX9_setCloudBase 1 = .ok (.sipush 500, 3) := by decide +kernel
theorem dX9_setCloudBase_4 : decode cX9_setCloudBase 4 = .ok (.if_icmp .lt 10, 3) := by decide +kernel
theorem dX9_setCloudBase_7 : decode cX9_setCloudBase 7 = .ok (.iload_n 1, 1) := by decide +kernel
theorem dX9_setCloudBase_8 : decode cX9_setCloudBase 8 = .ok (.sipush 3000, 3) := by decide +kernel
theorem dX9_setCloudBase_11 : decode cX9_setCloudBase 11 = .ok (.if_icmp .le 13, 3) := by decide +kernel
theorem dX9_setCloudBase_14 : decode cX9_setCloudBase 14 = .ok (.new 113, 3) := by decide +kernel
theorem dX9_setCloudBase_17 : decode cX9_setCloudBase 17 = .ok (.dup, 1) := by decide +kernel
theorem dX9_setCloudBase_18 : decode cX9_setCloudBase 18 = .ok (.ldc 115, 2) := by decide +kernel
theorem dX9_setCloudBase_20 : decode cX9_setCloudBase 20 = .ok (.invokespecial 117, 3) := by decide +kernel
theorem dX9_setCloudBase_23 : decode cX9_setCloudBase 23 = .ok (.athrow, 1) := by decide +kernel
theorem dX9_setCloudBase_24 : decode cX9_setCloudBase 24 = .ok (.aload_n 0, 1) := by decide +kernel
theorem dX9_setCloudBase_25 : decode cX9_setCloudBase 25 = .ok (.getfield 25, 3) := by decide +kernel
theorem dX9_setCloudBase_28 : decode cX9_setCloudBase 28 = .ok (.aload_n 0, 1) := by decide +kernel
theorem dX9_setCloudBase_29 : decode cX9_setCloudBase 29 = .ok (.getfield 10, 3) := by decide +kernel
theorem dX9_setCloudBase_32 : decode cX9_setCloudBase 32 = .ok (.invokevirtual 62, 3) := by decide +kernel
theorem dX9_setCloudBase_35 : decode cX9_setCloudBase 35 = .ok (.aload_n 0, 1) := by decide +kernel
theorem dX9_setCloudBase_36 : decode cX9_setCloudBase 36 = .ok (.getfield 10, 3) := by decide +kernel
theorem dX9_setCloudBase_39 : decode cX9_setCloudBase 39 = .ok (.getfield 103, 3) := by decide +kernel
theorem dX9_setCloudBase_42 : decode cX9_setCloudBase 42 = .ok (.getfield 118, 3) := by decide +kernel
theorem dX9_setCloudBase_45 : decode cX9_setCloudBase 45 = .ok (.istore_n 2, 1) := by decide +kernel
theorem dX9_setCloudBase_46 : decode cX9_setCloudBase 46 = .ok (.aload_n 0, 1) := by decide +kernel
theorem dX9_setCloudBase_47 : decode cX9_setCloudBase 47 = .ok (.getfield 10, 3) := by decide +kernel
theorem dX9_setCloudBase_50 : decode cX9_setCloudBase 50 = .ok (.getfield 103, 3) := by decide +kernel
theorem dX9_setCloudBase_53 : decode cX9_setCloudBase 53 = .ok (.iload_n 1, 1) := by decide +kernel
theorem dX9_setCloudBase_54 : decode cX9_setCloudBase 54 = .ok (.putfield 118, 3) := by decide +kernel
theorem dX9_setCloudBase_57 : decode cX9_setCloudBase 57 = .ok (.iload_n 2, 1) := by decide +kernel
theorem dX9_setCloudBase_58 : decode cX9_setCloudBase 58 = .ok (.ireturn, 1) := by decide +kernel
theorem dX9_addArea_0 : decode cX9_addArea 0 = .ok (.aload_n 0, 1) := by decide +kernel
theorem dX9_addArea_1 : decode cX9_addArea 1 = .ok (.getfield 10, 3) := by decide +kernel
theorem dX9_addArea_4 : decode cX9_addArea 4 = .ok (.iload_n 1, 1) := by decide +kernel
theorem dX9_addArea_5 : decode cX9_addArea 5 = .ok (.iload_n 2, 1) := by decide +kernel
theorem dX9_addArea_6 : decode cX9_addArea 6 = .ok (.iload_n 3, 1) := by decide +kernel
theorem dX9_addArea_7 : decode cX9_addArea 7 = .ok (.iload 4, 2) := by decide +kernel
theorem dX9_addArea_9 : decode cX9_addArea 9 = .ok (.invokevirtual 121, 3) := by decide +kernel
theorem dX9_addArea_12 : decode cX9_addArea 12 = .ok (.invokestatic 58, 3) := by decide +kernel
theorem dX9_addArea_15 : decode cX9_addArea 15 = .ok (.aload_n 0, 1) := by decide +kernel
theorem dX9_addArea_16 : decode cX9_addArea 16 = .ok (.getfield 25, 3) := by decide +kernel
theorem dX9_addArea_19 : decode cX9_addArea 19 = .ok (.aload_n 0, 1) := by decide +kernel
theorem dX9_addArea_20 : decode cX9_addArea 20 = .ok (.getfield 10, 3) := by decide +kernel
theorem dX9_addArea_23 : decode cX9_addArea 23 = .ok (.invokevirtual 62, 3) := by decide +kernel
theorem dX9_addArea_26 : decode cX9_addArea 26 = .ok (.aload_n 0, 1) := by decide +kernel
theorem dX9_addArea_27 : decode cX9_addArea 27 = .ok (.getfield 10, 3) := by decide +kernel
theorem dX9_addArea_30 : decode cX9_addArea 30 = .ok (.getfield 125, 3) := by decide +kernel
theorem dX9_addArea_33 : decode cX9_addArea 33 = .ok (.iload_n 1, 1) := by decide +kernel
theorem dX9_addArea_34 : decode cX9_addArea 34 = .ok (.iload_n 2, 1) := by decide +kernel
theorem dX9_addArea_35 : decode cX9_addArea 35 = .ok (.iload_n 3, 1) := by decide +kernel
theorem dX9_addArea_36 : decode cX9_addArea 36 = .ok (.iload 4, 2) := by decide +kernel
theorem dX9_addArea_38 : decode cX9_addArea 38 = .ok (.invokevirtual 129, 3) := by decide +kernel
theorem dX9_addArea_41 : decode cX9_addArea 41 = .ok (.ireturn, 1) := by decide +kernel
theorem dX9_addPilot_0 : decode cX9_addPilot 0 = .ok (.aload_n 0, 1) := by decide +kernel
theorem dX9_addPilot_1 : decode cX9_addPilot 1 = .ok (.getfield 10, 3) := by decide +kernel
theorem dX9_addPilot_4 : decode cX9_addPilot 4 = .ok (.iload_n 1, 1) := by decide +kernel
theorem dX9_addPilot_5 : decode cX9_addPilot 5 = .ok (.invokevirtual 135, 3) := by decide +kernel
theorem dX9_addPilot_8 : decode cX9_addPilot 8 = .ok (.invokestatic 58, 3) := by decide +kernel
theorem dX9_addPilot_11 : decode cX9_addPilot 11 = .ok (.aload_n 0, 1) := by decide +kernel
theorem dX9_addPilot_12 : decode cX9_addPilot 12 = .ok (.getfield 25, 3) := by decide +kernel
theorem dX9_addPilot_15 : decode cX9_addPilot 15 = .ok (.aload_n 0, 1) := by decide +kernel
theorem dX9_addPilot_16 : decode cX9_addPilot 16 = .ok (.getfield 10, 3) := by decide +kernel
theorem dX9_addPilot_19 : decode cX9_addPilot 19 = .ok (.invokevirtual 62, 3) := by decide +kernel
theorem dX9_addPilot_22 : decode cX9_addPilot 22 = .ok (.aload_n 0, 1) := by decide +kernel
theorem dX9_addPilot_23 : decode cX9_addPilot 23 = .ok (.getfield 10, 3) := by decide +kernel
theorem dX9_addPilot_26 : decode cX9_addPilot 26 = .ok (.iload_n 1, 1) := by decide +kernel
theorem dX9_addPilot_27 : decode cX9_addPilot 27 = .ok (.invokevirtual 138, 3) := by decide +kernel
theorem dX9_addPilot_30 : decode cX9_addPilot 30 = .ok (.ireturn, 1) := by decide +kernel
theorem dX9_launch_0 : decode cX9_launch 0 = .ok (.aload_n 0, 1) := by decide +kernel
theorem dX9_launch_1 : decode cX9_launch 1 = .ok (.getfield 10, 3) := by decide +kernel
theorem dX9_launch_4 : decode cX9_launch 4 = .ok (.iload_n 1, 1) := by decide +kernel
theorem dX9_launch_5 : decode cX9_launch 5 = .ok (.invokevirtual 141, 3) := by decide +kernel
theorem dX9_launch_8 : decode cX9_launch 8 = .ok (.invokestatic 58, 3) := by decide +kernel
theorem dX9_launch_11 : decode cX9_launch 11 = .ok (.aload_n 0, 1) := by decide +kernel
theorem dX9_launch_12 : decode cX9_launch 12 = .ok (.getfield 25, 3) := by decide +kernel
theorem dX9_launch_15 : decode cX9_launch 15 = .ok (.aload_n 0, 1) := by decide +kernel
theorem dX9_launch_16 : decode cX9_launch 16 = .ok (.getfield 10, 3) := by decide +kernel
theorem dX9_launch_19 : decode cX9_launch 19 = .ok (.invokevirtual 62, 3) := by decide +kernel
theorem dX9_launch_22 : decode cX9_launch 22 = .ok (.aload_n 0, 1) := by decide +kernel
theorem dX9_launch_23 : decode cX9_launch 23 = .ok (.getfield 10, 3) := by decide +kernel
theorem dX9_launch_26 : decode cX9_launch 26 = .ok (.iload_n 1, 1) := by decide +kernel
theorem dX9_launch_27 : decode cX9_launch 27 = .ok (.invokevirtual 144, 3) := by decide +kernel
theorem dX9_launch_30 : decode cX9_launch 30 = .ok (.ireturn, 1) := by decide +kernel
theorem dX9_fly_0 : decode cX9_fly 0 = .ok (.aload_n 0, 1) := by decide +kernel
theorem dX9_fly_1 : decode cX9_fly 1 = .ok (.getfield 10, 3) := by decide +kernel
theorem dX9_fly_4 : decode cX9_fly 4 = .ok (.iload_n 1, 1) := by decide +kernel
theorem dX9_fly_5 : decode cX9_fly 5 = .ok (.iload_n 2, 1) := by decide +kernel
theorem dX9_fly_6 : decode cX9_fly 6 = .ok (.iload_n 3, 1) := by decide +kernel
theorem dX9_fly_7 : decode cX9_fly 7 = .ok (.invokevirtual 147, 3) := by decide +kernel
theorem dX9_fly_10 : decode cX9_fly 10 = .ok (.invokestatic 58, 3) := by decide +kernel
theorem dX9_fly_13 : decode cX9_fly 13 = .ok (.aload_n 0, 1) := by decide +kernel
theorem dX9_fly_14 : decode cX9_fly 14 = .ok (.getfield 25, 3) := by decide +kernel
theorem dX9_fly_17 : decode cX9_fly 17 = .ok (.aload_n 0, 1) := by decide +kernel
theorem dX9_fly_18 : decode cX9_fly 18 = .ok (.getfield 10, 3) := by decide +kernel
theorem dX9_fly_21 : decode cX9_fly 21 = .ok (.invokevirtual 62, 3) := by decide +kernel
theorem dX9_fly_24 : decode cX9_fly 24 = .ok (.aload_n 0, 1) := by decide +kernel
theorem dX9_fly_25 : decode cX9_fly 25 = .ok (.getfield 10, 3) := by decide +kernel
theorem dX9_fly_28 : decode cX9_fly 28 = .ok (.iload_n 1, 1) := by decide +kernel
theorem dX9_fly_29 : decode cX9_fly 29 = .ok (.iload_n 2, 1) := by decide +kernel
theorem dX9_fly_30 : decode cX9_fly 30 = .ok (.iload_n 3, 1) := by decide +kernel
theorem dX9_fly_31 : decode cX9_fly 31 = .ok (.invokevirtual 150, 3) := by decide +kernel
theorem dX9_fly_34 : decode cX9_fly 34 = .ok (.ireturn, 1) := by decide +kernel
theorem dX9_climb_0 : decode cX9_climb 0 = .ok (.aload_n 0, 1) := by decide +kernel
theorem dX9_climb_1 : decode cX9_climb 1 = .ok (.getfield 10, 3) := by decide +kernel
theorem dX9_climb_4 : decode cX9_climb 4 = .ok (.iload_n 1, 1) := by decide +kernel
theorem dX9_climb_5 : decode cX9_climb 5 = .ok (.iload_n 2, 1) := by decide +kernel
theorem dX9_climb_6 : decode cX9_climb 6 = .ok (.invokevirtual 153, 3) := by decide +kernel
theorem dX9_climb_9 : decode cX9_climb 9 = .ok (.invokestatic 58, 3) := by decide +kernel
theorem dX9_climb_12 : decode cX9_climb 12 = .ok (.aload_n 0, 1) := by decide +kernel
theorem dX9_climb_13 : decode cX9_climb 13 = .ok (.getfield 25, 3) := by decide +kernel
theorem dX9_climb_16 : decode cX9_climb 16 = .ok (.aload_n 0, 1) := by decide +kernel
theorem dX9_climb_17 : decode cX9_climb 17 = .ok (.getfield 10, 3) := by decide +kernel
theorem dX9_climb_20 : decode cX9_climb 20 = .ok (.invokevirtual 62, 3) := by decide +kernel
theorem dX9_climb_23 : decode cX9_climb 23 = .ok (.aload_n 0, 1) := by decide +kernel
theorem dX9_climb_24 : decode cX9_climb 24 = .ok (.getfield 10, 3) := by decide +kernel
theorem dX9_climb_27 : decode cX9_climb 27 = .ok (.iload_n 1, 1) := by decide +kernel
theorem dX9_climb_28 : decode cX9_climb 28 = .ok (.iload_n 2, 1) := by decide +kernel
theorem dX9_climb_29 : decode cX9_climb 29 = .ok (.invokevirtual 156, 3) := by decide +kernel
theorem dX9_climb_32 : decode cX9_climb 32 = .ok (.ireturn, 1) := by decide +kernel
theorem dX9_endDay_0 : decode cX9_endDay 0 = .ok (.aload_n 0, 1) := by decide +kernel
theorem dX9_endDay_1 : decode cX9_endDay 1 = .ok (.getfield 10, 3) := by decide +kernel
theorem dX9_endDay_4 : decode cX9_endDay 4 = .ok (.invokevirtual 159, 3) := by decide +kernel
theorem dX9_endDay_7 : decode cX9_endDay 7 = .ok (.invokestatic 58, 3) := by decide +kernel
theorem dX9_endDay_10 : decode cX9_endDay 10 = .ok (.aload_n 0, 1) := by decide +kernel
theorem dX9_endDay_11 : decode cX9_endDay 11 = .ok (.getfield 25, 3) := by decide +kernel
theorem dX9_endDay_14 : decode cX9_endDay 14 = .ok (.aload_n 0, 1) := by decide +kernel
theorem dX9_endDay_15 : decode cX9_endDay 15 = .ok (.getfield 10, 3) := by decide +kernel
theorem dX9_endDay_18 : decode cX9_endDay 18 = .ok (.invokevirtual 62, 3) := by decide +kernel
theorem dX9_endDay_21 : decode cX9_endDay 21 = .ok (.aload_n 0, 1) := by decide +kernel
theorem dX9_endDay_22 : decode cX9_endDay 22 = .ok (.getfield 10, 3) := by decide +kernel
theorem dX9_endDay_25 : decode cX9_endDay 25 = .ok (.invokevirtual 163, 3) := by decide +kernel
theorem dX9_endDay_28 : decode cX9_endDay 28 = .ok (.ireturn, 1) := by decide +kernel
theorem dX9_pointCount_0 : decode cX9_pointCount 0 = .ok (.aload_n 0, 1) := by decide +kernel
theorem dX9_pointCount_1 : decode cX9_pointCount 1 = .ok (.getfield 10, 3) := by decide +kernel
theorem dX9_pointCount_4 : decode cX9_pointCount 4 = .ok (.getfield 66, 3) := by decide +kernel
theorem dX9_pointCount_7 : decode cX9_pointCount 7 = .ok (.getfield 166, 3) := by decide +kernel
theorem dX9_pointCount_10 : decode cX9_pointCount 10 = .ok (.ireturn, 1) := by decide +kernel
theorem dX9_distance_0 : decode cX9_distance 0 = .ok (.aload_n 0, 1) := by decide +kernel
theorem dX9_distance_1 : decode cX9_distance 1 = .ok (.getfield 10, 3) := by decide +kernel
theorem dX9_distance_4 : decode cX9_distance 4 = .ok (.getfield 66, 3) := by decide +kernel
theorem dX9_distance_7 : decode cX9_distance 7 = .ok (.iload_n 1, 1) := by decide +kernel
theorem dX9_distance_8 : decode cX9_distance 8 = .ok (.invokevirtual 169, 3) := by decide +kernel
theorem dX9_distance_11 : decode cX9_distance 11 = .ok (.ifCond .eq 17, 3) := by decide +kernel
theorem dX9_distance_14 : decode cX9_distance 14 = .ok (.aload_n 0, 1) := by decide +kernel
theorem dX9_distance_15 : decode cX9_distance 15 = .ok (.getfield 10, 3) := by decide +kernel
theorem dX9_distance_18 : decode cX9_distance 18 = .ok (.getfield 66, 3) := by decide +kernel
theorem dX9_distance_21 : decode cX9_distance 21 = .ok (.iload_n 2, 1) := by decide +kernel
theorem dX9_distance_22 : decode cX9_distance 22 = .ok (.invokevirtual 169, 3) := by decide +kernel
theorem dX9_distance_25 : decode cX9_distance 25 = .ok (.ifCond .ne 13, 3) := by decide +kernel
theorem dX9_distance_28 : decode cX9_distance 28 = .ok (.new 173, 3) := by decide +kernel
theorem dX9_distance_31 : decode cX9_distance 31 = .ok (.dup, 1) := by decide +kernel
theorem dX9_distance_32 : decode cX9_distance 32 = .ok (.ldc 175, 2) := by decide +kernel
theorem dX9_distance_34 : decode cX9_distance 34 = .ok (.invokespecial 177, 3) := by decide +kernel
theorem dX9_distance_37 : decode cX9_distance 37 = .ok (.athrow, 1) := by decide +kernel
theorem dX9_distance_38 : decode cX9_distance 38 = .ok (.aload_n 0, 1) := by decide +kernel
theorem dX9_distance_39 : decode cX9_distance 39 = .ok (.getfield 10, 3) := by decide +kernel
theorem dX9_distance_42 : decode cX9_distance 42 = .ok (.getfield 66, 3) := by decide +kernel
theorem dX9_distance_45 : decode cX9_distance 45 = .ok (.iload_n 1, 1) := by decide +kernel
theorem dX9_distance_46 : decode cX9_distance 46 = .ok (.iload_n 2, 1) := by decide +kernel
theorem dX9_distance_47 : decode cX9_distance 47 = .ok (.invokevirtual 178, 3) := by decide +kernel
theorem dX9_distance_50 : decode cX9_distance 50 = .ok (.ireturn, 1) := by decide +kernel
theorem dX9_taskLength_0 : decode cX9_taskLength 0 = .ok (.aload_n 0, 1) := by decide +kernel
theorem dX9_taskLength_1 : decode cX9_taskLength 1 = .ok (.getfield 10, 3) := by decide +kernel
theorem dX9_taskLength_4 : decode cX9_taskLength 4 = .ok (.getfield 66, 3) := by decide +kernel
theorem dX9_taskLength_7 : decode cX9_taskLength 7 = .ok (.getfield 181, 3) := by decide +kernel
theorem dX9_taskLength_10 : decode cX9_taskLength 10 = .ok (.ireturn, 1) := by decide +kernel
theorem dX9_taskPoint_0 : decode cX9_taskPoint 0 = .ok (.aload_n 0, 1) := by decide +kernel
theorem dX9_taskPoint_1 : decode cX9_taskPoint 1 = .ok (.getfield 10, 3) := by decide +kernel
theorem dX9_taskPoint_4 : decode cX9_taskPoint 4 = .ok (.getfield 66, 3) := by decide +kernel
theorem dX9_taskPoint_7 : decode cX9_taskPoint 7 = .ok (.iload_n 1, 1) := by decide +kernel
theorem dX9_taskPoint_8 : decode cX9_taskPoint 8 = .ok (.invokevirtual 184, 3) := by decide +kernel
theorem dX9_taskPoint_11 : decode cX9_taskPoint 11 = .ok (.ifCond .ne 13, 3) := by decide +kernel
theorem dX9_taskPoint_14 : decode cX9_taskPoint 14 = .ok (.new 187, 3) := by decide +kernel
theorem dX9_taskPoint_17 : decode cX9_taskPoint 17 = .ok (.dup, 1) := by decide +kernel
theorem dX9_taskPoint_18 : decode cX9_taskPoint 18 = .ok (.ldc 189, 2) := by decide +kernel
theorem dX9_taskPoint_20 : decode cX9_taskPoint 20 = .ok (.invokespecial 191, 3) := by decide +kernel
theorem dX9_taskPoint_23 : decode cX9_taskPoint 23 = .ok (.athrow, 1) := by decide +kernel
theorem dX9_taskPoint_24 : decode cX9_taskPoint 24 = .ok (.aload_n 0, 1) := by decide +kernel
theorem dX9_taskPoint_25 : decode cX9_taskPoint 25 = .ok (.getfield 10, 3) := by decide +kernel
theorem dX9_taskPoint_28 : decode cX9_taskPoint 28 = .ok (.getfield 66, 3) := by decide +kernel
theorem dX9_taskPoint_31 : decode cX9_taskPoint 31 = .ok (.getfield 192, 3) := by decide +kernel
theorem dX9_taskPoint_34 : decode cX9_taskPoint 34 = .ok (.iload_n 1, 1) := by decide +kernel
theorem dX9_taskPoint_35 : decode cX9_taskPoint 35 = .ok (.iaload, 1) := by decide +kernel
theorem dX9_taskPoint_36 : decode cX9_taskPoint 36 = .ok (.ireturn, 1) := by decide +kernel
theorem dX9_taskDistance_0 : decode cX9_taskDistance 0 = .ok (.aload_n 0, 1) := by decide +kernel
theorem dX9_taskDistance_1 : decode cX9_taskDistance 1 = .ok (.getfield 10, 3) := by decide +kernel
theorem dX9_taskDistance_4 : decode cX9_taskDistance 4 = .ok (.getfield 66, 3) := by decide +kernel
theorem dX9_taskDistance_7 : decode cX9_taskDistance 7 = .ok (.invokevirtual 196, 3) := by decide +kernel
theorem dX9_taskDistance_10 : decode cX9_taskDistance 10 = .ok (.ireturn, 1) := by decide +kernel
theorem dX9_strongestThermal_0 : decode cX9_strongestThermal 0 = .ok (.iload_n 1, 1) := by decide +kernel
theorem dX9_strongestThermal_1 : decode cX9_strongestThermal 1 = .ok (.iload_n 2, 1) := by decide +kernel
theorem dX9_strongestThermal_2 : decode cX9_strongestThermal 2 = .ok (.invokestatic 199, 3) := by decide +kernel
theorem dX9_strongestThermal_5 : decode cX9_strongestThermal 5 = .ok (.aload_n 0, 1) := by decide +kernel
theorem dX9_strongestThermal_6 : decode cX9_strongestThermal 6 = .ok (.getfield 10, 3) := by decide +kernel
theorem dX9_strongestThermal_9 : decode cX9_strongestThermal 9 = .ok (.getfield 103, 3) := by decide +kernel
theorem dX9_strongestThermal_12 : decode cX9_strongestThermal 12 = .ok (.iload_n 1, 1) := by decide +kernel
theorem dX9_strongestThermal_13 : decode cX9_strongestThermal 13 = .ok (.iload_n 2, 1) := by decide +kernel
theorem dX9_strongestThermal_14 : decode cX9_strongestThermal 14 = .ok (.invokevirtual 203, 3) := by decide +kernel
theorem dX9_strongestThermal_17 : decode cX9_strongestThermal 17 = .ok (.istore_n 3, 1) := by decide +kernel
theorem dX9_strongestThermal_18 : decode cX9_strongestThermal 18 = .ok (.iload_n 3, 1) := by decide +kernel
theorem dX9_strongestThermal_19 : decode cX9_strongestThermal 19 = .ok (.ifCond .ne 13, 3) := by decide +kernel
theorem dX9_strongestThermal_22 : decode cX9_strongestThermal 22 = .ok (.new 187, 3) := by decide +kernel
theorem dX9_strongestThermal_25 : decode cX9_strongestThermal 25 = .ok (.dup, 1) := by decide +kernel
theorem dX9_strongestThermal_26 : decode cX9_strongestThermal 26 = .ok (.ldc 206, 2) := by decide +kernel
theorem dX9_strongestThermal_28 : decode cX9_strongestThermal 28 = .ok (.invokespecial 191, 3) := by decide +kernel
theorem dX9_strongestThermal_31 : decode cX9_strongestThermal 31 = .ok (.athrow, 1) := by decide +kernel
theorem dX9_strongestThermal_32 : decode cX9_strongestThermal 32 = .ok (.iload_n 3, 1) := by decide +kernel
theorem dX9_strongestThermal_33 : decode cX9_strongestThermal 33 = .ok (.ireturn, 1) := by decide +kernel
theorem dX9_cloudBase_0 : decode cX9_cloudBase 0 = .ok (.aload_n 0, 1) := by decide +kernel
theorem dX9_cloudBase_1 : decode cX9_cloudBase 1 = .ok (.getfield 10, 3) := by decide +kernel
theorem dX9_cloudBase_4 : decode cX9_cloudBase 4 = .ok (.getfield 103, 3) := by decide +kernel
theorem dX9_cloudBase_7 : decode cX9_cloudBase 7 = .ok (.getfield 118, 3) := by decide +kernel
theorem dX9_cloudBase_10 : decode cX9_cloudBase 10 = .ok (.ireturn, 1) := by decide +kernel
theorem dX9_isRestricted_0 : decode cX9_isRestricted 0 = .ok (.iload_n 1, 1) := by decide +kernel
theorem dX9_isRestricted_1 : decode cX9_isRestricted 1 = .ok (.iload_n 2, 1) := by decide +kernel
theorem dX9_isRestricted_2 : decode cX9_isRestricted 2 = .ok (.invokestatic 199, 3) := by decide +kernel
theorem dX9_isRestricted_5 : decode cX9_isRestricted 5 = .ok (.aload_n 0, 1) := by decide +kernel
theorem dX9_isRestricted_6 : decode cX9_isRestricted 6 = .ok (.getfield 10, 3) := by decide +kernel
theorem dX9_isRestricted_9 : decode cX9_isRestricted 9 = .ok (.getfield 125, 3) := by decide +kernel
theorem dX9_isRestricted_12 : decode cX9_isRestricted 12 = .ok (.iload_n 1, 1) := by decide +kernel
theorem dX9_isRestricted_13 : decode cX9_isRestricted 13 = .ok (.iload_n 2, 1) := by decide +kernel
theorem dX9_isRestricted_14 : decode cX9_isRestricted 14 = .ok (.invokevirtual 208, 3) := by decide +kernel
theorem dX9_isRestricted_17 : decode cX9_isRestricted 17 = .ok (.ireturn, 1) := by decide +kernel
theorem dX9_restrictedInRow_0 : decode cX9_restrictedInRow 0 = .ok (.iconst 0, 1) := by decide +kernel
theorem dX9_restrictedInRow_1 : decode cX9_restrictedInRow 1 = .ok (.iload_n 1, 1) := by decide +kernel
theorem dX9_restrictedInRow_2 : decode cX9_restrictedInRow 2 = .ok (.invokestatic 199, 3) := by decide +kernel
theorem dX9_restrictedInRow_5 : decode cX9_restrictedInRow 5 = .ok (.aload_n 0, 1) := by decide +kernel
theorem dX9_restrictedInRow_6 : decode cX9_restrictedInRow 6 = .ok (.getfield 10, 3) := by decide +kernel
theorem dX9_restrictedInRow_9 : decode cX9_restrictedInRow 9 = .ok (.getfield 125, 3) := by decide +kernel
theorem dX9_restrictedInRow_12 : decode cX9_restrictedInRow 12 = .ok (.iload_n 1, 1) := by decide +kernel
theorem dX9_restrictedInRow_13 : decode cX9_restrictedInRow 13 = .ok (.invokevirtual 212, 3) := by decide +kernel
theorem dX9_restrictedInRow_16 : decode cX9_restrictedInRow 16 = .ok (.ireturn, 1) := by decide +kernel
theorem dX9_restrictedInRowByRanges_0 : decode cX9_restrictedInRowByRanges 0 = .ok (.iconst 0, 1) := by decide +kernel
theorem dX9_restrictedInRowByRanges_1 : decode cX9_restrictedInRowByRanges 1 = .ok (.iload_n 1, 1) := by decide +kernel
theorem dX9_restrictedInRowByRanges_2 : decode cX9_restrictedInRowByRanges 2 = .ok (.invokestatic 199, 3) := by decide +kernel
theorem dX9_restrictedInRowByRanges_5 : decode cX9_restrictedInRowByRanges 5 = .ok (.aload_n 0, 1) := by decide +kernel
theorem dX9_restrictedInRowByRanges_6 : decode cX9_restrictedInRowByRanges 6 = .ok (.getfield 10, 3) := by decide +kernel
theorem dX9_restrictedInRowByRanges_9 : decode cX9_restrictedInRowByRanges 9 = .ok (.getfield 125, 3) := by decide +kernel
theorem dX9_restrictedInRowByRanges_12 : decode cX9_restrictedInRowByRanges 12 = .ok (.iload_n 1, 1) := by decide +kernel
theorem dX9_restrictedInRowByRanges_13 : decode cX9_restrictedInRowByRanges 13 = .ok (.invokevirtual 215, 3) := by decide +kernel
theorem dX9_restrictedInRowByRanges_16 : decode cX9_restrictedInRowByRanges 16 = .ok (.ireturn, 1) := by decide +kernel
theorem dX9_pilotCount_0 : decode cX9_pilotCount 0 = .ok (.aload_n 0, 1) := by decide +kernel
theorem dX9_pilotCount_1 : decode cX9_pilotCount 1 = .ok (.getfield 10, 3) := by decide +kernel
theorem dX9_pilotCount_4 : decode cX9_pilotCount 4 = .ok (.getfield 218, 3) := by decide +kernel
theorem dX9_pilotCount_7 : decode cX9_pilotCount 7 = .ok (.ireturn, 1) := by decide +kernel
theorem dX9_isPlanning_0 : decode cX9_isPlanning 0 = .ok (.aload_n 0, 1) := by decide +kernel
theorem dX9_isPlanning_1 : decode cX9_isPlanning 1 = .ok (.getfield 10, 3) := by decide +kernel
theorem dX9_isPlanning_4 : decode cX9_isPlanning 4 = .ok (.invokevirtual 84, 3) := by decide +kernel
theorem dX9_isPlanning_7 : decode cX9_isPlanning 7 = .ok (.ireturn, 1) := by decide +kernel
theorem dX9_isFlying_0 : decode cX9_isFlying 0 = .ok (.aload_n 0, 1) := by decide +kernel
theorem dX9_isFlying_1 : decode cX9_isFlying 1 = .ok (.iload_n 1, 1) := by decide +kernel
theorem dX9_isFlying_2 : decode cX9_isFlying 2 = .ok (.invokevirtual 221, 3) := by decide +kernel
theorem dX9_isFlying_5 : decode cX9_isFlying 5 = .ok (.getfield 225, 3) := by decide +kernel
theorem dX9_isFlying_8 : decode cX9_isFlying 8 = .ok (.getstatic 231, 3) := by decide +kernel
theorem dX9_isFlying_11 : decode cX9_isFlying 11 = .ok (.if_acmp .ne 7, 3) := by decide +kernel
theorem dX9_isFlying_14 : decode cX9_isFlying 14 = .ok (.iconst 1, 1) := by decide +kernel
theorem dX9_isFlying_15 : decode cX9_isFlying 15 = .ok (.goto 4, 3) := by decide +kernel
theorem dX9_isFlying_18 : decode cX9_isFlying 18 = .ok (.iconst 0, 1) := by decide +kernel
theorem dX9_isFlying_19 : decode cX9_isFlying 19 = .ok (.ireturn, 1) := by decide +kernel
theorem dX9_isLanded_0 : decode cX9_isLanded 0 = .ok (.aload_n 0, 1) := by decide +kernel
theorem dX9_isLanded_1 : decode cX9_isLanded 1 = .ok (.iload_n 1, 1) := by decide +kernel
theorem dX9_isLanded_2 : decode cX9_isLanded 2 = .ok (.invokevirtual 221, 3) := by decide +kernel
theorem dX9_isLanded_5 : decode cX9_isLanded 5 = .ok (.getfield 225, 3) := by decide +kernel
theorem dX9_isLanded_8 : decode cX9_isLanded 8 = .ok (.getstatic 236, 3) := by decide +kernel
theorem dX9_isLanded_11 : decode cX9_isLanded 11 = .ok (.if_acmp .ne 7, 3) := by decide +kernel
theorem dX9_isLanded_14 : decode cX9_isLanded 14 = .ok (.iconst 1, 1) := by decide +kernel
theorem dX9_isLanded_15 : decode cX9_isLanded 15 = .ok (.goto 4, 3) := by decide +kernel
theorem dX9_isLanded_18 : decode cX9_isLanded 18 = .ok (.iconst 0, 1) := by decide +kernel
theorem dX9_isLanded_19 : decode cX9_isLanded 19 = .ok (.ireturn, 1) := by decide +kernel
theorem dX9_isFinished_0 : decode cX9_isFinished 0 = .ok (.aload_n 0, 1) := by decide +kernel
theorem dX9_isFinished_1 : decode cX9_isFinished 1 = .ok (.iload_n 1, 1) := by decide +kernel
theorem dX9_isFinished_2 : decode cX9_isFinished 2 = .ok (.invokevirtual 221, 3) := by decide +kernel
theorem dX9_isFinished_5 : decode cX9_isFinished 5 = .ok (.getfield 225, 3) := by decide +kernel
theorem dX9_isFinished_8 : decode cX9_isFinished 8 = .ok (.getstatic 239, 3) := by decide +kernel
theorem dX9_isFinished_11 : decode cX9_isFinished 11 = .ok (.if_acmp .ne 7, 3) := by decide +kernel
theorem dX9_isFinished_14 : decode cX9_isFinished 14 = .ok (.iconst 1, 1) := by decide +kernel
theorem dX9_isFinished_15 : decode cX9_isFinished 15 = .ok (.goto 4, 3) := by decide +kernel
theorem dX9_isFinished_18 : decode cX9_isFinished 18 = .ok (.iconst 0, 1) := by decide +kernel
theorem dX9_isFinished_19 : decode cX9_isFinished 19 = .ok (.ireturn, 1) := by decide +kernel
theorem dX9_sink_0 : decode cX9_sink 0 = .ok (.aload_n 0, 1) := by decide +kernel
theorem dX9_sink_1 : decode cX9_sink 1 = .ok (.iload_n 1, 1) := by decide +kernel
theorem dX9_sink_2 : decode cX9_sink 2 = .ok (.invokevirtual 221, 3) := by decide +kernel
theorem dX9_sink_5 : decode cX9_sink 5 = .ok (.invokevirtual 242, 3) := by decide +kernel
theorem dX9_sink_8 : decode cX9_sink 8 = .ok (.ireturn, 1) := by decide +kernel
theorem dX9_x_0 : decode cX9_x 0 = .ok (.aload_n 0, 1) := by decide +kernel
theorem dX9_x_1 : decode cX9_x 1 = .ok (.iload_n 1, 1) := by decide +kernel
theorem dX9_x_2 : decode cX9_x 2 = .ok (.invokevirtual 245, 3) := by decide +kernel
theorem dX9_x_5 : decode cX9_x 5 = .ok (.getfield 248, 3) := by decide +kernel
theorem dX9_x_8 : decode cX9_x 8 = .ok (.ireturn, 1) := by decide +kernel
theorem dX9_y_0 : decode cX9_y 0 = .ok (.aload_n 0, 1) := by decide +kernel
theorem dX9_y_1 : decode cX9_y 1 = .ok (.iload_n 1, 1) := by decide +kernel
theorem dX9_y_2 : decode cX9_y 2 = .ok (.invokevirtual 245, 3) := by decide +kernel
theorem dX9_y_5 : decode cX9_y 5 = .ok (.getfield 251, 3) := by decide +kernel
theorem dX9_y_8 : decode cX9_y 8 = .ok (.ireturn, 1) := by decide +kernel
theorem dX9_height_0 : decode cX9_height 0 = .ok (.aload_n 0, 1) := by decide +kernel
theorem dX9_height_1 : decode cX9_height 1 = .ok (.iload_n 1, 1) := by decide +kernel
theorem dX9_height_2 : decode cX9_height 2 = .ok (.invokevirtual 245, 3) := by decide +kernel
theorem dX9_height_5 : decode cX9_height 5 = .ok (.getfield 254, 3) := by decide +kernel
theorem dX9_height_8 : decode cX9_height 8 = .ok (.ireturn, 1) := by decide +kernel
theorem dX9_minutes_0 : decode cX9_minutes 0 = .ok (.aload_n 0, 1) := by decide +kernel
theorem dX9_minutes_1 : decode cX9_minutes 1 = .ok (.iload_n 1, 1) := by decide +kernel
theorem dX9_minutes_2 : decode cX9_minutes 2 = .ok (.invokevirtual 245, 3) := by decide +kernel
theorem dX9_minutes_5 : decode cX9_minutes 5 = .ok (.getfield 257, 3) := by decide +kernel
theorem dX9_minutes_8 : decode cX9_minutes 8 = .ok (.ireturn, 1) := by decide +kernel
theorem dX9_penalty_0 : decode cX9_penalty 0 = .ok (.aload_n 0, 1) := by decide +kernel
theorem dX9_penalty_1 : decode cX9_penalty 1 = .ok (.iload_n 1, 1) := by decide +kernel
theorem dX9_penalty_2 : decode cX9_penalty 2 = .ok (.invokevirtual 245, 3) := by decide +kernel
theorem dX9_penalty_5 : decode cX9_penalty 5 = .ok (.getfield 260, 3) := by decide +kernel
theorem dX9_penalty_8 : decode cX9_penalty 8 = .ok (.ireturn, 1) := by decide +kernel
theorem dX9_reached_0 : decode cX9_reached 0 = .ok (.aload_n 0, 1) := by decide +kernel
theorem dX9_reached_1 : decode cX9_reached 1 = .ok (.iload_n 1, 1) := by decide +kernel
theorem dX9_reached_2 : decode cX9_reached 2 = .ok (.invokevirtual 221, 3) := by decide +kernel
theorem dX9_reached_5 : decode cX9_reached 5 = .ok (.getfield 263, 3) := by decide +kernel
theorem dX9_reached_8 : decode cX9_reached 8 = .ok (.ireturn, 1) := by decide +kernel
theorem dX9_remainingDistance_0 : decode cX9_remainingDistance 0 = .ok (.aload_n 0, 1) := by decide +kernel
theorem dX9_remainingDistance_1 : decode cX9_remainingDistance 1 = .ok (.getfield 10, 3) := by decide +kernel
theorem dX9_remainingDistance_4 : decode cX9_remainingDistance 4 = .ok (.aload_n 0, 1) := by decide +kernel
theorem dX9_remainingDistance_5 : decode cX9_remainingDistance 5 = .ok (.iload_n 1, 1) := by decide +kernel
theorem dX9_remainingDistance_6 : decode cX9_remainingDistance 6 = .ok (.getstatic 231, 3) := by decide +kernel
theorem dX9_remainingDistance_9 : decode cX9_remainingDistance 9 = .ok (.invokevirtual 266, 3) := by decide +kernel
theorem dX9_remainingDistance_12 : decode cX9_remainingDistance 12 = .ok (.invokevirtual 270, 3) := by decide +kernel
theorem dX9_remainingDistance_15 : decode cX9_remainingDistance 15 = .ok (.ireturn, 1) := by decide +kernel
theorem dX9_canFinish_0 : decode cX9_canFinish 0 = .ok (.aload_n 0, 1) := by decide +kernel
theorem dX9_canFinish_1 : decode cX9_canFinish 1 = .ok (.getfield 10, 3) := by decide +kernel
theorem dX9_canFinish_4 : decode cX9_canFinish 4 = .ok (.aload_n 0, 1) := by decide +kernel
theorem dX9_canFinish_5 : decode cX9_canFinish 5 = .ok (.iload_n 1, 1) := by decide +kernel
theorem dX9_canFinish_6 : decode cX9_canFinish 6 = .ok (.getstatic 231, 3) := by decide +kernel
theorem dX9_canFinish_9 : decode cX9_canFinish 9 = .ok (.invokevirtual 266, 3) := by decide +kernel
theorem dX9_canFinish_12 : decode cX9_canFinish 12 = .ok (.invokevirtual 274, 3) := by decide +kernel
theorem dX9_canFinish_15 : decode cX9_canFinish 15 = .ok (.ireturn, 1) := by decide +kernel
theorem dX9_canFinishBySimulation_0 : decode cX9_canFinishBySimulation 0 = .ok (.aload_n 0, 1) := by decide +kernel
theorem dX9_canFinishBySimulation_1 : decode cX9_canFinishBySimulation 1 = .ok (.getfield 10, 3) := by decide +kernel
theorem dX9_canFinishBySimulation_4 : decode cX9_canFinishBySimulation 4 = .ok (.aload_n 0, 1) := by decide +kernel
theorem dX9_canFinishBySimulation_5 : decode cX9_canFinishBySimulation 5 = .ok (.iload_n 1, 1) := by decide +kernel
theorem dX9_canFinishBySimulation_6 : decode cX9_canFinishBySimulation 6 = .ok (.getstatic 231, 3) := by decide +kernel
theorem dX9_canFinishBySimulation_9 : decode cX9_canFinishBySimulation 9 = .ok (.invokevirtual 266, 3) := by decide +kernel
theorem dX9_canFinishBySimulation_12 : decode cX9_canFinishBySimulation 12 = .ok (.invokevirtual 278, 3) := by decide +kernel
theorem dX9_canFinishBySimulation_15 : decode cX9_canFinishBySimulation 15 = .ok (.ireturn, 1) := by decide +kernel
theorem dX9_achievedDistance_0 : decode cX9_achievedDistance 0 = .ok (.aload_n 0, 1) := by decide +kernel
theorem dX9_achievedDistance_1 : decode cX9_achievedDistance 1 = .ok (.getfield 10, 3) := by decide +kernel
theorem dX9_achievedDistance_4 : decode cX9_achievedDistance 4 = .ok (.aload_n 0, 1) := by decide +kernel
theorem dX9_achievedDistance_5 : decode cX9_achievedDistance 5 = .ok (.iload_n 1, 1) := by decide +kernel
theorem dX9_achievedDistance_6 : decode cX9_achievedDistance 6 = .ok (.invokevirtual 221, 3) := by decide +kernel
theorem dX9_achievedDistance_9 : decode cX9_achievedDistance 9 = .ok (.invokevirtual 281, 3) := by decide +kernel
theorem dX9_achievedDistance_12 : decode cX9_achievedDistance 12 = .ok (.ireturn, 1) := by decide +kernel
theorem dX9_dayScore_0 : decode cX9_dayScore 0 = .ok (.aload_n 0, 1) := by decide +kernel
theorem dX9_dayScore_1 : decode cX9_dayScore 1 = .ok (.getfield 10, 3) := by decide +kernel
theorem dX9_dayScore_4 : decode cX9_dayScore 4 = .ok (.aload_n 0, 1) := by decide +kernel
theorem dX9_dayScore_5 : decode cX9_dayScore 5 = .ok (.iload_n 1, 1) := by decide +kernel
theorem dX9_dayScore_6 : decode cX9_dayScore 6 = .ok (.invokevirtual 221, 3) := by decide +kernel
theorem dX9_dayScore_9 : decode cX9_dayScore 9 = .ok (.invokevirtual 284, 3) := by decide +kernel
theorem dX9_dayScore_12 : decode cX9_dayScore 12 = .ok (.ireturn, 1) := by decide +kernel
theorem dX9_total_0 : decode cX9_total 0 = .ok (.aload_n 0, 1) := by decide +kernel
theorem dX9_total_1 : decode cX9_total 1 = .ok (.iload_n 1, 1) := by decide +kernel
theorem dX9_total_2 : decode cX9_total 2 = .ok (.invokevirtual 221, 3) := by decide +kernel
theorem dX9_total_5 : decode cX9_total 5 = .ok (.getfield 287, 3) := by decide +kernel
theorem dX9_total_8 : decode cX9_total 8 = .ok (.lreturn, 1) := by decide +kernel
theorem dX9_pilotAtRank_0 : decode cX9_pilotAtRank 0 = .ok (.aload_n 0, 1) := by decide +kernel
theorem dX9_pilotAtRank_1 : decode cX9_pilotAtRank 1 = .ok (.getfield 10, 3) := by decide +kernel
theorem dX9_pilotAtRank_4 : decode cX9_pilotAtRank 4 = .ok (.iload_n 1, 1) := by decide +kernel
theorem dX9_pilotAtRank_5 : decode cX9_pilotAtRank 5 = .ok (.invokevirtual 291, 3) := by decide +kernel
theorem dX9_pilotAtRank_8 : decode cX9_pilotAtRank 8 = .ok (.ifCond .ne 14, 3) := by decide +kernel
theorem dX9_pilotAtRank_11 : decode cX9_pilotAtRank 11 = .ok (.new 187, 3) := by decide +kernel
theorem dX9_pilotAtRank_14 : decode cX9_pilotAtRank 14 = .ok (.dup, 1) := by decide +kernel
theorem dX9_pilotAtRank_15 : decode cX9_pilotAtRank 15 = .ok (.ldc_w 294, 3) := by decide +kernel
theorem dX9_pilotAtRank_18 : decode cX9_pilotAtRank 18 = .ok (.invokespecial 191, 3) := by decide +kernel
theorem dX9_pilotAtRank_21 : decode cX9_pilotAtRank 21 = .ok (.athrow, 1) := by decide +kernel
theorem dX9_pilotAtRank_22 : decode cX9_pilotAtRank 22 = .ok (.aload_n 0, 1) := by decide +kernel
theorem dX9_pilotAtRank_23 : decode cX9_pilotAtRank 23 = .ok (.getfield 10, 3) := by decide +kernel
theorem dX9_pilotAtRank_26 : decode cX9_pilotAtRank 26 = .ok (.iload_n 1, 1) := by decide +kernel
theorem dX9_pilotAtRank_27 : decode cX9_pilotAtRank 27 = .ok (.invokevirtual 296, 3) := by decide +kernel
theorem dX9_pilotAtRank_30 : decode cX9_pilotAtRank 30 = .ok (.ireturn, 1) := by decide +kernel
theorem dX9_days_0 : decode cX9_days 0 = .ok (.aload_n 0, 1) := by decide +kernel
theorem dX9_days_1 : decode cX9_days 1 = .ok (.getfield 10, 3) := by decide +kernel
theorem dX9_days_4 : decode cX9_days 4 = .ok (.getfield 299, 3) := by decide +kernel
theorem dX9_days_7 : decode cX9_days 7 = .ok (.ireturn, 1) := by decide +kernel
theorem dX9_speed_0 : decode cX9_speed 0 = .ok (.aload_n 0, 1) := by decide +kernel
theorem dX9_speed_1 : decode cX9_speed 1 = .ok (.iload_n 1, 1) := by decide +kernel
theorem dX9_speed_2 : decode cX9_speed 2 = .ok (.getstatic 239, 3) := by decide +kernel
theorem dX9_speed_5 : decode cX9_speed 5 = .ok (.invokevirtual 266, 3) := by decide +kernel
theorem dX9_speed_8 : decode cX9_speed 8 = .ok (.astore_n 2, 1) := by decide +kernel
theorem dX9_speed_9 : decode cX9_speed 9 = .ok (.aload_n 2, 1) := by decide +kernel
theorem dX9_speed_10 : decode cX9_speed 10 = .ok (.getfield 257, 3) := by decide +kernel
theorem dX9_speed_13 : decode cX9_speed 13 = .ok (.ifCond .gt 5, 3) := by decide +kernel
theorem dX9_speed_16 : decode cX9_speed 16 = .ok (.fconst 0, 1) := by decide +kernel
theorem dX9_speed_17 : decode cX9_speed 17 = .ok (.freturn, 1) := by decide +kernel
theorem dX9_speed_18 : decode cX9_speed 18 = .ok (.aload_n 0, 1) := by decide +kernel
theorem dX9_speed_19 : decode cX9_speed 19 = .ok (.getfield 10, 3) := by decide +kernel
theorem dX9_speed_22 : decode cX9_speed 22 = .ok (.getfield 66, 3) := by decide +kernel
theorem dX9_speed_25 : decode cX9_speed 25 = .ok (.invokevirtual 196, 3) := by decide +kernel
theorem dX9_speed_28 : decode cX9_speed 28 = .ok (.i2f, 1) := by decide +kernel
theorem dX9_speed_29 : decode cX9_speed 29 = .ok (.aload_n 2, 1) := by decide +kernel
theorem dX9_speed_30 : decode cX9_speed 30 = .ok (.getfield 257, 3) := by decide +kernel
theorem dX9_speed_33 : decode cX9_speed 33 = .ok (.i2f, 1) := by decide +kernel
theorem dX9_speed_34 : decode cX9_speed 34 = .ok (.fdiv, 1) := by decide +kernel
theorem dX9_speed_35 : decode cX9_speed 35 = .ok (.freturn, 1) := by decide +kernel
theorem dX9_meanScore_0 : decode cX9_meanScore 0 = .ok (.aload_n 0, 1) := by decide +kernel
theorem dX9_meanScore_1 : decode cX9_meanScore 1 = .ok (.getfield 10, 3) := by decide +kernel
theorem dX9_meanScore_4 : decode cX9_meanScore 4 = .ok (.getfield 218, 3) := by decide +kernel
theorem dX9_meanScore_7 : decode cX9_meanScore 7 = .ok (.ifCond .gt 14, 3) := by decide +kernel
theorem dX9_meanScore_10 : decode cX9_meanScore 10 = .ok (.new 302, 3) := by decide +kernel
theorem dX9_meanScore_13 : decode cX9_meanScore 13 = .ok (.dup, 1) := by decide +kernel
theorem dX9_meanScore_14 : decode cX9_meanScore 14 = .ok (.ldc_w 304, 3) := by decide +kernel
theorem dX9_meanScore_17 : decode cX9_meanScore 17 = .ok (.invokespecial 306, 3) := by decide +kernel
theorem dX9_meanScore_20 : decode cX9_meanScore 20 = .ok (.athrow, 1) := by decide +kernel
theorem dX9_meanScore_21 : decode cX9_meanScore 21 = .ok (.aload_n 0, 1) := by decide +kernel
theorem dX9_meanScore_22 : decode cX9_meanScore 22 = .ok (.getfield 10, 3) := by decide +kernel
theorem dX9_meanScore_25 : decode cX9_meanScore 25 = .ok (.invokevirtual 307, 3) := by decide +kernel
theorem dX9_meanScore_28 : decode cX9_meanScore 28 = .ok (.i2d, 1) := by decide +kernel
theorem dX9_meanScore_29 : decode cX9_meanScore 29 = .ok (.aload_n 0, 1) := by decide +kernel
theorem dX9_meanScore_30 : decode cX9_meanScore 30 = .ok (.getfield 10, 3) := by decide +kernel
theorem dX9_meanScore_33 : decode cX9_meanScore 33 = .ok (.getfield 218, 3) := by decide +kernel
theorem dX9_meanScore_36 : decode cX9_meanScore 36 = .ok (.i2d, 1) := by decide +kernel
theorem dX9_meanScore_37 : decode cX9_meanScore 37 = .ok (.ddiv, 1) := by decide +kernel
theorem dX9_meanScore_38 : decode cX9_meanScore 38 = .ok (.dreturn, 1) := by decide +kernel
theorem dX9_isConsistent_0 : decode cX9_isConsistent 0 = .ok (.aload_n 0, 1) := by decide +kernel
theorem dX9_isConsistent_1 : decode cX9_isConsistent 1 = .ok (.getfield 10, 3) := by decide +kernel
theorem dX9_isConsistent_4 : decode cX9_isConsistent 4 = .ok (.invokevirtual 310, 3) := by decide +kernel
theorem dX9_isConsistent_7 : decode cX9_isConsistent 7 = .ok (.ifCond .eq 27, 3) := by decide +kernel
theorem dX9_isConsistent_10 : decode cX9_isConsistent 10 = .ok (.aload_n 0, 1) := by decide +kernel
theorem dX9_isConsistent_11 : decode cX9_isConsistent 11 = .ok (.getfield 10, 3) := by decide +kernel
theorem dX9_isConsistent_14 : decode cX9_isConsistent 14 = .ok (.invokevirtual 313, 3) := by decide +kernel
theorem dX9_isConsistent_17 : decode cX9_isConsistent 17 = .ok (.ifCond .eq 17, 3) := by decide +kernel
theorem dX9_isConsistent_20 : decode cX9_isConsistent 20 = .ok (.aload_n 0, 1) := by decide +kernel
theorem dX9_isConsistent_21 : decode cX9_isConsistent 21 = .ok (.getfield 10, 3) := by decide +kernel
theorem dX9_isConsistent_24 : decode cX9_isConsistent 24 = .ok (.invokevirtual 316, 3) := by decide +kernel
theorem dX9_isConsistent_27 : decode cX9_isConsistent 27 = .ok (.ifCond .eq 7, 3) := by decide +kernel
theorem dX9_isConsistent_30 : decode cX9_isConsistent 30 = .ok (.iconst 1, 1) := by decide +kernel
theorem dX9_isConsistent_31 : decode cX9_isConsistent 31 = .ok (.goto 4, 3) := by decide +kernel
theorem dX9_isConsistent_34 : decode cX9_isConsistent 34 = .ok (.iconst 0, 1) := by decide +kernel
theorem dX9_isConsistent_35 : decode cX9_isConsistent 35 = .ok (.ireturn, 1) := by decide +kernel
theorem dX9_append_0 : decode cX9_append 0 = .ok (.aload_n 0, 1) := by decide +kernel
theorem dX9_append_1 : decode cX9_append 1 = .ok (.getfield 32, 3) := by decide +kernel
theorem dX9_append_4 : decode cX9_append 4 = .ok (.invokevirtual 319, 3) := by decide +kernel
theorem dX9_append_7 : decode cX9_append 7 = .ok (.ifCond .ne 14, 3) := by decide +kernel
theorem dX9_append_10 : decode cX9_append 10 = .ok (.new 88, 3) := by decide +kernel
theorem dX9_append_13 : decode cX9_append 13 = .ok (.dup, 1) := by decide +kernel
theorem dX9_append_14 : decode cX9_append 14 = .ok (.ldc_w 322, 3) := by decide +kernel
theorem dX9_append_17 : decode cX9_append 17 = .ok (.invokespecial 92, 3) := by decide +kernel
theorem dX9_append_20 : decode cX9_append 20 = .ok (.athrow, 1) := by decide +kernel
theorem dX9_append_21 : decode cX9_append 21 = .ok (.aload_n 0, 1) := by decide +kernel
theorem dX9_append_22 : decode cX9_append 22 = .ok (.getfield 32, 3) := by decide +kernel
theorem dX9_append_25 : decode cX9_append 25 = .ok (.iload_n 1, 1) := by decide +kernel
theorem dX9_append_26 : decode cX9_append 26 = .ok (.invokevirtual 324, 3) := by decide +kernel
theorem dX9_append_29 : decode cX9_append 29 = .ok (.ireturn, 1) := by decide +kernel
theorem dX9_run_0 : decode cX9_run 0 = .ok (.aload_n 0, 1) := by decide +kernel
theorem dX9_run_1 : decode cX9_run 1 = .ok (.getfield 32, 3) := by decide +kernel
theorem dX9_run_4 : decode cX9_run 4 = .ok (.invokevirtual 328, 3) := by decide +kernel
theorem dX9_run_7 : decode cX9_run 7 = .ok (.istore_n 1, 1) := by decide +kernel
theorem dX9_run_8 : decode cX9_run 8 = .ok (.aload_n 0, 1) := by decide +kernel
theorem dX9_run_9 : decode cX9_run 9 = .ok (.getfield 32, 3) := by decide +kernel
theorem dX9_run_12 : decode cX9_run 12 = .ok (.iconst 0, 1) := by decide +kernel
theorem dX9_run_13 : decode cX9_run 13 = .ok (.putfield 331, 3) := by decide +kernel
theorem dX9_run_16 : decode cX9_run 16 = .ok (.iload_n 1, 1) := by decide +kernel
theorem dX9_run_17 : decode cX9_run 17 = .ok (.iconst (-1), 1) := by decide +kernel
theorem dX9_run_18 : decode cX9_run 18 = .ok (.if_icmp .eq 19, 3) := by decide +kernel
theorem dX9_run_21 : decode cX9_run 21 = .ok (.aload_n 0, 1) := by decide +kernel
theorem dX9_run_22 : decode cX9_run 22 = .ok (.iload_n 1, 1) := by decide +kernel
theorem dX9_run_23 : decode cX9_run 23 = .ok (.putfield 47, 3) := by decide +kernel
theorem dX9_run_26 : decode cX9_run 26 = .ok (.new 113, 3) := by decide +kernel
theorem dX9_run_29 : decode cX9_run 29 = .ok (.dup, 1) := by decide +kernel
theorem dX9_run_30 : decode cX9_run 30 = .ok (.ldc_w 332, 3) := by decide +kernel
theorem dX9_run_33 : decode cX9_run 33 = .ok (.invokespecial 117, 3) := by decide +kernel
theorem dX9_run_36 : decode cX9_run 36 = .ok (.athrow, 1) := by decide +kernel
theorem dX9_run_37 : decode cX9_run 37 = .ok (.aload_n 0, 1) := by decide +kernel
theorem dX9_run_38 : decode cX9_run 38 = .ok (.getfield 19, 3) := by decide +kernel
theorem dX9_run_41 : decode cX9_run 41 = .ok (.aload_n 0, 1) := by decide +kernel
theorem dX9_run_42 : decode cX9_run 42 = .ok (.getfield 10, 3) := by decide +kernel
theorem dX9_run_45 : decode cX9_run 45 = .ok (.invokevirtual 334, 3) := by decide +kernel
theorem dX9_run_48 : decode cX9_run 48 = .ok (.iconst 0, 1) := by decide +kernel
theorem dX9_run_49 : decode cX9_run 49 = .ok (.istore_n 2, 1) := by decide +kernel
theorem dX9_run_50 : decode cX9_run 50 = .ok (.iload_n 2, 1) := by decide +kernel
theorem dX9_run_51 : decode cX9_run 51 = .ok (.aload_n 0, 1) := by decide +kernel
theorem dX9_run_52 : decode cX9_run 52 = .ok (.getfield 32, 3) := by decide +kernel
theorem dX9_run_55 : decode cX9_run 55 = .ok (.getfield 337, 3) := by decide +kernel
theorem dX9_run_58 : decode cX9_run 58 = .ok (.if_icmp .ge 52, 3) := by decide +kernel
theorem dX9_run_61 : decode cX9_run 61 = .ok (.aload_n 0, 1) := by decide +kernel
theorem dX9_run_62 : decode cX9_run 62 = .ok (.iload_n 2, 1) := by decide +kernel
theorem dX9_run_63 : decode cX9_run 63 = .ok (.invokevirtual 340, 3) := by decide +kernel
theorem dX9_run_66 : decode cX9_run 66 = .ok (.getstatic 343, 3) := by decide +kernel
theorem dX9_run_69 : decode cX9_run 69 = .ok (.if_acmp .eq 30, 3) := by decide +kernel
theorem dX9_run_72 : decode cX9_run 72 = .ok (.aload_n 0, 1) := by decide +kernel
theorem dX9_run_73 : decode cX9_run 73 = .ok (.getfield 10, 3) := by decide +kernel
theorem dX9_run_76 : decode cX9_run 76 = .ok (.aload_n 0, 1) := by decide +kernel
theorem dX9_run_77 : decode cX9_run 77 = .ok (.getfield 19, 3) := by decide +kernel
theorem dX9_run_80 : decode cX9_run 80 = .ok (.invokevirtual 334, 3) := by decide +kernel
theorem dX9_run_83 : decode cX9_run 83 = .ok (.aload_n 0, 1) := by decide +kernel
theorem dX9_run_84 : decode cX9_run 84 = .ok (.iload_n 2, 1) := by decide +kernel
theorem dX9_run_85 : decode cX9_run 85 = .ok (.putfield 51, 3) := by decide +kernel
theorem dX9_run_88 : decode cX9_run 88 = .ok (.new 349, 3) := by decide +kernel
theorem dX9_run_91 : decode cX9_run 91 = .ok (.dup, 1) := by decide +kernel
theorem dX9_run_92 : decode cX9_run 92 = .ok (.ldc_w 351, 3) := by decide +kernel
theorem dX9_run_95 : decode cX9_run 95 = .ok (.invokespecial 353, 3) := by decide +kernel
theorem dX9_run_98 : decode cX9_run 98 = .ok (.athrow, 1) := by decide +kernel
theorem dX9_run_99 : decode cX9_run 99 = .ok (.aload_n 0, 1) := by decide +kernel
theorem dX9_run_100 : decode cX9_run 100 = .ok (.iload_n 2, 1) := by decide +kernel
theorem dX9_run_101 : decode cX9_run 101 = .ok (.invokevirtual 354, 3) := by decide +kernel
theorem dX9_run_104 : decode cX9_run 104 = .ok (.iinc 2 1, 3) := by decide +kernel
theorem dX9_run_107 : decode cX9_run 107 = .ok (.goto (-57), 3) := by decide +kernel
theorem dX9_run_110 : decode cX9_run 110 = .ok (.aload_n 0, 1) := by decide +kernel
theorem dX9_run_111 : decode cX9_run 111 = .ok (.getfield 25, 3) := by decide +kernel
theorem dX9_run_114 : decode cX9_run 114 = .ok (.aload_n 0, 1) := by decide +kernel
theorem dX9_run_115 : decode cX9_run 115 = .ok (.getfield 19, 3) := by decide +kernel
theorem dX9_run_118 : decode cX9_run 118 = .ok (.invokevirtual 62, 3) := by decide +kernel
theorem dX9_run_121 : decode cX9_run 121 = .ok (.aload_n 0, 1) := by decide +kernel
theorem dX9_run_122 : decode cX9_run 122 = .ok (.getfield 32, 3) := by decide +kernel
theorem dX9_run_125 : decode cX9_run 125 = .ok (.getfield 337, 3) := by decide +kernel
theorem dX9_run_128 : decode cX9_run 128 = .ok (.ireturn, 1) := by decide +kernel
theorem dX9_errorPosition_0 : decode cX9_errorPosition 0 = .ok (.aload_n 0, 1) := by decide +kernel
theorem dX9_errorPosition_1 : decode cX9_errorPosition 1 = .ok (.getfield 47, 3) := by decide +kernel
theorem dX9_errorPosition_4 : decode cX9_errorPosition 4 = .ok (.iconst (-1), 1) := by decide +kernel
theorem dX9_errorPosition_5 : decode cX9_errorPosition 5 = .ok (.if_icmp .ne 14, 3) := by decide +kernel
theorem dX9_errorPosition_8 : decode cX9_errorPosition 8 = .ok (.new 187, 3) := by decide +kernel
theorem dX9_errorPosition_11 : decode cX9_errorPosition 11 = .ok (.dup, 1) := by decide +kernel
theorem dX9_errorPosition_12 : decode cX9_errorPosition 12 = .ok (.ldc_w 358, 3) := by decide +kernel
theorem dX9_errorPosition_15 : decode cX9_errorPosition 15 = .ok (.invokespecial 191, 3) := by decide +kernel
theorem dX9_errorPosition_18 : decode cX9_errorPosition 18 = .ok (.athrow, 1) := by decide +kernel
theorem dX9_errorPosition_19 : decode cX9_errorPosition 19 = .ok (.aload_n 0, 1) := by decide +kernel
theorem dX9_errorPosition_20 : decode cX9_errorPosition 20 = .ok (.getfield 47, 3) := by decide +kernel
theorem dX9_errorPosition_23 : decode cX9_errorPosition 23 = .ok (.ireturn, 1) := by decide +kernel
theorem dX9_failedCommand_0 : decode cX9_failedCommand 0 = .ok (.aload_n 0, 1) := by decide +kernel
theorem dX9_failedCommand_1 : decode cX9_failedCommand 1 = .ok (.getfield 51, 3) := by decide +kernel
theorem dX9_failedCommand_4 : decode cX9_failedCommand 4 = .ok (.iconst (-1), 1) := by decide +kernel
theorem dX9_failedCommand_5 : decode cX9_failedCommand 5 = .ok (.if_icmp .ne 14, 3) := by decide +kernel
theorem dX9_failedCommand_8 : decode cX9_failedCommand 8 = .ok (.new 187, 3) := by decide +kernel
theorem dX9_failedCommand_11 : decode cX9_failedCommand 11 = .ok (.dup, 1) := by decide +kernel
theorem dX9_failedCommand_12 : decode cX9_failedCommand 12 = .ok (.ldc_w 360, 3) := by decide +kernel
theorem dX9_failedCommand_15 : decode cX9_failedCommand 15 = .ok (.invokespecial 191, 3) := by decide +kernel
theorem dX9_failedCommand_18 : decode cX9_failedCommand 18 = .ok (.athrow, 1) := by decide +kernel
theorem dX9_failedCommand_19 : decode cX9_failedCommand 19 = .ok (.aload_n 0, 1) := by decide +kernel
theorem dX9_failedCommand_20 : decode cX9_failedCommand 20 = .ok (.getfield 51, 3) := by decide +kernel
theorem dX9_failedCommand_23 : decode cX9_failedCommand 23 = .ok (.ireturn, 1) := by decide +kernel
theorem dX9_writePilot_0 : decode cX9_writePilot 0 = .ok (.aload_n 0, 1) := by decide +kernel
theorem dX9_writePilot_1 : decode cX9_writePilot 1 = .ok (.iload_n 1, 1) := by decide +kernel
theorem dX9_writePilot_2 : decode cX9_writePilot 2 = .ok (.invokevirtual 221, 3) := by decide +kernel
theorem dX9_writePilot_5 : decode cX9_writePilot 5 = .ok (.astore_n 2, 1) := by decide +kernel
theorem dX9_writePilot_6 : decode cX9_writePilot 6 = .ok (.aload_n 0, 1) := by decide +kernel
theorem dX9_writePilot_7 : decode cX9_writePilot 7 = .ok (.getfield 39, 3) := by decide +kernel
theorem dX9_writePilot_10 : decode cX9_writePilot 10 = .ok (.iconst 0, 1) := by decide +kernel
theorem dX9_writePilot_11 : decode cX9_writePilot 11 = .ok (.invokevirtual 362, 3) := by decide +kernel
theorem dX9_writePilot_14 : decode cX9_writePilot 14 = .ok (.aload_n 0, 1) := by decide +kernel
theorem dX9_writePilot_15 : decode cX9_writePilot 15 = .ok (.getfield 39, 3) := by decide +kernel
theorem dX9_writePilot_18 : decode cX9_writePilot 18 = .ok (.iload_n 1, 1) := by decide +kernel
theorem dX9_writePilot_19 : decode cX9_writePilot 19 = .ok (.invokevirtual 365, 3) := by decide +kernel
theorem dX9_writePilot_22 : decode cX9_writePilot 22 = .ok (.pop, 1) := by decide +kernel
theorem dX9_writePilot_23 : decode cX9_writePilot 23 = .ok (.aload_n 2, 1) := by decide +kernel
theorem dX9_writePilot_24 : decode cX9_writePilot 24 = .ok (.getfield 225, 3) := by decide +kernel
theorem dX9_writePilot_27 : decode cX9_writePilot 27 = .ok (.getstatic 369, 3) := by decide +kernel
theorem dX9_writePilot_30 : decode cX9_writePilot 30 = .ok (.if_acmp .ne 16, 3) := by decide +kernel
theorem dX9_writePilot_33 : decode cX9_writePilot 33 = .ok (.aload_n 0, 1) := by decide +kernel
theorem dX9_writePilot_34 : decode cX9_writePilot 34 = .ok (.getfield 39, 3) := by decide +kernel
theorem dX9_writePilot_37 : decode cX9_writePilot 37 = .ok (.bipush 45, 2) := by decide +kernel
theorem dX9_writePilot_39 : decode cX9_writePilot 39 = .ok (.invokevirtual 372, 3) := by decide +kernel
theorem dX9_writePilot_42 : decode cX9_writePilot 42 = .ok (.pop, 1) := by decide +kernel
theorem dX9_writePilot_43 : decode cX9_writePilot 43 = .ok (.goto 8, 3) := by decide +kernel
theorem dX9_writePilot_46 : decode cX9_writePilot 46 = .ok (.aload_n 0, 1) := by decide +kernel
theorem dX9_writePilot_47 : decode cX9_writePilot 47 = .ok (.aload_n 2, 1) := by decide +kernel
theorem dX9_writePilot_48 : decode cX9_writePilot 48 = .ok (.invokevirtual 375, 3) := by decide +kernel
theorem dX9_writePilot_51 : decode cX9_writePilot 51 = .ok (.aload_n 0, 1) := by decide +kernel
theorem dX9_writePilot_52 : decode cX9_writePilot 52 = .ok (.getfield 39, 3) := by decide +kernel
theorem dX9_writePilot_55 : decode cX9_writePilot 55 = .ok (.invokevirtual 379, 3) := by decide +kernel
theorem dX9_writePilot_58 : decode cX9_writePilot 58 = .ok (.ireturn, 1) := by decide +kernel
theorem dX9_writeTask_0 : decode cX9_writeTask 0 = .ok (.aload_n 0, 1) := by decide +kernel
theorem dX9_writeTask_1 : decode cX9_writeTask 1 = .ok (.getfield 39, 3) := by decide +kernel
theorem dX9_writeTask_4 : decode cX9_writeTask 4 = .ok (.iconst 0, 1) := by decide +kernel
theorem dX9_writeTask_5 : decode cX9_writeTask 5 = .ok (.invokevirtual 362, 3) := by decide +kernel
theorem dX9_writeTask_8 : decode cX9_writeTask 8 = .ok (.iconst 0, 1) := by decide +kernel
theorem dX9_writeTask_9 : decode cX9_writeTask 9 = .ok (.istore_n 1, 1) := by decide +kernel
theorem dX9_writeTask_10 : decode cX9_writeTask 10 = .ok (.iload_n 1, 1) := by decide +kernel
theorem dX9_writeTask_11 : decode cX9_writeTask 11 = .ok (.aload_n 0, 1) := by decide +kernel
theorem dX9_writeTask_12 : decode cX9_writeTask 12 = .ok (.getfield 10, 3) := by decide +kernel
theorem dX9_writeTask_15 : decode cX9_writeTask 15 = .ok (.getfield 66, 3) := by decide +kernel
theorem dX9_writeTask_18 : decode cX9_writeTask 18 = .ok (.getfield 181, 3) := by decide +kernel
theorem dX9_writeTask_21 : decode cX9_writeTask 21 = .ok (.if_icmp .ge 65, 3) := by decide +kernel
theorem dX9_writeTask_24 : decode cX9_writeTask 24 = .ok (.iload_n 1, 1) := by decide +kernel
theorem dX9_writeTask_25 : decode cX9_writeTask 25 = .ok (.ifCond .le 35, 3) := by decide +kernel
theorem dX9_writeTask_28 : decode cX9_writeTask 28 = .ok (.aload_n 0, 1) := by decide +kernel
theorem dX9_writeTask_29 : decode cX9_writeTask 29 = .ok (.getfield 39, 3) := by decide +kernel
theorem dX9_writeTask_32 : decode cX9_writeTask 32 = .ok (.bipush 45, 2) := by decide +kernel
theorem dX9_writeTask_34 : decode cX9_writeTask 34 = .ok (.invokevirtual 372, 3) := by decide +kernel
theorem dX9_writeTask_37 : decode cX9_writeTask 37 = .ok (.aload_n 0, 1) := by decide +kernel
theorem dX9_writeTask_38 : decode cX9_writeTask 38 = .ok (.getfield 10, 3) := by decide +kernel
theorem dX9_writeTask_41 : decode cX9_writeTask 41 = .ok (.getfield 66, 3) := by decide +kernel
theorem dX9_writeTask_44 : decode cX9_writeTask 44 = .ok (.getfield 381, 3) := by decide +kernel
theorem dX9_writeTask_47 : decode cX9_writeTask 47 = .ok (.iload_n 1, 1) := by decide +kernel
theorem dX9_writeTask_48 : decode cX9_writeTask 48 = .ok (.iconst 1, 1) := by decide +kernel
theorem dX9_writeTask_49 : decode cX9_writeTask 49 = .ok (.isub, 1) := by decide +kernel
theorem dX9_writeTask_50 : decode cX9_writeTask 50 = .ok (.iaload, 1) := by decide +kernel
theorem dX9_writeTask_51 : decode cX9_writeTask 51 = .ok (.invokevirtual 365, 3) := by decide +kernel
theorem dX9_writeTask_54 : decode cX9_writeTask 54 = .ok (.bipush 62, 2) := by decide +kernel
theorem dX9_writeTask_56 : decode cX9_writeTask 56 = .ok (.invokevirtual 372, 3) := by decide +kernel
theorem dX9_writeTask_59 : decode cX9_writeTask 59 = .ok (.pop, 1) := by decide +kernel
theorem dX9_writeTask_60 : decode cX9_writeTask 60 = .ok (.aload_n 0, 1) := by decide +kernel
theorem dX9_writeTask_61 : decode cX9_writeTask 61 = .ok (.getfield 39, 3) := by decide +kernel
theorem dX9_writeTask_64 : decode cX9_writeTask 64 = .ok (.aload_n 0, 1) := by decide +kernel
theorem dX9_writeTask_65 : decode cX9_writeTask 65 = .ok (.getfield 10, 3) := by decide +kernel
theorem dX9_writeTask_68 : decode cX9_writeTask 68 = .ok (.getfield 66, 3) := by decide +kernel
theorem dX9_writeTask_71 : decode cX9_writeTask 71 = .ok (.getfield 192, 3) := by decide +kernel
theorem dX9_writeTask_74 : decode cX9_writeTask 74 = .ok (.iload_n 1, 1) := by decide +kernel
theorem dX9_writeTask_75 : decode cX9_writeTask 75 = .ok (.iaload, 1) := by decide +kernel
theorem dX9_writeTask_76 : decode cX9_writeTask 76 = .ok (.invokevirtual 365, 3) := by decide +kernel
theorem dX9_writeTask_79 : decode cX9_writeTask 79 = .ok (.pop, 1) := by decide +kernel
theorem dX9_writeTask_80 : decode cX9_writeTask 80 = .ok (.iinc 1 1, 3) := by decide +kernel
theorem dX9_writeTask_83 : decode cX9_writeTask 83 = .ok (.goto (-73), 3) := by decide +kernel
theorem dX9_writeTask_86 : decode cX9_writeTask 86 = .ok (.aload_n 0, 1) := by decide +kernel
theorem dX9_writeTask_87 : decode cX9_writeTask 87 = .ok (.getfield 39, 3) := by decide +kernel
theorem dX9_writeTask_90 : decode cX9_writeTask 90 = .ok (.invokevirtual 379, 3) := by decide +kernel
theorem dX9_writeTask_93 : decode cX9_writeTask 93 = .ok (.ireturn, 1) := by decide +kernel
theorem dX9_outputAt_0 : decode cX9_outputAt 0 = .ok (.iload_n 1, 1) := by decide +kernel
theorem dX9_outputAt_1 : decode cX9_outputAt 1 = .ok (.ifCond .lt 14, 3) := by decide +kernel
theorem dX9_outputAt_4 : decode cX9_outputAt 4 = .ok (.iload_n 1, 1) := by decide +kernel
theorem dX9_outputAt_5 : decode cX9_outputAt 5 = .ok (.aload_n 0, 1) := by decide +kernel
theorem dX9_outputAt_6 : decode cX9_outputAt 6 = .ok (.getfield 39, 3) := by decide +kernel
theorem dX9_outputAt_9 : decode cX9_outputAt 9 = .ok (.invokevirtual 379, 3) := by decide +kernel
theorem dX9_outputAt_12 : decode cX9_outputAt 12 = .ok (.if_icmp .lt 14, 3) := by decide +kernel
theorem dX9_outputAt_15 : decode cX9_outputAt 15 = .ok (.new 173, 3) := by decide +kernel
theorem dX9_outputAt_18 : decode cX9_outputAt 18 = .ok (.dup, 1) := by decide +kernel
theorem dX9_outputAt_19 : decode cX9_outputAt 19 = .ok (.ldc_w 384, 3) := by decide +kernel
theorem dX9_outputAt_22 : decode cX9_outputAt 22 = .ok (.invokespecial 177, 3) := by decide +kernel
theorem dX9_outputAt_25 : decode cX9_outputAt 25 = .ok (.athrow, 1) := by decide +kernel
theorem dX9_outputAt_26 : decode cX9_outputAt 26 = .ok (.aload_n 0, 1) := by decide +kernel
theorem dX9_outputAt_27 : decode cX9_outputAt 27 = .ok (.getfield 39, 3) := by decide +kernel
theorem dX9_outputAt_30 : decode cX9_outputAt 30 = .ok (.iload_n 1, 1) := by decide +kernel
theorem dX9_outputAt_31 : decode cX9_outputAt 31 = .ok (.invokevirtual 386, 3) := by decide +kernel
theorem dX9_outputAt_34 : decode cX9_outputAt 34 = .ok (.ireturn, 1) := by decide +kernel
theorem dX9_undo_0 : decode cX9_undo 0 = .ok (.aload_n 0, 1) := by decide +kernel
theorem dX9_undo_1 : decode cX9_undo 1 = .ok (.getfield 25, 3) := by decide +kernel
theorem dX9_undo_4 : decode cX9_undo 4 = .ok (.getfield 390, 3) := by decide +kernel
theorem dX9_undo_7 : decode cX9_undo 7 = .ok (.ifCond .gt 14, 3) := by decide +kernel
theorem dX9_undo_10 : decode cX9_undo 10 = .ok (.new 88, 3) := by decide +kernel
theorem dX9_undo_13 : decode cX9_undo 13 = .ok (.dup, 1) := by decide +kernel
theorem dX9_undo_14 : decode cX9_undo 14 = .ok (.ldc_w 393, 3) := by decide +kernel
theorem dX9_undo_17 : decode cX9_undo 17 = .ok (.invokespecial 92, 3) := by decide +kernel
theorem dX9_undo_20 : decode cX9_undo 20 = .ok (.athrow, 1) := by decide +kernel
theorem dX9_undo_21 : decode cX9_undo 21 = .ok (.aload_n 0, 1) := by decide +kernel
theorem dX9_undo_22 : decode cX9_undo 22 = .ok (.getfield 25, 3) := by decide +kernel
theorem dX9_undo_25 : decode cX9_undo 25 = .ok (.aload_n 0, 1) := by decide +kernel
theorem dX9_undo_26 : decode cX9_undo 26 = .ok (.getfield 10, 3) := by decide +kernel
theorem dX9_undo_29 : decode cX9_undo 29 = .ok (.invokevirtual 395, 3) := by decide +kernel
theorem dX9_undo_32 : decode cX9_undo 32 = .ok (.aload_n 0, 1) := by decide +kernel
theorem dX9_undo_33 : decode cX9_undo 33 = .ok (.getfield 25, 3) := by decide +kernel
theorem dX9_undo_36 : decode cX9_undo 36 = .ok (.getfield 390, 3) := by decide +kernel
theorem dX9_undo_39 : decode cX9_undo 39 = .ok (.ireturn, 1) := by decide +kernel
theorem dX9_save_0 : decode cX9_save 0 = .ok (.aload_n 0, 1) := by decide +kernel
theorem dX9_save_1 : decode cX9_save 1 = .ok (.getfield 16, 3) := by decide +kernel
theorem dX9_save_4 : decode cX9_save 4 = .ok (.aload_n 0, 1) := by decide +kernel
theorem dX9_save_5 : decode cX9_save 5 = .ok (.getfield 10, 3) := by decide +kernel
theorem dX9_save_8 : decode cX9_save 8 = .ok (.invokevirtual 334, 3) := by decide +kernel
theorem dX9_save_11 : decode cX9_save 11 = .ok (.aload_n 0, 1) := by decide +kernel
theorem dX9_save_12 : decode cX9_save 12 = .ok (.iconst 1, 1) := by decide +kernel
theorem dX9_save_13 : decode cX9_save 13 = .ok (.putfield 43, 3) := by decide +kernel
theorem dX9_save_16 : decode cX9_save 16 = .ok (.return_, 1) := by decide +kernel
theorem dX9_restore_0 : decode cX9_restore 0 = .ok (.aload_n 0, 1) := by decide +kernel
theorem dX9_restore_1 : decode cX9_restore 1 = .ok (.getfield 43, 3) := by decide +kernel
theorem dX9_restore_4 : decode cX9_restore 4 = .ok (.ifCond .ne 14, 3) := by decide +kernel
theorem dX9_restore_7 : decode cX9_restore 7 = .ok (.new 88, 3) := by decide +kernel
theorem dX9_restore_10 : decode cX9_restore 10 = .ok (.dup, 1) := by decide +kernel
theorem dX9_restore_11 : decode cX9_restore 11 = .ok (.ldc_w 398, 3) := by decide +kernel
theorem dX9_restore_14 : decode cX9_restore 14 = .ok (.invokespecial 92, 3) := by decide +kernel
theorem dX9_restore_17 : decode cX9_restore 17 = .ok (.athrow, 1) := by decide +kernel
theorem dX9_restore_18 : decode cX9_restore 18 = .ok (.aload_n 0, 1) := by decide +kernel
theorem dX9_restore_19 : decode cX9_restore 19 = .ok (.getfield 10, 3) := by decide +kernel
theorem dX9_restore_22 : decode cX9_restore 22 = .ok (.aload_n 0, 1) := by decide +kernel
theorem dX9_restore_23 : decode cX9_restore 23 = .ok (.getfield 16, 3) := by decide +kernel
theorem dX9_restore_26 : decode cX9_restore 26 = .ok (.invokevirtual 334, 3) := by decide +kernel
theorem dX9_restore_29 : decode cX9_restore 29 = .ok (.aload_n 0, 1) := by decide +kernel
theorem dX9_restore_30 : decode cX9_restore 30 = .ok (.getfield 25, 3) := by decide +kernel
theorem dX9_restore_33 : decode cX9_restore 33 = .ok (.iconst 0, 1) := by decide +kernel
theorem dX9_restore_34 : decode cX9_restore 34 = .ok (.putfield 390, 3) := by decide +kernel
theorem dX9_restore_37 : decode cX9_restore 37 = .ok (.return_, 1) := by decide +kernel
theorem dX9_refuse_0 : decode cX9_refuse 0 = .ok (.aload_n 0, 1) := by decide +kernel
theorem dX9_refuse_1 : decode cX9_refuse 1 = .ok (.getstatic 400, 3) := by decide +kernel
theorem dX9_refuse_4 : decode cX9_refuse 4 = .ok (.if_acmp .ne 14, 3) := by decide +kernel
theorem dX9_refuse_7 : decode cX9_refuse 7 = .ok (.new 173, 3) := by decide +kernel
theorem dX9_refuse_10 : decode cX9_refuse 10 = .ok (.dup, 1) := by decide +kernel
theorem dX9_refuse_11 : decode cX9_refuse 11 = .ok (.ldc_w 403, 3) := by decide +kernel
theorem dX9_refuse_14 : decode cX9_refuse 14 = .ok (.invokespecial 177, 3) := by decide +kernel
theorem dX9_refuse_17 : decode cX9_refuse 17 = .ok (.athrow, 1) := by decide +kernel
theorem dX9_refuse_18 : decode cX9_refuse 18 = .ok (.aload_n 0, 1) := by decide +kernel
theorem dX9_refuse_19 : decode cX9_refuse 19 = .ok (.getstatic 405, 3) := by decide +kernel
theorem dX9_refuse_22 : decode cX9_refuse 22 = .ok (.if_acmp .ne 14, 3) := by decide +kernel
theorem dX9_refuse_25 : decode cX9_refuse 25 = .ok (.new 113, 3) := by decide +kernel
theorem dX9_refuse_28 : decode cX9_refuse 28 = .ok (.dup, 1) := by decide +kernel
theorem dX9_refuse_29 : decode cX9_refuse 29 = .ok (.ldc_w 408, 3) := by decide +kernel
theorem dX9_refuse_32 : decode cX9_refuse 32 = .ok (.invokespecial 117, 3) := by decide +kernel
theorem dX9_refuse_35 : decode cX9_refuse 35 = .ok (.athrow, 1) := by decide +kernel
theorem dX9_refuse_36 : decode cX9_refuse 36 = .ok (.aload_n 0, 1) := by decide +kernel
theorem dX9_refuse_37 : decode cX9_refuse 37 = .ok (.getstatic 410, 3) := by decide +kernel
theorem dX9_refuse_40 : decode cX9_refuse 40 = .ok (.if_acmp .ne 14, 3) := by decide +kernel
theorem dX9_refuse_43 : decode cX9_refuse 43 = .ok (.new 88, 3) := by decide +kernel
theorem dX9_refuse_46 : decode cX9_refuse 46 = .ok (.dup, 1) := by decide +kernel
theorem dX9_refuse_47 : decode cX9_refuse 47 = .ok (.ldc_w 413, 3) := by decide +kernel
theorem dX9_refuse_50 : decode cX9_refuse 50 = .ok (.invokespecial 92, 3) := by decide +kernel
theorem dX9_refuse_53 : decode cX9_refuse 53 = .ok (.athrow, 1) := by decide +kernel
theorem dX9_refuse_54 : decode cX9_refuse 54 = .ok (.aload_n 0, 1) := by decide +kernel
theorem dX9_refuse_55 : decode cX9_refuse 55 = .ok (.getstatic 415, 3) := by decide +kernel
theorem dX9_refuse_58 : decode cX9_refuse 58 = .ok (.if_acmp .ne 14, 3) := by decide +kernel
theorem dX9_refuse_61 : decode cX9_refuse 61 = .ok (.new 349, 3) := by decide +kernel
theorem dX9_refuse_64 : decode cX9_refuse 64 = .ok (.dup, 1) := by decide +kernel
theorem dX9_refuse_65 : decode cX9_refuse 65 = .ok (.ldc_w 418, 3) := by decide +kernel
theorem dX9_refuse_68 : decode cX9_refuse 68 = .ok (.invokespecial 353, 3) := by decide +kernel
theorem dX9_refuse_71 : decode cX9_refuse 71 = .ok (.athrow, 1) := by decide +kernel
theorem dX9_refuse_72 : decode cX9_refuse 72 = .ok (.return_, 1) := by decide +kernel
theorem dX9_isCoordinate_0 : decode cX9_isCoordinate 0 = .ok (.iload_n 0, 1) := by decide +kernel
theorem dX9_isCoordinate_1 : decode cX9_isCoordinate 1 = .ok (.ifCond .lt 13, 3) := by decide +kernel
theorem dX9_isCoordinate_4 : decode cX9_isCoordinate 4 = .ok (.iload_n 0, 1) := by decide +kernel
theorem dX9_isCoordinate_5 : decode cX9_isCoordinate 5 = .ok (.bipush 60, 2) := by decide +kernel
theorem dX9_isCoordinate_7 : decode cX9_isCoordinate 7 = .ok (.if_icmp .gt 7, 3) := by decide +kernel
theorem dX9_isCoordinate_10 : decode cX9_isCoordinate 10 = .ok (.iconst 1, 1) := by decide +kernel
theorem dX9_isCoordinate_11 : decode cX9_isCoordinate 11 = .ok (.goto 4, 3) := by decide +kernel
theorem dX9_isCoordinate_14 : decode cX9_isCoordinate 14 = .ok (.iconst 0, 1) := by decide +kernel
theorem dX9_isCoordinate_15 : decode cX9_isCoordinate 15 = .ok (.ireturn, 1) := by decide +kernel
theorem dX9_requirePosition_0 : decode cX9_requirePosition 0 = .ok (.iload_n 0, 1) := by decide +kernel
theorem dX9_requirePosition_1 : decode cX9_requirePosition 1 = .ok (.invokestatic 420, 3) := by decide +kernel
theorem dX9_requirePosition_4 : decode cX9_requirePosition 4 = .ok (.ifCond .eq 10, 3) := by decide +kernel
theorem dX9_requirePosition_7 : decode cX9_requirePosition 7 = .ok (.iload_n 1, 1) := by decide +kernel
theorem dX9_requirePosition_8 : decode cX9_requirePosition 8 = .ok (.invokestatic 420, 3) := by decide +kernel
theorem dX9_requirePosition_11 : decode cX9_requirePosition 11 = .ok (.ifCond .ne 14, 3) := by decide +kernel
theorem dX9_requirePosition_14 : decode cX9_requirePosition 14 = .ok (.new 113, 3) := by decide +kernel
theorem dX9_requirePosition_17 : decode cX9_requirePosition 17 = .ok (.dup, 1) := by decide +kernel
theorem dX9_requirePosition_18 : decode cX9_requirePosition 18 = .ok (.ldc_w 423, 3) := by decide +kernel
theorem dX9_requirePosition_21 : decode cX9_requirePosition 21 = .ok (.invokespecial 117, 3) := by decide +kernel
theorem dX9_requirePosition_24 : decode cX9_requirePosition 24 = .ok (.athrow, 1) := by decide +kernel
theorem dX9_requirePosition_25 : decode cX9_requirePosition 25 = .ok (.return_, 1) := by decide +kernel
theorem dX9_knownPilot_0 : decode cX9_knownPilot 0 = .ok (.aload_n 0, 1) := by decide +kernel
theorem dX9_knownPilot_1 : decode cX9_knownPilot 1 = .ok (.getfield 10, 3) := by decide +kernel
theorem dX9_knownPilot_4 : decode cX9_knownPilot 4 = .ok (.iload_n 1, 1) := by decide +kernel
theorem dX9_knownPilot_5 : decode cX9_knownPilot 5 = .ok (.invokevirtual 291, 3) := by decide +kernel
theorem dX9_knownPilot_8 : decode cX9_knownPilot 8 = .ok (.ifCond .ne 14, 3) := by decide +kernel
theorem dX9_knownPilot_11 : decode cX9_knownPilot 11 = .ok (.new 173, 3) := by decide +kernel
theorem dX9_knownPilot_14 : decode cX9_knownPilot 14 = .ok (.dup, 1) := by decide +kernel
theorem dX9_knownPilot_15 : decode cX9_knownPilot 15 = .ok (.ldc_w 425, 3) := by decide +kernel
theorem dX9_knownPilot_18 : decode cX9_knownPilot 18 = .ok (.invokespecial 177, 3) := by decide +kernel
theorem dX9_knownPilot_21 : decode cX9_knownPilot 21 = .ok (.athrow, 1) := by decide +kernel
theorem dX9_knownPilot_22 : decode cX9_knownPilot 22 = .ok (.aload_n 0, 1) := by decide +kernel
theorem dX9_knownPilot_23 : decode cX9_knownPilot 23 = .ok (.getfield 10, 3) := by decide +kernel
theorem dX9_knownPilot_26 : decode cX9_knownPilot 26 = .ok (.getfield 427, 3) := by decide +kernel
theorem dX9_knownPilot_29 : decode cX9_knownPilot 29 = .ok (.iload_n 1, 1) := by decide +kernel
theorem dX9_knownPilot_30 : decode cX9_knownPilot 30 = .ok (.aaload, 1) := by decide +kernel
theorem dX9_knownPilot_31 : decode cX9_knownPilot 31 = .ok (.areturn, 1) := by decide +kernel
theorem dX9_launchedPilot_0 : decode cX9_launchedPilot 0 = .ok (.aload_n 0, 1) := by decide +kernel
theorem dX9_launchedPilot_1 : decode cX9_launchedPilot 1 = .ok (.iload_n 1, 1) := by decide +kernel
theorem dX9_launchedPilot_2 : decode cX9_launchedPilot 2 = .ok (.invokevirtual 221, 3) := by decide +kernel
theorem dX9_launchedPilot_5 : decode cX9_launchedPilot 5 = .ok (.astore_n 2, 1) := by decide +kernel
theorem dX9_launchedPilot_6 : decode cX9_launchedPilot 6 = .ok (.aload_n 2, 1) := by decide +kernel
theorem dX9_launchedPilot_7 : decode cX9_launchedPilot 7 = .ok (.getfield 225, 3) := by decide +kernel
theorem dX9_launchedPilot_10 : decode cX9_launchedPilot 10 = .ok (.getstatic 369, 3) := by decide +kernel
theorem dX9_launchedPilot_13 : decode cX9_launchedPilot 13 = .ok (.if_acmp .ne 14, 3) := by decide +kernel
theorem dX9_launchedPilot_16 : decode cX9_launchedPilot 16 = .ok (.new 88, 3) := by decide +kernel
theorem dX9_launchedPilot_19 : decode cX9_launchedPilot 19 = .ok (.dup, 1) := by decide +kernel
theorem dX9_launchedPilot_20 : decode cX9_launchedPilot 20 = .ok (.ldc_w 431, 3) := by decide +kernel
theorem dX9_launchedPilot_23 : decode cX9_launchedPilot 23 = .ok (.invokespecial 92, 3) := by decide +kernel
theorem dX9_launchedPilot_26 : decode cX9_launchedPilot 26 = .ok (.athrow, 1) := by decide +kernel
theorem dX9_launchedPilot_27 : decode cX9_launchedPilot 27 = .ok (.aload_n 2, 1) := by decide +kernel
theorem dX9_launchedPilot_28 : decode cX9_launchedPilot 28 = .ok (.areturn, 1) := by decide +kernel
theorem dX9_pilotInPhase_0 : decode cX9_pilotInPhase 0 = .ok (.aload_n 0, 1) := by decide +kernel
theorem dX9_pilotInPhase_1 : decode cX9_pilotInPhase 1 = .ok (.iload_n 1, 1) := by decide +kernel
theorem dX9_pilotInPhase_2 : decode cX9_pilotInPhase 2 = .ok (.invokevirtual 221, 3) := by decide +kernel
theorem dX9_pilotInPhase_5 : decode cX9_pilotInPhase 5 = .ok (.astore_n 3, 1) := by decide +kernel
theorem dX9_pilotInPhase_6 : decode cX9_pilotInPhase 6 = .ok (.aload_n 3, 1) := by decide +kernel
theorem dX9_pilotInPhase_7 : decode cX9_pilotInPhase 7 = .ok (.getfield 225, 3) := by decide +kernel
theorem dX9_pilotInPhase_10 : decode cX9_pilotInPhase 10 = .ok (.aload_n 2, 1) := by decide +kernel
theorem dX9_pilotInPhase_11 : decode cX9_pilotInPhase 11 = .ok (.if_acmp .eq 14, 3) := by decide +kernel
theorem dX9_pilotInPhase_14 : decode cX9_pilotInPhase 14 = .ok (.new 88, 3) := by decide +kernel
theorem dX9_pilotInPhase_17 : decode cX9_pilotInPhase 17 = .ok (.dup, 1) := by decide +kernel
theorem dX9_pilotInPhase_18 : decode cX9_pilotInPhase 18 = .ok (.ldc_w 433, 3) := by decide +kernel
theorem dX9_pilotInPhase_21 : decode cX9_pilotInPhase 21 = .ok (.invokespecial 92, 3) := by decide +kernel
theorem dX9_pilotInPhase_24 : decode cX9_pilotInPhase 24 = .ok (.athrow, 1) := by decide +kernel
theorem dX9_pilotInPhase_25 : decode cX9_pilotInPhase 25 = .ok (.aload_n 3, 1) := by decide +kernel
theorem dX9_pilotInPhase_26 : decode cX9_pilotInPhase 26 = .ok (.areturn, 1) := by decide +kernel
theorem dX9_writeFlight_0 : decode cX9_writeFlight 0 = .ok (.aload_n 0, 1) := by decide +kernel
theorem dX9_writeFlight_1 : decode cX9_writeFlight 1 = .ok (.getfield 39, 3) := by decide +kernel
theorem dX9_writeFlight_4 : decode cX9_writeFlight 4 = .ok (.aload_n 1, 1) := by decide +kernel
theorem dX9_writeFlight_5 : decode cX9_writeFlight 5 = .ok (.invokevirtual 435, 3) := by decide +kernel
theorem dX9_writeFlight_8 : decode cX9_writeFlight 8 = .ok (.invokevirtual 372, 3) := by decide +kernel
theorem dX9_writeFlight_11 : decode cX9_writeFlight 11 = .ok (.aload_n 1, 1) := by decide +kernel
theorem dX9_writeFlight_12 : decode cX9_writeFlight 12 = .ok (.getfield 248, 3) := by decide +kernel
theorem dX9_writeFlight_15 : decode cX9_writeFlight 15 = .ok (.invokevirtual 365, 3) := by decide +kernel
theorem dX9_writeFlight_18 : decode cX9_writeFlight 18 = .ok (.bipush 44, 2) := by decide +kernel
theorem dX9_writeFlight_20 : decode cX9_writeFlight 20 = .ok (.invokevirtual 372, 3) := by decide +kernel
theorem dX9_writeFlight_23 : decode cX9_writeFlight 23 = .ok (.aload_n 1, 1) := by decide +kernel
theorem dX9_writeFlight_24 : decode cX9_writeFlight 24 = .ok (.getfield 251, 3) := by decide +kernel
theorem dX9_writeFlight_27 : decode cX9_writeFlight 27 = .ok (.invokevirtual 365, 3) := by decide +kernel
theorem dX9_writeFlight_30 : decode cX9_writeFlight 30 = .ok (.pop, 1) := by decide +kernel
theorem dX9_writeFlight_31 : decode cX9_writeFlight 31 = .ok (.aload_n 0, 1) := by decide +kernel
theorem dX9_writeFlight_32 : decode cX9_writeFlight 32 = .ok (.getfield 39, 3) := by decide +kernel
theorem dX9_writeFlight_35 : decode cX9_writeFlight 35 = .ok (.bipush 32, 2) := by decide +kernel
theorem dX9_writeFlight_37 : decode cX9_writeFlight 37 = .ok (.invokevirtual 372, 3) := by decide +kernel
theorem dX9_writeFlight_40 : decode cX9_writeFlight 40 = .ok (.aload_n 1, 1) := by decide +kernel
theorem dX9_writeFlight_41 : decode cX9_writeFlight 41 = .ok (.getfield 254, 3) := by decide +kernel
theorem dX9_writeFlight_44 : decode cX9_writeFlight 44 = .ok (.invokevirtual 365, 3) := by decide +kernel
theorem dX9_writeFlight_47 : decode cX9_writeFlight 47 = .ok (.ldc_w 439, 3) := by decide +kernel
theorem dX9_writeFlight_50 : decode cX9_writeFlight 50 = .ok (.invokevirtual 441, 3) := by decide +kernel
theorem dX9_writeFlight_53 : decode cX9_writeFlight 53 = .ok (.pop, 1) := by decide +kernel
theorem dX9_writeFlight_54 : decode cX9_writeFlight 54 = .ok (.aload_n 0, 1) := by decide +kernel
theorem dX9_writeFlight_55 : decode cX9_writeFlight 55 = .ok (.getfield 39, 3) := by decide +kernel
theorem dX9_writeFlight_58 : decode cX9_writeFlight 58 = .ok (.aload_n 1, 1) := by decide +kernel
theorem dX9_writeFlight_59 : decode cX9_writeFlight 59 = .ok (.getfield 263, 3) := by decide +kernel
theorem dX9_writeFlight_62 : decode cX9_writeFlight 62 = .ok (.invokevirtual 365, 3) := by decide +kernel
theorem dX9_writeFlight_65 : decode cX9_writeFlight 65 = .ok (.bipush 47, 2) := by decide +kernel
theorem dX9_writeFlight_67 : decode cX9_writeFlight 67 = .ok (.invokevirtual 372, 3) := by decide +kernel
theorem dX9_writeFlight_70 : decode cX9_writeFlight 70 = .ok (.aload_n 0, 1) := by decide +kernel
theorem dX9_writeFlight_71 : decode cX9_writeFlight 71 = .ok (.getfield 10, 3) := by decide +kernel
theorem dX9_writeFlight_74 : decode cX9_writeFlight 74 = .ok (.getfield 66, 3) := by decide +kernel
theorem dX9_writeFlight_77 : decode cX9_writeFlight 77 = .ok (.getfield 181, 3) := by decide +kernel
theorem dX9_writeFlight_80 : decode cX9_writeFlight 80 = .ok (.invokevirtual 365, 3) := by decide +kernel
theorem dX9_writeFlight_83 : decode cX9_writeFlight 83 = .ok (.pop, 1) := by decide +kernel
theorem dX9_writeFlight_84 : decode cX9_writeFlight 84 = .ok (.aload_n 1, 1) := by decide +kernel
theorem dX9_writeFlight_85 : decode cX9_writeFlight 85 = .ok (.getfield 260, 3) := by decide +kernel
theorem dX9_writeFlight_88 : decode cX9_writeFlight 88 = .ok (.ifCond .eq 21, 3) := by decide +kernel
theorem dX9_writeFlight_91 : decode cX9_writeFlight 91 = .ok (.aload_n 0, 1) := by decide +kernel
theorem dX9_writeFlight_92 : decode cX9_writeFlight 92 = .ok (.getfield 39, 3) := by decide +kernel
theorem dX9_writeFlight_95 : decode cX9_writeFlight 95 = .ok (.ldc_w 444, 3) := by decide +kernel
theorem dX9_writeFlight_98 : decode cX9_writeFlight 98 = .ok (.invokevirtual 441, 3) := by decide +kernel
theorem dX9_writeFlight_101 : decode cX9_writeFlight 101 = .ok (.aload_n 1, 1) := by decide +kernel
theorem dX9_writeFlight_102 : decode cX9_writeFlight 102 = .ok (.getfield 260, 3) := by decide +kernel
theorem dX9_writeFlight_105 : decode cX9_writeFlight 105 = .ok (.invokevirtual 365, 3) := by decide +kernel
theorem dX9_writeFlight_108 : decode cX9_writeFlight 108 = .ok (.pop, 1) := by decide +kernel
theorem dX9_writeFlight_109 : decode cX9_writeFlight 109 = .ok (.return_, 1) := by decide +kernel
theorem dX9_refusalOf_0 : decode cX9_refusalOf 0 = .ok (.aload_n 0, 1) := by decide +kernel
theorem dX9_refusalOf_1 : decode cX9_refusalOf 1 = .ok (.getfield 32, 3) := by decide +kernel
theorem dX9_refusalOf_4 : decode cX9_refusalOf 4 = .ok (.getfield 446, 3) := by decide +kernel
theorem dX9_refusalOf_7 : decode cX9_refusalOf 7 = .ok (.iload_n 1, 1) := by decide +kernel
theorem dX9_refusalOf_8 : decode cX9_refusalOf 8 = .ok (.aaload, 1) := by decide +kernel
theorem dX9_refusalOf_9 : decode cX9_refusalOf 9 = .ok (.astore_n 2, 1) := by decide +kernel
theorem dX9_refusalOf_10 : decode cX9_refusalOf 10 = .ok (.aload_n 0, 1) := by decide +kernel
theorem dX9_refusalOf_11 : decode cX9_refusalOf 11 = .ok (.getfield 32, 3) := by decide +kernel
theorem dX9_refusalOf_14 : decode cX9_refusalOf 14 = .ok (.getfield 450, 3) := by decide +kernel
theorem dX9_refusalOf_17 : decode cX9_refusalOf 17 = .ok (.iload_n 1, 1) := by decide +kernel
theorem dX9_refusalOf_18 : decode cX9_refusalOf 18 = .ok (.iaload, 1) := by decide +kernel
theorem dX9_refusalOf_19 : decode cX9_refusalOf 19 = .ok (.tableswitch 160 0 7 #[45, 59, 70, 87, 107, 118, 129, 146], 45) := by decide +kernel
theorem dX9_refusalOf_64 : decode cX9_refusalOf 64 = .ok (.aload_n 0, 1) := by decide +kernel
theorem dX9_refusalOf_65 : decode cX9_refusalOf 65 = .ok (.getfield 10, 3) := by decide +kernel
theorem dX9_refusalOf_68 : decode cX9_refusalOf 68 = .ok (.aload_n 2, 1) := by decide +kernel
theorem dX9_refusalOf_69 : decode cX9_refusalOf 69 = .ok (.iconst 0, 1) := by decide +kernel
theorem dX9_refusalOf_70 : decode cX9_refusalOf 70 = .ok (.iaload, 1) := by decide +kernel
theorem dX9_refusalOf_71 : decode cX9_refusalOf 71 = .ok (.aload_n 2, 1) := by decide +kernel
theorem dX9_refusalOf_72 : decode cX9_refusalOf 72 = .ok (.iconst 1, 1) := by decide +kernel
theorem dX9_refusalOf_73 : decode cX9_refusalOf 73 = .ok (.iaload, 1) := by decide +kernel
theorem dX9_refusalOf_74 : decode cX9_refusalOf 74 = .ok (.invokevirtual 54, 3) := by decide +kernel
theorem dX9_refusalOf_77 : decode cX9_refusalOf 77 = .ok (.areturn, 1) := by decide +kernel
theorem dX9_refusalOf_78 : decode cX9_refusalOf 78 = .ok (.aload_n 0, 1) := by decide +kernel
theorem dX9_refusalOf_79 : decode cX9_refusalOf 79 = .ok (.getfield 10, 3) := by decide +kernel
theorem dX9_refusalOf_82 : decode cX9_refusalOf 82 = .ok (.aload_n 2, 1) := by decide +kernel
theorem dX9_refusalOf_83 : decode cX9_refusalOf 83 = .ok (.iconst 0, 1) := by decide +kernel
theorem dX9_refusalOf_84 : decode cX9_refusalOf 84 = .ok (.iaload, 1) := by decide +kernel
theorem dX9_refusalOf_85 : decode cX9_refusalOf 85 = .ok (.invokevirtual 76, 3) := by decide +kernel
theorem dX9_refusalOf_88 : decode cX9_refusalOf 88 = .ok (.areturn, 1) := by decide +kernel
theorem dX9_refusalOf_89 : decode cX9_refusalOf 89 = .ok (.aload_n 0, 1) := by decide +kernel
theorem dX9_refusalOf_90 : decode cX9_refusalOf 90 = .ok (.getfield 10, 3) := by decide +kernel
theorem dX9_refusalOf_93 : decode cX9_refusalOf 93 = .ok (.aload_n 2, 1) := by decide +kernel
theorem dX9_refusalOf_94 : decode cX9_refusalOf 94 = .ok (.iconst 0, 1) := by decide +kernel
theorem dX9_refusalOf_95 : decode cX9_refusalOf 95 = .ok (.iaload, 1) := by decide +kernel
theorem dX9_refusalOf_96 : decode cX9_refusalOf 96 = .ok (.aload_n 2, 1) := by decide +kernel
theorem dX9_refusalOf_97 : decode cX9_refusalOf 97 = .ok (.iconst 1, 1) := by decide +kernel
theorem dX9_refusalOf_98 : decode cX9_refusalOf 98 = .ok (.iaload, 1) := by decide +kernel
theorem dX9_refusalOf_99 : decode cX9_refusalOf 99 = .ok (.aload_n 2, 1) := by decide +kernel
theorem dX9_refusalOf_100 : decode cX9_refusalOf 100 = .ok (.iconst 2, 1) := by decide +kernel
theorem dX9_refusalOf_101 : decode cX9_refusalOf 101 = .ok (.iaload, 1) := by decide +kernel
theorem dX9_refusalOf_102 : decode cX9_refusalOf 102 = .ok (.invokevirtual 99, 3) := by decide +kernel
theorem dX9_refusalOf_105 : decode cX9_refusalOf 105 = .ok (.areturn, 1) := by decide +kernel
theorem dX9_refusalOf_106 : decode cX9_refusalOf 106 = .ok (.aload_n 0, 1) := by decide +kernel
theorem dX9_refusalOf_107 : decode cX9_refusalOf 107 = .ok (.getfield 10, 3) := by decide +kernel
theorem dX9_refusalOf_110 : decode cX9_refusalOf 110 = .ok (.aload_n 2, 1) := by decide +kernel
theorem dX9_refusalOf_111 : decode cX9_refusalOf 111 = .ok (.iconst 0, 1) := by decide +kernel
theorem dX9_refusalOf_112 : decode cX9_refusalOf 112 = .ok (.iaload, 1) := by decide +kernel
theorem dX9_refusalOf_113 : decode cX9_refusalOf 113 = .ok (.aload_n 2, 1) := by decide +kernel
theorem dX9_refusalOf_114 : decode cX9_refusalOf 114 = .ok (.iconst 1, 1) := by decide +kernel
theorem dX9_refusalOf_115 : decode cX9_refusalOf 115 = .ok (.iaload, 1) := by decide +kernel
theorem dX9_refusalOf_116 : decode cX9_refusalOf 116 = .ok (.aload_n 2, 1) := by decide +kernel
theorem dX9_refusalOf_117 : decode cX9_refusalOf 117 = .ok (.iconst 2, 1) := by decide +kernel
theorem dX9_refusalOf_118 : decode cX9_refusalOf 118 = .ok (.iaload, 1) := by decide +kernel
theorem dX9_refusalOf_119 : decode cX9_refusalOf 119 = .ok (.aload_n 2, 1) := by decide +kernel
theorem dX9_refusalOf_120 : decode cX9_refusalOf 120 = .ok (.iconst 3, 1) := by decide +kernel
theorem dX9_refusalOf_121 : decode cX9_refusalOf 121 = .ok (.iaload, 1) := by decide +kernel
theorem dX9_refusalOf_122 : decode cX9_refusalOf 122 = .ok (.invokevirtual 121, 3) := by decide +kernel
theorem dX9_refusalOf_125 : decode cX9_refusalOf 125 = .ok (.areturn, 1) := by decide +kernel
theorem dX9_refusalOf_126 : decode cX9_refusalOf 126 = .ok (.aload_n 0, 1) := by decide +kernel
theorem dX9_refusalOf_127 : decode cX9_refusalOf 127 = .ok (.getfield 10, 3) := by decide +kernel
theorem dX9_refusalOf_130 : decode cX9_refusalOf 130 = .ok (.aload_n 2, 1) := by decide +kernel
theorem dX9_refusalOf_131 : decode cX9_refusalOf 131 = .ok (.iconst 0, 1) := by decide +kernel
theorem dX9_refusalOf_132 : decode cX9_refusalOf 132 = .ok (.iaload, 1) := by decide +kernel
theorem dX9_refusalOf_133 : decode cX9_refusalOf 133 = .ok (.invokevirtual 135, 3) := by decide +kernel
theorem dX9_refusalOf_136 : decode cX9_refusalOf 136 = .ok (.areturn, 1) := by decide +kernel
theorem dX9_refusalOf_137 : decode cX9_refusalOf 137 = .ok (.aload_n 0, 1) := by decide +kernel
theorem dX9_refusalOf_138 : decode cX9_refusalOf 138 = .ok (.getfield 10, 3) := by decide +kernel
theorem dX9_refusalOf_141 : decode cX9_refusalOf 141 = .ok (.aload_n 2, 1) := by decide +kernel
theorem dX9_refusalOf_142 : decode cX9_refusalOf 142 = .ok (.iconst 0, 1) := by decide +kernel
theorem dX9_refusalOf_143 : decode cX9_refusalOf 143 = .ok (.iaload, 1) := by decide +kernel
theorem dX9_refusalOf_144 : decode cX9_refusalOf 144 = .ok (.invokevirtual 141, 3) := by decide +kernel
theorem dX9_refusalOf_147 : decode cX9_refusalOf 147 = .ok (.areturn, 1) := by decide +kernel
theorem dX9_refusalOf_148 : decode cX9_refusalOf 148 = .ok (.aload_n 0, 1) := by decide +kernel
theorem dX9_refusalOf_149 : decode cX9_refusalOf 149 = .ok (.getfield 10, 3) := by decide +kernel
theorem dX9_refusalOf_152 : decode cX9_refusalOf 152 = .ok (.aload_n 2, 1) := by decide +kernel
theorem dX9_refusalOf_153 : decode cX9_refusalOf 153 = .ok (.iconst 0, 1) := by decide +kernel
theorem dX9_refusalOf_154 : decode cX9_refusalOf 154 = .ok (.iaload, 1) := by decide +kernel
theorem dX9_refusalOf_155 : decode cX9_refusalOf 155 = .ok (.aload_n 2, 1) := by decide +kernel
theorem dX9_refusalOf_156 : decode cX9_refusalOf 156 = .ok (.iconst 1, 1) := by decide +kernel
theorem dX9_refusalOf_157 : decode cX9_refusalOf 157 = .ok (.iaload, 1) := by decide +kernel
theorem dX9_refusalOf_158 : decode cX9_refusalOf 158 = .ok (.aload_n 2, 1) := by decide +kernel
theorem dX9_refusalOf_159 : decode cX9_refusalOf 159 = .ok (.iconst 2, 1) := by decide +kernel
theorem dX9_refusalOf_160 : decode cX9_refusalOf 160 = .ok (.iaload, 1) := by decide +kernel
theorem dX9_refusalOf_161 : decode cX9_refusalOf 161 = .ok (.invokevirtual 147, 3) := by decide +kernel
theorem dX9_refusalOf_164 : decode cX9_refusalOf 164 = .ok (.areturn, 1) := by decide +kernel
theorem dX9_refusalOf_165 : decode cX9_refusalOf 165 = .ok (.aload_n 0, 1) := by decide +kernel
theorem dX9_refusalOf_166 : decode cX9_refusalOf 166 = .ok (.getfield 10, 3) := by decide +kernel
theorem dX9_refusalOf_169 : decode cX9_refusalOf 169 = .ok (.aload_n 2, 1) := by decide +kernel
theorem dX9_refusalOf_170 : decode cX9_refusalOf 170 = .ok (.iconst 0, 1) := by decide +kernel
theorem dX9_refusalOf_171 : decode cX9_refusalOf 171 = .ok (.iaload, 1) := by decide +kernel
theorem dX9_refusalOf_172 : decode cX9_refusalOf 172 = .ok (.aload_n 2, 1) := by decide +kernel
theorem dX9_refusalOf_173 : decode cX9_refusalOf 173 = .ok (.iconst 1, 1) := by decide +kernel
theorem dX9_refusalOf_174 : decode cX9_refusalOf 174 = .ok (.iaload, 1) := by decide +kernel
theorem dX9_refusalOf_175 : decode cX9_refusalOf 175 = .ok (.invokevirtual 153, 3) := by decide +kernel
theorem dX9_refusalOf_178 : decode cX9_refusalOf 178 = .ok (.areturn, 1) := by decide +kernel
theorem dX9_refusalOf_179 : decode cX9_refusalOf 179 = .ok (.aload_n 0, 1) := by decide +kernel
theorem dX9_refusalOf_180 : decode cX9_refusalOf 180 = .ok (.getfield 10, 3) := by decide +kernel
theorem dX9_refusalOf_183 : decode cX9_refusalOf 183 = .ok (.invokevirtual 159, 3) := by decide +kernel
theorem dX9_refusalOf_186 : decode cX9_refusalOf 186 = .ok (.areturn, 1) := by decide +kernel
theorem dX9_carryOut_0 : decode cX9_carryOut 0 = .ok (.aload_n 0, 1) := by decide +kernel
theorem dX9_carryOut_1 : decode cX9_carryOut 1 = .ok (.getfield 32, 3) := by decide +kernel
theorem dX9_carryOut_4 : decode cX9_carryOut 4 = .ok (.getfield 446, 3) := by decide +kernel
theorem dX9_carryOut_7 : decode cX9_carryOut 7 = .ok (.iload_n 1, 1) := by decide +kernel
theorem dX9_carryOut_8 : decode cX9_carryOut 8 = .ok (.aaload, 1) := by decide +kernel
theorem dX9_carryOut_9 : decode cX9_carryOut 9 = .ok (.astore_n 2, 1) := by decide +kernel
theorem dX9_carryOut_10 : decode cX9_carryOut 10 = .ok (.aload_n 0, 1) := by decide +kernel
theorem dX9_carryOut_11 : decode cX9_carryOut 11 = .ok (.getfield 32, 3) := by decide +kernel
theorem dX9_carryOut_14 : decode cX9_carryOut 14 = .ok (.getfield 450, 3) := by decide +kernel
theorem dX9_carryOut_17 : decode cX9_carryOut 17 = .ok (.iload_n 1, 1) := by decide +kernel
theorem dX9_carryOut_18 : decode cX9_carryOut 18 = .ok (.iaload, 1) := by decide +kernel
theorem dX9_carryOut_19 : decode cX9_carryOut 19 = .ok (.tableswitch 196 0 7 #[45, 65, 82, 105, 131, 145, 159, 179], 45) := by decide +kernel
theorem dX9_carryOut_64 : decode cX9_carryOut 64 = .ok (.aload_n 0, 1) := by decide +kernel
theorem dX9_carryOut_65 : decode cX9_carryOut 65 = .ok (.getfield 10, 3) := by decide +kernel
theorem dX9_carryOut_68 : decode cX9_carryOut 68 = .ok (.getfield 66, 3) := by decide +kernel
theorem dX9_carryOut_71 : decode cX9_carryOut 71 = .ok (.aload_n 2, 1) := by decide +kernel
theorem dX9_carryOut_72 : decode cX9_carryOut 72 = .ok (.iconst 0, 1) := by decide +kernel
theorem dX9_carryOut_73 : decode cX9_carryOut 73 = .ok (.iaload, 1) := by decide +kernel
theorem dX9_carryOut_74 : decode cX9_carryOut 74 = .ok (.aload_n 2, 1) := by decide +kernel
theorem dX9_carryOut_75 : decode cX9_carryOut 75 = .ok (.iconst 1, 1) := by decide +kernel
theorem dX9_carryOut_76 : decode cX9_carryOut 76 = .ok (.iaload, 1) := by decide +kernel
theorem dX9_carryOut_77 : decode cX9_carryOut 77 = .ok (.invokevirtual 70, 3) := by decide +kernel
theorem dX9_carryOut_80 : decode cX9_carryOut 80 = .ok (.pop, 1) := by decide +kernel
theorem dX9_carryOut_81 : decode cX9_carryOut 81 = .ok (.goto 142, 3) := by decide +kernel
theorem dX9_carryOut_84 : decode cX9_carryOut 84 = .ok (.aload_n 0, 1) := by decide +kernel
theorem dX9_carryOut_85 : decode cX9_carryOut 85 = .ok (.getfield 10, 3) := by decide +kernel
theorem dX9_carryOut_88 : decode cX9_carryOut 88 = .ok (.getfield 66, 3) := by decide +kernel
theorem dX9_carryOut_91 : decode cX9_carryOut 91 = .ok (.aload_n 2, 1) := by decide +kernel
theorem dX9_carryOut_92 : decode cX9_carryOut 92 = .ok (.iconst 0, 1) := by decide +kernel
theorem dX9_carryOut_93 : decode cX9_carryOut 93 = .ok (.iaload, 1) := by decide +kernel
theorem dX9_carryOut_94 : decode cX9_carryOut 94 = .ok (.invokevirtual 80, 3) := by decide +kernel
theorem dX9_carryOut_97 : decode cX9_carryOut 97 = .ok (.pop, 1) := by decide +kernel
theorem dX9_carryOut_98 : decode cX9_carryOut 98 = .ok (.goto 125, 3) := by decide +kernel
theorem dX9_carryOut_101 : decode cX9_carryOut 101 = .ok (.aload_n 0, 1) := by decide +kernel
theorem dX9_carryOut_102 : decode cX9_carryOut 102 = .ok (.getfield 10, 3) := by decide +kernel
theorem dX9_carryOut_105 : decode cX9_carryOut 105 = .ok (.getfield 103, 3) := by decide +kernel
theorem dX9_carryOut_108 : decode cX9_carryOut 108 = .ok (.aload_n 2, 1) := by decide +kernel
theorem dX9_carryOut_109 : decode cX9_carryOut 109 = .ok (.iconst 0, 1) := by decide +kernel
theorem dX9_carryOut_110 : decode cX9_carryOut 110 = .ok (.iaload, 1) := by decide +kernel
theorem dX9_carryOut_111 : decode cX9_carryOut 111 = .ok (.aload_n 2, 1) := by decide +kernel
theorem dX9_carryOut_112 : decode cX9_carryOut 112 = .ok (.iconst 1, 1) := by decide +kernel
theorem dX9_carryOut_113 : decode cX9_carryOut 113 = .ok (.iaload, 1) := by decide +kernel
theorem dX9_carryOut_114 : decode cX9_carryOut 114 = .ok (.aload_n 2, 1) := by decide +kernel
theorem dX9_carryOut_115 : decode cX9_carryOut 115 = .ok (.iconst 2, 1) := by decide +kernel
theorem dX9_carryOut_116 : decode cX9_carryOut 116 = .ok (.iaload, 1) := by decide +kernel
theorem dX9_carryOut_117 : decode cX9_carryOut 117 = .ok (.invokevirtual 107, 3) := by decide +kernel
theorem dX9_carryOut_120 : decode cX9_carryOut 120 = .ok (.pop, 1) := by decide +kernel
theorem dX9_carryOut_121 : decode cX9_carryOut 121 = .ok (.goto 102, 3) := by decide +kernel
theorem dX9_carryOut_124 : decode cX9_carryOut 124 = .ok (.aload_n 0, 1) := by decide +kernel
theorem dX9_carryOut_125 : decode cX9_carryOut 125 = .ok (.getfield 10, 3) := by decide +kernel
theorem dX9_carryOut_128 : decode cX9_carryOut 128 = .ok (.getfield 125, 3) := by decide +kernel
theorem dX9_carryOut_131 : decode cX9_carryOut 131 = .ok (.aload_n 2, 1) := by decide +kernel
theorem dX9_carryOut_132 : decode cX9_carryOut 132 = .ok (.iconst 0, 1) := by decide +kernel
theorem dX9_carryOut_133 : decode cX9_carryOut 133 = .ok (.iaload, 1) := by decide +kernel
theorem dX9_carryOut_134 : decode cX9_carryOut 134 = .ok (.aload_n 2, 1) := by decide +kernel
theorem dX9_carryOut_135 : decode cX9_carryOut 135 = .ok (.iconst 1, 1) := by decide +kernel
theorem dX9_carryOut_136 : decode cX9_carryOut 136 = .ok (.iaload, 1) := by decide +kernel
theorem dX9_carryOut_137 : decode cX9_carryOut 137 = .ok (.aload_n 2, 1) := by decide +kernel
theorem dX9_carryOut_138 : decode cX9_carryOut 138 = .ok (.iconst 2, 1) := by decide +kernel
theorem dX9_carryOut_139 : decode cX9_carryOut 139 = .ok (.iaload, 1) := by decide +kernel
theorem dX9_carryOut_140 : decode cX9_carryOut 140 = .ok (.aload_n 2, 1) := by decide +kernel
theorem dX9_carryOut_141 : decode cX9_carryOut 141 = .ok (.iconst 3, 1) := by decide +kernel
theorem dX9_carryOut_142 : decode cX9_carryOut 142 = .ok (.iaload, 1) := by decide +kernel
theorem dX9_carryOut_143 : decode cX9_carryOut 143 = .ok (.invokevirtual 129, 3) := by decide +kernel
theorem dX9_carryOut_146 : decode cX9_carryOut 146 = .ok (.pop, 1) := by decide +kernel
theorem dX9_carryOut_147 : decode cX9_carryOut 147 = .ok (.goto 76, 3) := by decide +kernel
theorem dX9_carryOut_150 : decode cX9_carryOut 150 = .ok (.aload_n 0, 1) := by decide +kernel
theorem dX9_carryOut_151 : decode cX9_carryOut 151 = .ok (.getfield 10, 3) := by decide +kernel
theorem dX9_carryOut_154 : decode cX9_carryOut 154 = .ok (.aload_n 2, 1) := by decide +kernel
theorem dX9_carryOut_155 : decode cX9_carryOut 155 = .ok (.iconst 0, 1) := by decide +kernel
theorem dX9_carryOut_156 : decode cX9_carryOut 156 = .ok (.iaload, 1) := by decide +kernel
theorem dX9_carryOut_157 : decode cX9_carryOut 157 = .ok (.invokevirtual 138, 3) := by decide +kernel
theorem dX9_carryOut_160 : decode cX9_carryOut 160 = .ok (.pop, 1) := by decide +kernel
theorem dX9_carryOut_161 : decode cX9_carryOut 161 = .ok (.goto 62, 3) := by decide +kernel
theorem dX9_carryOut_164 : decode cX9_carryOut 164 = .ok (.aload_n 0, 1) := by decide +kernel
theorem dX9_carryOut_165 : decode cX9_carryOut 165 = .ok (.getfield 10, 3) := by decide +kernel
theorem dX9_carryOut_168 : decode cX9_carryOut 168 = .ok (.aload_n 2, 1) := by decide +kernel
theorem dX9_carryOut_169 : decode cX9_carryOut 169 = .ok (.iconst 0, 1) := by decide +kernel
theorem dX9_carryOut_170 : decode cX9_carryOut 170 = .ok (.iaload, 1) := by decide +kernel
theorem dX9_carryOut_171 : decode cX9_carryOut 171 = .ok (.invokevirtual 144, 3) := by decide +kernel
theorem dX9_carryOut_174 : decode cX9_carryOut 174 = .ok (.pop, 1) := by decide +kernel
theorem dX9_carryOut_175 : decode cX9_carryOut 175 = .ok (.goto 48, 3) := by decide +kernel
theorem dX9_carryOut_178 : decode cX9_carryOut 178 = .ok (.aload_n 0, 1) := by decide +kernel
theorem dX9_carryOut_179 : decode cX9_carryOut 179 = .ok (.getfield 10, 3) := by decide +kernel
theorem dX9_carryOut_182 : decode cX9_carryOut 182 = .ok (.aload_n 2, 1) := by decide +kernel
theorem dX9_carryOut_183 : decode cX9_carryOut 183 = .ok (.iconst 0, 1) := by decide +kernel
theorem dX9_carryOut_184 : decode cX9_carryOut 184 = .ok (.iaload, 1) := by decide +kernel
theorem dX9_carryOut_185 : decode cX9_carryOut 185 = .ok (.aload_n 2, 1) := by decide +kernel
theorem dX9_carryOut_186 : decode cX9_carryOut 186 = .ok (.iconst 1, 1) := by decide +kernel
theorem dX9_carryOut_187 : decode cX9_carryOut 187 = .ok (.iaload, 1) := by decide +kernel
theorem dX9_carryOut_188 : decode cX9_carryOut 188 = .ok (.aload_n 2, 1) := by decide +kernel
theorem dX9_carryOut_189 : decode cX9_carryOut 189 = .ok (.iconst 2, 1) := by decide +kernel
theorem dX9_carryOut_190 : decode cX9_carryOut 190 = .ok (.iaload, 1) := by decide +kernel
theorem dX9_carryOut_191 : decode cX9_carryOut 191 = .ok (.invokevirtual 150, 3) := by decide +kernel
theorem dX9_carryOut_194 : decode cX9_carryOut 194 = .ok (.pop, 1) := by decide +kernel
theorem dX9_carryOut_195 : decode cX9_carryOut 195 = .ok (.goto 28, 3) := by decide +kernel
theorem dX9_carryOut_198 : decode cX9_carryOut 198 = .ok (.aload_n 0, 1) := by decide +kernel
theorem dX9_carryOut_199 : decode cX9_carryOut 199 = .ok (.getfield 10, 3) := by decide +kernel
theorem dX9_carryOut_202 : decode cX9_carryOut 202 = .ok (.aload_n 2, 1) := by decide +kernel
theorem dX9_carryOut_203 : decode cX9_carryOut 203 = .ok (.iconst 0, 1) := by decide +kernel
theorem dX9_carryOut_204 : decode cX9_carryOut 204 = .ok (.iaload, 1) := by decide +kernel
theorem dX9_carryOut_205 : decode cX9_carryOut 205 = .ok (.aload_n 2, 1) := by decide +kernel
theorem dX9_carryOut_206 : decode cX9_carryOut 206 = .ok (.iconst 1, 1) := by decide +kernel
theorem dX9_carryOut_207 : decode cX9_carryOut 207 = .ok (.iaload, 1) := by decide +kernel
theorem dX9_carryOut_208 : decode cX9_carryOut 208 = .ok (.invokevirtual 156, 3) := by decide +kernel
theorem dX9_carryOut_211 : decode cX9_carryOut 211 = .ok (.pop, 1) := by decide +kernel
theorem dX9_carryOut_212 : decode cX9_carryOut 212 = .ok (.goto 11, 3) := by decide +kernel
theorem dX9_carryOut_215 : decode cX9_carryOut 215 = .ok (.aload_n 0, 1) := by decide +kernel
theorem dX9_carryOut_216 : decode cX9_carryOut 216 = .ok (.getfield 10, 3) := by decide +kernel
theorem dX9_carryOut_219 : decode cX9_carryOut 219 = .ok (.invokevirtual 163, 3) := by decide +kernel
theorem dX9_carryOut_222 : decode cX9_carryOut 222 = .ok (.pop, 1) := by decide +kernel
theorem dX9_carryOut_223 : decode cX9_carryOut 223 = .ok (.return_, 1) := by decide +kernel
theorem dX9_quotient_0 : decode cX9_quotient 0 = .ok (.iload_n 1, 1) := by decide +kernel
theorem dX9_quotient_1 : decode cX9_quotient 1 = .ok (.ifCond .le 9, 3) := by decide +kernel
theorem dX9_quotient_4 : decode cX9_quotient 4 = .ok (.iload_n 0, 1) := by decide +kernel
theorem dX9_quotient_5 : decode cX9_quotient 5 = .ok (.iload_n 1, 1) := by decide +kernel
theorem dX9_quotient_6 : decode cX9_quotient 6 = .ok (.idiv, 1) := by decide +kernel
theorem dX9_quotient_7 : decode cX9_quotient 7 = .ok (.goto 4, 3) := by decide +kernel
theorem dX9_quotient_10 : decode cX9_quotient 10 = .ok (.iconst 0, 1) := by decide +kernel
theorem dX9_quotient_11 : decode cX9_quotient 11 = .ok (.ireturn, 1) := by decide +kernel
theorem dX9_eastward_0 : decode cX9_eastward 0 = .ok (.iload_n 0, 1) := by decide +kernel
theorem dX9_eastward_1 : decode cX9_eastward 1 = .ok (.iconst 1, 1) := by decide +kernel
theorem dX9_eastward_2 : decode cX9_eastward 2 = .ok (.if_icmp .ne 5, 3) := by decide +kernel
theorem dX9_eastward_5 : decode cX9_eastward 5 = .ok (.iconst 1, 1) := by decide +kernel
theorem dX9_eastward_6 : decode cX9_eastward 6 = .ok (.ireturn, 1) := by decide +kernel
theorem dX9_eastward_7 : decode cX9_eastward 7 = .ok (.iload_n 0, 1) := by decide +kernel
theorem dX9_eastward_8 : decode cX9_eastward 8 = .ok (.iconst 3, 1) := by decide +kernel
theorem dX9_eastward_9 : decode cX9_eastward 9 = .ok (.if_icmp .ne 7, 3) := by decide +kernel
theorem dX9_eastward_12 : decode cX9_eastward 12 = .ok (.iconst (-1), 1) := by decide +kernel
theorem dX9_eastward_13 : decode cX9_eastward 13 = .ok (.goto 4, 3) := by decide +kernel
theorem dX9_eastward_16 : decode cX9_eastward 16 = .ok (.iconst 0, 1) := by decide +kernel
theorem dX9_eastward_17 : decode cX9_eastward 17 = .ok (.ireturn, 1) := by decide +kernel
theorem dX9_northward_0 : decode cX9_northward 0 = .ok (.iload_n 0, 1) := by decide +kernel
theorem dX9_northward_1 : decode cX9_northward 1 = .ok (.ifCond .ne 5, 3) := by decide +kernel
theorem dX9_northward_4 : decode cX9_northward 4 = .ok (.iconst 1, 1) := by decide +kernel
theorem dX9_northward_5 : decode cX9_northward 5 = .ok (.ireturn, 1) := by decide +kernel
theorem dX9_northward_6 : decode cX9_northward 6 = .ok (.iload_n 0, 1) := by decide +kernel
theorem dX9_northward_7 : decode cX9_northward 7 = .ok (.iconst 2, 1) := by decide +kernel
theorem dX9_northward_8 : decode cX9_northward 8 = .ok (.if_icmp .ne 7, 3) := by decide +kernel
theorem dX9_northward_11 : decode cX9_northward 11 = .ok (.iconst (-1), 1) := by decide +kernel
theorem dX9_northward_12 : decode cX9_northward 12 = .ok (.goto 4, 3) := by decide +kernel
theorem dX9_northward_15 : decode cX9_northward 15 = .ok (.iconst 0, 1) := by decide +kernel
theorem dX9_northward_16 : decode cX9_northward 16 = .ok (.ireturn, 1) := by decide +kernel
theorem dX10_init_0 : decode cX10_init 0 = .ok (.aload_n 0, 1) := by decide +kernel
theorem dX10_init_1 : decode cX10_init 1 = .ok (.invokespecial 3, 3) := by decide +kernel
theorem dX10_init_4 : decode cX10_init 4 = .ok (.aload_n 0, 1) := by decide +kernel
theorem dX10_init_5 : decode cX10_init 5 = .ok (.bipush 113, 2) := by decide +kernel
theorem dX10_init_7 : decode cX10_init 7 = .ok (.newarray .int, 2) := by decide +kernel
theorem dX10_init_9 : decode cX10_init 9 = .ok (.putfield 9, 3) := by decide +kernel
theorem dX10_init_12 : decode cX10_init 12 = .ok (.aload_n 0, 1) := by decide +kernel
theorem dX10_init_13 : decode cX10_init 13 = .ok (.bipush 113, 2) := by decide +kernel
theorem dX10_init_15 : decode cX10_init 15 = .ok (.newarray .int, 2) := by decide +kernel
theorem dX10_init_17 : decode cX10_init 17 = .ok (.putfield 13, 3) := by decide +kernel
theorem dX10_init_20 : decode cX10_init 20 = .ok (.aload_n 0, 1) := by decide +kernel
theorem dX10_init_21 : decode cX10_init 21 = .ok (.bipush 113, 2) := by decide +kernel
theorem dX10_init_23 : decode cX10_init 23 = .ok (.newarray .int, 2) := by decide +kernel
theorem dX10_init_25 : decode cX10_init 25 = .ok (.putfield 16, 3) := by decide +kernel
theorem dX10_init_28 : decode cX10_init 28 = .ok (.aload_n 0, 1) := by decide +kernel
theorem dX10_init_29 : decode cX10_init 29 = .ok (.sipush 904, 3) := by decide +kernel
theorem dX10_init_32 : decode cX10_init 32 = .ok (.newarray .int, 2) := by decide +kernel
theorem dX10_init_34 : decode cX10_init 34 = .ok (.putfield 19, 3) := by decide +kernel
theorem dX10_init_37 : decode cX10_init 37 = .ok (.aload_n 0, 1) := by decide +kernel
theorem dX10_init_38 : decode cX10_init 38 = .ok (.iconst (-1), 1) := by decide +kernel
theorem dX10_init_39 : decode cX10_init 39 = .ok (.putfield 22, 3) := by decide +kernel
theorem dX10_init_42 : decode cX10_init 42 = .ok (.aload_n 0, 1) := by decide +kernel
theorem dX10_init_43 : decode cX10_init 43 = .ok (.iconst (-1), 1) := by decide +kernel
theorem dX10_init_44 : decode cX10_init 44 = .ok (.putfield 26, 3) := by decide +kernel
theorem dX10_init_47 : decode cX10_init 47 = .ok (.aload_n 0, 1) := by decide +kernel
theorem dX10_init_48 : decode cX10_init 48 = .ok (.bipush 6, 2) := by decide +kernel
theorem dX10_init_50 : decode cX10_init 50 = .ok (.newarray .int, 2) := by decide +kernel
theorem dX10_init_52 : decode cX10_init 52 = .ok (.putfield 29, 3) := by decide +kernel
theorem dX10_init_55 : decode cX10_init 55 = .ok (.aload_n 0, 1) := by decide +kernel
theorem dX10_init_56 : decode cX10_init 56 = .ok (.bipush 80, 2) := by decide +kernel
theorem dX10_init_58 : decode cX10_init 58 = .ok (.newarray .int, 2) := by decide +kernel
theorem dX10_init_60 : decode cX10_init 60 = .ok (.putfield 32, 3) := by decide +kernel
theorem dX10_init_63 : decode cX10_init 63 = .ok (.aload_n 0, 1) := by decide +kernel
theorem dX10_init_64 : decode cX10_init 64 = .ok (.bipush 60, 2) := by decide +kernel
theorem dX10_init_66 : decode cX10_init 66 = .ok (.newarray .int, 2) := by decide +kernel
theorem dX10_init_68 : decode cX10_init 68 = .ok (.putfield 35, 3) := by decide +kernel
theorem dX10_init_71 : decode cX10_init 71 = .ok (.aload_n 0, 1) := by decide +kernel
theorem dX10_init_72 : decode cX10_init 72 = .ok (.sipush 155, 3) := by decide +kernel
theorem dX10_init_75 : decode cX10_init 75 = .ok (.newarray .int, 2) := by decide +kernel
theorem dX10_init_77 : decode cX10_init 77 = .ok (.putfield 38, 3) := by decide +kernel
theorem dX10_init_80 : decode cX10_init 80 = .ok (.aload_n 0, 1) := by decide +kernel
theorem dX10_init_81 : decode cX10_init 81 = .ok (.getfield 9, 3) := by decide +kernel
theorem dX10_init_84 : decode cX10_init 84 = .ok (.iconst 5, 1) := by decide +kernel
theorem dX10_init_85 : decode cX10_init 85 = .ok (.sipush 1500, 3) := by decide +kernel
theorem dX10_init_88 : decode cX10_init 88 = .ok (.iastore, 1) := by decide +kernel
theorem dX10_init_89 : decode cX10_init 89 = .ok (.return_, 1) := by decide +kernel
theorem dX10_thrown_0 : decode cX10_thrown 0 = .ok (.aload_n 0, 1) := by decide +kernel
theorem dX10_thrown_1 : decode cX10_thrown 1 = .ok (.getfield 41, 3) := by decide +kernel
theorem dX10_thrown_4 : decode cX10_thrown 4 = .ok (.ireturn, 1) := by decide +kernel
theorem dX10_isIn_0 : decode cX10_isIn 0 = .ok (.iload_n 0, 1) := by decide +kernel
theorem dX10_isIn_1 : decode cX10_isIn 1 = .ok (.iload_n 1, 1) := by decide +kernel
theorem dX10_isIn_2 : decode cX10_isIn 2 = .ok (.if_icmp .lt 12, 3) := by decide +kernel
theorem dX10_isIn_5 : decode cX10_isIn 5 = .ok (.iload_n 0, 1) := by decide +kernel
theorem dX10_isIn_6 : decode cX10_isIn 6 = .ok (.iload_n 2, 1) := by decide +kernel
theorem dX10_isIn_7 : decode cX10_isIn 7 = .ok (.if_icmp .gt 7, 3) := by decide +kernel
theorem dX10_isIn_10 : decode cX10_isIn 10 = .ok (.iconst 1, 1) := by decide +kernel
theorem dX10_isIn_11 : decode cX10_isIn 11 = .ok (.goto 4, 3) := by decide +kernel
theorem dX10_isIn_14 : decode cX10_isIn 14 = .ok (.iconst 0, 1) := by decide +kernel
theorem dX10_isIn_15 : decode cX10_isIn 15 = .ok (.ireturn, 1) := by decide +kernel
theorem dX10_between_0 : decode cX10_between 0 = .ok (.iload_n 0, 1) := by decide +kernel
theorem dX10_between_1 : decode cX10_between 1 = .ok (.iload_n 1, 1) := by decide +kernel
theorem dX10_between_2 : decode cX10_between 2 = .ok (.if_icmp .le 9, 3) := by decide +kernel
theorem dX10_between_5 : decode cX10_between 5 = .ok (.iload_n 0, 1) := by decide +kernel
theorem dX10_between_6 : decode cX10_between 6 = .ok (.iload_n 1, 1) := by decide +kernel
theorem dX10_between_7 : decode cX10_between 7 = .ok (.isub, 1) := by decide +kernel
theorem dX10_between_8 : decode cX10_between 8 = .ok (.goto 6, 3) := by decide +kernel
theorem dX10_between_11 : decode cX10_between 11 = .ok (.iload_n 1, 1) := by decide +kernel
theorem dX10_between_12 : decode cX10_between 12 = .ok (.iload_n 0, 1) := by decide +kernel
theorem dX10_between_13 : decode cX10_between 13 = .ok (.isub, 1) := by decide +kernel
theorem dX10_between_14 : decode cX10_between 14 = .ok (.ireturn, 1) := by decide +kernel
theorem dX10_copies_0 : decode cX10_copies 0 = .ok (.iconst 0, 1) := by decide +kernel
theorem dX10_copies_1 : decode cX10_copies 1 = .ok (.istore 4, 2) := by decide +kernel
theorem dX10_copies_3 : decode cX10_copies 3 = .ok (.iload 4, 2) := by decide +kernel
theorem dX10_copies_5 : decode cX10_copies 5 = .ok (.bipush 113, 2) := by decide +kernel
theorem dX10_copies_7 : decode cX10_copies 7 = .ok (.if_icmp .ge 21, 3) := by decide +kernel
theorem dX10_copies_10 : decode cX10_copies 10 = .ok (.aload_n 2, 1) := by decide +kernel
theorem dX10_copies_11 : decode cX10_copies 11 = .ok (.iload_n 3, 1) := by decide +kernel
theorem dX10_copies_12 : decode cX10_copies 12 = .ok (.iload 4, 2) := by decide +kernel
theorem dX10_copies_14 : decode cX10_copies 14 = .ok (.iadd, 1) := by decide +kernel
theorem dX10_copies_15 : decode cX10_copies 15 = .ok (.aload_n 0, 1) := by decide +kernel
theorem dX10_copies_16 : decode cX10_copies 16 = .ok (.iload_n 1, 1) := by decide +kernel
theorem dX10_copies_17 : decode cX10_copies 17 = .ok (.iload 4, 2) := by decide +kernel
theorem dX10_copies_19 : decode cX10_copies 19 = .ok (.iadd, 1) := by decide +kernel
theorem dX10_copies_20 : decode cX10_copies 20 = .ok (.iaload, 1) := by decide +kernel
theorem dX10_copies_21 : decode cX10_copies 21 = .ok (.iastore, 1) := by decide +kernel
theorem dX10_copies_22 : decode cX10_copies 22 = .ok (.iinc 4 1, 3) := by decide +kernel
theorem dX10_copies_25 : decode cX10_copies 25 = .ok (.goto (-22), 3) := by decide +kernel
theorem dX10_copies_28 : decode cX10_copies 28 = .ok (.return_, 1) := by decide +kernel
theorem dX10_keeps_0 : decode cX10_keeps 0 = .ok (.aload_n 0, 1) := by decide +kernel
theorem dX10_keeps_1 : decode cX10_keeps 1 = .ok (.getfield 9, 3) := by decide +kernel
theorem dX10_keeps_4 : decode cX10_keeps 4 = .ok (.iconst 0, 1) := by decide +kernel
theorem dX10_keeps_5 : decode cX10_keeps 5 = .ok (.aload_n 0, 1) := by decide +kernel
theorem dX10_keeps_6 : decode cX10_keeps 6 = .ok (.getfield 13, 3) := by decide +kernel
theorem dX10_keeps_9 : decode cX10_keeps 9 = .ok (.iconst 0, 1) := by decide +kernel
theorem dX10_keeps_10 : decode cX10_keeps 10 = .ok (.invokestatic 44, 3) := by decide +kernel
theorem dX10_keeps_13 : decode cX10_keeps 13 = .ok (.aload_n 0, 1) := by decide +kernel
theorem dX10_keeps_14 : decode cX10_keeps 14 = .ok (.iconst 0, 1) := by decide +kernel
theorem dX10_keeps_15 : decode cX10_keeps 15 = .ok (.putfield 41, 3) := by decide +kernel
theorem dX10_keeps_18 : decode cX10_keeps 18 = .ok (.return_, 1) := by decide +kernel
theorem dX10_ends_0 : decode cX10_ends 0 = .ok (.aload_n 0, 1) := by decide +kernel
theorem dX10_ends_1 : decode cX10_ends 1 = .ok (.getfield 41, 3) := by decide +kernel
theorem dX10_ends_4 : decode cX10_ends 4 = .ok (.ifCond .eq 5, 3) := by decide +kernel
theorem dX10_ends_7 : decode cX10_ends 7 = .ok (.iconst 0, 1) := by decide +kernel
theorem dX10_ends_8 : decode cX10_ends 8 = .ok (.ireturn, 1) := by decide +kernel
theorem dX10_ends_9 : decode cX10_ends 9 = .ok (.aload_n 0, 1) := by decide +kernel
theorem dX10_ends_10 : decode cX10_ends 10 = .ok (.getfield 48, 3) := by decide +kernel
theorem dX10_ends_13 : decode cX10_ends 13 = .ok (.bipush 8, 2) := by decide +kernel
theorem dX10_ends_15 : decode cX10_ends 15 = .ok (.if_icmp .ne 48, 3) := by decide +kernel
theorem dX10_ends_18 : decode cX10_ends 18 = .ok (.iconst 1, 1) := by decide +kernel
theorem dX10_ends_19 : decode cX10_ends 19 = .ok (.istore_n 2, 1) := by decide +kernel
theorem dX10_ends_20 : decode cX10_ends 20 = .ok (.iload_n 2, 1) := by decide +kernel
theorem dX10_ends_21 : decode cX10_ends 21 = .ok (.bipush 8, 2) := by decide +kernel
theorem dX10_ends_23 : decode cX10_ends 23 = .ok (.if_icmp .ge 30, 3) := by decide +kernel
theorem dX10_ends_26 : decode cX10_ends 26 = .ok (.aload_n 0, 1) := by decide +kernel
theorem dX10_ends_27 : decode cX10_ends 27 = .ok (.getfield 19, 3) := by decide +kernel
theorem dX10_ends_30 : decode cX10_ends 30 = .ok (.bipush 113, 2) := by decide +kernel
theorem dX10_ends_32 : decode cX10_ends 32 = .ok (.iload_n 2, 1) := by decide +kernel
theorem dX10_ends_33 : decode cX10_ends 33 = .ok (.imul, 1) := by decide +kernel
theorem dX10_ends_34 : decode cX10_ends 34 = .ok (.aload_n 0, 1) := by decide +kernel
theorem dX10_ends_35 : decode cX10_ends 35 = .ok (.getfield 19, 3) := by decide +kernel
theorem dX10_ends_38 : decode cX10_ends 38 = .ok (.bipush 113, 2) := by decide +kernel
theorem dX10_ends_40 : decode cX10_ends 40 = .ok (.iload_n 2, 1) := by decide +kernel
theorem dX10_ends_41 : decode cX10_ends 41 = .ok (.iconst 1, 1) := by decide +kernel
theorem dX10_ends_42 : decode cX10_ends 42 = .ok (.isub, 1) := by decide +kernel
theorem dX10_ends_43 : decode cX10_ends 43 = .ok (.imul, 1) := by decide +kernel
theorem dX10_ends_44 : decode cX10_ends 44 = .ok (.invokestatic 44, 3) := by decide +kernel
theorem dX10_ends_47 : decode cX10_ends 47 = .ok (.iinc 2 1, 3) := by decide +kernel
theorem dX10_ends_50 : decode cX10_ends 50 = .ok (.goto (-30), 3) := by decide +kernel
theorem dX10_ends_53 : decode cX10_ends 53 = .ok (.aload_n 0, 1) := by decide +kernel
theorem dX10_ends_54 : decode cX10_ends 54 = .ok (.dup, 1) := by decide +kernel
theorem dX10_ends_55 : decode cX10_ends 55 = .ok (.getfield 48, 3) := by decide +kernel
theorem dX10_ends_58 : decode cX10_ends 58 = .ok (.iconst 1, 1) := by decide +kernel
theorem dX10_ends_59 : decode cX10_ends 59 = .ok (.isub, 1) := by decide +kernel
theorem dX10_ends_60 : decode cX10_ends 60 = .ok (.putfield 48, 3) := by decide +kernel
theorem dX10_ends_63 : decode cX10_ends 63 = .ok (.aload_n 0, 1) := by decide +kernel
theorem dX10_ends_64 : decode cX10_ends 64 = .ok (.getfield 13, 3) := by decide +kernel
theorem dX10_ends_67 : decode cX10_ends 67 = .ok (.iconst 0, 1) := by decide +kernel
theorem dX10_ends_68 : decode cX10_ends 68 = .ok (.aload_n 0, 1) := by decide +kernel
theorem dX10_ends_69 : decode cX10_ends 69 = .ok (.getfield 19, 3) := by decide +kernel
theorem dX10_ends_72 : decode cX10_ends 72 = .ok (.bipush 113, 2) := by decide +kernel
theorem dX10_ends_74 : decode cX10_ends 74 = .ok (.aload_n 0, 1) := by decide +kernel
theorem dX10_ends_75 : decode cX10_ends 75 = .ok (.getfield 48, 3) := by decide +kernel
theorem dX10_ends_78 : decode cX10_ends 78 = .ok (.imul, 1) := by decide +kernel
theorem dX10_ends_79 : decode cX10_ends 79 = .ok (.invokestatic 44, 3) := by decide +kernel
theorem dX10_ends_82 : decode cX10_ends 82 = .ok (.aload_n 0, 1) := by decide +kernel
theorem dX10_ends_83 : decode cX10_ends 83 = .ok (.dup, 1) := by decide +kernel
theorem dX10_ends_84 : decode cX10_ends 84 = .ok (.getfield 48, 3) := by decide +kernel
theorem dX10_ends_87 : decode cX10_ends 87 = .ok (.iconst 1, 1) := by decide +kernel
theorem dX10_ends_88 : decode cX10_ends 88 = .ok (.iadd, 1) := by decide +kernel
theorem dX10_ends_89 : decode cX10_ends 89 = .ok (.putfield 48, 3) := by decide +kernel
theorem dX10_ends_92 : decode cX10_ends 92 = .ok (.iload_n 1, 1) := by decide +kernel
theorem dX10_ends_93 : decode cX10_ends 93 = .ok (.ireturn, 1) := by decide +kernel
theorem dX10_isThrown_0 : decode cX10_isThrown 0 = .ok (.aload_n 0, 1) := by decide +kernel
theorem dX10_isThrown_1 : decode cX10_isThrown 1 = .ok (.iload_n 1, 1) := by decide +kernel
theorem dX10_isThrown_2 : decode cX10_isThrown 2 = .ok (.ifCond .eq 7, 3) := by decide +kernel
theorem dX10_isThrown_5 : decode cX10_isThrown 5 = .ok (.iload_n 2, 1) := by decide +kernel
theorem dX10_isThrown_6 : decode cX10_isThrown 6 = .ok (.goto 4, 3) := by decide +kernel
theorem dX10_isThrown_9 : decode cX10_isThrown 9 = .ok (.iconst 0, 1) := by decide +kernel
theorem dX10_isThrown_10 : decode cX10_isThrown 10 = .ok (.putfield 41, 3) := by decide +kernel
theorem dX10_isThrown_13 : decode cX10_isThrown 13 = .ok (.iload_n 1, 1) := by decide +kernel
theorem dX10_isThrown_14 : decode cX10_isThrown 14 = .ok (.ireturn, 1) := by decide +kernel
theorem dX10_isPlace_0 : decode cX10_isPlace 0 = .ok (.iload_n 0, 1) := by decide +kernel
theorem dX10_isPlace_1 : decode cX10_isPlace 1 = .ok (.iconst 0, 1) := by decide +kernel
theorem dX10_isPlace_2 : decode cX10_isPlace 2 = .ok (.bipush 60, 2) := by decide +kernel
theorem dX10_isPlace_4 : decode cX10_isPlace 4 = .ok (.invokestatic 51, 3) := by decide +kernel
theorem dX10_isPlace_7 : decode cX10_isPlace 7 = .ok (.ifCond .eq 17, 3) := by decide +kernel
theorem dX10_isPlace_10 : decode cX10_isPlace 10 = .ok (.iload_n 1, 1) := by decide +kernel
theorem dX10_isPlace_11 : decode cX10_isPlace 11 = .ok (.iconst 0, 1) := by decide +kernel
theorem dX10_isPlace_12 : decode cX10_isPlace 12 = .ok (.bipush 60, 2) := by decide +kernel
theorem dX10_isPlace_14 : decode cX10_isPlace 14 = .ok (.invokestatic 51, 3) := by decide +kernel
theorem dX10_isPlace_17 : decode cX10_isPlace 17 = .ok (.ifCond .eq 7, 3) := by decide +kernel
theorem dX10_isPlace_20 : decode cX10_isPlace 20 = .ok (.iconst 1, 1) := by decide +kernel
theorem dX10_isPlace_21 : decode cX10_isPlace 21 = .ok (.goto 4, 3) := by decide +kernel
theorem dX10_isPlace_24 : decode cX10_isPlace 24 = .ok (.iconst 0, 1) := by decide +kernel
theorem dX10_isPlace_25 : decode cX10_isPlace 25 = .ok (.ireturn, 1) := by decide +kernel
theorem dX10_isPoint_0 : decode cX10_isPoint 0 = .ok (.iload_n 1, 1) := by decide +kernel
theorem dX10_isPoint_1 : decode cX10_isPoint 1 = .ok (.iconst 0, 1) := by decide +kernel
theorem dX10_isPoint_2 : decode cX10_isPoint 2 = .ok (.aload_n 0, 1) := by decide +kernel
theorem dX10_isPoint_3 : decode cX10_isPoint 3 = .ok (.getfield 9, 3) := by decide +kernel
theorem dX10_isPoint_6 : decode cX10_isPoint 6 = .ok (.iconst 0, 1) := by decide +kernel
theorem dX10_isPoint_7 : decode cX10_isPoint 7 = .ok (.iaload, 1) := by decide +kernel
theorem dX10_isPoint_8 : decode cX10_isPoint 8 = .ok (.iconst 1, 1) := by decide +kernel
theorem dX10_isPoint_9 : decode cX10_isPoint 9 = .ok (.isub, 1) := by decide +kernel
theorem dX10_isPoint_10 : decode cX10_isPoint 10 = .ok (.invokestatic 51, 3) := by decide +kernel
theorem dX10_isPoint_13 : decode cX10_isPoint 13 = .ok (.ireturn, 1) := by decide +kernel
theorem dX10_isPilot_0 : decode cX10_isPilot 0 = .ok (.iload_n 1, 1) := by decide +kernel
theorem dX10_isPilot_1 : decode cX10_isPilot 1 = .ok (.iconst 0, 1) := by decide +kernel
theorem dX10_isPilot_2 : decode cX10_isPilot 2 = .ok (.aload_n 0, 1) := by decide +kernel
theorem dX10_isPilot_3 : decode cX10_isPilot 3 = .ok (.getfield 9, 3) := by decide +kernel
theorem dX10_isPilot_6 : decode cX10_isPilot 6 = .ok (.iconst 4, 1) := by decide +kernel
theorem dX10_isPilot_7 : decode cX10_isPilot 7 = .ok (.iaload, 1) := by decide +kernel
theorem dX10_isPilot_8 : decode cX10_isPilot 8 = .ok (.iconst 1, 1) := by decide +kernel
theorem dX10_isPilot_9 : decode cX10_isPilot 9 = .ok (.isub, 1) := by decide +kernel
theorem dX10_isPilot_10 : decode cX10_isPilot 10 = .ok (.invokestatic 51, 3) := by decide +kernel
theorem dX10_isPilot_13 : decode cX10_isPilot 13 = .ok (.ireturn, 1) := by decide +kernel
theorem dX10_of_0 : decode cX10_of 0 = .ok (.aload_n 0, 1) := by decide +kernel
theorem dX10_of_1 : decode cX10_of 1 = .ok (.getfield 9, 3) := by decide +kernel
theorem dX10_of_4 : decode cX10_of 4 = .ok (.bipush 59, 2) := by decide +kernel
theorem dX10_of_6 : decode cX10_of 6 = .ok (.bipush 9, 2) := by decide +kernel
theorem dX10_of_8 : decode cX10_of 8 = .ok (.iload_n 1, 1) := by decide +kernel
theorem dX10_of_9 : decode cX10_of 9 = .ok (.imul, 1) := by decide +kernel
theorem dX10_of_10 : decode cX10_of 10 = .ok (.iadd, 1) := by decide +kernel
theorem dX10_of_11 : decode cX10_of 11 = .ok (.iload_n 2, 1) := by decide +kernel
theorem dX10_of_12 : decode cX10_of 12 = .ok (.iadd, 1) := by decide +kernel
theorem dX10_of_13 : decode cX10_of 13 = .ok (.iaload, 1) := by decide +kernel
theorem dX10_of_14 : decode cX10_of 14 = .ok (.ireturn, 1) := by decide +kernel
theorem dX10_sets_0 : decode cX10_sets 0 = .ok (.aload_n 0, 1) := by decide +kernel
theorem dX10_sets_1 : decode cX10_sets 1 = .ok (.getfield 9, 3) := by decide +kernel
theorem dX10_sets_4 : decode cX10_sets 4 = .ok (.bipush 59, 2) := by decide +kernel
theorem dX10_sets_6 : decode cX10_sets 6 = .ok (.bipush 9, 2) := by decide +kernel
theorem dX10_sets_8 : decode cX10_sets 8 = .ok (.iload_n 1, 1) := by decide +kernel
theorem dX10_sets_9 : decode cX10_sets 9 = .ok (.imul, 1) := by decide +kernel
theorem dX10_sets_10 : decode cX10_sets 10 = .ok (.iadd, 1) := by decide +kernel
theorem dX10_sets_11 : decode cX10_sets 11 = .ok (.iload_n 2, 1) := by decide +kernel
theorem dX10_sets_12 : decode cX10_sets 12 = .ok (.iadd, 1) := by decide +kernel
theorem dX10_sets_13 : decode cX10_sets 13 = .ok (.iload_n 3, 1) := by decide +kernel
theorem dX10_sets_14 : decode cX10_sets 14 = .ok (.iastore, 1) := by decide +kernel
theorem dX10_sets_15 : decode cX10_sets 15 = .ok (.return_, 1) := by decide +kernel
theorem dX10_pointX_0 : decode cX10_pointX 0 = .ok (.aload_n 0, 1) := by decide +kernel
theorem dX10_pointX_1 : decode cX10_pointX 1 = .ok (.getfield 9, 3) := by decide +kernel
theorem dX10_pointX_4 : decode cX10_pointX 4 = .ok (.bipush 7, 2) := by decide +kernel
theorem dX10_pointX_6 : decode cX10_pointX 6 = .ok (.iconst 2, 1) := by decide +kernel
theorem dX10_pointX_7 : decode cX10_pointX 7 = .ok (.iload_n 1, 1) := by decide +kernel
theorem dX10_pointX_8 : decode cX10_pointX 8 = .ok (.imul, 1) := by decide +kernel
theorem dX10_pointX_9 : decode cX10_pointX 9 = .ok (.iadd, 1) := by decide +kernel
theorem dX10_pointX_10 : decode cX10_pointX 10 = .ok (.iaload, 1) := by decide +kernel
theorem dX10_pointX_11 : decode cX10_pointX 11 = .ok (.ireturn, 1) := by decide +kernel
theorem dX10_pointY_0 : decode cX10_pointY 0 = .ok (.aload_n 0, 1) := by decide +kernel
theorem dX10_pointY_1 : decode cX10_pointY 1 = .ok (.getfield 9, 3) := by decide +kernel
theorem dX10_pointY_4 : decode cX10_pointY 4 = .ok (.bipush 7, 2) := by decide +kernel
theorem dX10_pointY_6 : decode cX10_pointY 6 = .ok (.iconst 2, 1) := by decide +kernel
theorem dX10_pointY_7 : decode cX10_pointY 7 = .ok (.iload_n 1, 1) := by decide +kernel
theorem dX10_pointY_8 : decode cX10_pointY 8 = .ok (.imul, 1) := by decide +kernel
theorem dX10_pointY_9 : decode cX10_pointY 9 = .ok (.iadd, 1) := by decide +kernel
theorem dX10_pointY_10 : decode cX10_pointY 10 = .ok (.iconst 1, 1) := by decide +kernel
theorem dX10_pointY_11 : decode cX10_pointY 11 = .ok (.iadd, 1) := by decide +kernel
theorem dX10_pointY_12 : decode cX10_pointY 12 = .ok (.iaload, 1) := by decide +kernel
theorem dX10_pointY_13 : decode cX10_pointY 13 = .ok (.ireturn, 1) := by decide +kernel
theorem dX10_apart_0 : decode cX10_apart 0 = .ok (.aload_n 0, 1) := by decide +kernel
theorem dX10_apart_1 : decode cX10_apart 1 = .ok (.iload_n 1, 1) := by decide +kernel
theorem dX10_apart_2 : decode cX10_apart 2 = .ok (.invokevirtual 55, 3) := by decide +kernel
theorem dX10_apart_5 : decode cX10_apart 5 = .ok (.aload_n 0, 1) := by decide +kernel
theorem dX10_apart_6 : decode cX10_apart 6 = .ok (.iload_n 2, 1) := by decide +kernel
theorem dX10_apart_7 : decode cX10_apart 7 = .ok (.invokevirtual 55, 3) := by decide +kernel
theorem dX10_apart_10 : decode cX10_apart 10 = .ok (.invokestatic 59, 3) := by decide +kernel
theorem dX10_apart_13 : decode cX10_apart 13 = .ok (.aload_n 0, 1) := by decide +kernel
theorem dX10_apart_14 : decode cX10_apart 14 = .ok (.iload_n 1, 1) := by decide +kernel
theorem dX10_apart_15 : decode cX10_apart 15 = .ok (.invokevirtual 63, 3) := by decide +kernel
theorem dX10_apart_18 : decode cX10_apart 18 = .ok (.aload_n 0, 1) := by decide +kernel
theorem dX10_apart_19 : decode cX10_apart 19 = .ok (.iload_n 2, 1) := by decide +kernel
theorem dX10_apart_20 : decode cX10_apart 20 = .ok (.invokevirtual 63, 3) := by decide +kernel
theorem dX10_apart_23 : decode cX10_apart 23 = .ok (.invokestatic 59, 3) := by decide +kernel
theorem dX10_apart_26 : decode cX10_apart 26 = .ok (.iadd, 1) := by decide +kernel
theorem dX10_apart_27 : decode cX10_apart 27 = .ok (.ireturn, 1) := by decide +kernel
theorem dX10_inTask_0 : decode cX10_inTask 0 = .ok (.aload_n 0, 1) := by decide +kernel
theorem dX10_inTask_1 : decode cX10_inTask 1 = .ok (.getfield 9, 3) := by decide +kernel
theorem dX10_inTask_4 : decode cX10_inTask 4 = .ok (.bipush 23, 2) := by decide +kernel
theorem dX10_inTask_6 : decode cX10_inTask 6 = .ok (.iload_n 1, 1) := by decide +kernel
theorem dX10_inTask_7 : decode cX10_inTask 7 = .ok (.iadd, 1) := by decide +kernel
theorem dX10_inTask_8 : decode cX10_inTask 8 = .ok (.iaload, 1) := by decide +kernel
theorem dX10_inTask_9 : decode cX10_inTask 9 = .ok (.ireturn, 1) := by decide +kernel
theorem dX10_leg_0 : decode cX10_leg 0 = .ok (.aload_n 0, 1) := by decide +kernel
theorem dX10_leg_1 : decode cX10_leg 1 = .ok (.aload_n 0, 1) := by decide +kernel
theorem dX10_leg_2 : decode cX10_leg 2 = .ok (.iload_n 1, 1) := by decide +kernel
theorem dX10_leg_3 : decode cX10_leg 3 = .ok (.invokevirtual 66, 3) := by decide +kernel
theorem dX10_leg_6 : decode cX10_leg 6 = .ok (.aload_n 0, 1) := by decide +kernel
theorem dX10_leg_7 : decode cX10_leg 7 = .ok (.iload_n 1, 1) := by decide +kernel
theorem dX10_leg_8 : decode cX10_leg 8 = .ok (.iconst 1, 1) := by decide +kernel
theorem dX10_leg_9 : decode cX10_leg 9 = .ok (.iadd, 1) := by decide +kernel
theorem dX10_leg_10 : decode cX10_leg 10 = .ok (.invokevirtual 66, 3) := by decide +kernel
theorem dX10_leg_13 : decode cX10_leg 13 = .ok (.invokevirtual 69, 3) := by decide +kernel
theorem dX10_leg_16 : decode cX10_leg 16 = .ok (.ireturn, 1) := by decide +kernel
theorem dX10_legs_0 : decode cX10_legs 0 = .ok (.iconst 0, 1) := by decide +kernel
theorem dX10_legs_1 : decode cX10_legs 1 = .ok (.istore_n 2, 1) := by decide +kernel
theorem dX10_legs_2 : decode cX10_legs 2 = .ok (.iconst 0, 1) := by decide +kernel
theorem dX10_legs_3 : decode cX10_legs 3 = .ok (.istore_n 3, 1) := by decide +kernel
theorem dX10_legs_4 : decode cX10_legs 4 = .ok (.iload_n 3, 1) := by decide +kernel
theorem dX10_legs_5 : decode cX10_legs 5 = .ok (.iload_n 1, 1) := by decide +kernel
theorem dX10_legs_6 : decode cX10_legs 6 = .ok (.if_icmp .ge 17, 3) := by decide +kernel
theorem dX10_legs_9 : decode cX10_legs 9 = .ok (.iload_n 2, 1) := by decide +kernel
theorem dX10_legs_10 : decode cX10_legs 10 = .ok (.aload_n 0, 1) := by decide +kernel
theorem dX10_legs_11 : decode cX10_legs 11 = .ok (.iload_n 3, 1) := by decide +kernel
theorem dX10_legs_12 : decode cX10_legs 12 = .ok (.invokevirtual 72, 3) := by decide +kernel
theorem dX10_legs_15 : decode cX10_legs 15 = .ok (.iadd, 1) := by decide +kernel
theorem dX10_legs_16 : decode cX10_legs 16 = .ok (.istore_n 2, 1) := by decide +kernel
theorem dX10_legs_17 : decode cX10_legs 17 = .ok (.iinc 3 1, 3) := by decide +kernel
theorem dX10_legs_20 : decode cX10_legs 20 = .ok (.goto (-16), 3) := by decide +kernel
theorem dX10_legs_23 : decode cX10_legs 23 = .ok (.iload_n 2, 1) := by decide +kernel
theorem dX10_legs_24 : decode cX10_legs 24 = .ok (.ireturn, 1) := by decide +kernel
theorem dX10_whole_0 : decode cX10_whole 0 = .ok (.aload_n 0, 1) := by decide +kernel
theorem dX10_whole_1 : decode cX10_whole 1 = .ok (.getfield 9, 3) := by decide +kernel
theorem dX10_whole_4 : decode cX10_whole 4 = .ok (.iconst 1, 1) := by decide +kernel
theorem dX10_whole_5 : decode cX10_whole 5 = .ok (.iaload, 1) := by decide +kernel
theorem dX10_whole_6 : decode cX10_whole 6 = .ok (.iconst 2, 1) := by decide +kernel
theorem dX10_whole_7 : decode cX10_whole 7 = .ok (.if_icmp .ge 7, 3) := by decide +kernel
theorem dX10_whole_10 : decode cX10_whole 10 = .ok (.iconst 0, 1) := by decide +kernel
theorem dX10_whole_11 : decode cX10_whole 11 = .ok (.goto 15, 3) := by decide +kernel
theorem dX10_whole_14 : decode cX10_whole 14 = .ok (.aload_n 0, 1) := by decide +kernel
theorem dX10_whole_15 : decode cX10_whole 15 = .ok (.aload_n 0, 1) := by decide +kernel
theorem dX10_whole_16 : decode cX10_whole 16 = .ok (.getfield 9, 3) := by decide +kernel
theorem dX10_whole_19 : decode cX10_whole 19 = .ok (.iconst 1, 1) := by decide +kernel
theorem dX10_whole_20 : decode cX10_whole 20 = .ok (.iaload, 1) := by decide +kernel
theorem dX10_whole_21 : decode cX10_whole 21 = .ok (.iconst 1, 1) := by decide +kernel
theorem dX10_whole_22 : decode cX10_whole 22 = .ok (.isub, 1) := by decide +kernel
theorem dX10_whole_23 : decode cX10_whole 23 = .ok (.invokevirtual 75, 3) := by decide +kernel
theorem dX10_whole_26 : decode cX10_whole 26 = .ok (.ireturn, 1) := by decide +kernel
theorem dX10_planning_0 : decode cX10_planning 0 = .ok (.iconst 0, 1) := by decide +kernel
theorem dX10_planning_1 : decode cX10_planning 1 = .ok (.istore_n 1, 1) := by decide +kernel
theorem dX10_planning_2 : decode cX10_planning 2 = .ok (.iload_n 1, 1) := by decide +kernel
theorem dX10_planning_3 : decode cX10_planning 3 = .ok (.aload_n 0, 1) := by decide +kernel
theorem dX10_planning_4 : decode cX10_planning 4 = .ok (.getfield 9, 3) := by decide +kernel
theorem dX10_planning_7 : decode cX10_planning 7 = .ok (.iconst 4, 1) := by decide +kernel
theorem dX10_planning_8 : decode cX10_planning 8 = .ok (.iaload, 1) := by decide +kernel
theorem dX10_planning_9 : decode cX10_planning 9 = .ok (.if_icmp .ge 20, 3) := by decide +kernel
theorem dX10_planning_12 : decode cX10_planning 12 = .ok (.aload_n 0, 1) := by decide +kernel
theorem dX10_planning_13 : decode cX10_planning 13 = .ok (.iload_n 1, 1) := by decide +kernel
theorem dX10_planning_14 : decode cX10_planning 14 = .ok (.iconst 1, 1) := by decide +kernel
theorem dX10_planning_15 : decode cX10_planning 15 = .ok (.invokevirtual 78, 3) := by decide +kernel
theorem dX10_planning_18 : decode cX10_planning 18 = .ok (.ifCond .eq 5, 3) := by decide +kernel
theorem dX10_planning_21 : decode cX10_planning 21 = .ok (.iconst 0, 1) := by decide +kernel
theorem dX10_planning_22 : decode cX10_planning 22 = .ok (.ireturn, 1) := by decide +kernel
theorem dX10_planning_23 : decode cX10_planning 23 = .ok (.iinc 1 1, 3) := by decide +kernel
theorem dX10_planning_26 : decode cX10_planning 26 = .ok (.goto (-24), 3) := by decide +kernel
theorem dX10_planning_29 : decode cX10_planning 29 = .ok (.iconst 1, 1) := by decide +kernel
theorem dX10_planning_30 : decode cX10_planning 30 = .ok (.ireturn, 1) := by decide +kernel
theorem dX10_points_0 : decode cX10_points 0 = .ok (.aload_n 0, 1) := by decide +kernel
theorem dX10_points_1 : decode cX10_points 1 = .ok (.iload_n 1, 1) := by decide +kernel
theorem dX10_points_2 : decode cX10_points 2 = .ok (.iload_n 2, 1) := by decide +kernel
theorem dX10_points_3 : decode cX10_points 3 = .ok (.invokestatic 81, 3) := by decide +kernel
theorem dX10_points_6 : decode cX10_points 6 = .ok (.ifCond .ne 7, 3) := by decide +kernel
theorem dX10_points_9 : decode cX10_points 9 = .ok (.iconst 1, 1) := by decide +kernel
theorem dX10_points_10 : decode cX10_points 10 = .ok (.goto 4, 3) := by decide +kernel
theorem dX10_points_13 : decode cX10_points 13 = .ok (.iconst 0, 1) := by decide +kernel
theorem dX10_points_14 : decode cX10_points 14 = .ok (.iconst 1, 1) := by decide +kernel
theorem dX10_points_15 : decode cX10_points 15 = .ok (.invokevirtual 85, 3) := by decide +kernel
theorem dX10_points_18 : decode cX10_points 18 = .ok (.ifCond .ne 27, 3) := by decide +kernel
theorem dX10_points_21 : decode cX10_points 21 = .ok (.aload_n 0, 1) := by decide +kernel
theorem dX10_points_22 : decode cX10_points 22 = .ok (.aload_n 0, 1) := by decide +kernel
theorem dX10_points_23 : decode cX10_points 23 = .ok (.getfield 9, 3) := by decide +kernel
theorem dX10_points_26 : decode cX10_points 26 = .ok (.iconst 0, 1) := by decide +kernel
theorem dX10_points_27 : decode cX10_points 27 = .ok (.iaload, 1) := by decide +kernel
theorem dX10_points_28 : decode cX10_points 28 = .ok (.bipush 8, 2) := by decide +kernel
theorem dX10_points_30 : decode cX10_points 30 = .ok (.if_icmp .ne 7, 3) := by decide +kernel
theorem dX10_points_33 : decode cX10_points 33 = .ok (.iconst 1, 1) := by decide +kernel
theorem dX10_points_34 : decode cX10_points 34 = .ok (.goto 4, 3) := by decide +kernel
theorem dX10_points_37 : decode cX10_points 37 = .ok (.iconst 0, 1) := by decide +kernel
theorem dX10_points_38 : decode cX10_points 38 = .ok (.iconst 2, 1) := by decide +kernel
theorem dX10_points_39 : decode cX10_points 39 = .ok (.invokevirtual 85, 3) := by decide +kernel
theorem dX10_points_42 : decode cX10_points 42 = .ok (.ifCond .eq 5, 3) := by decide +kernel
theorem dX10_points_45 : decode cX10_points 45 = .ok (.iconst 0, 1) := by decide +kernel
theorem dX10_points_46 : decode cX10_points 46 = .ok (.ireturn, 1) := by decide +kernel
theorem dX10_points_47 : decode cX10_points 47 = .ok (.aload_n 0, 1) := by decide +kernel
theorem dX10_points_48 : decode cX10_points 48 = .ok (.getfield 9, 3) := by decide +kernel
theorem dX10_points_51 : decode cX10_points 51 = .ok (.bipush 7, 2) := by decide +kernel
theorem dX10_points_53 : decode cX10_points 53 = .ok (.iconst 2, 1) := by decide +kernel
theorem dX10_points_54 : decode cX10_points 54 = .ok (.aload_n 0, 1) := by decide +kernel
theorem dX10_points_55 : decode cX10_points 55 = .ok (.getfield 9, 3) := by decide +kernel
theorem dX10_points_58 : decode cX10_points 58 = .ok (.iconst 0, 1) := by decide +kernel
theorem dX10_points_59 : decode cX10_points 59 = .ok (.iaload, 1) := by decide +kernel
theorem dX10_points_60 : decode cX10_points 60 = .ok (.imul, 1) := by decide +kernel
theorem dX10_points_61 : decode cX10_points 61 = .ok (.iadd, 1) := by decide +kernel
theorem dX10_points_62 : decode cX10_points 62 = .ok (.iload_n 1, 1) := by decide +kernel
theorem dX10_points_63 : decode cX10_points 63 = .ok (.iastore, 1) := by decide +kernel
theorem dX10_points_64 : decode cX10_points 64 = .ok (.aload_n 0, 1) := by decide +kernel
theorem dX10_points_65 : decode cX10_points 65 = .ok (.getfield 9, 3) := by decide +kernel
theorem dX10_points_68 : decode cX10_points 68 = .ok (.bipush 7, 2) := by decide +kernel
theorem dX10_points_70 : decode cX10_points 70 = .ok (.iconst 2, 1) := by decide +kernel
theorem dX10_points_71 : decode cX10_points 71 = .ok (.aload_n 0, 1) := by decide +kernel
theorem dX10_points_72 : decode cX10_points 72 = .ok (.getfield 9, 3) := by decide +kernel
theorem dX10_points_75 : decode cX10_points 75 = .ok (.iconst 0, 1) := by decide +kernel
theorem dX10_points_76 : decode cX10_points 76 = .ok (.iaload, 1) := by decide +kernel
theorem dX10_points_77 : decode cX10_points 77 = .ok (.imul, 1) := by decide +kernel
theorem dX10_points_78 : decode cX10_points 78 = .ok (.iadd, 1) := by decide +kernel
theorem dX10_points_79 : decode cX10_points 79 = .ok (.iconst 1, 1) := by decide +kernel
theorem dX10_points_80 : decode cX10_points 80 = .ok (.iadd, 1) := by decide +kernel
theorem dX10_points_81 : decode cX10_points 81 = .ok (.iload_n 2, 1) := by decide +kernel
theorem dX10_points_82 : decode cX10_points 82 = .ok (.iastore, 1) := by decide +kernel
theorem dX10_points_83 : decode cX10_points 83 = .ok (.aload_n 0, 1) := by decide +kernel
theorem dX10_points_84 : decode cX10_points 84 = .ok (.getfield 9, 3) := by decide +kernel
theorem dX10_points_87 : decode cX10_points 87 = .ok (.iconst 0, 1) := by decide +kernel
theorem dX10_points_88 : decode cX10_points 88 = .ok (.dup2, 1) := by decide +kernel
theorem dX10_points_89 : decode cX10_points 89 = .ok (.iaload, 1) := by decide +kernel
theorem dX10_points_90 : decode cX10_points 90 = .ok (.iconst 1, 1) := by decide +kernel
theorem dX10_points_91 : decode cX10_points 91 = .ok (.iadd, 1) := by decide +kernel
theorem dX10_points_92 : decode cX10_points 92 = .ok (.iastore, 1) := by decide +kernel
theorem dX10_points_93 : decode cX10_points 93 = .ok (.aload_n 0, 1) := by decide +kernel
theorem dX10_points_94 : decode cX10_points 94 = .ok (.getfield 9, 3) := by decide +kernel
theorem dX10_points_97 : decode cX10_points 97 = .ok (.iconst 0, 1) := by decide +kernel
theorem dX10_points_98 : decode cX10_points 98 = .ok (.iaload, 1) := by decide +kernel
theorem dX10_points_99 : decode cX10_points 99 = .ok (.iconst 1, 1) := by decide +kernel
theorem dX10_points_100 : decode cX10_points 100 = .ok (.isub, 1) := by decide +kernel
theorem dX10_points_101 : decode cX10_points 101 = .ok (.ireturn, 1) := by decide +kernel
theorem dX10_addPoint_0 : decode cX10_addPoint 0 = .ok (.aload_n 0, 1) := by decide +kernel
theorem dX10_addPoint_1 : decode cX10_addPoint 1 = .ok (.invokevirtual 89, 3) := by decide +kernel
theorem dX10_addPoint_4 : decode cX10_addPoint 4 = .ok (.aload_n 0, 1) := by decide +kernel
theorem dX10_addPoint_5 : decode cX10_addPoint 5 = .ok (.aload_n 0, 1) := by decide +kernel
theorem dX10_addPoint_6 : decode cX10_addPoint 6 = .ok (.iload_n 1, 1) := by decide +kernel
theorem dX10_addPoint_7 : decode cX10_addPoint 7 = .ok (.iload_n 2, 1) := by decide +kernel
theorem dX10_addPoint_8 : decode cX10_addPoint 8 = .ok (.invokevirtual 92, 3) := by decide +kernel
theorem dX10_addPoint_11 : decode cX10_addPoint 11 = .ok (.invokevirtual 95, 3) := by decide +kernel
theorem dX10_addPoint_14 : decode cX10_addPoint 14 = .ok (.ireturn, 1) := by decide +kernel
theorem dX10_tasks_0 : decode cX10_tasks 0 = .ok (.aload_n 0, 1) := by decide +kernel
theorem dX10_tasks_1 : decode cX10_tasks 1 = .ok (.aload_n 0, 1) := by decide +kernel
theorem dX10_tasks_2 : decode cX10_tasks 2 = .ok (.iload_n 1, 1) := by decide +kernel
theorem dX10_tasks_3 : decode cX10_tasks 3 = .ok (.invokevirtual 98, 3) := by decide +kernel
theorem dX10_tasks_6 : decode cX10_tasks 6 = .ok (.ifCond .ne 7, 3) := by decide +kernel
theorem dX10_tasks_9 : decode cX10_tasks 9 = .ok (.iconst 1, 1) := by decide +kernel
theorem dX10_tasks_10 : decode cX10_tasks 10 = .ok (.goto 4, 3) := by decide +kernel
theorem dX10_tasks_13 : decode cX10_tasks 13 = .ok (.iconst 0, 1) := by decide +kernel
theorem dX10_tasks_14 : decode cX10_tasks 14 = .ok (.iconst 1, 1) := by decide +kernel
theorem dX10_tasks_15 : decode cX10_tasks 15 = .ok (.invokevirtual 85, 3) := by decide +kernel
theorem dX10_tasks_18 : decode cX10_tasks 18 = .ok (.ifCond .ne 76, 3) := by decide +kernel
theorem dX10_tasks_21 : decode cX10_tasks 21 = .ok (.aload_n 0, 1) := by decide +kernel
theorem dX10_tasks_22 : decode cX10_tasks 22 = .ok (.aload_n 0, 1) := by decide +kernel
theorem dX10_tasks_23 : decode cX10_tasks 23 = .ok (.invokevirtual 102, 3) := by decide +kernel
theorem dX10_tasks_26 : decode cX10_tasks 26 = .ok (.ifCond .eq 14, 3) := by decide +kernel
theorem dX10_tasks_29 : decode cX10_tasks 29 = .ok (.aload_n 0, 1) := by decide +kernel
theorem dX10_tasks_30 : decode cX10_tasks 30 = .ok (.getfield 9, 3) := by decide +kernel
theorem dX10_tasks_33 : decode cX10_tasks 33 = .ok (.iconst 1, 1) := by decide +kernel
theorem dX10_tasks_34 : decode cX10_tasks 34 = .ok (.iaload, 1) := by decide +kernel
theorem dX10_tasks_35 : decode cX10_tasks 35 = .ok (.bipush 6, 2) := by decide +kernel
theorem dX10_tasks_37 : decode cX10_tasks 37 = .ok (.if_icmp .ne 7, 3) := by decide +kernel
theorem dX10_tasks_40 : decode cX10_tasks 40 = .ok (.iconst 1, 1) := by decide +kernel
theorem dX10_tasks_41 : decode cX10_tasks 41 = .ok (.goto 4, 3) := by decide +kernel
theorem dX10_tasks_44 : decode cX10_tasks 44 = .ok (.iconst 0, 1) := by decide +kernel
theorem dX10_tasks_45 : decode cX10_tasks 45 = .ok (.iconst 2, 1) := by decide +kernel
theorem dX10_tasks_46 : decode cX10_tasks 46 = .ok (.invokevirtual 85, 3) := by decide +kernel
theorem dX10_tasks_49 : decode cX10_tasks 49 = .ok (.ifCond .ne 45, 3) := by decide +kernel
theorem dX10_tasks_52 : decode cX10_tasks 52 = .ok (.aload_n 0, 1) := by decide +kernel
theorem dX10_tasks_53 : decode cX10_tasks 53 = .ok (.aload_n 0, 1) := by decide +kernel
theorem dX10_tasks_54 : decode cX10_tasks 54 = .ok (.getfield 9, 3) := by decide +kernel
theorem dX10_tasks_57 : decode cX10_tasks 57 = .ok (.iconst 1, 1) := by decide +kernel
theorem dX10_tasks_58 : decode cX10_tasks 58 = .ok (.iaload, 1) := by decide +kernel
theorem dX10_tasks_59 : decode cX10_tasks 59 = .ok (.ifCond .le 27, 3) := by decide +kernel
theorem dX10_tasks_62 : decode cX10_tasks 62 = .ok (.aload_n 0, 1) := by decide +kernel
theorem dX10_tasks_63 : decode cX10_tasks 63 = .ok (.aload_n 0, 1) := by decide +kernel
theorem dX10_tasks_64 : decode cX10_tasks 64 = .ok (.aload_n 0, 1) := by decide +kernel
theorem dX10_tasks_65 : decode cX10_tasks 65 = .ok (.getfield 9, 3) := by decide +kernel
theorem dX10_tasks_68 : decode cX10_tasks 68 = .ok (.iconst 1, 1) := by decide +kernel
theorem dX10_tasks_69 : decode cX10_tasks 69 = .ok (.iaload, 1) := by decide +kernel
theorem dX10_tasks_70 : decode cX10_tasks 70 = .ok (.iconst 1, 1) := by decide +kernel
theorem dX10_tasks_71 : decode cX10_tasks 71 = .ok (.isub, 1) := by decide +kernel
theorem dX10_tasks_72 : decode cX10_tasks 72 = .ok (.invokevirtual 66, 3) := by decide +kernel
theorem dX10_tasks_75 : decode cX10_tasks 75 = .ok (.iload_n 1, 1) := by decide +kernel
theorem dX10_tasks_76 : decode cX10_tasks 76 = .ok (.invokevirtual 69, 3) := by decide +kernel
theorem dX10_tasks_79 : decode cX10_tasks 79 = .ok (.ifCond .ne 7, 3) := by decide +kernel
theorem dX10_tasks_82 : decode cX10_tasks 82 = .ok (.iconst 1, 1) := by decide +kernel
theorem dX10_tasks_83 : decode cX10_tasks 83 = .ok (.goto 4, 3) := by decide +kernel
theorem dX10_tasks_86 : decode cX10_tasks 86 = .ok (.iconst 0, 1) := by decide +kernel
theorem dX10_tasks_87 : decode cX10_tasks 87 = .ok (.iconst 3, 1) := by decide +kernel
theorem dX10_tasks_88 : decode cX10_tasks 88 = .ok (.invokevirtual 85, 3) := by decide +kernel
theorem dX10_tasks_91 : decode cX10_tasks 91 = .ok (.ifCond .eq 5, 3) := by decide +kernel
theorem dX10_tasks_94 : decode cX10_tasks 94 = .ok (.iconst 0, 1) := by decide +kernel
theorem dX10_tasks_95 : decode cX10_tasks 95 = .ok (.ireturn, 1) := by decide +kernel
theorem dX10_tasks_96 : decode cX10_tasks 96 = .ok (.aload_n 0, 1) := by decide +kernel
theorem dX10_tasks_97 : decode cX10_tasks 97 = .ok (.getfield 9, 3) := by decide +kernel
theorem dX10_tasks_100 : decode cX10_tasks 100 = .ok (.bipush 23, 2) := by decide +kernel
theorem dX10_tasks_102 : decode cX10_tasks 102 = .ok (.aload_n 0, 1) := by decide +kernel
theorem dX10_tasks_103 : decode cX10_tasks 103 = .ok (.getfield 9, 3) := by decide +kernel
theorem dX10_tasks_106 : decode cX10_tasks 106 = .ok (.iconst 1, 1) := by decide +kernel
theorem dX10_tasks_107 : decode cX10_tasks 107 = .ok (.iaload, 1) := by decide +kernel
theorem dX10_tasks_108 : decode cX10_tasks 108 = .ok (.iadd, 1) := by decide +kernel
theorem dX10_tasks_109 : decode cX10_tasks 109 = .ok (.iload_n 1, 1) := by decide +kernel
theorem dX10_tasks_110 : decode cX10_tasks 110 = .ok (.iastore, 1) := by decide +kernel
theorem dX10_tasks_111 : decode cX10_tasks 111 = .ok (.aload_n 0, 1) := by decide +kernel
theorem dX10_tasks_112 : decode cX10_tasks 112 = .ok (.getfield 9, 3) := by decide +kernel
theorem dX10_tasks_115 : decode cX10_tasks 115 = .ok (.iconst 1, 1) := by decide +kernel
theorem dX10_tasks_116 : decode cX10_tasks 116 = .ok (.dup2, 1) := by decide +kernel
theorem dX10_tasks_117 : decode cX10_tasks 117 = .ok (.iaload, 1) := by decide +kernel
theorem dX10_tasks_118 : decode cX10_tasks 118 = .ok (.iconst 1, 1) := by decide +kernel
theorem dX10_tasks_119 : decode cX10_tasks 119 = .ok (.iadd, 1) := by decide +kernel
theorem dX10_tasks_120 : decode cX10_tasks 120 = .ok (.iastore, 1) := by decide +kernel
theorem dX10_tasks_121 : decode cX10_tasks 121 = .ok (.aload_n 0, 1) := by decide +kernel
theorem dX10_tasks_122 : decode cX10_tasks 122 = .ok (.getfield 9, 3) := by decide +kernel
theorem dX10_tasks_125 : decode cX10_tasks 125 = .ok (.iconst 1, 1) := by decide +kernel
theorem dX10_tasks_126 : decode cX10_tasks 126 = .ok (.iaload, 1) := by decide +kernel
theorem dX10_tasks_127 : decode cX10_tasks 127 = .ok (.ireturn, 1) := by decide +kernel
theorem dX10_addTaskPoint_0 : decode cX10_addTaskPoint 0 = .ok (.aload_n 0, 1) := by decide +kernel
theorem dX10_addTaskPoint_1 : decode cX10_addTaskPoint 1 = .ok (.invokevirtual 89, 3) := by decide +kernel
theorem dX10_addTaskPoint_4 : decode cX10_addTaskPoint 4 = .ok (.aload_n 0, 1) := by decide +kernel
theorem dX10_addTaskPoint_5 : decode cX10_addTaskPoint 5 = .ok (.aload_n 0, 1) := by decide +kernel
theorem dX10_addTaskPoint_6 : decode cX10_addTaskPoint 6 = .ok (.iload_n 1, 1) := by decide +kernel
theorem dX10_addTaskPoint_7 : decode cX10_addTaskPoint 7 = .ok (.invokevirtual 106, 3) := by decide +kernel
theorem dX10_addTaskPoint_10 : decode cX10_addTaskPoint 10 = .ok (.invokevirtual 95, 3) := by decide +kernel
theorem dX10_addTaskPoint_13 : decode cX10_addTaskPoint 13 = .ok (.ireturn, 1) := by decide +kernel
theorem dX10_clears_0 : decode cX10_clears 0 = .ok (.aload_n 0, 1) := by decide +kernel
theorem dX10_clears_1 : decode cX10_clears 1 = .ok (.aload_n 0, 1) := by decide +kernel
theorem dX10_clears_2 : decode cX10_clears 2 = .ok (.invokevirtual 102, 3) := by decide +kernel
theorem dX10_clears_5 : decode cX10_clears 5 = .ok (.ifCond .ne 7, 3) := by decide +kernel
theorem dX10_clears_8 : decode cX10_clears 8 = .ok (.iconst 1, 1) := by decide +kernel
theorem dX10_clears_9 : decode cX10_clears 9 = .ok (.goto 4, 3) := by decide +kernel
theorem dX10_clears_12 : decode cX10_clears 12 = .ok (.iconst 0, 1) := by decide +kernel
theorem dX10_clears_13 : decode cX10_clears 13 = .ok (.iconst 1, 1) := by decide +kernel
theorem dX10_clears_14 : decode cX10_clears 14 = .ok (.invokevirtual 85, 3) := by decide +kernel
theorem dX10_clears_17 : decode cX10_clears 17 = .ok (.ifCond .eq 5, 3) := by decide +kernel
theorem dX10_clears_20 : decode cX10_clears 20 = .ok (.iconst 0, 1) := by decide +kernel
theorem dX10_clears_21 : decode cX10_clears 21 = .ok (.ireturn, 1) := by decide +kernel
theorem dX10_clears_22 : decode cX10_clears 22 = .ok (.aload_n 0, 1) := by decide +kernel
theorem dX10_clears_23 : decode cX10_clears 23 = .ok (.getfield 9, 3) := by decide +kernel
theorem dX10_clears_26 : decode cX10_clears 26 = .ok (.iconst 1, 1) := by decide +kernel
theorem dX10_clears_27 : decode cX10_clears 27 = .ok (.iaload, 1) := by decide +kernel
theorem dX10_clears_28 : decode cX10_clears 28 = .ok (.istore_n 1, 1) := by decide +kernel
theorem dX10_clears_29 : decode cX10_clears 29 = .ok (.iconst 0, 1) := by decide +kernel
theorem dX10_clears_30 : decode cX10_clears 30 = .ok (.istore_n 2, 1) := by decide +kernel
theorem dX10_clears_31 : decode cX10_clears 31 = .ok (.iload_n 2, 1) := by decide +kernel
theorem dX10_clears_32 : decode cX10_clears 32 = .ok (.bipush 6, 2) := by decide +kernel
theorem dX10_clears_34 : decode cX10_clears 34 = .ok (.if_icmp .ge 19, 3) := by decide +kernel
theorem dX10_clears_37 : decode cX10_clears 37 = .ok (.aload_n 0, 1) := by decide +kernel
theorem dX10_clears_38 : decode cX10_clears 38 = .ok (.getfield 9, 3) := by decide +kernel
theorem dX10_clears_41 : decode cX10_clears 41 = .ok (.bipush 23, 2) := by decide +kernel
theorem dX10_clears_43 : decode cX10_clears 43 = .ok (.iload_n 2, 1) := by decide +kernel
theorem dX10_clears_44 : decode cX10_clears 44 = .ok (.iadd, 1) := by decide +kernel
theorem dX10_clears_45 : decode cX10_clears 45 = .ok (.iconst 0, 1) := by decide +kernel
theorem dX10_clears_46 : decode cX10_clears 46 = .ok (.iastore, 1) := by decide +kernel
theorem dX10_clears_47 : decode cX10_clears 47 = .ok (.iinc 2 1, 3) := by decide +kernel
theorem dX10_clears_50 : decode cX10_clears 50 = .ok (.goto (-19), 3) := by decide +kernel
theorem dX10_clears_53 : decode cX10_clears 53 = .ok (.aload_n 0, 1) := by decide +kernel
theorem dX10_clears_54 : decode cX10_clears 54 = .ok (.getfield 9, 3) := by decide +kernel
theorem dX10_clears_57 : decode cX10_clears 57 = .ok (.iconst 1, 1) := by decide +kernel
theorem dX10_clears_58 : decode cX10_clears 58 = .ok (.iconst 0, 1) := by decide +kernel
theorem dX10_clears_59 : decode cX10_clears 59 = .ok (.iastore, 1) := by decide +kernel
theorem dX10_clears_60 : decode cX10_clears 60 = .ok (.iload_n 1, 1) := by decide +kernel
theorem dX10_clears_61 : decode cX10_clears 61 = .ok (.ireturn, 1) := by decide +kernel
theorem dX10_clearTask_0 : decode cX10_clearTask 0 = .ok (.aload_n 0, 1) := by decide +kernel
theorem dX10_clearTask_1 : decode cX10_clearTask 1 = .ok (.invokevirtual 89, 3) := by decide +kernel
theorem dX10_clearTask_4 : decode cX10_clearTask 4 = .ok (.aload_n 0, 1) := by decide +kernel
theorem dX10_clearTask_5 : decode cX10_clearTask 5 = .ok (.aload_n 0, 1) := by decide +kernel
theorem dX10_clearTask_6 : decode cX10_clearTask 6 = .ok (.invokevirtual 109, 3) := by decide +kernel
theorem dX10_clearTask_9 : decode cX10_clearTask 9 = .ok (.invokevirtual 95, 3) := by decide +kernel
theorem dX10_clearTask_12 : decode cX10_clearTask 12 = .ok (.ireturn, 1) := by decide +kernel
theorem dX10_thermals_0 : decode cX10_thermals 0 = .ok (.aload_n 0, 1) := by decide +kernel
theorem dX10_thermals_1 : decode cX10_thermals 1 = .ok (.iload_n 1, 1) := by decide +kernel
theorem dX10_thermals_2 : decode cX10_thermals 2 = .ok (.iload_n 2, 1) := by decide +kernel
theorem dX10_thermals_3 : decode cX10_thermals 3 = .ok (.invokestatic 81, 3) := by decide +kernel
theorem dX10_thermals_6 : decode cX10_thermals 6 = .ok (.ifCond .eq 12, 3) := by decide +kernel
theorem dX10_thermals_9 : decode cX10_thermals 9 = .ok (.iload_n 3, 1) := by decide +kernel
theorem dX10_thermals_10 : decode cX10_thermals 10 = .ok (.iconst 1, 1) := by decide +kernel
theorem dX10_thermals_11 : decode cX10_thermals 11 = .ok (.iconst 5, 1) := by decide +kernel
theorem dX10_thermals_12 : decode cX10_thermals 12 = .ok (.invokestatic 51, 3) := by decide +kernel
theorem dX10_thermals_15 : decode cX10_thermals 15 = .ok (.ifCond .ne 7, 3) := by decide +kernel
theorem dX10_thermals_18 : decode cX10_thermals 18 = .ok (.iconst 1, 1) := by decide +kernel
theorem dX10_thermals_19 : decode cX10_thermals 19 = .ok (.goto 4, 3) := by decide +kernel
theorem dX10_thermals_22 : decode cX10_thermals 22 = .ok (.iconst 0, 1) := by decide +kernel
theorem dX10_thermals_23 : decode cX10_thermals 23 = .ok (.iconst 1, 1) := by decide +kernel
theorem dX10_thermals_24 : decode cX10_thermals 24 = .ok (.invokevirtual 85, 3) := by decide +kernel
theorem dX10_thermals_27 : decode cX10_thermals 27 = .ok (.ifCond .ne 27, 3) := by decide +kernel
theorem dX10_thermals_30 : decode cX10_thermals 30 = .ok (.aload_n 0, 1) := by decide +kernel
theorem dX10_thermals_31 : decode cX10_thermals 31 = .ok (.aload_n 0, 1) := by decide +kernel
theorem dX10_thermals_32 : decode cX10_thermals 32 = .ok (.getfield 9, 3) := by decide +kernel
theorem dX10_thermals_35 : decode cX10_thermals 35 = .ok (.iconst 2, 1) := by decide +kernel
theorem dX10_thermals_36 : decode cX10_thermals 36 = .ok (.iaload, 1) := by decide +kernel
theorem dX10_thermals_37 : decode cX10_thermals 37 = .ok (.bipush 6, 2) := by decide +kernel
theorem dX10_thermals_39 : decode cX10_thermals 39 = .ok (.if_icmp .ne 7, 3) := by decide +kernel
theorem dX10_thermals_42 : decode cX10_thermals 42 = .ok (.iconst 1, 1) := by decide +kernel
theorem dX10_thermals_43 : decode cX10_thermals 43 = .ok (.goto 4, 3) := by decide +kernel
theorem dX10_thermals_46 : decode cX10_thermals 46 = .ok (.iconst 0, 1) := by decide +kernel
theorem dX10_thermals_47 : decode cX10_thermals 47 = .ok (.iconst 2, 1) := by decide +kernel
theorem dX10_thermals_48 : decode cX10_thermals 48 = .ok (.invokevirtual 85, 3) := by decide +kernel
theorem dX10_thermals_51 : decode cX10_thermals 51 = .ok (.ifCond .eq 5, 3) := by decide +kernel
theorem dX10_thermals_54 : decode cX10_thermals 54 = .ok (.iconst 0, 1) := by decide +kernel
theorem dX10_thermals_55 : decode cX10_thermals 55 = .ok (.ireturn, 1) := by decide +kernel
theorem dX10_thermals_56 : decode cX10_thermals 56 = .ok (.bipush 29, 2) := by decide +kernel
theorem dX10_thermals_58 : decode cX10_thermals 58 = .ok (.iconst 3, 1) := by decide +kernel
theorem dX10_thermals_59 : decode cX10_thermals 59 = .ok (.aload_n 0, 1) := by decide +kernel
theorem dX10_thermals_60 : decode cX10_thermals 60 = .ok (.getfield 9, 3) := by decide +kernel
theorem dX10_thermals_63 : decode cX10_thermals 63 = .ok (.iconst 2, 1) := by decide +kernel
theorem dX10_thermals_64 : decode cX10_thermals 64 = .ok (.iaload, 1) := by decide +kernel
theorem dX10_thermals_65 : decode cX10_thermals 65 = .ok (.imul, 1) := by decide +kernel
theorem dX10_thermals_66 : decode cX10_thermals 66 = .ok (.iadd, 1) := by decide +kernel
theorem dX10_thermals_67 : decode cX10_thermals 67 = .ok (.istore 4, 2) := by decide +kernel
theorem dX10_thermals_69 : decode cX10_thermals 69 = .ok (.aload_n 0, 1) := by decide +kernel
theorem dX10_thermals_70 : decode cX10_thermals 70 = .ok (.getfield 9, 3) := by decide +kernel
theorem dX10_thermals_73 : decode cX10_thermals 73 = .ok (.iload 4, 2) := by decide +kernel
theorem dX10_thermals_75 : decode cX10_thermals 75 = .ok (.iload_n 1, 1) := by decide +kernel
theorem dX10_thermals_76 : decode cX10_thermals 76 = .ok (.iastore, 1) := by decide +kernel
theorem dX10_thermals_77 : decode cX10_thermals 77 = .ok (.aload_n 0, 1) := by decide +kernel
theorem dX10_thermals_78 : decode cX10_thermals 78 = .ok (.getfield 9, 3) := by decide +kernel
theorem dX10_thermals_81 : decode cX10_thermals 81 = .ok (.iload 4, 2) := by decide +kernel
theorem dX10_thermals_83 : decode cX10_thermals 83 = .ok (.iconst 1, 1) := by decide +kernel
theorem dX10_thermals_84 : decode cX10_thermals 84 = .ok (.iadd, 1) := by decide +kernel
theorem dX10_thermals_85 : decode cX10_thermals 85 = .ok (.iload_n 2, 1) := by decide +kernel
theorem dX10_thermals_86 : decode cX10_thermals 86 = .ok (.iastore, 1) := by decide +kernel
theorem dX10_thermals_87 : decode cX10_thermals 87 = .ok (.aload_n 0, 1) := by decide +kernel
theorem dX10_thermals_88 : decode cX10_thermals 88 = .ok (.getfield 9, 3) := by decide +kernel
theorem dX10_thermals_91 : decode cX10_thermals 91 = .ok (.iload 4, 2) := by decide +kernel
theorem dX10_thermals_93 : decode cX10_thermals 93 = .ok (.iconst 2, 1) := by decide +kernel
theorem dX10_thermals_94 : decode cX10_thermals 94 = .ok (.iadd, 1) := by decide +kernel
theorem dX10_thermals_95 : decode cX10_thermals 95 = .ok (.iload_n 3, 1) := by decide +kernel
theorem dX10_thermals_96 : decode cX10_thermals 96 = .ok (.iastore, 1) := by decide +kernel
theorem dX10_thermals_97 : decode cX10_thermals 97 = .ok (.aload_n 0, 1) := by decide +kernel
theorem dX10_thermals_98 : decode cX10_thermals 98 = .ok (.getfield 9, 3) := by decide +kernel
theorem dX10_thermals_101 : decode cX10_thermals 101 = .ok (.iconst 2, 1) := by decide +kernel
theorem dX10_thermals_102 : decode cX10_thermals 102 = .ok (.dup2, 1) := by decide +kernel
theorem dX10_thermals_103 : decode cX10_thermals 103 = .ok (.iaload, 1) := by decide +kernel
theorem dX10_thermals_104 : decode cX10_thermals 104 = .ok (.iconst 1, 1) := by decide +kernel
theorem dX10_thermals_105 : decode cX10_thermals 105 = .ok (.iadd, 1) := by decide +kernel
theorem dX10_thermals_106 : decode cX10_thermals 106 = .ok (.iastore, 1) := by decide +kernel
theorem dX10_thermals_107 : decode cX10_thermals 107 = .ok (.aload_n 0, 1) := by decide +kernel
theorem dX10_thermals_108 : decode cX10_thermals 108 = .ok (.getfield 9, 3) := by decide +kernel
theorem dX10_thermals_111 : decode cX10_thermals 111 = .ok (.iconst 2, 1) := by decide +kernel
theorem dX10_thermals_112 : decode cX10_thermals 112 = .ok (.iaload, 1) := by decide +kernel
theorem dX10_thermals_113 : decode cX10_thermals 113 = .ok (.ireturn, 1) := by decide +kernel
theorem dX10_addThermal_0 : decode cX10_addThermal 0 = .ok (.aload_n 0, 1) := by decide +kernel
theorem dX10_addThermal_1 : decode cX10_addThermal 1 = .ok (.invokevirtual 89, 3) := by decide +kernel
theorem dX10_addThermal_4 : decode cX10_addThermal 4 = .ok (.aload_n 0, 1) := by decide +kernel
theorem dX10_addThermal_5 : decode cX10_addThermal 5 = .ok (.aload_n 0, 1) := by decide +kernel
theorem dX10_addThermal_6 : decode cX10_addThermal 6 = .ok (.iload_n 1, 1) := by decide +kernel
theorem dX10_addThermal_7 : decode cX10_addThermal 7 = .ok (.iload_n 2, 1) := by decide +kernel
theorem dX10_addThermal_8 : decode cX10_addThermal 8 = .ok (.iload_n 3, 1) := by decide +kernel
theorem dX10_addThermal_9 : decode cX10_addThermal 9 = .ok (.invokevirtual 113, 3) := by decide +kernel
theorem dX10_addThermal_12 : decode cX10_addThermal 12 = .ok (.invokevirtual 95, 3) := by decide +kernel
theorem dX10_addThermal_15 : decode cX10_addThermal 15 = .ok (.ireturn, 1) := by decide +kernel
theorem dX10_bases_0 : decode cX10_bases 0 = .ok (.aload_n 0, 1) := by decide +kernel
theorem dX10_bases_1 : decode cX10_bases 1 = .ok (.iload_n 1, 1) := by decide +kernel
theorem dX10_bases_2 : decode cX10_bases 2 = .ok (.sipush 500, 3) := by decide +kernel
theorem dX10_bases_5 : decode cX10_bases 5 = .ok (.sipush 3000, 3) := by decide +kernel
theorem dX10_bases_8 : decode cX10_bases 8 = .ok (.invokestatic 51, 3) := by decide +kernel
theorem dX10_bases_11 : decode cX10_bases 11 = .ok (.ifCond .ne 7, 3) := by decide +kernel
theorem dX10_bases_14 : decode cX10_bases 14 = .ok (.iconst 1, 1) := by decide +kernel
theorem dX10_bases_15 : decode cX10_bases 15 = .ok (.goto 4, 3) := by decide +kernel
theorem dX10_bases_18 : decode cX10_bases 18 = .ok (.iconst 0, 1) := by decide +kernel
theorem dX10_bases_19 : decode cX10_bases 19 = .ok (.iconst 1, 1) := by decide +kernel
theorem dX10_bases_20 : decode cX10_bases 20 = .ok (.invokevirtual 85, 3) := by decide +kernel
theorem dX10_bases_23 : decode cX10_bases 23 = .ok (.ifCond .eq 5, 3) := by decide +kernel
theorem dX10_bases_26 : decode cX10_bases 26 = .ok (.iconst 0, 1) := by decide +kernel
theorem dX10_bases_27 : decode cX10_bases 27 = .ok (.ireturn, 1) := by decide +kernel
theorem dX10_bases_28 : decode cX10_bases 28 = .ok (.aload_n 0, 1) := by decide +kernel
theorem dX10_bases_29 : decode cX10_bases 29 = .ok (.getfield 9, 3) := by decide +kernel
theorem dX10_bases_32 : decode cX10_bases 32 = .ok (.iconst 5, 1) := by decide +kernel
theorem dX10_bases_33 : decode cX10_bases 33 = .ok (.iaload, 1) := by decide +kernel
theorem dX10_bases_34 : decode cX10_bases 34 = .ok (.istore_n 2, 1) := by decide +kernel
theorem dX10_bases_35 : decode cX10_bases 35 = .ok (.aload_n 0, 1) := by decide +kernel
theorem dX10_bases_36 : decode cX10_bases 36 = .ok (.getfield 9, 3) := by decide +kernel
theorem dX10_bases_39 : decode cX10_bases 39 = .ok (.iconst 5, 1) := by decide +kernel
theorem dX10_bases_40 : decode cX10_bases 40 = .ok (.iload_n 1, 1) := by decide +kernel
theorem dX10_bases_41 : decode cX10_bases 41 = .ok (.iastore, 1) := by decide +kernel
theorem dX10_bases_42 : decode cX10_bases 42 = .ok (.iload_n 2, 1) := by decide +kernel
theorem dX10_bases_43 : decode cX10_bases 43 = .ok (.ireturn, 1) := by decide +kernel
theorem dX10_setCloudBase_0 : decode cX10_setCloudBase 0 = .ok (.aload_n 0, 1) := by decide +kernel
theorem dX10_setCloudBase_1 : decode cX10_setCloudBase 1 = .ok (.invokevirtual 89, 3) := by decide +kernel
theorem dX10_setCloudBase_4 : decode cX10_setCloudBase 4 = .ok (.aload_n 0, 1) := by decide +kernel
theorem dX10_setCloudBase_5 : decode cX10_setCloudBase 5 = .ok (.aload_n 0, 1) := by decide +kernel
theorem dX10_setCloudBase_6 : decode cX10_setCloudBase 6 = .ok (.iload_n 1, 1) := by decide +kernel
theorem dX10_setCloudBase_7 : decode cX10_setCloudBase 7 = .ok (.invokevirtual 117, 3) := by decide +kernel
theorem dX10_setCloudBase_10 : decode cX10_setCloudBase 10 = .ok (.invokevirtual 95, 3) := by decide +kernel
theorem dX10_setCloudBase_13 : decode cX10_setCloudBase 13 = .ok (.ireturn, 1) := by decide +kernel
theorem dX10_areas_0 : decode cX10_areas 0 = .ok (.aload_n 0, 1) := by decide +kernel
theorem dX10_areas_1 : decode cX10_areas 1 = .ok (.iload_n 1, 1) := by decide +kernel
theorem dX10_areas_2 : decode cX10_areas 2 = .ok (.iload_n 2, 1) := by decide +kernel
theorem dX10_areas_3 : decode cX10_areas 3 = .ok (.invokestatic 81, 3) := by decide +kernel
theorem dX10_areas_6 : decode cX10_areas 6 = .ok (.ifCond .eq 24, 3) := by decide +kernel
theorem dX10_areas_9 : decode cX10_areas 9 = .ok (.iload_n 3, 1) := by decide +kernel
theorem dX10_areas_10 : decode cX10_areas 10 = .ok (.iload_n 1, 1) := by decide +kernel
theorem dX10_areas_11 : decode cX10_areas 11 = .ok (.bipush 60, 2) := by decide +kernel
theorem dX10_areas_13 : decode cX10_areas 13 = .ok (.invokestatic 51, 3) := by decide +kernel
theorem dX10_areas_16 : decode cX10_areas 16 = .ok (.ifCond .eq 14, 3) := by decide +kernel
theorem dX10_areas_19 : decode cX10_areas 19 = .ok (.iload 4, 2) := by decide +kernel
theorem dX10_areas_21 : decode cX10_areas 21 = .ok (.iload_n 2, 1) := by decide +kernel
theorem dX10_areas_22 : decode cX10_areas 22 = .ok (.bipush 60, 2) := by decide +kernel
theorem dX10_areas_24 : decode cX10_areas 24 = .ok (.invokestatic 51, 3) := by decide +kernel
theorem dX10_areas_27 : decode cX10_areas 27 = .ok (.ifCond .ne 7, 3) := by decide +kernel
theorem dX10_areas_30 : decode cX10_areas 30 = .ok (.iconst 1, 1) := by decide +kernel
theorem dX10_areas_31 : decode cX10_areas 31 = .ok (.goto 4, 3) := by decide +kernel
theorem dX10_areas_34 : decode cX10_areas 34 = .ok (.iconst 0, 1) := by decide +kernel
theorem dX10_areas_35 : decode cX10_areas 35 = .ok (.iconst 1, 1) := by decide +kernel
theorem dX10_areas_36 : decode cX10_areas 36 = .ok (.invokevirtual 85, 3) := by decide +kernel
theorem dX10_areas_39 : decode cX10_areas 39 = .ok (.ifCond .ne 26, 3) := by decide +kernel
theorem dX10_areas_42 : decode cX10_areas 42 = .ok (.aload_n 0, 1) := by decide +kernel
theorem dX10_areas_43 : decode cX10_areas 43 = .ok (.aload_n 0, 1) := by decide +kernel
theorem dX10_areas_44 : decode cX10_areas 44 = .ok (.getfield 9, 3) := by decide +kernel
theorem dX10_areas_47 : decode cX10_areas 47 = .ok (.iconst 3, 1) := by decide +kernel
theorem dX10_areas_48 : decode cX10_areas 48 = .ok (.iaload, 1) := by decide +kernel
theorem dX10_areas_49 : decode cX10_areas 49 = .ok (.iconst 3, 1) := by decide +kernel
theorem dX10_areas_50 : decode cX10_areas 50 = .ok (.if_icmp .ne 7, 3) := by decide +kernel
theorem dX10_areas_53 : decode cX10_areas 53 = .ok (.iconst 1, 1) := by decide +kernel
theorem dX10_areas_54 : decode cX10_areas 54 = .ok (.goto 4, 3) := by decide +kernel
theorem dX10_areas_57 : decode cX10_areas 57 = .ok (.iconst 0, 1) := by decide +kernel
theorem dX10_areas_58 : decode cX10_areas 58 = .ok (.iconst 2, 1) := by decide +kernel
theorem dX10_areas_59 : decode cX10_areas 59 = .ok (.invokevirtual 85, 3) := by decide +kernel
theorem dX10_areas_62 : decode cX10_areas 62 = .ok (.ifCond .eq 5, 3) := by decide +kernel
theorem dX10_areas_65 : decode cX10_areas 65 = .ok (.iconst 0, 1) := by decide +kernel
theorem dX10_areas_66 : decode cX10_areas 66 = .ok (.ireturn, 1) := by decide +kernel
theorem dX10_areas_67 : decode cX10_areas 67 = .ok (.bipush 47, 2) := by decide +kernel
theorem dX10_areas_69 : decode cX10_areas 69 = .ok (.iconst 4, 1) := by decide +kernel
theorem dX10_areas_70 : decode cX10_areas 70 = .ok (.aload_n 0, 1) := by decide +kernel
theorem dX10_areas_71 : decode cX10_areas 71 = .ok (.getfield 9, 3) := by decide +kernel
theorem dX10_areas_74 : decode cX10_areas 74 = .ok (.iconst 3, 1) := by decide +kernel
theorem dX10_areas_75 : decode cX10_areas 75 = .ok (.iaload, 1) := by decide +kernel
theorem dX10_areas_76 : decode cX10_areas 76 = .ok (.imul, 1) := by decide +kernel
theorem dX10_areas_77 : decode cX10_areas 77 = .ok (.iadd, 1) := by decide +kernel
theorem dX10_areas_78 : decode cX10_areas 78 = .ok (.istore 5, 2) := by decide +kernel
theorem dX10_areas_80 : decode cX10_areas 80 = .ok (.aload_n 0, 1) := by decide +kernel
theorem dX10_areas_81 : decode cX10_areas 81 = .ok (.getfield 9, 3) := by decide +kernel
theorem dX10_areas_84 : decode cX10_areas 84 = .ok (.iload 5, 2) := by decide +kernel
theorem dX10_areas_86 : decode cX10_areas 86 = .ok (.iload_n 1, 1) := by decide +kernel
theorem dX10_areas_87 : decode cX10_areas 87 = .ok (.iastore, 1) := by decide +kernel
theorem dX10_areas_88 : decode cX10_areas 88 = .ok (.aload_n 0, 1) := by decide +kernel
theorem dX10_areas_89 : decode cX10_areas 89 = .ok (.getfield 9, 3) := by decide +kernel
theorem dX10_areas_92 : decode cX10_areas 92 = .ok (.iload 5, 2) := by decide +kernel
theorem dX10_areas_94 : decode cX10_areas 94 = .ok (.iconst 1, 1) := by decide +kernel
theorem dX10_areas_95 : decode cX10_areas 95 = .ok (.iadd, 1) := by decide +kernel
theorem dX10_areas_96 : decode cX10_areas 96 = .ok (.iload_n 2, 1) := by decide +kernel
theorem dX10_areas_97 : decode cX10_areas 97 = .ok (.iastore, 1) := by decide +kernel
theorem dX10_areas_98 : decode cX10_areas 98 = .ok (.aload_n 0, 1) := by decide +kernel
theorem dX10_areas_99 : decode cX10_areas 99 = .ok (.getfield 9, 3) := by decide +kernel
theorem dX10_areas_102 : decode cX10_areas 102 = .ok (.iload 5, 2) := by decide +kernel
theorem dX10_areas_104 : decode cX10_areas 104 = .ok (.iconst 2, 1) := by decide +kernel
theorem dX10_areas_105 : decode cX10_areas 105 = .ok (.iadd, 1) := by decide +kernel
theorem dX10_areas_106 : decode cX10_areas 106 = .ok (.iload_n 3, 1) := by decide +kernel
theorem dX10_areas_107 : decode cX10_areas 107 = .ok (.iastore, 1) := by decide +kernel
theorem dX10_areas_108 : decode cX10_areas 108 = .ok (.aload_n 0, 1) := by decide +kernel
theorem dX10_areas_109 : decode cX10_areas 109 = .ok (.getfield 9, 3) := by decide +kernel
theorem dX10_areas_112 : decode cX10_areas 112 = .ok (.iload 5, 2) := by decide +kernel
theorem dX10_areas_114 : decode cX10_areas 114 = .ok (.iconst 3, 1) := by decide +kernel
theorem dX10_areas_115 : decode cX10_areas 115 = .ok (.iadd, 1) := by decide +kernel
theorem dX10_areas_116 : decode cX10_areas 116 = .ok (.iload 4, 2) := by decide +kernel
theorem dX10_areas_118 : decode cX10_areas 118 = .ok (.iastore, 1) := by decide +kernel
theorem dX10_areas_119 : decode cX10_areas 119 = .ok (.aload_n 0, 1) := by decide +kernel
theorem dX10_areas_120 : decode cX10_areas 120 = .ok (.getfield 9, 3) := by decide +kernel
theorem dX10_areas_123 : decode cX10_areas 123 = .ok (.iconst 3, 1) := by decide +kernel
theorem dX10_areas_124 : decode cX10_areas 124 = .ok (.dup2, 1) := by decide +kernel
theorem dX10_areas_125 : decode cX10_areas 125 = .ok (.iaload, 1) := by decide +kernel
theorem dX10_areas_126 : decode cX10_areas 126 = .ok (.iconst 1, 1) := by decide +kernel
theorem dX10_areas_127 : decode cX10_areas 127 = .ok (.iadd, 1) := by decide +kernel
theorem dX10_areas_128 : decode cX10_areas 128 = .ok (.iastore, 1) := by decide +kernel
theorem dX10_areas_129 : decode cX10_areas 129 = .ok (.aload_n 0, 1) := by decide +kernel
theorem dX10_areas_130 : decode cX10_areas 130 = .ok (.getfield 9, 3) := by decide +kernel
theorem dX10_areas_133 : decode cX10_areas 133 = .ok (.iconst 3, 1) := by decide +kernel
theorem dX10_areas_134 : decode cX10_areas 134 = .ok (.iaload, 1) := by decide +kernel
theorem dX10_areas_135 : decode cX10_areas 135 = .ok (.ireturn, 1) := by decide +kernel
theorem dX10_addArea_0 : decode cX10_addArea 0 = .ok (.aload_n 0, 1) := by decide +kernel
theorem dX10_addArea_1 : decode cX10_addArea 1 = .ok (.invokevirtual 89, 3) := by decide +kernel
theorem dX10_addArea_4 : decode cX10_addArea 4 = .ok (.aload_n 0, 1) := by decide +kernel
theorem dX10_addArea_5 : decode cX10_addArea 5 = .ok (.aload_n 0, 1) := by decide +kernel
theorem dX10_addArea_6 : decode cX10_addArea 6 = .ok (.iload_n 1, 1) := by decide +kernel
theorem dX10_addArea_7 : decode cX10_addArea 7 = .ok (.iload_n 2, 1) := by decide +kernel
theorem dX10_addArea_8 : decode cX10_addArea 8 = .ok (.iload_n 3, 1) := by decide +kernel
theorem dX10_addArea_9 : decode cX10_addArea 9 = .ok (.iload 4, 2) := by decide +kernel
theorem dX10_addArea_11 : decode cX10_addArea 11 = .ok (.invokevirtual 120, 3) := by decide +kernel
theorem dX10_addArea_14 : decode cX10_addArea 14 = .ok (.invokevirtual 95, 3) := by decide +kernel
theorem dX10_addArea_17 : decode cX10_addArea 17 = .ok (.ireturn, 1) := by decide +kernel
theorem dX10_restricted_0 : decode cX10_restricted 0 = .ok (.iconst 0, 1) := by decide +kernel
theorem dX10_restricted_1 : decode cX10_restricted 1 = .ok (.istore_n 3, 1) := by decide +kernel
theorem dX10_restricted_2 : decode cX10_restricted 2 = .ok (.iload_n 3, 1) := by decide +kernel
theorem dX10_restricted_3 : decode cX10_restricted 3 = .ok (.aload_n 0, 1) := by decide +kernel
theorem dX10_restricted_4 : decode cX10_restricted 4 = .ok (.getfield 9, 3) := by decide +kernel
theorem dX10_restricted_7 : decode cX10_restricted 7 = .ok (.iconst 3, 1) := by decide +kernel
theorem dX10_restricted_8 : decode cX10_restricted 8 = .ok (.iaload, 1) := by decide +kernel
theorem dX10_restricted_9 : decode cX10_restricted 9 = .ok (.if_icmp .ge 67, 3) := by decide +kernel
theorem dX10_restricted_12 : decode cX10_restricted 12 = .ok (.bipush 47, 2) := by decide +kernel
theorem dX10_restricted_14 : decode cX10_restricted 14 = .ok (.iconst 4, 1) := by decide +kernel
theorem dX10_restricted_15 : decode cX10_restricted 15 = .ok (.iload_n 3, 1) := by decide +kernel
theorem dX10_restricted_16 : decode cX10_restricted 16 = .ok (.imul, 1) := by decide +kernel
theorem dX10_restricted_17 : decode cX10_restricted 17 = .ok (.iadd, 1) := by decide +kernel
theorem dX10_restricted_18 : decode cX10_restricted 18 = .ok (.istore 4, 2) := by decide +kernel
theorem dX10_restricted_20 : decode cX10_restricted 20 = .ok (.iload_n 1, 1) := by decide +kernel
theorem dX10_restricted_21 : decode cX10_restricted 21 = .ok (.aload_n 0, 1) := by decide +kernel
theorem dX10_restricted_22 : decode cX10_restricted 22 = .ok (.getfield 9, 3) := by decide +kernel
theorem dX10_restricted_25 : decode cX10_restricted 25 = .ok (.iload 4, 2) := by decide +kernel
theorem dX10_restricted_27 : decode cX10_restricted 27 = .ok (.iaload, 1) := by decide +kernel
theorem dX10_restricted_28 : decode cX10_restricted 28 = .ok (.aload_n 0, 1) := by decide +kernel
theorem dX10_restricted_29 : decode cX10_restricted 29 = .ok (.getfield 9, 3) := by decide +kernel
theorem dX10_restricted_32 : decode cX10_restricted 32 = .ok (.iload 4, 2) := by decide +kernel
theorem dX10_restricted_34 : decode cX10_restricted 34 = .ok (.iconst 2, 1) := by decide +kernel
theorem dX10_restricted_35 : decode cX10_restricted 35 = .ok (.iadd, 1) := by decide +kernel
theorem dX10_restricted_36 : decode cX10_restricted 36 = .ok (.iaload, 1) := by decide +kernel
theorem dX10_restricted_37 : decode cX10_restricted 37 = .ok (.invokestatic 51, 3) := by decide +kernel
theorem dX10_restricted_40 : decode cX10_restricted 40 = .ok (.ifCond .eq 30, 3) := by decide +kernel
theorem dX10_restricted_43 : decode cX10_restricted 43 = .ok (.iload_n 2, 1) := by decide +kernel
theorem dX10_restricted_44 : decode cX10_restricted 44 = .ok (.aload_n 0, 1) := by decide +kernel
theorem dX10_restricted_45 : decode cX10_restricted 45 = .ok (.getfield 9, 3) := by decide +kernel
theorem dX10_restricted_48 : decode cX10_restricted 48 = .ok (.iload 4, 2) := by decide +kernel
theorem dX10_restricted_50 : decode cX10_restricted 50 = .ok (.iconst 1, 1) := by decide +kernel
theorem dX10_restricted_51 : decode cX10_restricted 51 = .ok (.iadd, 1) := by decide +kernel
theorem dX10_restricted_52 : decode cX10_restricted 52 = .ok (.iaload, 1) := by decide +kernel
theorem dX10_restricted_53 : decode cX10_restricted 53 = .ok (.aload_n 0, 1) := by decide +kernel
theorem dX10_restricted_54 : decode cX10_restricted 54 = .ok (.getfield 9, 3) := by decide +kernel
theorem dX10_restricted_57 : decode cX10_restricted 57 = .ok (.iload 4, 2) := by decide +kernel
theorem dX10_restricted_59 : decode cX10_restricted 59 = .ok (.iconst 3, 1) := by decide +kernel
theorem dX10_restricted_60 : decode cX10_restricted 60 = .ok (.iadd, 1) := by decide +kernel
theorem dX10_restricted_61 : decode cX10_restricted 61 = .ok (.iaload, 1) := by decide +kernel
theorem dX10_restricted_62 : decode cX10_restricted 62 = .ok (.invokestatic 51, 3) := by decide +kernel
theorem dX10_restricted_65 : decode cX10_restricted 65 = .ok (.ifCond .eq 5, 3) := by decide +kernel
theorem dX10_restricted_68 : decode cX10_restricted 68 = .ok (.iconst 1, 1) := by decide +kernel
theorem dX10_restricted_69 : decode cX10_restricted 69 = .ok (.ireturn, 1) := by decide +kernel
theorem dX10_restricted_70 : decode cX10_restricted 70 = .ok (.iinc 3 1, 3) := by decide +kernel
theorem dX10_restricted_73 : decode cX10_restricted 73 = .ok (.goto (-71), 3) := by decide +kernel
theorem dX10_restricted_76 : decode cX10_restricted 76 = .ok (.iconst 0, 1) := by decide +kernel
theorem dX10_restricted_77 : decode cX10_restricted 77 = .ok (.ireturn, 1) := by decide +kernel
theorem dX10_lifted_0 : decode cX10_lifted 0 = .ok (.iconst 0, 1) := by decide +kernel
theorem dX10_lifted_1 : decode cX10_lifted 1 = .ok (.istore_n 3, 1) := by decide +kernel
theorem dX10_lifted_2 : decode cX10_lifted 2 = .ok (.iconst 0, 1) := by decide +kernel
theorem dX10_lifted_3 : decode cX10_lifted 3 = .ok (.istore 4, 2) := by decide +kernel
theorem dX10_lifted_5 : decode cX10_lifted 5 = .ok (.iload 4, 2) := by decide +kernel
theorem dX10_lifted_7 : decode cX10_lifted 7 = .ok (.aload_n 0, 1) := by decide +kernel
theorem dX10_lifted_8 : decode cX10_lifted 8 = .ok (.getfield 9, 3) := by decide +kernel
theorem dX10_lifted_11 : decode cX10_lifted 11 = .ok (.iconst 2, 1) := by decide +kernel
theorem dX10_lifted_12 : decode cX10_lifted 12 = .ok (.iaload, 1) := by decide +kernel
theorem dX10_lifted_13 : decode cX10_lifted 13 = .ok (.if_icmp .ge 86, 3) := by decide +kernel
theorem dX10_lifted_16 : decode cX10_lifted 16 = .ok (.bipush 29, 2) := by decide +kernel
theorem dX10_lifted_18 : decode cX10_lifted 18 = .ok (.iconst 3, 1) := by decide +kernel
theorem dX10_lifted_19 : decode cX10_lifted 19 = .ok (.iload 4, 2) := by decide +kernel
theorem dX10_lifted_21 : decode cX10_lifted 21 = .ok (.imul, 1) := by decide +kernel
theorem dX10_lifted_22 : decode cX10_lifted 22 = .ok (.iadd, 1) := by decide +kernel
theorem dX10_lifted_23 : decode cX10_lifted 23 = .ok (.istore 5, 2) := by decide +kernel
theorem dX10_lifted_25 : decode cX10_lifted 25 = .ok (.iload_n 1, 1) := by decide +kernel
theorem dX10_lifted_26 : decode cX10_lifted 26 = .ok (.aload_n 0, 1) := by decide +kernel
theorem dX10_lifted_27 : decode cX10_lifted 27 = .ok (.getfield 9, 3) := by decide +kernel
theorem dX10_lifted_30 : decode cX10_lifted 30 = .ok (.iload 5, 2) := by decide +kernel
theorem dX10_lifted_32 : decode cX10_lifted 32 = .ok (.iaload, 1) := by decide +kernel
theorem dX10_lifted_33 : decode cX10_lifted 33 = .ok (.invokestatic 59, 3) := by decide +kernel
theorem dX10_lifted_36 : decode cX10_lifted 36 = .ok (.iload_n 2, 1) := by decide +kernel
theorem dX10_lifted_37 : decode cX10_lifted 37 = .ok (.aload_n 0, 1) := by decide +kernel
theorem dX10_lifted_38 : decode cX10_lifted 38 = .ok (.getfield 9, 3) := by decide +kernel
theorem dX10_lifted_41 : decode cX10_lifted 41 = .ok (.iload 5, 2) := by decide +kernel
theorem dX10_lifted_43 : decode cX10_lifted 43 = .ok (.iconst 1, 1) := by decide +kernel
theorem dX10_lifted_44 : decode cX10_lifted 44 = .ok (.iadd, 1) := by decide +kernel
theorem dX10_lifted_45 : decode cX10_lifted 45 = .ok (.iaload, 1) := by decide +kernel
theorem dX10_lifted_46 : decode cX10_lifted 46 = .ok (.invokestatic 59, 3) := by decide +kernel
theorem dX10_lifted_49 : decode cX10_lifted 49 = .ok (.iadd, 1) := by decide +kernel
theorem dX10_lifted_50 : decode cX10_lifted 50 = .ok (.iconst 2, 1) := by decide +kernel
theorem dX10_lifted_51 : decode cX10_lifted 51 = .ok (.if_icmp .gt 7, 3) := by decide +kernel
theorem dX10_lifted_54 : decode cX10_lifted 54 = .ok (.iconst 1, 1) := by decide +kernel
theorem dX10_lifted_55 : decode cX10_lifted 55 = .ok (.goto 4, 3) := by decide +kernel
theorem dX10_lifted_58 : decode cX10_lifted 58 = .ok (.iconst 0, 1) := by decide +kernel
theorem dX10_lifted_59 : decode cX10_lifted 59 = .ok (.istore 6, 2) := by decide +kernel
theorem dX10_lifted_61 : decode cX10_lifted 61 = .ok (.iload 6, 2) := by decide +kernel
theorem dX10_lifted_63 : decode cX10_lifted 63 = .ok (.ifCond .eq 28, 3) := by decide +kernel
theorem dX10_lifted_66 : decode cX10_lifted 66 = .ok (.aload_n 0, 1) := by decide +kernel
theorem dX10_lifted_67 : decode cX10_lifted 67 = .ok (.getfield 9, 3) := by decide +kernel
theorem dX10_lifted_70 : decode cX10_lifted 70 = .ok (.iload 5, 2) := by decide +kernel
theorem dX10_lifted_72 : decode cX10_lifted 72 = .ok (.iconst 2, 1) := by decide +kernel
theorem dX10_lifted_73 : decode cX10_lifted 73 = .ok (.iadd, 1) := by decide +kernel
theorem dX10_lifted_74 : decode cX10_lifted 74 = .ok (.iaload, 1) := by decide +kernel
theorem dX10_lifted_75 : decode cX10_lifted 75 = .ok (.iload_n 3, 1) := by decide +kernel
theorem dX10_lifted_76 : decode cX10_lifted 76 = .ok (.if_icmp .le 15, 3) := by decide +kernel
theorem dX10_lifted_79 : decode cX10_lifted 79 = .ok (.aload_n 0, 1) := by decide +kernel
theorem dX10_lifted_80 : decode cX10_lifted 80 = .ok (.getfield 9, 3) := by decide +kernel
theorem dX10_lifted_83 : decode cX10_lifted 83 = .ok (.iload 5, 2) := by decide +kernel
theorem dX10_lifted_85 : decode cX10_lifted 85 = .ok (.iconst 2, 1) := by decide +kernel
theorem dX10_lifted_86 : decode cX10_lifted 86 = .ok (.iadd, 1) := by decide +kernel
theorem dX10_lifted_87 : decode cX10_lifted 87 = .ok (.iaload, 1) := by decide +kernel
theorem dX10_lifted_88 : decode cX10_lifted 88 = .ok (.goto 4, 3) := by decide +kernel
theorem dX10_lifted_91 : decode cX10_lifted 91 = .ok (.iload_n 3, 1) := by decide +kernel
theorem dX10_lifted_92 : decode cX10_lifted 92 = .ok (.istore_n 3, 1) := by decide +kernel
theorem dX10_lifted_93 : decode cX10_lifted 93 = .ok (.iinc 4 1, 3) := by decide +kernel
theorem dX10_lifted_96 : decode cX10_lifted 96 = .ok (.goto (-91), 3) := by decide +kernel
theorem dX10_lifted_99 : decode cX10_lifted 99 = .ok (.iload_n 3, 1) := by decide +kernel
theorem dX10_lifted_100 : decode cX10_lifted 100 = .ok (.ireturn, 1) := by decide +kernel
theorem dX10_pilots_0 : decode cX10_pilots 0 = .ok (.aload_n 0, 1) := by decide +kernel
theorem dX10_pilots_1 : decode cX10_pilots 1 = .ok (.iload_n 1, 1) := by decide +kernel
theorem dX10_pilots_2 : decode cX10_pilots 2 = .ok (.bipush 20, 2) := by decide +kernel
theorem dX10_pilots_4 : decode cX10_pilots 4 = .ok (.bipush 60, 2) := by decide +kernel
theorem dX10_pilots_6 : decode cX10_pilots 6 = .ok (.invokestatic 51, 3) := by decide +kernel
theorem dX10_pilots_9 : decode cX10_pilots 9 = .ok (.ifCond .ne 7, 3) := by decide +kernel
theorem dX10_pilots_12 : decode cX10_pilots 12 = .ok (.iconst 1, 1) := by decide +kernel
theorem dX10_pilots_13 : decode cX10_pilots 13 = .ok (.goto 4, 3) := by decide +kernel
theorem dX10_pilots_16 : decode cX10_pilots 16 = .ok (.iconst 0, 1) := by decide +kernel
theorem dX10_pilots_17 : decode cX10_pilots 17 = .ok (.iconst 1, 1) := by decide +kernel
theorem dX10_pilots_18 : decode cX10_pilots 18 = .ok (.invokevirtual 85, 3) := by decide +kernel
theorem dX10_pilots_21 : decode cX10_pilots 21 = .ok (.ifCond .ne 27, 3) := by decide +kernel
theorem dX10_pilots_24 : decode cX10_pilots 24 = .ok (.aload_n 0, 1) := by decide +kernel
theorem dX10_pilots_25 : decode cX10_pilots 25 = .ok (.aload_n 0, 1) := by decide +kernel
theorem dX10_pilots_26 : decode cX10_pilots 26 = .ok (.getfield 9, 3) := by decide +kernel
theorem dX10_pilots_29 : decode cX10_pilots 29 = .ok (.iconst 4, 1) := by decide +kernel
theorem dX10_pilots_30 : decode cX10_pilots 30 = .ok (.iaload, 1) := by decide +kernel
theorem dX10_pilots_31 : decode cX10_pilots 31 = .ok (.bipush 6, 2) := by decide +kernel
theorem dX10_pilots_33 : decode cX10_pilots 33 = .ok (.if_icmp .ne 7, 3) := by decide +kernel
theorem dX10_pilots_36 : decode cX10_pilots 36 = .ok (.iconst 1, 1) := by decide +kernel
theorem dX10_pilots_37 : decode cX10_pilots 37 = .ok (.goto 4, 3) := by decide +kernel
theorem dX10_pilots_40 : decode cX10_pilots 40 = .ok (.iconst 0, 1) := by decide +kernel
theorem dX10_pilots_41 : decode cX10_pilots 41 = .ok (.iconst 2, 1) := by decide +kernel
theorem dX10_pilots_42 : decode cX10_pilots 42 = .ok (.invokevirtual 85, 3) := by decide +kernel
theorem dX10_pilots_45 : decode cX10_pilots 45 = .ok (.ifCond .eq 5, 3) := by decide +kernel
theorem dX10_pilots_48 : decode cX10_pilots 48 = .ok (.iconst 0, 1) := by decide +kernel
theorem dX10_pilots_49 : decode cX10_pilots 49 = .ok (.ireturn, 1) := by decide +kernel
theorem dX10_pilots_50 : decode cX10_pilots 50 = .ok (.aload_n 0, 1) := by decide +kernel
theorem dX10_pilots_51 : decode cX10_pilots 51 = .ok (.aload_n 0, 1) := by decide +kernel
theorem dX10_pilots_52 : decode cX10_pilots 52 = .ok (.getfield 9, 3) := by decide +kernel
theorem dX10_pilots_55 : decode cX10_pilots 55 = .ok (.iconst 4, 1) := by decide +kernel
theorem dX10_pilots_56 : decode cX10_pilots 56 = .ok (.iaload, 1) := by decide +kernel
theorem dX10_pilots_57 : decode cX10_pilots 57 = .ok (.iconst 0, 1) := by decide +kernel
theorem dX10_pilots_58 : decode cX10_pilots 58 = .ok (.iload_n 1, 1) := by decide +kernel
theorem dX10_pilots_59 : decode cX10_pilots 59 = .ok (.invokevirtual 124, 3) := by decide +kernel
theorem dX10_pilots_62 : decode cX10_pilots 62 = .ok (.aload_n 0, 1) := by decide +kernel
theorem dX10_pilots_63 : decode cX10_pilots 63 = .ok (.getfield 9, 3) := by decide +kernel
theorem dX10_pilots_66 : decode cX10_pilots 66 = .ok (.iconst 4, 1) := by decide +kernel
theorem dX10_pilots_67 : decode cX10_pilots 67 = .ok (.dup2, 1) := by decide +kernel
theorem dX10_pilots_68 : decode cX10_pilots 68 = .ok (.iaload, 1) := by decide +kernel
theorem dX10_pilots_69 : decode cX10_pilots 69 = .ok (.iconst 1, 1) := by decide +kernel
theorem dX10_pilots_70 : decode cX10_pilots 70 = .ok (.iadd, 1) := by decide +kernel
theorem dX10_pilots_71 : decode cX10_pilots 71 = .ok (.iastore, 1) := by decide +kernel
theorem dX10_pilots_72 : decode cX10_pilots 72 = .ok (.aload_n 0, 1) := by decide +kernel
theorem dX10_pilots_73 : decode cX10_pilots 73 = .ok (.getfield 9, 3) := by decide +kernel
theorem dX10_pilots_76 : decode cX10_pilots 76 = .ok (.iconst 4, 1) := by decide +kernel
theorem dX10_pilots_77 : decode cX10_pilots 77 = .ok (.iaload, 1) := by decide +kernel
theorem dX10_pilots_78 : decode cX10_pilots 78 = .ok (.iconst 1, 1) := by decide +kernel
theorem dX10_pilots_79 : decode cX10_pilots 79 = .ok (.isub, 1) := by decide +kernel
theorem dX10_pilots_80 : decode cX10_pilots 80 = .ok (.ireturn, 1) := by decide +kernel
theorem dX10_addPilot_0 : decode cX10_addPilot 0 = .ok (.aload_n 0, 1) := by decide +kernel
theorem dX10_addPilot_1 : decode cX10_addPilot 1 = .ok (.invokevirtual 89, 3) := by decide +kernel
theorem dX10_addPilot_4 : decode cX10_addPilot 4 = .ok (.aload_n 0, 1) := by decide +kernel
theorem dX10_addPilot_5 : decode cX10_addPilot 5 = .ok (.aload_n 0, 1) := by decide +kernel
theorem dX10_addPilot_6 : decode cX10_addPilot 6 = .ok (.iload_n 1, 1) := by decide +kernel
theorem dX10_addPilot_7 : decode cX10_addPilot 7 = .ok (.invokevirtual 128, 3) := by decide +kernel
theorem dX10_addPilot_10 : decode cX10_addPilot 10 = .ok (.invokevirtual 95, 3) := by decide +kernel
theorem dX10_addPilot_13 : decode cX10_addPilot 13 = .ok (.ireturn, 1) := by decide +kernel
theorem dX10_inState_0 : decode cX10_inState 0 = .ok (.iconst 0, 1) := by decide +kernel
theorem dX10_inState_1 : decode cX10_inState 1 = .ok (.istore_n 2, 1) := by decide +kernel
theorem dX10_inState_2 : decode cX10_inState 2 = .ok (.iconst 0, 1) := by decide +kernel
theorem dX10_inState_3 : decode cX10_inState 3 = .ok (.istore_n 3, 1) := by decide +kernel
theorem dX10_inState_4 : decode cX10_inState 4 = .ok (.iload_n 3, 1) := by decide +kernel
theorem dX10_inState_5 : decode cX10_inState 5 = .ok (.aload_n 0, 1) := by decide +kernel
theorem dX10_inState_6 : decode cX10_inState 6 = .ok (.getfield 9, 3) := by decide +kernel
theorem dX10_inState_9 : decode cX10_inState 9 = .ok (.iconst 4, 1) := by decide +kernel
theorem dX10_inState_10 : decode cX10_inState 10 = .ok (.iaload, 1) := by decide +kernel
theorem dX10_inState_11 : decode cX10_inState 11 = .ok (.if_icmp .ge 27, 3) := by decide +kernel
theorem dX10_inState_14 : decode cX10_inState 14 = .ok (.iload_n 2, 1) := by decide +kernel
theorem dX10_inState_15 : decode cX10_inState 15 = .ok (.aload_n 0, 1) := by decide +kernel
theorem dX10_inState_16 : decode cX10_inState 16 = .ok (.iload_n 3, 1) := by decide +kernel
theorem dX10_inState_17 : decode cX10_inState 17 = .ok (.iconst 1, 1) := by decide +kernel
theorem dX10_inState_18 : decode cX10_inState 18 = .ok (.invokevirtual 78, 3) := by decide +kernel
theorem dX10_inState_21 : decode cX10_inState 21 = .ok (.iload_n 1, 1) := by decide +kernel
theorem dX10_inState_22 : decode cX10_inState 22 = .ok (.if_icmp .ne 7, 3) := by decide +kernel
theorem dX10_inState_25 : decode cX10_inState 25 = .ok (.iconst 1, 1) := by decide +kernel
theorem dX10_inState_26 : decode cX10_inState 26 = .ok (.goto 4, 3) := by decide +kernel
theorem dX10_inState_29 : decode cX10_inState 29 = .ok (.iconst 0, 1) := by decide +kernel
theorem dX10_inState_30 : decode cX10_inState 30 = .ok (.iadd, 1) := by decide +kernel
theorem dX10_inState_31 : decode cX10_inState 31 = .ok (.istore_n 2, 1) := by decide +kernel
theorem dX10_inState_32 : decode cX10_inState 32 = .ok (.iinc 3 1, 3) := by decide +kernel
theorem dX10_inState_35 : decode cX10_inState 35 = .ok (.goto (-31), 3) := by decide +kernel
theorem dX10_inState_38 : decode cX10_inState 38 = .ok (.iload_n 2, 1) := by decide +kernel
theorem dX10_inState_39 : decode cX10_inState 39 = .ok (.ireturn, 1) := by decide +kernel
theorem dX10_launches_0 : decode cX10_launches 0 = .ok (.aload_n 0, 1) := by decide +kernel
theorem dX10_launches_1 : decode cX10_launches 1 = .ok (.aload_n 0, 1) := by decide +kernel
theorem dX10_launches_2 : decode cX10_launches 2 = .ok (.iload_n 1, 1) := by decide +kernel
theorem dX10_launches_3 : decode cX10_launches 3 = .ok (.invokevirtual 131, 3) := by decide +kernel
theorem dX10_launches_6 : decode cX10_launches 6 = .ok (.ifCond .ne 7, 3) := by decide +kernel
theorem dX10_launches_9 : decode cX10_launches 9 = .ok (.iconst 1, 1) := by decide +kernel
theorem dX10_launches_10 : decode cX10_launches 10 = .ok (.goto 4, 3) := by decide +kernel
theorem dX10_launches_13 : decode cX10_launches 13 = .ok (.iconst 0, 1) := by decide +kernel
theorem dX10_launches_14 : decode cX10_launches 14 = .ok (.iconst 1, 1) := by decide +kernel
theorem dX10_launches_15 : decode cX10_launches 15 = .ok (.invokevirtual 85, 3) := by decide +kernel
theorem dX10_launches_18 : decode cX10_launches 18 = .ok (.ifCond .ne 48, 3) := by decide +kernel
theorem dX10_launches_21 : decode cX10_launches 21 = .ok (.aload_n 0, 1) := by decide +kernel
theorem dX10_launches_22 : decode cX10_launches 22 = .ok (.aload_n 0, 1) := by decide +kernel
theorem dX10_launches_23 : decode cX10_launches 23 = .ok (.iload_n 1, 1) := by decide +kernel
theorem dX10_launches_24 : decode cX10_launches 24 = .ok (.iconst 1, 1) := by decide +kernel
theorem dX10_launches_25 : decode cX10_launches 25 = .ok (.invokevirtual 78, 3) := by decide +kernel
theorem dX10_launches_28 : decode cX10_launches 28 = .ok (.ifCond .eq 7, 3) := by decide +kernel
theorem dX10_launches_31 : decode cX10_launches 31 = .ok (.iconst 1, 1) := by decide +kernel
theorem dX10_launches_32 : decode cX10_launches 32 = .ok (.goto 4, 3) := by decide +kernel
theorem dX10_launches_35 : decode cX10_launches 35 = .ok (.iconst 0, 1) := by decide +kernel
theorem dX10_launches_36 : decode cX10_launches 36 = .ok (.iconst 2, 1) := by decide +kernel
theorem dX10_launches_37 : decode cX10_launches 37 = .ok (.invokevirtual 85, 3) := by decide +kernel
theorem dX10_launches_40 : decode cX10_launches 40 = .ok (.ifCond .ne 26, 3) := by decide +kernel
theorem dX10_launches_43 : decode cX10_launches 43 = .ok (.aload_n 0, 1) := by decide +kernel
theorem dX10_launches_44 : decode cX10_launches 44 = .ok (.aload_n 0, 1) := by decide +kernel
theorem dX10_launches_45 : decode cX10_launches 45 = .ok (.getfield 9, 3) := by decide +kernel
theorem dX10_launches_48 : decode cX10_launches 48 = .ok (.iconst 1, 1) := by decide +kernel
theorem dX10_launches_49 : decode cX10_launches 49 = .ok (.iaload, 1) := by decide +kernel
theorem dX10_launches_50 : decode cX10_launches 50 = .ok (.iconst 2, 1) := by decide +kernel
theorem dX10_launches_51 : decode cX10_launches 51 = .ok (.if_icmp .ge 7, 3) := by decide +kernel
theorem dX10_launches_54 : decode cX10_launches 54 = .ok (.iconst 1, 1) := by decide +kernel
theorem dX10_launches_55 : decode cX10_launches 55 = .ok (.goto 4, 3) := by decide +kernel
theorem dX10_launches_58 : decode cX10_launches 58 = .ok (.iconst 0, 1) := by decide +kernel
theorem dX10_launches_59 : decode cX10_launches 59 = .ok (.iconst 3, 1) := by decide +kernel
theorem dX10_launches_60 : decode cX10_launches 60 = .ok (.invokevirtual 85, 3) := by decide +kernel
theorem dX10_launches_63 : decode cX10_launches 63 = .ok (.ifCond .eq 5, 3) := by decide +kernel
theorem dX10_launches_66 : decode cX10_launches 66 = .ok (.iconst 0, 1) := by decide +kernel
theorem dX10_launches_67 : decode cX10_launches 67 = .ok (.ireturn, 1) := by decide +kernel
theorem dX10_launches_68 : decode cX10_launches 68 = .ok (.aload_n 0, 1) := by decide +kernel
theorem dX10_launches_69 : decode cX10_launches 69 = .ok (.iload_n 1, 1) := by decide +kernel
theorem dX10_launches_70 : decode cX10_launches 70 = .ok (.iconst 1, 1) := by decide +kernel
theorem dX10_launches_71 : decode cX10_launches 71 = .ok (.iconst 1, 1) := by decide +kernel
theorem dX10_launches_72 : decode cX10_launches 72 = .ok (.invokevirtual 124, 3) := by decide +kernel
theorem dX10_launches_75 : decode cX10_launches 75 = .ok (.aload_n 0, 1) := by decide +kernel
theorem dX10_launches_76 : decode cX10_launches 76 = .ok (.iload_n 1, 1) := by decide +kernel
theorem dX10_launches_77 : decode cX10_launches 77 = .ok (.iconst 2, 1) := by decide +kernel
theorem dX10_launches_78 : decode cX10_launches 78 = .ok (.aload_n 0, 1) := by decide +kernel
theorem dX10_launches_79 : decode cX10_launches 79 = .ok (.aload_n 0, 1) := by decide +kernel
theorem dX10_launches_80 : decode cX10_launches 80 = .ok (.iconst 0, 1) := by decide +kernel
theorem dX10_launches_81 : decode cX10_launches 81 = .ok (.invokevirtual 66, 3) := by decide +kernel
theorem dX10_launches_84 : decode cX10_launches 84 = .ok (.invokevirtual 55, 3) := by decide +kernel
theorem dX10_launches_87 : decode cX10_launches 87 = .ok (.invokevirtual 124, 3) := by decide +kernel
theorem dX10_launches_90 : decode cX10_launches 90 = .ok (.aload_n 0, 1) := by decide +kernel
theorem dX10_launches_91 : decode cX10_launches 91 = .ok (.iload_n 1, 1) := by decide +kernel
theorem dX10_launches_92 : decode cX10_launches 92 = .ok (.iconst 3, 1) := by decide +kernel
theorem dX10_launches_93 : decode cX10_launches 93 = .ok (.aload_n 0, 1) := by decide +kernel
theorem dX10_launches_94 : decode cX10_launches 94 = .ok (.aload_n 0, 1) := by decide +kernel
theorem dX10_launches_95 : decode cX10_launches 95 = .ok (.iconst 0, 1) := by decide +kernel
theorem dX10_launches_96 : decode cX10_launches 96 = .ok (.invokevirtual 66, 3) := by decide +kernel
theorem dX10_launches_99 : decode cX10_launches 99 = .ok (.invokevirtual 63, 3) := by decide +kernel
theorem dX10_launches_102 : decode cX10_launches 102 = .ok (.invokevirtual 124, 3) := by decide +kernel
theorem dX10_launches_105 : decode cX10_launches 105 = .ok (.aload_n 0, 1) := by decide +kernel
theorem dX10_launches_106 : decode cX10_launches 106 = .ok (.iload_n 1, 1) := by decide +kernel
theorem dX10_launches_107 : decode cX10_launches 107 = .ok (.iconst 4, 1) := by decide +kernel
theorem dX10_launches_108 : decode cX10_launches 108 = .ok (.sipush 1000, 3) := by decide +kernel
theorem dX10_launches_111 : decode cX10_launches 111 = .ok (.invokevirtual 124, 3) := by decide +kernel
theorem dX10_launches_114 : decode cX10_launches 114 = .ok (.aload_n 0, 1) := by decide +kernel
theorem dX10_launches_115 : decode cX10_launches 115 = .ok (.iload_n 1, 1) := by decide +kernel
theorem dX10_launches_116 : decode cX10_launches 116 = .ok (.iconst 5, 1) := by decide +kernel
theorem dX10_launches_117 : decode cX10_launches 117 = .ok (.iconst 0, 1) := by decide +kernel
theorem dX10_launches_118 : decode cX10_launches 118 = .ok (.invokevirtual 124, 3) := by decide +kernel
theorem dX10_launches_121 : decode cX10_launches 121 = .ok (.aload_n 0, 1) := by decide +kernel
theorem dX10_launches_122 : decode cX10_launches 122 = .ok (.iload_n 1, 1) := by decide +kernel
theorem dX10_launches_123 : decode cX10_launches 123 = .ok (.bipush 6, 2) := by decide +kernel
theorem dX10_launches_125 : decode cX10_launches 125 = .ok (.iconst 0, 1) := by decide +kernel
theorem dX10_launches_126 : decode cX10_launches 126 = .ok (.invokevirtual 124, 3) := by decide +kernel
theorem dX10_launches_129 : decode cX10_launches 129 = .ok (.aload_n 0, 1) := by decide +kernel
theorem dX10_launches_130 : decode cX10_launches 130 = .ok (.iload_n 1, 1) := by decide +kernel
theorem dX10_launches_131 : decode cX10_launches 131 = .ok (.bipush 7, 2) := by decide +kernel
theorem dX10_launches_133 : decode cX10_launches 133 = .ok (.iconst 1, 1) := by decide +kernel
theorem dX10_launches_134 : decode cX10_launches 134 = .ok (.invokevirtual 124, 3) := by decide +kernel
theorem dX10_launches_137 : decode cX10_launches 137 = .ok (.aload_n 0, 1) := by decide +kernel
theorem dX10_launches_138 : decode cX10_launches 138 = .ok (.iconst 1, 1) := by decide +kernel
theorem dX10_launches_139 : decode cX10_launches 139 = .ok (.invokevirtual 134, 3) := by decide +kernel
theorem dX10_launches_142 : decode cX10_launches 142 = .ok (.ireturn, 1) := by decide +kernel
theorem dX10_launch_0 : decode cX10_launch 0 = .ok (.aload_n 0, 1) := by decide +kernel
theorem dX10_launch_1 : decode cX10_launch 1 = .ok (.invokevirtual 89, 3) := by decide +kernel
theorem dX10_launch_4 : decode cX10_launch 4 = .ok (.aload_n 0, 1) := by decide +kernel
theorem dX10_launch_5 : decode cX10_launch 5 = .ok (.aload_n 0, 1) := by decide +kernel
theorem dX10_launch_6 : decode cX10_launch 6 = .ok (.iload_n 1, 1) := by decide +kernel
theorem dX10_launch_7 : decode cX10_launch 7 = .ok (.invokevirtual 137, 3) := by decide +kernel
theorem dX10_launch_10 : decode cX10_launch 10 = .ok (.invokevirtual 95, 3) := by decide +kernel
theorem dX10_launch_13 : decode cX10_launch 13 = .ok (.ireturn, 1) := by decide +kernel
theorem dX10_stepX_0 : decode cX10_stepX 0 = .ok (.iload_n 0, 1) := by decide +kernel
theorem dX10_stepX_1 : decode cX10_stepX 1 = .ok (.iconst 1, 1) := by decide +kernel
theorem dX10_stepX_2 : decode cX10_stepX 2 = .ok (.if_icmp .ne 7, 3) := by decide +kernel
theorem dX10_stepX_5 : decode cX10_stepX 5 = .ok (.iconst 1, 1) := by decide +kernel
theorem dX10_stepX_6 : decode cX10_stepX 6 = .ok (.goto 13, 3) := by decide +kernel
theorem dX10_stepX_9 : decode cX10_stepX 9 = .ok (.iload_n 0, 1) := by decide +kernel
theorem dX10_stepX_10 : decode cX10_stepX 10 = .ok (.iconst 3, 1) := by decide +kernel
theorem dX10_stepX_11 : decode cX10_stepX 11 = .ok (.if_icmp .ne 7, 3) := by decide +kernel
theorem dX10_stepX_14 : decode cX10_stepX 14 = .ok (.iconst (-1), 1) := by decide +kernel
theorem dX10_stepX_15 : decode cX10_stepX 15 = .ok (.goto 4, 3) := by decide +kernel
theorem dX10_stepX_18 : decode cX10_stepX 18 = .ok (.iconst 0, 1) := by decide +kernel
theorem dX10_stepX_19 : decode cX10_stepX 19 = .ok (.ireturn, 1) := by decide +kernel
theorem dX10_stepY_0 : decode cX10_stepY 0 = .ok (.iload_n 0, 1) := by decide +kernel
theorem dX10_stepY_1 : decode cX10_stepY 1 = .ok (.ifCond .ne 7, 3) := by decide +kernel
theorem dX10_stepY_4 : decode cX10_stepY 4 = .ok (.iconst 1, 1) := by decide +kernel
theorem dX10_stepY_5 : decode cX10_stepY 5 = .ok (.goto 13, 3) := by decide +kernel
theorem dX10_stepY_8 : decode cX10_stepY 8 = .ok (.iload_n 0, 1) := by decide +kernel
theorem dX10_stepY_9 : decode cX10_stepY 9 = .ok (.iconst 2, 1) := by decide +kernel
theorem dX10_stepY_10 : decode cX10_stepY 10 = .ok (.if_icmp .ne 7, 3) := by decide +kernel
theorem dX10_stepY_13 : decode cX10_stepY 13 = .ok (.iconst (-1), 1) := by decide +kernel
theorem dX10_stepY_14 : decode cX10_stepY 14 = .ok (.goto 4, 3) := by decide +kernel
theorem dX10_stepY_17 : decode cX10_stepY 17 = .ok (.iconst 0, 1) := by decide +kernel
theorem dX10_stepY_18 : decode cX10_stepY 18 = .ok (.ireturn, 1) := by decide +kernel
theorem dX10_sinkOf_0 : decode cX10_sinkOf 0 = .ok (.sipush 1000, 3) := by decide +kernel
theorem dX10_sinkOf_3 : decode cX10_sinkOf 3 = .ok (.aload_n 0, 1) := by decide +kernel
theorem dX10_sinkOf_4 : decode cX10_sinkOf 4 = .ok (.iload_n 1, 1) := by decide +kernel
theorem dX10_sinkOf_5 : decode cX10_sinkOf 5 = .ok (.iconst 0, 1) := by decide +kernel
theorem dX10_sinkOf_6 : decode cX10_sinkOf 6 = .ok (.invokevirtual 78, 3) := by decide +kernel
theorem dX10_sinkOf_9 : decode cX10_sinkOf 9 = .ok (.idiv, 1) := by decide +kernel
theorem dX10_sinkOf_10 : decode cX10_sinkOf 10 = .ok (.ireturn, 1) := by decide +kernel
theorem dX10_isThere_0 : decode cX10_isThere 0 = .ok (.aload_n 0, 1) := by decide +kernel
theorem dX10_isThere_1 : decode cX10_isThere 1 = .ok (.iload_n 1, 1) := by decide +kernel
theorem dX10_isThere_2 : decode cX10_isThere 2 = .ok (.iconst 2, 1) := by decide +kernel
theorem dX10_isThere_3 : decode cX10_isThere 3 = .ok (.invokevirtual 78, 3) := by decide +kernel
theorem dX10_isThere_6 : decode cX10_isThere 6 = .ok (.aload_n 0, 1) := by decide +kernel
theorem dX10_isThere_7 : decode cX10_isThere 7 = .ok (.iload_n 2, 1) := by decide +kernel
theorem dX10_isThere_8 : decode cX10_isThere 8 = .ok (.invokevirtual 55, 3) := by decide +kernel
theorem dX10_isThere_11 : decode cX10_isThere 11 = .ok (.if_icmp .ne 21, 3) := by decide +kernel
theorem dX10_isThere_14 : decode cX10_isThere 14 = .ok (.aload_n 0, 1) := by decide +kernel
theorem dX10_isThere_15 : decode cX10_isThere 15 = .ok (.iload_n 1, 1) := by decide +kernel
theorem dX10_isThere_16 : decode cX10_isThere 16 = .ok (.iconst 3, 1) := by decide +kernel
theorem dX10_isThere_17 : decode cX10_isThere 17 = .ok (.invokevirtual 78, 3) := by decide +kernel
theorem dX10_isThere_20 : decode cX10_isThere 20 = .ok (.aload_n 0, 1) := by decide +kernel
theorem dX10_isThere_21 : decode cX10_isThere 21 = .ok (.iload_n 2, 1) := by decide +kernel
theorem dX10_isThere_22 : decode cX10_isThere 22 = .ok (.invokevirtual 63, 3) := by decide +kernel
theorem dX10_isThere_25 : decode cX10_isThere 25 = .ok (.if_icmp .ne 7, 3) := by decide +kernel
theorem dX10_isThere_28 : decode cX10_isThere 28 = .ok (.iconst 1, 1) := by decide +kernel
theorem dX10_isThere_29 : decode cX10_isThere 29 = .ok (.goto 4, 3) := by decide +kernel
theorem dX10_isThere_32 : decode cX10_isThere 32 = .ok (.iconst 0, 1) := by decide +kernel
theorem dX10_isThere_33 : decode cX10_isThere 33 = .ok (.ireturn, 1) := by decide +kernel
theorem dX10_kilometre_0 : decode cX10_kilometre 0 = .ok (.aload_n 0, 1) := by decide +kernel
theorem dX10_kilometre_1 : decode cX10_kilometre 1 = .ok (.iload_n 1, 1) := by decide +kernel
theorem dX10_kilometre_2 : decode cX10_kilometre 2 = .ok (.iconst 2, 1) := by decide +kernel
theorem dX10_kilometre_3 : decode cX10_kilometre 3 = .ok (.aload_n 0, 1) := by decide +kernel
theorem dX10_kilometre_4 : decode cX10_kilometre 4 = .ok (.iload_n 1, 1) := by decide +kernel
theorem dX10_kilometre_5 : decode cX10_kilometre 5 = .ok (.iconst 2, 1) := by decide +kernel
theorem dX10_kilometre_6 : decode cX10_kilometre 6 = .ok (.invokevirtual 78, 3) := by decide +kernel
theorem dX10_kilometre_9 : decode cX10_kilometre 9 = .ok (.iload_n 2, 1) := by decide +kernel
theorem dX10_kilometre_10 : decode cX10_kilometre 10 = .ok (.invokestatic 140, 3) := by decide +kernel
theorem dX10_kilometre_13 : decode cX10_kilometre 13 = .ok (.iadd, 1) := by decide +kernel
theorem dX10_kilometre_14 : decode cX10_kilometre 14 = .ok (.invokevirtual 124, 3) := by decide +kernel
theorem dX10_kilometre_17 : decode cX10_kilometre 17 = .ok (.aload_n 0, 1) := by decide +kernel
theorem dX10_kilometre_18 : decode cX10_kilometre 18 = .ok (.iload_n 1, 1) := by decide +kernel
theorem dX10_kilometre_19 : decode cX10_kilometre 19 = .ok (.iconst 3, 1) := by decide +kernel
theorem dX10_kilometre_20 : decode cX10_kilometre 20 = .ok (.aload_n 0, 1) := by decide +kernel
theorem dX10_kilometre_21 : decode cX10_kilometre 21 = .ok (.iload_n 1, 1) := by decide +kernel
theorem dX10_kilometre_22 : decode cX10_kilometre 22 = .ok (.iconst 3, 1) := by decide +kernel
theorem dX10_kilometre_23 : decode cX10_kilometre 23 = .ok (.invokevirtual 78, 3) := by decide +kernel
theorem dX10_kilometre_26 : decode cX10_kilometre 26 = .ok (.iload_n 2, 1) := by decide +kernel
theorem dX10_kilometre_27 : decode cX10_kilometre 27 = .ok (.invokestatic 143, 3) := by decide +kernel
theorem dX10_kilometre_30 : decode cX10_kilometre 30 = .ok (.iadd, 1) := by decide +kernel
theorem dX10_kilometre_31 : decode cX10_kilometre 31 = .ok (.invokevirtual 124, 3) := by decide +kernel
theorem dX10_kilometre_34 : decode cX10_kilometre 34 = .ok (.aload_n 0, 1) := by decide +kernel
theorem dX10_kilometre_35 : decode cX10_kilometre 35 = .ok (.iload_n 1, 1) := by decide +kernel
theorem dX10_kilometre_36 : decode cX10_kilometre 36 = .ok (.iconst 5, 1) := by decide +kernel
theorem dX10_kilometre_37 : decode cX10_kilometre 37 = .ok (.aload_n 0, 1) := by decide +kernel
theorem dX10_kilometre_38 : decode cX10_kilometre 38 = .ok (.iload_n 1, 1) := by decide +kernel
theorem dX10_kilometre_39 : decode cX10_kilometre 39 = .ok (.iconst 5, 1) := by decide +kernel
theorem dX10_kilometre_40 : decode cX10_kilometre 40 = .ok (.invokevirtual 78, 3) := by decide +kernel
theorem dX10_kilometre_43 : decode cX10_kilometre 43 = .ok (.iconst 1, 1) := by decide +kernel
theorem dX10_kilometre_44 : decode cX10_kilometre 44 = .ok (.iadd, 1) := by decide +kernel
theorem dX10_kilometre_45 : decode cX10_kilometre 45 = .ok (.invokevirtual 124, 3) := by decide +kernel
theorem dX10_kilometre_48 : decode cX10_kilometre 48 = .ok (.aload_n 0, 1) := by decide +kernel
theorem dX10_kilometre_49 : decode cX10_kilometre 49 = .ok (.iload_n 1, 1) := by decide +kernel
theorem dX10_kilometre_50 : decode cX10_kilometre 50 = .ok (.iconst 4, 1) := by decide +kernel
theorem dX10_kilometre_51 : decode cX10_kilometre 51 = .ok (.invokevirtual 78, 3) := by decide +kernel
theorem dX10_kilometre_54 : decode cX10_kilometre 54 = .ok (.aload_n 0, 1) := by decide +kernel
theorem dX10_kilometre_55 : decode cX10_kilometre 55 = .ok (.iload_n 1, 1) := by decide +kernel
theorem dX10_kilometre_56 : decode cX10_kilometre 56 = .ok (.invokevirtual 146, 3) := by decide +kernel
theorem dX10_kilometre_59 : decode cX10_kilometre 59 = .ok (.isub, 1) := by decide +kernel
theorem dX10_kilometre_60 : decode cX10_kilometre 60 = .ok (.istore_n 3, 1) := by decide +kernel
theorem dX10_kilometre_61 : decode cX10_kilometre 61 = .ok (.aload_n 0, 1) := by decide +kernel
theorem dX10_kilometre_62 : decode cX10_kilometre 62 = .ok (.iload_n 1, 1) := by decide +kernel
theorem dX10_kilometre_63 : decode cX10_kilometre 63 = .ok (.iconst 4, 1) := by decide +kernel
theorem dX10_kilometre_64 : decode cX10_kilometre 64 = .ok (.iload_n 3, 1) := by decide +kernel
theorem dX10_kilometre_65 : decode cX10_kilometre 65 = .ok (.ifCond .ge 7, 3) := by decide +kernel
theorem dX10_kilometre_68 : decode cX10_kilometre 68 = .ok (.iconst 0, 1) := by decide +kernel
theorem dX10_kilometre_69 : decode cX10_kilometre 69 = .ok (.goto 4, 3) := by decide +kernel
theorem dX10_kilometre_72 : decode cX10_kilometre 72 = .ok (.iload_n 3, 1) := by decide +kernel
theorem dX10_kilometre_73 : decode cX10_kilometre 73 = .ok (.invokevirtual 124, 3) := by decide +kernel
theorem dX10_kilometre_76 : decode cX10_kilometre 76 = .ok (.aload_n 0, 1) := by decide +kernel
theorem dX10_kilometre_77 : decode cX10_kilometre 77 = .ok (.aload_n 0, 1) := by decide +kernel
theorem dX10_kilometre_78 : decode cX10_kilometre 78 = .ok (.iload_n 1, 1) := by decide +kernel
theorem dX10_kilometre_79 : decode cX10_kilometre 79 = .ok (.iconst 2, 1) := by decide +kernel
theorem dX10_kilometre_80 : decode cX10_kilometre 80 = .ok (.invokevirtual 78, 3) := by decide +kernel
theorem dX10_kilometre_83 : decode cX10_kilometre 83 = .ok (.aload_n 0, 1) := by decide +kernel
theorem dX10_kilometre_84 : decode cX10_kilometre 84 = .ok (.iload_n 1, 1) := by decide +kernel
theorem dX10_kilometre_85 : decode cX10_kilometre 85 = .ok (.iconst 3, 1) := by decide +kernel
theorem dX10_kilometre_86 : decode cX10_kilometre 86 = .ok (.invokevirtual 78, 3) := by decide +kernel
theorem dX10_kilometre_89 : decode cX10_kilometre 89 = .ok (.invokevirtual 149, 3) := by decide +kernel
theorem dX10_kilometre_92 : decode cX10_kilometre 92 = .ok (.ifCond .eq 20, 3) := by decide +kernel
theorem dX10_kilometre_95 : decode cX10_kilometre 95 = .ok (.aload_n 0, 1) := by decide +kernel
theorem dX10_kilometre_96 : decode cX10_kilometre 96 = .ok (.iload_n 1, 1) := by decide +kernel
theorem dX10_kilometre_97 : decode cX10_kilometre 97 = .ok (.bipush 6, 2) := by decide +kernel
theorem dX10_kilometre_99 : decode cX10_kilometre 99 = .ok (.aload_n 0, 1) := by decide +kernel
theorem dX10_kilometre_100 : decode cX10_kilometre 100 = .ok (.iload_n 1, 1) := by decide +kernel
theorem dX10_kilometre_101 : decode cX10_kilometre 101 = .ok (.bipush 6, 2) := by decide +kernel
theorem dX10_kilometre_103 : decode cX10_kilometre 103 = .ok (.invokevirtual 78, 3) := by decide +kernel
theorem dX10_kilometre_106 : decode cX10_kilometre 106 = .ok (.bipush 10, 2) := by decide +kernel
theorem dX10_kilometre_108 : decode cX10_kilometre 108 = .ok (.iadd, 1) := by decide +kernel
theorem dX10_kilometre_109 : decode cX10_kilometre 109 = .ok (.invokevirtual 124, 3) := by decide +kernel
theorem dX10_kilometre_112 : decode cX10_kilometre 112 = .ok (.aload_n 0, 1) := by decide +kernel
theorem dX10_kilometre_113 : decode cX10_kilometre 113 = .ok (.iload_n 1, 1) := by decide +kernel
theorem dX10_kilometre_114 : decode cX10_kilometre 114 = .ok (.aload_n 0, 1) := by decide +kernel
theorem dX10_kilometre_115 : decode cX10_kilometre 115 = .ok (.aload_n 0, 1) := by decide +kernel
theorem dX10_kilometre_116 : decode cX10_kilometre 116 = .ok (.iload_n 1, 1) := by decide +kernel
theorem dX10_kilometre_117 : decode cX10_kilometre 117 = .ok (.bipush 7, 2) := by decide +kernel
theorem dX10_kilometre_119 : decode cX10_kilometre 119 = .ok (.invokevirtual 78, 3) := by decide +kernel
theorem dX10_kilometre_122 : decode cX10_kilometre 122 = .ok (.invokevirtual 66, 3) := by decide +kernel
theorem dX10_kilometre_125 : decode cX10_kilometre 125 = .ok (.invokevirtual 152, 3) := by decide +kernel
theorem dX10_kilometre_128 : decode cX10_kilometre 128 = .ok (.ifCond .eq 19, 3) := by decide +kernel
theorem dX10_kilometre_131 : decode cX10_kilometre 131 = .ok (.aload_n 0, 1) := by decide +kernel
theorem dX10_kilometre_132 : decode cX10_kilometre 132 = .ok (.iload_n 1, 1) := by decide +kernel
theorem dX10_kilometre_133 : decode cX10_kilometre 133 = .ok (.bipush 7, 2) := by decide +kernel
theorem dX10_kilometre_135 : decode cX10_kilometre 135 = .ok (.aload_n 0, 1) := by decide +kernel
theorem dX10_kilometre_136 : decode cX10_kilometre 136 = .ok (.iload_n 1, 1) := by decide +kernel
theorem dX10_kilometre_137 : decode cX10_kilometre 137 = .ok (.bipush 7, 2) := by decide +kernel
theorem dX10_kilometre_139 : decode cX10_kilometre 139 = .ok (.invokevirtual 78, 3) := by decide +kernel
theorem dX10_kilometre_142 : decode cX10_kilometre 142 = .ok (.iconst 1, 1) := by decide +kernel
theorem dX10_kilometre_143 : decode cX10_kilometre 143 = .ok (.iadd, 1) := by decide +kernel
theorem dX10_kilometre_144 : decode cX10_kilometre 144 = .ok (.invokevirtual 124, 3) := by decide +kernel
theorem dX10_kilometre_147 : decode cX10_kilometre 147 = .ok (.aload_n 0, 1) := by decide +kernel
theorem dX10_kilometre_148 : decode cX10_kilometre 148 = .ok (.iload_n 1, 1) := by decide +kernel
theorem dX10_kilometre_149 : decode cX10_kilometre 149 = .ok (.bipush 7, 2) := by decide +kernel
theorem dX10_kilometre_151 : decode cX10_kilometre 151 = .ok (.invokevirtual 78, 3) := by decide +kernel
theorem dX10_kilometre_154 : decode cX10_kilometre 154 = .ok (.aload_n 0, 1) := by decide +kernel
theorem dX10_kilometre_155 : decode cX10_kilometre 155 = .ok (.getfield 9, 3) := by decide +kernel
theorem dX10_kilometre_158 : decode cX10_kilometre 158 = .ok (.iconst 1, 1) := by decide +kernel
theorem dX10_kilometre_159 : decode cX10_kilometre 159 = .ok (.iaload, 1) := by decide +kernel
theorem dX10_kilometre_160 : decode cX10_kilometre 160 = .ok (.if_icmp .ne 13, 3) := by decide +kernel
theorem dX10_kilometre_163 : decode cX10_kilometre 163 = .ok (.aload_n 0, 1) := by decide +kernel
theorem dX10_kilometre_164 : decode cX10_kilometre 164 = .ok (.iload_n 1, 1) := by decide +kernel
theorem dX10_kilometre_165 : decode cX10_kilometre 165 = .ok (.iconst 1, 1) := by decide +kernel
theorem dX10_kilometre_166 : decode cX10_kilometre 166 = .ok (.iconst 3, 1) := by decide +kernel
theorem dX10_kilometre_167 : decode cX10_kilometre 167 = .ok (.invokevirtual 124, 3) := by decide +kernel
theorem dX10_kilometre_170 : decode cX10_kilometre 170 = .ok (.goto 19, 3) := by decide +kernel
theorem dX10_kilometre_173 : decode cX10_kilometre 173 = .ok (.aload_n 0, 1) := by decide +kernel
theorem dX10_kilometre_174 : decode cX10_kilometre 174 = .ok (.iload_n 1, 1) := by decide +kernel
theorem dX10_kilometre_175 : decode cX10_kilometre 175 = .ok (.iconst 4, 1) := by decide +kernel
theorem dX10_kilometre_176 : decode cX10_kilometre 176 = .ok (.invokevirtual 78, 3) := by decide +kernel
theorem dX10_kilometre_179 : decode cX10_kilometre 179 = .ok (.ifCond .ne 10, 3) := by decide +kernel
theorem dX10_kilometre_182 : decode cX10_kilometre 182 = .ok (.aload_n 0, 1) := by decide +kernel
theorem dX10_kilometre_183 : decode cX10_kilometre 183 = .ok (.iload_n 1, 1) := by decide +kernel
theorem dX10_kilometre_184 : decode cX10_kilometre 184 = .ok (.iconst 1, 1) := by decide +kernel
theorem dX10_kilometre_185 : decode cX10_kilometre 185 = .ok (.iconst 2, 1) := by decide +kernel
theorem dX10_kilometre_186 : decode cX10_kilometre 186 = .ok (.invokevirtual 124, 3) := by decide +kernel
theorem dX10_kilometre_189 : decode cX10_kilometre 189 = .ok (.return_, 1) := by decide +kernel
theorem dX10_flies_0 : decode cX10_flies 0 = .ok (.aload_n 0, 1) := by decide +kernel
theorem dX10_flies_1 : decode cX10_flies 1 = .ok (.aload_n 0, 1) := by decide +kernel
theorem dX10_flies_2 : decode cX10_flies 2 = .ok (.iload_n 1, 1) := by decide +kernel
theorem dX10_flies_3 : decode cX10_flies 3 = .ok (.invokevirtual 131, 3) := by decide +kernel
theorem dX10_flies_6 : decode cX10_flies 6 = .ok (.ifCond .ne 7, 3) := by decide +kernel
theorem dX10_flies_9 : decode cX10_flies 9 = .ok (.iconst 1, 1) := by decide +kernel
theorem dX10_flies_10 : decode cX10_flies 10 = .ok (.goto 4, 3) := by decide +kernel
theorem dX10_flies_13 : decode cX10_flies 13 = .ok (.iconst 0, 1) := by decide +kernel
theorem dX10_flies_14 : decode cX10_flies 14 = .ok (.iconst 1, 1) := by decide +kernel
theorem dX10_flies_15 : decode cX10_flies 15 = .ok (.invokevirtual 85, 3) := by decide +kernel
theorem dX10_flies_18 : decode cX10_flies 18 = .ok (.ifCond .ne 58, 3) := by decide +kernel
theorem dX10_flies_21 : decode cX10_flies 21 = .ok (.aload_n 0, 1) := by decide +kernel
theorem dX10_flies_22 : decode cX10_flies 22 = .ok (.iload_n 2, 1) := by decide +kernel
theorem dX10_flies_23 : decode cX10_flies 23 = .ok (.iconst 0, 1) := by decide +kernel
theorem dX10_flies_24 : decode cX10_flies 24 = .ok (.iconst 3, 1) := by decide +kernel
theorem dX10_flies_25 : decode cX10_flies 25 = .ok (.invokestatic 51, 3) := by decide +kernel
theorem dX10_flies_28 : decode cX10_flies 28 = .ok (.ifCond .eq 13, 3) := by decide +kernel
theorem dX10_flies_31 : decode cX10_flies 31 = .ok (.iload_n 3, 1) := by decide +kernel
theorem dX10_flies_32 : decode cX10_flies 32 = .ok (.iconst 1, 1) := by decide +kernel
theorem dX10_flies_33 : decode cX10_flies 33 = .ok (.bipush 60, 2) := by decide +kernel
theorem dX10_flies_35 : decode cX10_flies 35 = .ok (.invokestatic 51, 3) := by decide +kernel
theorem dX10_flies_38 : decode cX10_flies 38 = .ok (.ifCond .ne 7, 3) := by decide +kernel
theorem dX10_flies_41 : decode cX10_flies 41 = .ok (.iconst 1, 1) := by decide +kernel
theorem dX10_flies_42 : decode cX10_flies 42 = .ok (.goto 4, 3) := by decide +kernel
theorem dX10_flies_45 : decode cX10_flies 45 = .ok (.iconst 0, 1) := by decide +kernel
theorem dX10_flies_46 : decode cX10_flies 46 = .ok (.iconst 2, 1) := by decide +kernel
theorem dX10_flies_47 : decode cX10_flies 47 = .ok (.invokevirtual 85, 3) := by decide +kernel
theorem dX10_flies_50 : decode cX10_flies 50 = .ok (.ifCond .ne 26, 3) := by decide +kernel
theorem dX10_flies_53 : decode cX10_flies 53 = .ok (.aload_n 0, 1) := by decide +kernel
theorem dX10_flies_54 : decode cX10_flies 54 = .ok (.aload_n 0, 1) := by decide +kernel
theorem dX10_flies_55 : decode cX10_flies 55 = .ok (.iload_n 1, 1) := by decide +kernel
theorem dX10_flies_56 : decode cX10_flies 56 = .ok (.iconst 1, 1) := by decide +kernel
theorem dX10_flies_57 : decode cX10_flies 57 = .ok (.invokevirtual 78, 3) := by decide +kernel
theorem dX10_flies_60 : decode cX10_flies 60 = .ok (.iconst 1, 1) := by decide +kernel
theorem dX10_flies_61 : decode cX10_flies 61 = .ok (.if_icmp .eq 7, 3) := by decide +kernel
theorem dX10_flies_64 : decode cX10_flies 64 = .ok (.iconst 1, 1) := by decide +kernel
theorem dX10_flies_65 : decode cX10_flies 65 = .ok (.goto 4, 3) := by decide +kernel
theorem dX10_flies_68 : decode cX10_flies 68 = .ok (.iconst 0, 1) := by decide +kernel
theorem dX10_flies_69 : decode cX10_flies 69 = .ok (.iconst 3, 1) := by decide +kernel
theorem dX10_flies_70 : decode cX10_flies 70 = .ok (.invokevirtual 85, 3) := by decide +kernel
theorem dX10_flies_73 : decode cX10_flies 73 = .ok (.ifCond .eq 5, 3) := by decide +kernel
theorem dX10_flies_76 : decode cX10_flies 76 = .ok (.iconst 0, 1) := by decide +kernel
theorem dX10_flies_77 : decode cX10_flies 77 = .ok (.ireturn, 1) := by decide +kernel
theorem dX10_flies_78 : decode cX10_flies 78 = .ok (.aload_n 0, 1) := by decide +kernel
theorem dX10_flies_79 : decode cX10_flies 79 = .ok (.aload_n 0, 1) := by decide +kernel
theorem dX10_flies_80 : decode cX10_flies 80 = .ok (.iload_n 1, 1) := by decide +kernel
theorem dX10_flies_81 : decode cX10_flies 81 = .ok (.iconst 2, 1) := by decide +kernel
theorem dX10_flies_82 : decode cX10_flies 82 = .ok (.invokevirtual 78, 3) := by decide +kernel
theorem dX10_flies_85 : decode cX10_flies 85 = .ok (.iload_n 3, 1) := by decide +kernel
theorem dX10_flies_86 : decode cX10_flies 86 = .ok (.iload_n 2, 1) := by decide +kernel
theorem dX10_flies_87 : decode cX10_flies 87 = .ok (.invokestatic 140, 3) := by decide +kernel
theorem dX10_flies_90 : decode cX10_flies 90 = .ok (.imul, 1) := by decide +kernel
theorem dX10_flies_91 : decode cX10_flies 91 = .ok (.iadd, 1) := by decide +kernel
theorem dX10_flies_92 : decode cX10_flies 92 = .ok (.aload_n 0, 1) := by decide +kernel
theorem dX10_flies_93 : decode cX10_flies 93 = .ok (.iload_n 1, 1) := by decide +kernel
theorem dX10_flies_94 : decode cX10_flies 94 = .ok (.iconst 3, 1) := by decide +kernel
theorem dX10_flies_95 : decode cX10_flies 95 = .ok (.invokevirtual 78, 3) := by decide +kernel
theorem dX10_flies_98 : decode cX10_flies 98 = .ok (.iload_n 3, 1) := by decide +kernel
theorem dX10_flies_99 : decode cX10_flies 99 = .ok (.iload_n 2, 1) := by decide +kernel
theorem dX10_flies_100 : decode cX10_flies 100 = .ok (.invokestatic 143, 3) := by decide +kernel
theorem dX10_flies_103 : decode cX10_flies 103 = .ok (.imul, 1) := by decide +kernel
theorem dX10_flies_104 : decode cX10_flies 104 = .ok (.iadd, 1) := by decide +kernel
theorem dX10_flies_105 : decode cX10_flies 105 = .ok (.invokestatic 81, 3) := by decide +kernel
theorem dX10_flies_108 : decode cX10_flies 108 = .ok (.ifCond .ne 7, 3) := by decide +kernel
theorem dX10_flies_111 : decode cX10_flies 111 = .ok (.iconst 1, 1) := by decide +kernel
theorem dX10_flies_112 : decode cX10_flies 112 = .ok (.goto 4, 3) := by decide +kernel
theorem dX10_flies_115 : decode cX10_flies 115 = .ok (.iconst 0, 1) := by decide +kernel
theorem dX10_flies_116 : decode cX10_flies 116 = .ok (.iconst 4, 1) := by decide +kernel
theorem dX10_flies_117 : decode cX10_flies 117 = .ok (.invokevirtual 85, 3) := by decide +kernel
theorem dX10_flies_120 : decode cX10_flies 120 = .ok (.ifCond .eq 5, 3) := by decide +kernel
theorem dX10_flies_123 : decode cX10_flies 123 = .ok (.iconst 0, 1) := by decide +kernel
theorem dX10_flies_124 : decode cX10_flies 124 = .ok (.ireturn, 1) := by decide +kernel
theorem dX10_flies_125 : decode cX10_flies 125 = .ok (.iconst 0, 1) := by decide +kernel
theorem dX10_flies_126 : decode cX10_flies 126 = .ok (.istore 4, 2) := by decide +kernel
theorem dX10_flies_128 : decode cX10_flies 128 = .ok (.iload 4, 2) := by decide +kernel
theorem dX10_flies_130 : decode cX10_flies 130 = .ok (.iload_n 3, 1) := by decide +kernel
theorem dX10_flies_131 : decode cX10_flies 131 = .ok (.if_icmp .ge 25, 3) := by decide +kernel
theorem dX10_flies_134 : decode cX10_flies 134 = .ok (.aload_n 0, 1) := by decide +kernel
theorem dX10_flies_135 : decode cX10_flies 135 = .ok (.iload_n 1, 1) := by decide +kernel
theorem dX10_flies_136 : decode cX10_flies 136 = .ok (.iconst 1, 1) := by decide +kernel
theorem dX10_flies_137 : decode cX10_flies 137 = .ok (.invokevirtual 78, 3) := by decide +kernel
theorem dX10_flies_140 : decode cX10_flies 140 = .ok (.iconst 1, 1) := by decide +kernel
theorem dX10_flies_141 : decode cX10_flies 141 = .ok (.if_icmp .ne 15, 3) := by decide +kernel
theorem dX10_flies_144 : decode cX10_flies 144 = .ok (.aload_n 0, 1) := by decide +kernel
theorem dX10_flies_145 : decode cX10_flies 145 = .ok (.iload_n 1, 1) := by decide +kernel
theorem dX10_flies_146 : decode cX10_flies 146 = .ok (.iload_n 2, 1) := by decide +kernel
theorem dX10_flies_147 : decode cX10_flies 147 = .ok (.invokevirtual 155, 3) := by decide +kernel
theorem dX10_flies_150 : decode cX10_flies 150 = .ok (.iinc 4 1, 3) := by decide +kernel
theorem dX10_flies_153 : decode cX10_flies 153 = .ok (.goto (-25), 3) := by decide +kernel
theorem dX10_flies_156 : decode cX10_flies 156 = .ok (.iload 4, 2) := by decide +kernel
theorem dX10_flies_158 : decode cX10_flies 158 = .ok (.ireturn, 1) := by decide +kernel
theorem dX10_fly_0 : decode cX10_fly 0 = .ok (.aload_n 0, 1) := by decide +kernel
theorem dX10_fly_1 : decode cX10_fly 1 = .ok (.invokevirtual 89, 3) := by decide +kernel
theorem dX10_fly_4 : decode cX10_fly 4 = .ok (.aload_n 0, 1) := by decide +kernel
theorem dX10_fly_5 : decode cX10_fly 5 = .ok (.aload_n 0, 1) := by decide +kernel
theorem dX10_fly_6 : decode cX10_fly 6 = .ok (.iload_n 1, 1) := by decide +kernel
theorem dX10_fly_7 : decode cX10_fly 7 = .ok (.iload_n 2, 1) := by decide +kernel
theorem dX10_fly_8 : decode cX10_fly 8 = .ok (.iload_n 3, 1) := by decide +kernel
theorem dX10_fly_9 : decode cX10_fly 9 = .ok (.invokevirtual 159, 3) := by decide +kernel
theorem dX10_fly_12 : decode cX10_fly 12 = .ok (.invokevirtual 95, 3) := by decide +kernel
theorem dX10_fly_15 : decode cX10_fly 15 = .ok (.ireturn, 1) := by decide +kernel
theorem dX10_climbs_0 : decode cX10_climbs 0 = .ok (.aload_n 0, 1) := by decide +kernel
theorem dX10_climbs_1 : decode cX10_climbs 1 = .ok (.aload_n 0, 1) := by decide +kernel
theorem dX10_climbs_2 : decode cX10_climbs 2 = .ok (.iload_n 1, 1) := by decide +kernel
theorem dX10_climbs_3 : decode cX10_climbs 3 = .ok (.invokevirtual 131, 3) := by decide +kernel
theorem dX10_climbs_6 : decode cX10_climbs 6 = .ok (.ifCond .ne 7, 3) := by decide +kernel
theorem dX10_climbs_9 : decode cX10_climbs 9 = .ok (.iconst 1, 1) := by decide +kernel
theorem dX10_climbs_10 : decode cX10_climbs 10 = .ok (.goto 4, 3) := by decide +kernel
theorem dX10_climbs_13 : decode cX10_climbs 13 = .ok (.iconst 0, 1) := by decide +kernel
theorem dX10_climbs_14 : decode cX10_climbs 14 = .ok (.iconst 1, 1) := by decide +kernel
theorem dX10_climbs_15 : decode cX10_climbs 15 = .ok (.invokevirtual 85, 3) := by decide +kernel
theorem dX10_climbs_18 : decode cX10_climbs 18 = .ok (.ifCond .ne 49, 3) := by decide +kernel
theorem dX10_climbs_21 : decode cX10_climbs 21 = .ok (.aload_n 0, 1) := by decide +kernel
theorem dX10_climbs_22 : decode cX10_climbs 22 = .ok (.iload_n 2, 1) := by decide +kernel
theorem dX10_climbs_23 : decode cX10_climbs 23 = .ok (.iconst 1, 1) := by decide +kernel
theorem dX10_climbs_24 : decode cX10_climbs 24 = .ok (.bipush 30, 2) := by decide +kernel
theorem dX10_climbs_26 : decode cX10_climbs 26 = .ok (.invokestatic 51, 3) := by decide +kernel
theorem dX10_climbs_29 : decode cX10_climbs 29 = .ok (.ifCond .ne 7, 3) := by decide +kernel
theorem dX10_climbs_32 : decode cX10_climbs 32 = .ok (.iconst 1, 1) := by decide +kernel
theorem dX10_climbs_33 : decode cX10_climbs 33 = .ok (.goto 4, 3) := by decide +kernel
theorem dX10_climbs_36 : decode cX10_climbs 36 = .ok (.iconst 0, 1) := by decide +kernel
theorem dX10_climbs_37 : decode cX10_climbs 37 = .ok (.iconst 2, 1) := by decide +kernel
theorem dX10_climbs_38 : decode cX10_climbs 38 = .ok (.invokevirtual 85, 3) := by decide +kernel
theorem dX10_climbs_41 : decode cX10_climbs 41 = .ok (.ifCond .ne 26, 3) := by decide +kernel
theorem dX10_climbs_44 : decode cX10_climbs 44 = .ok (.aload_n 0, 1) := by decide +kernel
theorem dX10_climbs_45 : decode cX10_climbs 45 = .ok (.aload_n 0, 1) := by decide +kernel
theorem dX10_climbs_46 : decode cX10_climbs 46 = .ok (.iload_n 1, 1) := by decide +kernel
theorem dX10_climbs_47 : decode cX10_climbs 47 = .ok (.iconst 1, 1) := by decide +kernel
theorem dX10_climbs_48 : decode cX10_climbs 48 = .ok (.invokevirtual 78, 3) := by decide +kernel
theorem dX10_climbs_51 : decode cX10_climbs 51 = .ok (.iconst 1, 1) := by decide +kernel
theorem dX10_climbs_52 : decode cX10_climbs 52 = .ok (.if_icmp .eq 7, 3) := by decide +kernel
theorem dX10_climbs_55 : decode cX10_climbs 55 = .ok (.iconst 1, 1) := by decide +kernel
theorem dX10_climbs_56 : decode cX10_climbs 56 = .ok (.goto 4, 3) := by decide +kernel
theorem dX10_climbs_59 : decode cX10_climbs 59 = .ok (.iconst 0, 1) := by decide +kernel
theorem dX10_climbs_60 : decode cX10_climbs 60 = .ok (.iconst 3, 1) := by decide +kernel
theorem dX10_climbs_61 : decode cX10_climbs 61 = .ok (.invokevirtual 85, 3) := by decide +kernel
theorem dX10_climbs_64 : decode cX10_climbs 64 = .ok (.ifCond .eq 5, 3) := by decide +kernel
theorem dX10_climbs_67 : decode cX10_climbs 67 = .ok (.iconst 0, 1) := by decide +kernel
theorem dX10_climbs_68 : decode cX10_climbs 68 = .ok (.ireturn, 1) := by decide +kernel
theorem dX10_climbs_69 : decode cX10_climbs 69 = .ok (.aload_n 0, 1) := by decide +kernel
theorem dX10_climbs_70 : decode cX10_climbs 70 = .ok (.aload_n 0, 1) := by decide +kernel
theorem dX10_climbs_71 : decode cX10_climbs 71 = .ok (.iload_n 1, 1) := by decide +kernel
theorem dX10_climbs_72 : decode cX10_climbs 72 = .ok (.iconst 2, 1) := by decide +kernel
theorem dX10_climbs_73 : decode cX10_climbs 73 = .ok (.invokevirtual 78, 3) := by decide +kernel
theorem dX10_climbs_76 : decode cX10_climbs 76 = .ok (.aload_n 0, 1) := by decide +kernel
theorem dX10_climbs_77 : decode cX10_climbs 77 = .ok (.iload_n 1, 1) := by decide +kernel
theorem dX10_climbs_78 : decode cX10_climbs 78 = .ok (.iconst 3, 1) := by decide +kernel
theorem dX10_climbs_79 : decode cX10_climbs 79 = .ok (.invokevirtual 78, 3) := by decide +kernel
theorem dX10_climbs_82 : decode cX10_climbs 82 = .ok (.invokevirtual 162, 3) := by decide +kernel
theorem dX10_climbs_85 : decode cX10_climbs 85 = .ok (.istore_n 3, 1) := by decide +kernel
theorem dX10_climbs_86 : decode cX10_climbs 86 = .ok (.aload_n 0, 1) := by decide +kernel
theorem dX10_climbs_87 : decode cX10_climbs 87 = .ok (.iload_n 3, 1) := by decide +kernel
theorem dX10_climbs_88 : decode cX10_climbs 88 = .ok (.ifCond .ne 7, 3) := by decide +kernel
theorem dX10_climbs_91 : decode cX10_climbs 91 = .ok (.iconst 1, 1) := by decide +kernel
theorem dX10_climbs_92 : decode cX10_climbs 92 = .ok (.goto 4, 3) := by decide +kernel
theorem dX10_climbs_95 : decode cX10_climbs 95 = .ok (.iconst 0, 1) := by decide +kernel
theorem dX10_climbs_96 : decode cX10_climbs 96 = .ok (.iconst 4, 1) := by decide +kernel
theorem dX10_climbs_97 : decode cX10_climbs 97 = .ok (.invokevirtual 85, 3) := by decide +kernel
theorem dX10_climbs_100 : decode cX10_climbs 100 = .ok (.ifCond .eq 5, 3) := by decide +kernel
theorem dX10_climbs_103 : decode cX10_climbs 103 = .ok (.iconst 0, 1) := by decide +kernel
theorem dX10_climbs_104 : decode cX10_climbs 104 = .ok (.ireturn, 1) := by decide +kernel
theorem dX10_climbs_105 : decode cX10_climbs 105 = .ok (.aload_n 0, 1) := by decide +kernel
theorem dX10_climbs_106 : decode cX10_climbs 106 = .ok (.iload_n 1, 1) := by decide +kernel
theorem dX10_climbs_107 : decode cX10_climbs 107 = .ok (.iconst 4, 1) := by decide +kernel
theorem dX10_climbs_108 : decode cX10_climbs 108 = .ok (.invokevirtual 78, 3) := by decide +kernel
theorem dX10_climbs_111 : decode cX10_climbs 111 = .ok (.istore 4, 2) := by decide +kernel
theorem dX10_climbs_113 : decode cX10_climbs 113 = .ok (.iload 4, 2) := by decide +kernel
theorem dX10_climbs_115 : decode cX10_climbs 115 = .ok (.bipush 60, 2) := by decide +kernel
theorem dX10_climbs_117 : decode cX10_climbs 117 = .ok (.iload_n 3, 1) := by decide +kernel
theorem dX10_climbs_118 : decode cX10_climbs 118 = .ok (.imul, 1) := by decide +kernel
theorem dX10_climbs_119 : decode cX10_climbs 119 = .ok (.iload_n 2, 1) := by decide +kernel
theorem dX10_climbs_120 : decode cX10_climbs 120 = .ok (.imul, 1) := by decide +kernel
theorem dX10_climbs_121 : decode cX10_climbs 121 = .ok (.iadd, 1) := by decide +kernel
theorem dX10_climbs_122 : decode cX10_climbs 122 = .ok (.istore 5, 2) := by decide +kernel
theorem dX10_climbs_124 : decode cX10_climbs 124 = .ok (.aload_n 0, 1) := by decide +kernel
theorem dX10_climbs_125 : decode cX10_climbs 125 = .ok (.iload_n 1, 1) := by decide +kernel
theorem dX10_climbs_126 : decode cX10_climbs 126 = .ok (.iconst 4, 1) := by decide +kernel
theorem dX10_climbs_127 : decode cX10_climbs 127 = .ok (.iload 4, 2) := by decide +kernel
theorem dX10_climbs_129 : decode cX10_climbs 129 = .ok (.aload_n 0, 1) := by decide +kernel
theorem dX10_climbs_130 : decode cX10_climbs 130 = .ok (.getfield 9, 3) := by decide +kernel
theorem dX10_climbs_133 : decode cX10_climbs 133 = .ok (.iconst 5, 1) := by decide +kernel
theorem dX10_climbs_134 : decode cX10_climbs 134 = .ok (.iaload, 1) := by decide +kernel
theorem dX10_climbs_135 : decode cX10_climbs 135 = .ok (.if_icmp .le 8, 3) := by decide +kernel
theorem dX10_climbs_138 : decode cX10_climbs 138 = .ok (.iload 4, 2) := by decide +kernel
theorem dX10_climbs_140 : decode cX10_climbs 140 = .ok (.goto 25, 3) := by decide +kernel
theorem dX10_climbs_143 : decode cX10_climbs 143 = .ok (.iload 5, 2) := by decide +kernel
theorem dX10_climbs_145 : decode cX10_climbs 145 = .ok (.aload_n 0, 1) := by decide +kernel
theorem dX10_climbs_146 : decode cX10_climbs 146 = .ok (.getfield 9, 3) := by decide +kernel
theorem dX10_climbs_149 : decode cX10_climbs 149 = .ok (.iconst 5, 1) := by decide +kernel
theorem dX10_climbs_150 : decode cX10_climbs 150 = .ok (.iaload, 1) := by decide +kernel
theorem dX10_climbs_151 : decode cX10_climbs 151 = .ok (.if_icmp .le 12, 3) := by decide +kernel
theorem dX10_climbs_154 : decode cX10_climbs 154 = .ok (.aload_n 0, 1) := by decide +kernel
theorem dX10_climbs_155 : decode cX10_climbs 155 = .ok (.getfield 9, 3) := by decide +kernel
theorem dX10_climbs_158 : decode cX10_climbs 158 = .ok (.iconst 5, 1) := by decide +kernel
theorem dX10_climbs_159 : decode cX10_climbs 159 = .ok (.iaload, 1) := by decide +kernel
theorem dX10_climbs_160 : decode cX10_climbs 160 = .ok (.goto 5, 3) := by decide +kernel
theorem dX10_climbs_163 : decode cX10_climbs 163 = .ok (.iload 5, 2) := by decide +kernel
theorem dX10_climbs_165 : decode cX10_climbs 165 = .ok (.invokevirtual 124, 3) := by decide +kernel
theorem dX10_climbs_168 : decode cX10_climbs 168 = .ok (.aload_n 0, 1) := by decide +kernel
theorem dX10_climbs_169 : decode cX10_climbs 169 = .ok (.iload_n 1, 1) := by decide +kernel
theorem dX10_climbs_170 : decode cX10_climbs 170 = .ok (.iconst 5, 1) := by decide +kernel
theorem dX10_climbs_171 : decode cX10_climbs 171 = .ok (.aload_n 0, 1) := by decide +kernel
theorem dX10_climbs_172 : decode cX10_climbs 172 = .ok (.iload_n 1, 1) := by decide +kernel
theorem dX10_climbs_173 : decode cX10_climbs 173 = .ok (.iconst 5, 1) := by decide +kernel
theorem dX10_climbs_174 : decode cX10_climbs 174 = .ok (.invokevirtual 78, 3) := by decide +kernel
theorem dX10_climbs_177 : decode cX10_climbs 177 = .ok (.iload_n 2, 1) := by decide +kernel
theorem dX10_climbs_178 : decode cX10_climbs 178 = .ok (.iadd, 1) := by decide +kernel
theorem dX10_climbs_179 : decode cX10_climbs 179 = .ok (.invokevirtual 124, 3) := by decide +kernel
theorem dX10_climbs_182 : decode cX10_climbs 182 = .ok (.aload_n 0, 1) := by decide +kernel
theorem dX10_climbs_183 : decode cX10_climbs 183 = .ok (.iload_n 1, 1) := by decide +kernel
theorem dX10_climbs_184 : decode cX10_climbs 184 = .ok (.iconst 4, 1) := by decide +kernel
theorem dX10_climbs_185 : decode cX10_climbs 185 = .ok (.invokevirtual 78, 3) := by decide +kernel
theorem dX10_climbs_188 : decode cX10_climbs 188 = .ok (.ireturn, 1) := by decide +kernel
theorem dX10_climb_0 : decode cX10_climb 0 = .ok (.aload_n 0, 1) := by decide +kernel
theorem dX10_climb_1 : decode cX10_climb 1 = .ok (.invokevirtual 89, 3) := by decide +kernel
theorem dX10_climb_4 : decode cX10_climb 4 = .ok (.aload_n 0, 1) := by decide +kernel
theorem dX10_climb_5 : decode cX10_climb 5 = .ok (.aload_n 0, 1) := by decide +kernel
theorem dX10_climb_6 : decode cX10_climb 6 = .ok (.iload_n 1, 1) := by decide +kernel
theorem dX10_climb_7 : decode cX10_climb 7 = .ok (.iload_n 2, 1) := by decide +kernel
theorem dX10_climb_8 : decode cX10_climb 8 = .ok (.invokevirtual 165, 3) := by decide +kernel
theorem dX10_climb_11 : decode cX10_climb 11 = .ok (.invokevirtual 95, 3) := by decide +kernel
theorem dX10_climb_14 : decode cX10_climb 14 = .ok (.ireturn, 1) := by decide +kernel
theorem dX10_toNext_0 : decode cX10_toNext 0 = .ok (.aload_n 0, 1) := by decide +kernel
theorem dX10_toNext_1 : decode cX10_toNext 1 = .ok (.aload_n 0, 1) := by decide +kernel
theorem dX10_toNext_2 : decode cX10_toNext 2 = .ok (.iload_n 1, 1) := by decide +kernel
theorem dX10_toNext_3 : decode cX10_toNext 3 = .ok (.bipush 7, 2) := by decide +kernel
theorem dX10_toNext_5 : decode cX10_toNext 5 = .ok (.invokevirtual 78, 3) := by decide +kernel
theorem dX10_toNext_8 : decode cX10_toNext 8 = .ok (.invokevirtual 66, 3) := by decide +kernel
theorem dX10_toNext_11 : decode cX10_toNext 11 = .ok (.istore_n 2, 1) := by decide +kernel
theorem dX10_toNext_12 : decode cX10_toNext 12 = .ok (.aload_n 0, 1) := by decide +kernel
theorem dX10_toNext_13 : decode cX10_toNext 13 = .ok (.iload_n 1, 1) := by decide +kernel
theorem dX10_toNext_14 : decode cX10_toNext 14 = .ok (.iconst 2, 1) := by decide +kernel
theorem dX10_toNext_15 : decode cX10_toNext 15 = .ok (.invokevirtual 78, 3) := by decide +kernel
theorem dX10_toNext_18 : decode cX10_toNext 18 = .ok (.aload_n 0, 1) := by decide +kernel
theorem dX10_toNext_19 : decode cX10_toNext 19 = .ok (.iload_n 2, 1) := by decide +kernel
theorem dX10_toNext_20 : decode cX10_toNext 20 = .ok (.invokevirtual 55, 3) := by decide +kernel
theorem dX10_toNext_23 : decode cX10_toNext 23 = .ok (.invokestatic 59, 3) := by decide +kernel
theorem dX10_toNext_26 : decode cX10_toNext 26 = .ok (.aload_n 0, 1) := by decide +kernel
theorem dX10_toNext_27 : decode cX10_toNext 27 = .ok (.iload_n 1, 1) := by decide +kernel
theorem dX10_toNext_28 : decode cX10_toNext 28 = .ok (.iconst 3, 1) := by decide +kernel
theorem dX10_toNext_29 : decode cX10_toNext 29 = .ok (.invokevirtual 78, 3) := by decide +kernel
theorem dX10_toNext_32 : decode cX10_toNext 32 = .ok (.aload_n 0, 1) := by decide +kernel
theorem dX10_toNext_33 : decode cX10_toNext 33 = .ok (.iload_n 2, 1) := by decide +kernel
theorem dX10_toNext_34 : decode cX10_toNext 34 = .ok (.invokevirtual 63, 3) := by decide +kernel
theorem dX10_toNext_37 : decode cX10_toNext 37 = .ok (.invokestatic 59, 3) := by decide +kernel
theorem dX10_toNext_40 : decode cX10_toNext 40 = .ok (.iadd, 1) := by decide +kernel
theorem dX10_toNext_41 : decode cX10_toNext 41 = .ok (.ireturn, 1) := by decide +kernel
theorem dX10_achieved_0 : decode cX10_achieved 0 = .ok (.aload_n 0, 1) := by decide +kernel
theorem dX10_achieved_1 : decode cX10_achieved 1 = .ok (.iload_n 1, 1) := by decide +kernel
theorem dX10_achieved_2 : decode cX10_achieved 2 = .ok (.iconst 1, 1) := by decide +kernel
theorem dX10_achieved_3 : decode cX10_achieved 3 = .ok (.invokevirtual 78, 3) := by decide +kernel
theorem dX10_achieved_6 : decode cX10_achieved 6 = .ok (.ifCond .ne 5, 3) := by decide +kernel
theorem dX10_achieved_9 : decode cX10_achieved 9 = .ok (.iconst 0, 1) := by decide +kernel
theorem dX10_achieved_10 : decode cX10_achieved 10 = .ok (.ireturn, 1) := by decide +kernel
theorem dX10_achieved_11 : decode cX10_achieved 11 = .ok (.aload_n 0, 1) := by decide +kernel
theorem dX10_achieved_12 : decode cX10_achieved 12 = .ok (.iload_n 1, 1) := by decide +kernel
theorem dX10_achieved_13 : decode cX10_achieved 13 = .ok (.iconst 1, 1) := by decide +kernel
theorem dX10_achieved_14 : decode cX10_achieved 14 = .ok (.invokevirtual 78, 3) := by decide +kernel
theorem dX10_achieved_17 : decode cX10_achieved 17 = .ok (.iconst 3, 1) := by decide +kernel
theorem dX10_achieved_18 : decode cX10_achieved 18 = .ok (.if_icmp .ne 8, 3) := by decide +kernel
theorem dX10_achieved_21 : decode cX10_achieved 21 = .ok (.aload_n 0, 1) := by decide +kernel
theorem dX10_achieved_22 : decode cX10_achieved 22 = .ok (.invokevirtual 168, 3) := by decide +kernel
theorem dX10_achieved_25 : decode cX10_achieved 25 = .ok (.ireturn, 1) := by decide +kernel
theorem dX10_achieved_26 : decode cX10_achieved 26 = .ok (.aload_n 0, 1) := by decide +kernel
theorem dX10_achieved_27 : decode cX10_achieved 27 = .ok (.aload_n 0, 1) := by decide +kernel
theorem dX10_achieved_28 : decode cX10_achieved 28 = .ok (.iload_n 1, 1) := by decide +kernel
theorem dX10_achieved_29 : decode cX10_achieved 29 = .ok (.bipush 7, 2) := by decide +kernel
theorem dX10_achieved_31 : decode cX10_achieved 31 = .ok (.invokevirtual 78, 3) := by decide +kernel
theorem dX10_achieved_34 : decode cX10_achieved 34 = .ok (.iconst 1, 1) := by decide +kernel
theorem dX10_achieved_35 : decode cX10_achieved 35 = .ok (.isub, 1) := by decide +kernel
theorem dX10_achieved_36 : decode cX10_achieved 36 = .ok (.invokevirtual 72, 3) := by decide +kernel
theorem dX10_achieved_39 : decode cX10_achieved 39 = .ok (.aload_n 0, 1) := by decide +kernel
theorem dX10_achieved_40 : decode cX10_achieved 40 = .ok (.iload_n 1, 1) := by decide +kernel
theorem dX10_achieved_41 : decode cX10_achieved 41 = .ok (.invokevirtual 171, 3) := by decide +kernel
theorem dX10_achieved_44 : decode cX10_achieved 44 = .ok (.isub, 1) := by decide +kernel
theorem dX10_achieved_45 : decode cX10_achieved 45 = .ok (.istore_n 2, 1) := by decide +kernel
theorem dX10_achieved_46 : decode cX10_achieved 46 = .ok (.aload_n 0, 1) := by decide +kernel
theorem dX10_achieved_47 : decode cX10_achieved 47 = .ok (.aload_n 0, 1) := by decide +kernel
theorem dX10_achieved_48 : decode cX10_achieved 48 = .ok (.iload_n 1, 1) := by decide +kernel
theorem dX10_achieved_49 : decode cX10_achieved 49 = .ok (.bipush 7, 2) := by decide +kernel
theorem dX10_achieved_51 : decode cX10_achieved 51 = .ok (.invokevirtual 78, 3) := by decide +kernel
theorem dX10_achieved_54 : decode cX10_achieved 54 = .ok (.iconst 1, 1) := by decide +kernel
theorem dX10_achieved_55 : decode cX10_achieved 55 = .ok (.isub, 1) := by decide +kernel
theorem dX10_achieved_56 : decode cX10_achieved 56 = .ok (.invokevirtual 75, 3) := by decide +kernel
theorem dX10_achieved_59 : decode cX10_achieved 59 = .ok (.iload_n 2, 1) := by decide +kernel
theorem dX10_achieved_60 : decode cX10_achieved 60 = .ok (.ifCond .le 7, 3) := by decide +kernel
theorem dX10_achieved_63 : decode cX10_achieved 63 = .ok (.iload_n 2, 1) := by decide +kernel
theorem dX10_achieved_64 : decode cX10_achieved 64 = .ok (.goto 4, 3) := by decide +kernel
theorem dX10_achieved_67 : decode cX10_achieved 67 = .ok (.iconst 0, 1) := by decide +kernel
theorem dX10_achieved_68 : decode cX10_achieved 68 = .ok (.iadd, 1) := by decide +kernel
theorem dX10_achieved_69 : decode cX10_achieved 69 = .ok (.ireturn, 1) := by decide +kernel
theorem dX10_bonus_0 : decode cX10_bonus 0 = .ok (.aload_n 0, 1) := by decide +kernel
theorem dX10_bonus_1 : decode cX10_bonus 1 = .ok (.iload_n 1, 1) := by decide +kernel
theorem dX10_bonus_2 : decode cX10_bonus 2 = .ok (.iconst 5, 1) := by decide +kernel
theorem dX10_bonus_3 : decode cX10_bonus 3 = .ok (.invokevirtual 78, 3) := by decide +kernel
theorem dX10_bonus_6 : decode cX10_bonus 6 = .ok (.istore_n 2, 1) := by decide +kernel
theorem dX10_bonus_7 : decode cX10_bonus 7 = .ok (.iconst 0, 1) := by decide +kernel
theorem dX10_bonus_8 : decode cX10_bonus 8 = .ok (.istore_n 3, 1) := by decide +kernel
theorem dX10_bonus_9 : decode cX10_bonus 9 = .ok (.iload_n 3, 1) := by decide +kernel
theorem dX10_bonus_10 : decode cX10_bonus 10 = .ok (.aload_n 0, 1) := by decide +kernel
theorem dX10_bonus_11 : decode cX10_bonus 11 = .ok (.getfield 9, 3) := by decide +kernel
theorem dX10_bonus_14 : decode cX10_bonus 14 = .ok (.iconst 4, 1) := by decide +kernel
theorem dX10_bonus_15 : decode cX10_bonus 15 = .ok (.iaload, 1) := by decide +kernel
theorem dX10_bonus_16 : decode cX10_bonus 16 = .ok (.if_icmp .ge 40, 3) := by decide +kernel
theorem dX10_bonus_19 : decode cX10_bonus 19 = .ok (.aload_n 0, 1) := by decide +kernel
theorem dX10_bonus_20 : decode cX10_bonus 20 = .ok (.iload_n 3, 1) := by decide +kernel
theorem dX10_bonus_21 : decode cX10_bonus 21 = .ok (.iconst 1, 1) := by decide +kernel
theorem dX10_bonus_22 : decode cX10_bonus 22 = .ok (.invokevirtual 78, 3) := by decide +kernel
theorem dX10_bonus_25 : decode cX10_bonus 25 = .ok (.iconst 3, 1) := by decide +kernel
theorem dX10_bonus_26 : decode cX10_bonus 26 = .ok (.if_icmp .ne 22, 3) := by decide +kernel
theorem dX10_bonus_29 : decode cX10_bonus 29 = .ok (.aload_n 0, 1) := by decide +kernel
theorem dX10_bonus_30 : decode cX10_bonus 30 = .ok (.iload_n 3, 1) := by decide +kernel
theorem dX10_bonus_31 : decode cX10_bonus 31 = .ok (.iconst 5, 1) := by decide +kernel
theorem dX10_bonus_32 : decode cX10_bonus 32 = .ok (.invokevirtual 78, 3) := by decide +kernel
theorem dX10_bonus_35 : decode cX10_bonus 35 = .ok (.iload_n 2, 1) := by decide +kernel
theorem dX10_bonus_36 : decode cX10_bonus 36 = .ok (.if_icmp .ge 12, 3) := by decide +kernel
theorem dX10_bonus_39 : decode cX10_bonus 39 = .ok (.aload_n 0, 1) := by decide +kernel
theorem dX10_bonus_40 : decode cX10_bonus 40 = .ok (.iload_n 3, 1) := by decide +kernel
theorem dX10_bonus_41 : decode cX10_bonus 41 = .ok (.iconst 5, 1) := by decide +kernel
theorem dX10_bonus_42 : decode cX10_bonus 42 = .ok (.invokevirtual 78, 3) := by decide +kernel
theorem dX10_bonus_45 : decode cX10_bonus 45 = .ok (.goto 4, 3) := by decide +kernel
theorem dX10_bonus_48 : decode cX10_bonus 48 = .ok (.iload_n 2, 1) := by decide +kernel
theorem dX10_bonus_49 : decode cX10_bonus 49 = .ok (.istore_n 2, 1) := by decide +kernel
theorem dX10_bonus_50 : decode cX10_bonus 50 = .ok (.iinc 3 1, 3) := by decide +kernel
theorem dX10_bonus_53 : decode cX10_bonus 53 = .ok (.goto (-44), 3) := by decide +kernel
theorem dX10_bonus_56 : decode cX10_bonus 56 = .ok (.sipush 500, 3) := by decide +kernel
theorem dX10_bonus_59 : decode cX10_bonus 59 = .ok (.iload_n 2, 1) := by decide +kernel
theorem dX10_bonus_60 : decode cX10_bonus 60 = .ok (.imul, 1) := by decide +kernel
theorem dX10_bonus_61 : decode cX10_bonus 61 = .ok (.aload_n 0, 1) := by decide +kernel
theorem dX10_bonus_62 : decode cX10_bonus 62 = .ok (.iload_n 1, 1) := by decide +kernel
theorem dX10_bonus_63 : decode cX10_bonus 63 = .ok (.iconst 5, 1) := by decide +kernel
theorem dX10_bonus_64 : decode cX10_bonus 64 = .ok (.invokevirtual 78, 3) := by decide +kernel
theorem dX10_bonus_67 : decode cX10_bonus 67 = .ok (.idiv, 1) := by decide +kernel
theorem dX10_bonus_68 : decode cX10_bonus 68 = .ok (.ireturn, 1) := by decide +kernel
theorem dX10_score_0 : decode cX10_score 0 = .ok (.aload_n 0, 1) := by decide +kernel
theorem dX10_score_1 : decode cX10_score 1 = .ok (.iload_n 1, 1) := by decide +kernel
theorem dX10_score_2 : decode cX10_score 2 = .ok (.iconst 1, 1) := by decide +kernel
theorem dX10_score_3 : decode cX10_score 3 = .ok (.invokevirtual 78, 3) := by decide +kernel
theorem dX10_score_6 : decode cX10_score 6 = .ok (.ifCond .ne 5, 3) := by decide +kernel
theorem dX10_score_9 : decode cX10_score 9 = .ok (.iconst 0, 1) := by decide +kernel
theorem dX10_score_10 : decode cX10_score 10 = .ok (.ireturn, 1) := by decide +kernel
theorem dX10_score_11 : decode cX10_score 11 = .ok (.sipush 1000, 3) := by decide +kernel
theorem dX10_score_14 : decode cX10_score 14 = .ok (.aload_n 0, 1) := by decide +kernel
theorem dX10_score_15 : decode cX10_score 15 = .ok (.iload_n 1, 1) := by decide +kernel
theorem dX10_score_16 : decode cX10_score 16 = .ok (.invokevirtual 174, 3) := by decide +kernel
theorem dX10_score_19 : decode cX10_score 19 = .ok (.imul, 1) := by decide +kernel
theorem dX10_score_20 : decode cX10_score 20 = .ok (.aload_n 0, 1) := by decide +kernel
theorem dX10_score_21 : decode cX10_score 21 = .ok (.invokevirtual 168, 3) := by decide +kernel
theorem dX10_score_24 : decode cX10_score 24 = .ok (.idiv, 1) := by decide +kernel
theorem dX10_score_25 : decode cX10_score 25 = .ok (.aload_n 0, 1) := by decide +kernel
theorem dX10_score_26 : decode cX10_score 26 = .ok (.iload_n 1, 1) := by decide +kernel
theorem dX10_score_27 : decode cX10_score 27 = .ok (.iconst 1, 1) := by decide +kernel
theorem dX10_score_28 : decode cX10_score 28 = .ok (.invokevirtual 78, 3) := by decide +kernel
theorem dX10_score_31 : decode cX10_score 31 = .ok (.iconst 3, 1) := by decide +kernel
theorem dX10_score_32 : decode cX10_score 32 = .ok (.if_icmp .ne 11, 3) := by decide +kernel
theorem dX10_score_35 : decode cX10_score 35 = .ok (.aload_n 0, 1) := by decide +kernel
theorem dX10_score_36 : decode cX10_score 36 = .ok (.iload_n 1, 1) := by decide +kernel
theorem dX10_score_37 : decode cX10_score 37 = .ok (.invokevirtual 177, 3) := by decide +kernel
theorem dX10_score_40 : decode cX10_score 40 = .ok (.goto 4, 3) := by decide +kernel
theorem dX10_score_43 : decode cX10_score 43 = .ok (.iconst 0, 1) := by decide +kernel
theorem dX10_score_44 : decode cX10_score 44 = .ok (.iadd, 1) := by decide +kernel
theorem dX10_score_45 : decode cX10_score 45 = .ok (.aload_n 0, 1) := by decide +kernel
theorem dX10_score_46 : decode cX10_score 46 = .ok (.iload_n 1, 1) := by decide +kernel
theorem dX10_score_47 : decode cX10_score 47 = .ok (.bipush 6, 2) := by decide +kernel
theorem dX10_score_49 : decode cX10_score 49 = .ok (.invokevirtual 78, 3) := by decide +kernel
theorem dX10_score_52 : decode cX10_score 52 = .ok (.isub, 1) := by decide +kernel
theorem dX10_score_53 : decode cX10_score 53 = .ok (.istore_n 2, 1) := by decide +kernel
theorem dX10_score_54 : decode cX10_score 54 = .ok (.iload_n 2, 1) := by decide +kernel
theorem dX10_score_55 : decode cX10_score 55 = .ok (.ifCond .ge 7, 3) := by decide +kernel
theorem dX10_score_58 : decode cX10_score 58 = .ok (.iconst 0, 1) := by decide +kernel
theorem dX10_score_59 : decode cX10_score 59 = .ok (.goto 4, 3) := by decide +kernel
theorem dX10_score_62 : decode cX10_score 62 = .ok (.iload_n 2, 1) := by decide +kernel
theorem dX10_score_63 : decode cX10_score 63 = .ok (.ireturn, 1) := by decide +kernel
theorem dX10_finishes_0 : decode cX10_finishes 0 = .ok (.aload_n 0, 1) := by decide +kernel
theorem dX10_finishes_1 : decode cX10_finishes 1 = .ok (.aload_n 0, 1) := by decide +kernel
theorem dX10_finishes_2 : decode cX10_finishes 2 = .ok (.invokevirtual 102, 3) := by decide +kernel
theorem dX10_finishes_5 : decode cX10_finishes 5 = .ok (.ifCond .ne 11, 3) := by decide +kernel
theorem dX10_finishes_8 : decode cX10_finishes 8 = .ok (.aload_n 0, 1) := by decide +kernel
theorem dX10_finishes_9 : decode cX10_finishes 9 = .ok (.iconst 1, 1) := by decide +kernel
theorem dX10_finishes_10 : decode cX10_finishes 10 = .ok (.invokevirtual 134, 3) := by decide +kernel
theorem dX10_finishes_13 : decode cX10_finishes 13 = .ok (.ifCond .le 7, 3) := by decide +kernel
theorem dX10_finishes_16 : decode cX10_finishes 16 = .ok (.iconst 1, 1) := by decide +kernel
theorem dX10_finishes_17 : decode cX10_finishes 17 = .ok (.goto 4, 3) := by decide +kernel
theorem dX10_finishes_20 : decode cX10_finishes 20 = .ok (.iconst 0, 1) := by decide +kernel
theorem dX10_finishes_21 : decode cX10_finishes 21 = .ok (.iconst 1, 1) := by decide +kernel
theorem dX10_finishes_22 : decode cX10_finishes 22 = .ok (.invokevirtual 85, 3) := by decide +kernel
theorem dX10_finishes_25 : decode cX10_finishes 25 = .ok (.ifCond .eq 5, 3) := by decide +kernel
theorem dX10_finishes_28 : decode cX10_finishes 28 = .ok (.iconst 0, 1) := by decide +kernel
theorem dX10_finishes_29 : decode cX10_finishes 29 = .ok (.ireturn, 1) := by decide +kernel
theorem dX10_finishes_30 : decode cX10_finishes 30 = .ok (.aload_n 0, 1) := by decide +kernel
theorem dX10_finishes_31 : decode cX10_finishes 31 = .ok (.iconst 3, 1) := by decide +kernel
theorem dX10_finishes_32 : decode cX10_finishes 32 = .ok (.invokevirtual 134, 3) := by decide +kernel
theorem dX10_finishes_35 : decode cX10_finishes 35 = .ok (.istore_n 1, 1) := by decide +kernel
theorem dX10_finishes_36 : decode cX10_finishes 36 = .ok (.iconst 0, 1) := by decide +kernel
theorem dX10_finishes_37 : decode cX10_finishes 37 = .ok (.istore_n 2, 1) := by decide +kernel
theorem dX10_finishes_38 : decode cX10_finishes 38 = .ok (.iload_n 2, 1) := by decide +kernel
theorem dX10_finishes_39 : decode cX10_finishes 39 = .ok (.aload_n 0, 1) := by decide +kernel
theorem dX10_finishes_40 : decode cX10_finishes 40 = .ok (.getfield 9, 3) := by decide +kernel
theorem dX10_finishes_43 : decode cX10_finishes 43 = .ok (.iconst 4, 1) := by decide +kernel
theorem dX10_finishes_44 : decode cX10_finishes 44 = .ok (.iaload, 1) := by decide +kernel
theorem dX10_finishes_45 : decode cX10_finishes 45 = .ok (.if_icmp .ge 20, 3) := by decide +kernel
theorem dX10_finishes_48 : decode cX10_finishes 48 = .ok (.aload_n 0, 1) := by decide +kernel
theorem dX10_finishes_49 : decode cX10_finishes 49 = .ok (.getfield 29, 3) := by decide +kernel
theorem dX10_finishes_52 : decode cX10_finishes 52 = .ok (.iload_n 2, 1) := by decide +kernel
theorem dX10_finishes_53 : decode cX10_finishes 53 = .ok (.aload_n 0, 1) := by decide +kernel
theorem dX10_finishes_54 : decode cX10_finishes 54 = .ok (.iload_n 2, 1) := by decide +kernel
theorem dX10_finishes_55 : decode cX10_finishes 55 = .ok (.invokevirtual 180, 3) := by decide +kernel
theorem dX10_finishes_58 : decode cX10_finishes 58 = .ok (.iastore, 1) := by decide +kernel
theorem dX10_finishes_59 : decode cX10_finishes 59 = .ok (.iinc 2 1, 3) := by decide +kernel
theorem dX10_finishes_62 : decode cX10_finishes 62 = .ok (.goto (-24), 3) := by decide +kernel
theorem dX10_finishes_65 : decode cX10_finishes 65 = .ok (.iconst 0, 1) := by decide +kernel
theorem dX10_finishes_66 : decode cX10_finishes 66 = .ok (.istore_n 2, 1) := by decide +kernel
theorem dX10_finishes_67 : decode cX10_finishes 67 = .ok (.iload_n 2, 1) := by decide +kernel
theorem dX10_finishes_68 : decode cX10_finishes 68 = .ok (.aload_n 0, 1) := by decide +kernel
theorem dX10_finishes_69 : decode cX10_finishes 69 = .ok (.getfield 9, 3) := by decide +kernel
theorem dX10_finishes_72 : decode cX10_finishes 72 = .ok (.iconst 4, 1) := by decide +kernel
theorem dX10_finishes_73 : decode cX10_finishes 73 = .ok (.iaload, 1) := by decide +kernel
theorem dX10_finishes_74 : decode cX10_finishes 74 = .ok (.if_icmp .ge 51, 3) := by decide +kernel
theorem dX10_finishes_77 : decode cX10_finishes 77 = .ok (.aload_n 0, 1) := by decide +kernel
theorem dX10_finishes_78 : decode cX10_finishes 78 = .ok (.iload_n 2, 1) := by decide +kernel
theorem dX10_finishes_79 : decode cX10_finishes 79 = .ok (.bipush 8, 2) := by decide +kernel
theorem dX10_finishes_81 : decode cX10_finishes 81 = .ok (.aload_n 0, 1) := by decide +kernel
theorem dX10_finishes_82 : decode cX10_finishes 82 = .ok (.iload_n 2, 1) := by decide +kernel
theorem dX10_finishes_83 : decode cX10_finishes 83 = .ok (.bipush 8, 2) := by decide +kernel
theorem dX10_finishes_85 : decode cX10_finishes 85 = .ok (.invokevirtual 78, 3) := by decide +kernel
theorem dX10_finishes_88 : decode cX10_finishes 88 = .ok (.aload_n 0, 1) := by decide +kernel
theorem dX10_finishes_89 : decode cX10_finishes 89 = .ok (.getfield 29, 3) := by decide +kernel
theorem dX10_finishes_92 : decode cX10_finishes 92 = .ok (.iload_n 2, 1) := by decide +kernel
theorem dX10_finishes_93 : decode cX10_finishes 93 = .ok (.iaload, 1) := by decide +kernel
theorem dX10_finishes_94 : decode cX10_finishes 94 = .ok (.iadd, 1) := by decide +kernel
theorem dX10_finishes_95 : decode cX10_finishes 95 = .ok (.invokevirtual 124, 3) := by decide +kernel
theorem dX10_finishes_98 : decode cX10_finishes 98 = .ok (.iconst 1, 1) := by decide +kernel
theorem dX10_finishes_99 : decode cX10_finishes 99 = .ok (.istore_n 3, 1) := by decide +kernel
theorem dX10_finishes_100 : decode cX10_finishes 100 = .ok (.iload_n 3, 1) := by decide +kernel
theorem dX10_finishes_101 : decode cX10_finishes 101 = .ok (.bipush 8, 2) := by decide +kernel
theorem dX10_finishes_103 : decode cX10_finishes 103 = .ok (.if_icmp .ge 16, 3) := by decide +kernel
theorem dX10_finishes_106 : decode cX10_finishes 106 = .ok (.aload_n 0, 1) := by decide +kernel
theorem dX10_finishes_107 : decode cX10_finishes 107 = .ok (.iload_n 2, 1) := by decide +kernel
theorem dX10_finishes_108 : decode cX10_finishes 108 = .ok (.iload_n 3, 1) := by decide +kernel
theorem dX10_finishes_109 : decode cX10_finishes 109 = .ok (.iconst 0, 1) := by decide +kernel
theorem dX10_finishes_110 : decode cX10_finishes 110 = .ok (.invokevirtual 124, 3) := by decide +kernel
theorem dX10_finishes_113 : decode cX10_finishes 113 = .ok (.iinc 3 1, 3) := by decide +kernel
theorem dX10_finishes_116 : decode cX10_finishes 116 = .ok (.goto (-16), 3) := by decide +kernel
theorem dX10_finishes_119 : decode cX10_finishes 119 = .ok (.iinc 2 1, 3) := by decide +kernel
theorem dX10_finishes_122 : decode cX10_finishes 122 = .ok (.goto (-55), 3) := by decide +kernel
theorem dX10_finishes_125 : decode cX10_finishes 125 = .ok (.aload_n 0, 1) := by decide +kernel
theorem dX10_finishes_126 : decode cX10_finishes 126 = .ok (.getfield 9, 3) := by decide +kernel
theorem dX10_finishes_129 : decode cX10_finishes 129 = .ok (.bipush 6, 2) := by decide +kernel
theorem dX10_finishes_131 : decode cX10_finishes 131 = .ok (.dup2, 1) := by decide +kernel
theorem dX10_finishes_132 : decode cX10_finishes 132 = .ok (.iaload, 1) := by decide +kernel
theorem dX10_finishes_133 : decode cX10_finishes 133 = .ok (.iconst 1, 1) := by decide +kernel
theorem dX10_finishes_134 : decode cX10_finishes 134 = .ok (.iadd, 1) := by decide +kernel
theorem dX10_finishes_135 : decode cX10_finishes 135 = .ok (.iastore, 1) := by decide +kernel
theorem dX10_finishes_136 : decode cX10_finishes 136 = .ok (.iload_n 1, 1) := by decide +kernel
theorem dX10_finishes_137 : decode cX10_finishes 137 = .ok (.ireturn, 1) := by decide +kernel
theorem dX10_endDay_0 : decode cX10_endDay 0 = .ok (.aload_n 0, 1) := by decide +kernel
theorem dX10_endDay_1 : decode cX10_endDay 1 = .ok (.invokevirtual 89, 3) := by decide +kernel
theorem dX10_endDay_4 : decode cX10_endDay 4 = .ok (.aload_n 0, 1) := by decide +kernel
theorem dX10_endDay_5 : decode cX10_endDay 5 = .ok (.aload_n 0, 1) := by decide +kernel
theorem dX10_endDay_6 : decode cX10_endDay 6 = .ok (.invokevirtual 183, 3) := by decide +kernel
theorem dX10_endDay_9 : decode cX10_endDay 9 = .ok (.invokevirtual 95, 3) := by decide +kernel
theorem dX10_endDay_12 : decode cX10_endDay 12 = .ok (.ireturn, 1) := by decide +kernel
theorem dX10_pointCount_0 : decode cX10_pointCount 0 = .ok (.aload_n 0, 1) := by decide +kernel
theorem dX10_pointCount_1 : decode cX10_pointCount 1 = .ok (.iconst 0, 1) := by decide +kernel
theorem dX10_pointCount_2 : decode cX10_pointCount 2 = .ok (.putfield 41, 3) := by decide +kernel
theorem dX10_pointCount_5 : decode cX10_pointCount 5 = .ok (.aload_n 0, 1) := by decide +kernel
theorem dX10_pointCount_6 : decode cX10_pointCount 6 = .ok (.getfield 9, 3) := by decide +kernel
theorem dX10_pointCount_9 : decode cX10_pointCount 9 = .ok (.iconst 0, 1) := by decide +kernel
theorem dX10_pointCount_10 : decode cX10_pointCount 10 = .ok (.iaload, 1) := by decide +kernel
theorem dX10_pointCount_11 : decode cX10_pointCount 11 = .ok (.ireturn, 1) := by decide +kernel
theorem dX10_distance_0 : decode cX10_distance 0 = .ok (.aload_n 0, 1) := by decide +kernel
theorem dX10_distance_1 : decode cX10_distance 1 = .ok (.aload_n 0, 1) := by decide +kernel
theorem dX10_distance_2 : decode cX10_distance 2 = .ok (.iload_n 1, 1) := by decide +kernel
theorem dX10_distance_3 : decode cX10_distance 3 = .ok (.invokevirtual 98, 3) := by decide +kernel
theorem dX10_distance_6 : decode cX10_distance 6 = .ok (.ifCond .eq 11, 3) := by decide +kernel
theorem dX10_distance_9 : decode cX10_distance 9 = .ok (.aload_n 0, 1) := by decide +kernel
theorem dX10_distance_10 : decode cX10_distance 10 = .ok (.iload_n 2, 1) := by decide +kernel
theorem dX10_distance_11 : decode cX10_distance 11 = .ok (.invokevirtual 98, 3) := by decide +kernel
theorem dX10_distance_14 : decode cX10_distance 14 = .ok (.ifCond .ne 7, 3) := by decide +kernel
theorem dX10_distance_17 : decode cX10_distance 17 = .ok (.iconst 1, 1) := by decide +kernel
theorem dX10_distance_18 : decode cX10_distance 18 = .ok (.goto 4, 3) := by decide +kernel
theorem dX10_distance_21 : decode cX10_distance 21 = .ok (.iconst 0, 1) := by decide +kernel
theorem dX10_distance_22 : decode cX10_distance 22 = .ok (.iconst 1, 1) := by decide +kernel
theorem dX10_distance_23 : decode cX10_distance 23 = .ok (.invokevirtual 85, 3) := by decide +kernel
theorem dX10_distance_26 : decode cX10_distance 26 = .ok (.ifCond .eq 7, 3) := by decide +kernel
theorem dX10_distance_29 : decode cX10_distance 29 = .ok (.iconst 0, 1) := by decide +kernel
theorem dX10_distance_30 : decode cX10_distance 30 = .ok (.goto 9, 3) := by decide +kernel
theorem dX10_distance_33 : decode cX10_distance 33 = .ok (.aload_n 0, 1) := by decide +kernel
theorem dX10_distance_34 : decode cX10_distance 34 = .ok (.iload_n 1, 1) := by decide +kernel
theorem dX10_distance_35 : decode cX10_distance 35 = .ok (.iload_n 2, 1) := by decide +kernel
theorem dX10_distance_36 : decode cX10_distance 36 = .ok (.invokevirtual 69, 3) := by decide +kernel
theorem dX10_distance_39 : decode cX10_distance 39 = .ok (.ireturn, 1) := by decide +kernel
theorem dX10_taskLength_0 : decode cX10_taskLength 0 = .ok (.aload_n 0, 1) := by decide +kernel
theorem dX10_taskLength_1 : decode cX10_taskLength 1 = .ok (.iconst 0, 1) := by decide +kernel
theorem dX10_taskLength_2 : decode cX10_taskLength 2 = .ok (.putfield 41, 3) := by decide +kernel
theorem dX10_taskLength_5 : decode cX10_taskLength 5 = .ok (.aload_n 0, 1) := by decide +kernel
theorem dX10_taskLength_6 : decode cX10_taskLength 6 = .ok (.getfield 9, 3) := by decide +kernel
theorem dX10_taskLength_9 : decode cX10_taskLength 9 = .ok (.iconst 1, 1) := by decide +kernel
theorem dX10_taskLength_10 : decode cX10_taskLength 10 = .ok (.iaload, 1) := by decide +kernel
theorem dX10_taskLength_11 : decode cX10_taskLength 11 = .ok (.ireturn, 1) := by decide +kernel
theorem dX10_taskPoint_0 : decode cX10_taskPoint 0 = .ok (.aload_n 0, 1) := by decide +kernel
theorem dX10_taskPoint_1 : decode cX10_taskPoint 1 = .ok (.iload_n 1, 1) := by decide +kernel
theorem dX10_taskPoint_2 : decode cX10_taskPoint 2 = .ok (.iconst 0, 1) := by decide +kernel
theorem dX10_taskPoint_3 : decode cX10_taskPoint 3 = .ok (.aload_n 0, 1) := by decide +kernel
theorem dX10_taskPoint_4 : decode cX10_taskPoint 4 = .ok (.getfield 9, 3) := by decide +kernel
theorem dX10_taskPoint_7 : decode cX10_taskPoint 7 = .ok (.iconst 1, 1) := by decide +kernel
theorem dX10_taskPoint_8 : decode cX10_taskPoint 8 = .ok (.iaload, 1) := by decide +kernel
theorem dX10_taskPoint_9 : decode cX10_taskPoint 9 = .ok (.iconst 1, 1) := by decide +kernel
theorem dX10_taskPoint_10 : decode cX10_taskPoint 10 = .ok (.isub, 1) := by decide +kernel
theorem dX10_taskPoint_11 : decode cX10_taskPoint 11 = .ok (.invokestatic 51, 3) := by decide +kernel
theorem dX10_taskPoint_14 : decode cX10_taskPoint 14 = .ok (.ifCond .ne 7, 3) := by decide +kernel
theorem dX10_taskPoint_17 : decode cX10_taskPoint 17 = .ok (.iconst 1, 1) := by decide +kernel
theorem dX10_taskPoint_18 : decode cX10_taskPoint 18 = .ok (.goto 4, 3) := by decide +kernel
theorem dX10_taskPoint_21 : decode cX10_taskPoint 21 = .ok (.iconst 0, 1) := by decide +kernel
theorem dX10_taskPoint_22 : decode cX10_taskPoint 22 = .ok (.iconst 1, 1) := by decide +kernel
theorem dX10_taskPoint_23 : decode cX10_taskPoint 23 = .ok (.invokevirtual 85, 3) := by decide +kernel
theorem dX10_taskPoint_26 : decode cX10_taskPoint 26 = .ok (.ifCond .eq 7, 3) := by decide +kernel
theorem dX10_taskPoint_29 : decode cX10_taskPoint 29 = .ok (.iconst 0, 1) := by decide +kernel
theorem dX10_taskPoint_30 : decode cX10_taskPoint 30 = .ok (.goto 8, 3) := by decide +kernel
theorem dX10_taskPoint_33 : decode cX10_taskPoint 33 = .ok (.aload_n 0, 1) := by decide +kernel
theorem dX10_taskPoint_34 : decode cX10_taskPoint 34 = .ok (.iload_n 1, 1) := by decide +kernel
theorem dX10_taskPoint_35 : decode cX10_taskPoint 35 = .ok (.invokevirtual 66, 3) := by decide +kernel
theorem dX10_taskPoint_38 : decode cX10_taskPoint 38 = .ok (.ireturn, 1) := by decide +kernel
theorem dX10_taskDistance_0 : decode cX10_taskDistance 0 = .ok (.aload_n 0, 1) := by decide +kernel
theorem dX10_taskDistance_1 : decode cX10_taskDistance 1 = .ok (.iconst 0, 1) := by decide +kernel
theorem dX10_taskDistance_2 : decode cX10_taskDistance 2 = .ok (.putfield 41, 3) := by decide +kernel
theorem dX10_taskDistance_5 : decode cX10_taskDistance 5 = .ok (.aload_n 0, 1) := by decide +kernel
theorem dX10_taskDistance_6 : decode cX10_taskDistance 6 = .ok (.invokevirtual 168, 3) := by decide +kernel
theorem dX10_taskDistance_9 : decode cX10_taskDistance 9 = .ok (.ireturn, 1) := by decide +kernel
theorem dX10_strongestThermal_0 : decode cX10_strongestThermal 0 = .ok (.aload_n 0, 1) := by decide +kernel
theorem dX10_strongestThermal_1 : decode cX10_strongestThermal 1 = .ok (.iload_n 1, 1) := by decide +kernel
theorem dX10_strongestThermal_2 : decode cX10_strongestThermal 2 = .ok (.iload_n 2, 1) := by decide +kernel
theorem dX10_strongestThermal_3 : decode cX10_strongestThermal 3 = .ok (.invokestatic 81, 3) := by decide +kernel
theorem dX10_strongestThermal_6 : decode cX10_strongestThermal 6 = .ok (.ifCond .ne 7, 3) := by decide +kernel
theorem dX10_strongestThermal_9 : decode cX10_strongestThermal 9 = .ok (.iconst 1, 1) := by decide +kernel
theorem dX10_strongestThermal_10 : decode cX10_strongestThermal 10 = .ok (.goto 4, 3) := by decide +kernel
theorem dX10_strongestThermal_13 : decode cX10_strongestThermal 13 = .ok (.iconst 0, 1) := by decide +kernel
theorem dX10_strongestThermal_14 : decode cX10_strongestThermal 14 = .ok (.iconst 1, 1) := by decide +kernel
theorem dX10_strongestThermal_15 : decode cX10_strongestThermal 15 = .ok (.invokevirtual 85, 3) := by decide +kernel
theorem dX10_strongestThermal_18 : decode cX10_strongestThermal 18 = .ok (.ifCond .eq 5, 3) := by decide +kernel
theorem dX10_strongestThermal_21 : decode cX10_strongestThermal 21 = .ok (.iconst 0, 1) := by decide +kernel
theorem dX10_strongestThermal_22 : decode cX10_strongestThermal 22 = .ok (.ireturn, 1) := by decide +kernel
theorem dX10_strongestThermal_23 : decode cX10_strongestThermal 23 = .ok (.aload_n 0, 1) := by decide +kernel
theorem dX10_strongestThermal_24 : decode cX10_strongestThermal 24 = .ok (.iload_n 1, 1) := by decide +kernel
theorem dX10_strongestThermal_25 : decode cX10_strongestThermal 25 = .ok (.iload_n 2, 1) := by decide +kernel
theorem dX10_strongestThermal_26 : decode cX10_strongestThermal 26 = .ok (.invokevirtual 162, 3) := by decide +kernel
theorem dX10_strongestThermal_29 : decode cX10_strongestThermal 29 = .ok (.istore_n 3, 1) := by decide +kernel
theorem dX10_strongestThermal_30 : decode cX10_strongestThermal 30 = .ok (.aload_n 0, 1) := by decide +kernel
theorem dX10_strongestThermal_31 : decode cX10_strongestThermal 31 = .ok (.iload_n 3, 1) := by decide +kernel
theorem dX10_strongestThermal_32 : decode cX10_strongestThermal 32 = .ok (.ifCond .ne 7, 3) := by decide +kernel
theorem dX10_strongestThermal_35 : decode cX10_strongestThermal 35 = .ok (.iconst 1, 1) := by decide +kernel
theorem dX10_strongestThermal_36 : decode cX10_strongestThermal 36 = .ok (.goto 4, 3) := by decide +kernel
theorem dX10_strongestThermal_39 : decode cX10_strongestThermal 39 = .ok (.iconst 0, 1) := by decide +kernel
theorem dX10_strongestThermal_40 : decode cX10_strongestThermal 40 = .ok (.iconst 2, 1) := by decide +kernel
theorem dX10_strongestThermal_41 : decode cX10_strongestThermal 41 = .ok (.invokevirtual 85, 3) := by decide +kernel
theorem dX10_strongestThermal_44 : decode cX10_strongestThermal 44 = .ok (.ifCond .eq 7, 3) := by decide +kernel
theorem dX10_strongestThermal_47 : decode cX10_strongestThermal 47 = .ok (.iconst 0, 1) := by decide +kernel
theorem dX10_strongestThermal_48 : decode cX10_strongestThermal 48 = .ok (.goto 4, 3) := by decide +kernel
theorem dX10_strongestThermal_51 : decode cX10_strongestThermal 51 = .ok (.iload_n 3, 1) := by decide +kernel
theorem dX10_strongestThermal_52 : decode cX10_strongestThermal 52 = .ok (.ireturn, 1) := by decide +kernel
theorem dX10_cloudBase_0 : decode cX10_cloudBase 0 = .ok (.aload_n 0, 1) := by decide +kernel
theorem dX10_cloudBase_1 : decode cX10_cloudBase 1 = .ok (.iconst 0, 1) := by decide +kernel
theorem dX10_cloudBase_2 : decode cX10_cloudBase 2 = .ok (.putfield 41, 3) := by decide +kernel
theorem dX10_cloudBase_5 : decode cX10_cloudBase 5 = .ok (.aload_n 0, 1) := by decide +kernel
theorem dX10_cloudBase_6 : decode cX10_cloudBase 6 = .ok (.getfield 9, 3) := by decide +kernel
theorem dX10_cloudBase_9 : decode cX10_cloudBase 9 = .ok (.iconst 5, 1) := by decide +kernel
theorem dX10_cloudBase_10 : decode cX10_cloudBase 10 = .ok (.iaload, 1) := by decide +kernel
theorem dX10_cloudBase_11 : decode cX10_cloudBase 11 = .ok (.ireturn, 1) := by decide +kernel
theorem dX10_isRestricted_0 : decode cX10_isRestricted 0 = .ok (.aload_n 0, 1) := by decide +kernel
theorem dX10_isRestricted_1 : decode cX10_isRestricted 1 = .ok (.iload_n 1, 1) := by decide +kernel
theorem dX10_isRestricted_2 : decode cX10_isRestricted 2 = .ok (.iload_n 2, 1) := by decide +kernel
theorem dX10_isRestricted_3 : decode cX10_isRestricted 3 = .ok (.invokestatic 81, 3) := by decide +kernel
theorem dX10_isRestricted_6 : decode cX10_isRestricted 6 = .ok (.ifCond .ne 7, 3) := by decide +kernel
theorem dX10_isRestricted_9 : decode cX10_isRestricted 9 = .ok (.iconst 1, 1) := by decide +kernel
theorem dX10_isRestricted_10 : decode cX10_isRestricted 10 = .ok (.goto 4, 3) := by decide +kernel
theorem dX10_isRestricted_13 : decode cX10_isRestricted 13 = .ok (.iconst 0, 1) := by decide +kernel
theorem dX10_isRestricted_14 : decode cX10_isRestricted 14 = .ok (.iconst 1, 1) := by decide +kernel
theorem dX10_isRestricted_15 : decode cX10_isRestricted 15 = .ok (.invokevirtual 85, 3) := by decide +kernel
theorem dX10_isRestricted_18 : decode cX10_isRestricted 18 = .ok (.ifCond .ne 16, 3) := by decide +kernel
theorem dX10_isRestricted_21 : decode cX10_isRestricted 21 = .ok (.aload_n 0, 1) := by decide +kernel
theorem dX10_isRestricted_22 : decode cX10_isRestricted 22 = .ok (.iload_n 1, 1) := by decide +kernel
theorem dX10_isRestricted_23 : decode cX10_isRestricted 23 = .ok (.iload_n 2, 1) := by decide +kernel
theorem dX10_isRestricted_24 : decode cX10_isRestricted 24 = .ok (.invokevirtual 149, 3) := by decide +kernel
theorem dX10_isRestricted_27 : decode cX10_isRestricted 27 = .ok (.ifCond .eq 7, 3) := by decide +kernel
theorem dX10_isRestricted_30 : decode cX10_isRestricted 30 = .ok (.iconst 1, 1) := by decide +kernel
theorem dX10_isRestricted_31 : decode cX10_isRestricted 31 = .ok (.goto 4, 3) := by decide +kernel
theorem dX10_isRestricted_34 : decode cX10_isRestricted 34 = .ok (.iconst 0, 1) := by decide +kernel
theorem dX10_isRestricted_35 : decode cX10_isRestricted 35 = .ok (.ireturn, 1) := by decide +kernel
theorem dX10_restrictedInRow_0 : decode cX10_restrictedInRow 0 = .ok (.aload_n 0, 1) := by decide +kernel
theorem dX10_restrictedInRow_1 : decode cX10_restrictedInRow 1 = .ok (.iload_n 1, 1) := by decide +kernel
theorem dX10_restrictedInRow_2 : decode cX10_restrictedInRow 2 = .ok (.iconst 0, 1) := by decide +kernel
theorem dX10_restrictedInRow_3 : decode cX10_restrictedInRow 3 = .ok (.bipush 60, 2) := by decide +kernel
theorem dX10_restrictedInRow_5 : decode cX10_restrictedInRow 5 = .ok (.invokestatic 51, 3) := by decide +kernel
theorem dX10_restrictedInRow_8 : decode cX10_restrictedInRow 8 = .ok (.ifCond .ne 7, 3) := by decide +kernel
theorem dX10_restrictedInRow_11 : decode cX10_restrictedInRow 11 = .ok (.iconst 1, 1) := by decide +kernel
theorem dX10_restrictedInRow_12 : decode cX10_restrictedInRow 12 = .ok (.goto 4, 3) := by decide +kernel
theorem dX10_restrictedInRow_15 : decode cX10_restrictedInRow 15 = .ok (.iconst 0, 1) := by decide +kernel
theorem dX10_restrictedInRow_16 : decode cX10_restrictedInRow 16 = .ok (.iconst 1, 1) := by decide +kernel
theorem dX10_restrictedInRow_17 : decode cX10_restrictedInRow 17 = .ok (.invokevirtual 85, 3) := by decide +kernel
theorem dX10_restrictedInRow_20 : decode cX10_restrictedInRow 20 = .ok (.ifCond .eq 5, 3) := by decide +kernel
theorem dX10_restrictedInRow_23 : decode cX10_restrictedInRow 23 = .ok (.iconst 0, 1) := by decide +kernel
theorem dX10_restrictedInRow_24 : decode cX10_restrictedInRow 24 = .ok (.ireturn, 1) := by decide +kernel
theorem dX10_restrictedInRow_25 : decode cX10_restrictedInRow 25 = .ok (.iconst 0, 1) := by decide +kernel
theorem dX10_restrictedInRow_26 : decode cX10_restrictedInRow 26 = .ok (.istore_n 2, 1) := by decide +kernel
theorem dX10_restrictedInRow_27 : decode cX10_restrictedInRow 27 = .ok (.iconst 0, 1) := by decide +kernel
theorem dX10_restrictedInRow_28 : decode cX10_restrictedInRow 28 = .ok (.istore_n 3, 1) := by decide +kernel
theorem dX10_restrictedInRow_29 : decode cX10_restrictedInRow 29 = .ok (.iload_n 3, 1) := by decide +kernel
theorem dX10_restrictedInRow_30 : decode cX10_restrictedInRow 30 = .ok (.bipush 60, 2) := by decide +kernel
theorem dX10_restrictedInRow_32 : decode cX10_restrictedInRow 32 = .ok (.if_icmp .gt 26, 3) := by decide +kernel
theorem dX10_restrictedInRow_35 : decode cX10_restrictedInRow 35 = .ok (.iload_n 2, 1) := by decide +kernel
theorem dX10_restrictedInRow_36 : decode cX10_restrictedInRow 36 = .ok (.aload_n 0, 1) := by decide +kernel
theorem dX10_restrictedInRow_37 : decode cX10_restrictedInRow 37 = .ok (.iload_n 3, 1) := by decide +kernel
theorem dX10_restrictedInRow_38 : decode cX10_restrictedInRow 38 = .ok (.iload_n 1, 1) := by decide +kernel
theorem dX10_restrictedInRow_39 : decode cX10_restrictedInRow 39 = .ok (.invokevirtual 149, 3) := by decide +kernel
theorem dX10_restrictedInRow_42 : decode cX10_restrictedInRow 42 = .ok (.ifCond .eq 7, 3) := by decide +kernel
theorem dX10_restrictedInRow_45 : decode cX10_restrictedInRow 45 = .ok (.iconst 1, 1) := by decide +kernel
theorem dX10_restrictedInRow_46 : decode cX10_restrictedInRow 46 = .ok (.goto 4, 3) := by decide +kernel
theorem dX10_restrictedInRow_49 : decode cX10_restrictedInRow 49 = .ok (.iconst 0, 1) := by decide +kernel
theorem dX10_restrictedInRow_50 : decode cX10_restrictedInRow 50 = .ok (.iadd, 1) := by decide +kernel
theorem dX10_restrictedInRow_51 : decode cX10_restrictedInRow 51 = .ok (.istore_n 2, 1) := by decide +kernel
theorem dX10_restrictedInRow_52 : decode cX10_restrictedInRow 52 = .ok (.iinc 3 1, 3) := by decide +kernel
theorem dX10_restrictedInRow_55 : decode cX10_restrictedInRow 55 = .ok (.goto (-26), 3) := by decide +kernel
theorem dX10_restrictedInRow_58 : decode cX10_restrictedInRow 58 = .ok (.iload_n 2, 1) := by decide +kernel
theorem dX10_restrictedInRow_59 : decode cX10_restrictedInRow 59 = .ok (.ireturn, 1) := by decide +kernel
theorem dX10_restrictedInRowByRanges_0 : decode cX10_restrictedInRowByRanges 0 = .ok (.aload_n 0, 1) := by decide +kernel
theorem dX10_restrictedInRowByRanges_1 : decode cX10_restrictedInRowByRanges 1 = .ok (.iload_n 1, 1) := by decide +kernel
theorem dX10_restrictedInRowByRanges_2 : decode cX10_restrictedInRowByRanges 2 = .ok (.invokevirtual 186, 3) := by decide +kernel
theorem dX10_restrictedInRowByRanges_5 : decode cX10_restrictedInRowByRanges 5 = .ok (.ireturn, 1) := by decide +kernel
theorem dX10_pilotCount_0 : decode cX10_pilotCount 0 = .ok (.aload_n 0, 1) := by decide +kernel
theorem dX10_pilotCount_1 : decode cX10_pilotCount 1 = .ok (.iconst 0, 1) := by decide +kernel
theorem dX10_pilotCount_2 : decode cX10_pilotCount 2 = .ok (.putfield 41, 3) := by decide +kernel
theorem dX10_pilotCount_5 : decode cX10_pilotCount 5 = .ok (.aload_n 0, 1) := by decide +kernel
theorem dX10_pilotCount_6 : decode cX10_pilotCount 6 = .ok (.getfield 9, 3) := by decide +kernel
theorem dX10_pilotCount_9 : decode cX10_pilotCount 9 = .ok (.iconst 4, 1) := by decide +kernel
theorem dX10_pilotCount_10 : decode cX10_pilotCount 10 = .ok (.iaload, 1) := by decide +kernel
theorem dX10_pilotCount_11 : decode cX10_pilotCount 11 = .ok (.ireturn, 1) := by decide +kernel
theorem dX10_isPlanning_0 : decode cX10_isPlanning 0 = .ok (.aload_n 0, 1) := by decide +kernel
theorem dX10_isPlanning_1 : decode cX10_isPlanning 1 = .ok (.iconst 0, 1) := by decide +kernel
theorem dX10_isPlanning_2 : decode cX10_isPlanning 2 = .ok (.putfield 41, 3) := by decide +kernel
theorem dX10_isPlanning_5 : decode cX10_isPlanning 5 = .ok (.aload_n 0, 1) := by decide +kernel
theorem dX10_isPlanning_6 : decode cX10_isPlanning 6 = .ok (.invokevirtual 102, 3) := by decide +kernel
theorem dX10_isPlanning_9 : decode cX10_isPlanning 9 = .ok (.ireturn, 1) := by decide +kernel
theorem dX10_isAt_0 : decode cX10_isAt 0 = .ok (.aload_n 0, 1) := by decide +kernel
theorem dX10_isAt_1 : decode cX10_isAt 1 = .ok (.aload_n 0, 1) := by decide +kernel
theorem dX10_isAt_2 : decode cX10_isAt 2 = .ok (.iload_n 1, 1) := by decide +kernel
theorem dX10_isAt_3 : decode cX10_isAt 3 = .ok (.invokevirtual 131, 3) := by decide +kernel
theorem dX10_isAt_6 : decode cX10_isAt 6 = .ok (.ifCond .ne 7, 3) := by decide +kernel
theorem dX10_isAt_9 : decode cX10_isAt 9 = .ok (.iconst 1, 1) := by decide +kernel
theorem dX10_isAt_10 : decode cX10_isAt 10 = .ok (.goto 4, 3) := by decide +kernel
theorem dX10_isAt_13 : decode cX10_isAt 13 = .ok (.iconst 0, 1) := by decide +kernel
theorem dX10_isAt_14 : decode cX10_isAt 14 = .ok (.iconst 1, 1) := by decide +kernel
theorem dX10_isAt_15 : decode cX10_isAt 15 = .ok (.invokevirtual 85, 3) := by decide +kernel
theorem dX10_isAt_18 : decode cX10_isAt 18 = .ok (.ifCond .ne 17, 3) := by decide +kernel
theorem dX10_isAt_21 : decode cX10_isAt 21 = .ok (.aload_n 0, 1) := by decide +kernel
theorem dX10_isAt_22 : decode cX10_isAt 22 = .ok (.iload_n 1, 1) := by decide +kernel
theorem dX10_isAt_23 : decode cX10_isAt 23 = .ok (.iconst 1, 1) := by decide +kernel
theorem dX10_isAt_24 : decode cX10_isAt 24 = .ok (.invokevirtual 78, 3) := by decide +kernel
theorem dX10_isAt_27 : decode cX10_isAt 27 = .ok (.iload_n 2, 1) := by decide +kernel
theorem dX10_isAt_28 : decode cX10_isAt 28 = .ok (.if_icmp .ne 7, 3) := by decide +kernel
theorem dX10_isAt_31 : decode cX10_isAt 31 = .ok (.iconst 1, 1) := by decide +kernel
theorem dX10_isAt_32 : decode cX10_isAt 32 = .ok (.goto 4, 3) := by decide +kernel
theorem dX10_isAt_35 : decode cX10_isAt 35 = .ok (.iconst 0, 1) := by decide +kernel
theorem dX10_isAt_36 : decode cX10_isAt 36 = .ok (.ireturn, 1) := by decide +kernel
theorem dX10_isFlying_0 : decode cX10_isFlying 0 = .ok (.aload_n 0, 1) := by decide +kernel
theorem dX10_isFlying_1 : decode cX10_isFlying 1 = .ok (.iload_n 1, 1) := by decide +kernel
theorem dX10_isFlying_2 : decode cX10_isFlying 2 = .ok (.iconst 1, 1) := by decide +kernel
theorem dX10_isFlying_3 : decode cX10_isFlying 3 = .ok (.invokevirtual 189, 3) := by decide +kernel
theorem dX10_isFlying_6 : decode cX10_isFlying 6 = .ok (.ireturn, 1) := by decide +kernel
theorem dX10_isLanded_0 : decode cX10_isLanded 0 = .ok (.aload_n 0, 1) := by decide +kernel
theorem dX10_isLanded_1 : decode cX10_isLanded 1 = .ok (.iload_n 1, 1) := by decide +kernel
theorem dX10_isLanded_2 : decode cX10_isLanded 2 = .ok (.iconst 2, 1) := by decide +kernel
theorem dX10_isLanded_3 : decode cX10_isLanded 3 = .ok (.invokevirtual 189, 3) := by decide +kernel
theorem dX10_isLanded_6 : decode cX10_isLanded 6 = .ok (.ireturn, 1) := by decide +kernel
theorem dX10_isFinished_0 : decode cX10_isFinished 0 = .ok (.aload_n 0, 1) := by decide +kernel
theorem dX10_isFinished_1 : decode cX10_isFinished 1 = .ok (.iload_n 1, 1) := by decide +kernel
theorem dX10_isFinished_2 : decode cX10_isFinished 2 = .ok (.iconst 3, 1) := by decide +kernel
theorem dX10_isFinished_3 : decode cX10_isFinished 3 = .ok (.invokevirtual 189, 3) := by decide +kernel
theorem dX10_isFinished_6 : decode cX10_isFinished 6 = .ok (.ireturn, 1) := by decide +kernel
theorem dX10_sink_0 : decode cX10_sink 0 = .ok (.aload_n 0, 1) := by decide +kernel
theorem dX10_sink_1 : decode cX10_sink 1 = .ok (.aload_n 0, 1) := by decide +kernel
theorem dX10_sink_2 : decode cX10_sink 2 = .ok (.iload_n 1, 1) := by decide +kernel
theorem dX10_sink_3 : decode cX10_sink 3 = .ok (.invokevirtual 131, 3) := by decide +kernel
theorem dX10_sink_6 : decode cX10_sink 6 = .ok (.ifCond .ne 7, 3) := by decide +kernel
theorem dX10_sink_9 : decode cX10_sink 9 = .ok (.iconst 1, 1) := by decide +kernel
theorem dX10_sink_10 : decode cX10_sink 10 = .ok (.goto 4, 3) := by decide +kernel
theorem dX10_sink_13 : decode cX10_sink 13 = .ok (.iconst 0, 1) := by decide +kernel
theorem dX10_sink_14 : decode cX10_sink 14 = .ok (.iconst 1, 1) := by decide +kernel
theorem dX10_sink_15 : decode cX10_sink 15 = .ok (.invokevirtual 85, 3) := by decide +kernel
theorem dX10_sink_18 : decode cX10_sink 18 = .ok (.ifCond .eq 7, 3) := by decide +kernel
theorem dX10_sink_21 : decode cX10_sink 21 = .ok (.iconst 0, 1) := by decide +kernel
theorem dX10_sink_22 : decode cX10_sink 22 = .ok (.goto 8, 3) := by decide +kernel
theorem dX10_sink_25 : decode cX10_sink 25 = .ok (.aload_n 0, 1) := by decide +kernel
theorem dX10_sink_26 : decode cX10_sink 26 = .ok (.iload_n 1, 1) := by decide +kernel
theorem dX10_sink_27 : decode cX10_sink 27 = .ok (.invokevirtual 146, 3) := by decide +kernel
theorem dX10_sink_30 : decode cX10_sink 30 = .ok (.ireturn, 1) := by decide +kernel
theorem dX10_ofFlight_0 : decode cX10_ofFlight 0 = .ok (.aload_n 0, 1) := by decide +kernel
theorem dX10_ofFlight_1 : decode cX10_ofFlight 1 = .ok (.aload_n 0, 1) := by decide +kernel
theorem dX10_ofFlight_2 : decode cX10_ofFlight 2 = .ok (.iload_n 1, 1) := by decide +kernel
theorem dX10_ofFlight_3 : decode cX10_ofFlight 3 = .ok (.invokevirtual 131, 3) := by decide +kernel
theorem dX10_ofFlight_6 : decode cX10_ofFlight 6 = .ok (.ifCond .ne 7, 3) := by decide +kernel
theorem dX10_ofFlight_9 : decode cX10_ofFlight 9 = .ok (.iconst 1, 1) := by decide +kernel
theorem dX10_ofFlight_10 : decode cX10_ofFlight 10 = .ok (.goto 4, 3) := by decide +kernel
theorem dX10_ofFlight_13 : decode cX10_ofFlight 13 = .ok (.iconst 0, 1) := by decide +kernel
theorem dX10_ofFlight_14 : decode cX10_ofFlight 14 = .ok (.iconst 1, 1) := by decide +kernel
theorem dX10_ofFlight_15 : decode cX10_ofFlight 15 = .ok (.invokevirtual 85, 3) := by decide +kernel
theorem dX10_ofFlight_18 : decode cX10_ofFlight 18 = .ok (.ifCond .ne 25, 3) := by decide +kernel
theorem dX10_ofFlight_21 : decode cX10_ofFlight 21 = .ok (.aload_n 0, 1) := by decide +kernel
theorem dX10_ofFlight_22 : decode cX10_ofFlight 22 = .ok (.aload_n 0, 1) := by decide +kernel
theorem dX10_ofFlight_23 : decode cX10_ofFlight 23 = .ok (.iload_n 1, 1) := by decide +kernel
theorem dX10_ofFlight_24 : decode cX10_ofFlight 24 = .ok (.iconst 1, 1) := by decide +kernel
theorem dX10_ofFlight_25 : decode cX10_ofFlight 25 = .ok (.invokevirtual 78, 3) := by decide +kernel
theorem dX10_ofFlight_28 : decode cX10_ofFlight 28 = .ok (.ifCond .ne 7, 3) := by decide +kernel
theorem dX10_ofFlight_31 : decode cX10_ofFlight 31 = .ok (.iconst 1, 1) := by decide +kernel
theorem dX10_ofFlight_32 : decode cX10_ofFlight 32 = .ok (.goto 4, 3) := by decide +kernel
theorem dX10_ofFlight_35 : decode cX10_ofFlight 35 = .ok (.iconst 0, 1) := by decide +kernel
theorem dX10_ofFlight_36 : decode cX10_ofFlight 36 = .ok (.iconst 2, 1) := by decide +kernel
theorem dX10_ofFlight_37 : decode cX10_ofFlight 37 = .ok (.invokevirtual 85, 3) := by decide +kernel
theorem dX10_ofFlight_40 : decode cX10_ofFlight 40 = .ok (.ifCond .eq 7, 3) := by decide +kernel
theorem dX10_ofFlight_43 : decode cX10_ofFlight 43 = .ok (.iconst 0, 1) := by decide +kernel
theorem dX10_ofFlight_44 : decode cX10_ofFlight 44 = .ok (.goto 9, 3) := by decide +kernel
theorem dX10_ofFlight_47 : decode cX10_ofFlight 47 = .ok (.aload_n 0, 1) := by decide +kernel
theorem dX10_ofFlight_48 : decode cX10_ofFlight 48 = .ok (.iload_n 1, 1) := by decide +kernel
theorem dX10_ofFlight_49 : decode cX10_ofFlight 49 = .ok (.iload_n 2, 1) := by decide +kernel
theorem dX10_ofFlight_50 : decode cX10_ofFlight 50 = .ok (.invokevirtual 78, 3) := by decide +kernel
theorem dX10_ofFlight_53 : decode cX10_ofFlight 53 = .ok (.ireturn, 1) := by decide +kernel
theorem dX10_x_0 : decode cX10_x 0 = .ok (.aload_n 0, 1) := by decide +kernel
theorem dX10_x_1 : decode cX10_x 1 = .ok (.iload_n 1, 1) := by decide +kernel
theorem dX10_x_2 : decode cX10_x 2 = .ok (.iconst 2, 1) := by decide +kernel
theorem dX10_x_3 : decode cX10_x 3 = .ok (.invokevirtual 192, 3) := by decide +kernel
theorem dX10_x_6 : decode cX10_x 6 = .ok (.ireturn, 1) := by decide +kernel
theorem dX10_y_0 : decode cX10_y 0 = .ok (.aload_n 0, 1) := by decide +kernel
theorem dX10_y_1 : decode cX10_y 1 = .ok (.iload_n 1, 1) := by decide +kernel
theorem dX10_y_2 : decode cX10_y 2 = .ok (.iconst 3, 1) := by decide +kernel
theorem dX10_y_3 : decode cX10_y 3 = .ok (.invokevirtual 192, 3) := by decide +kernel
theorem dX10_y_6 : decode cX10_y 6 = .ok (.ireturn, 1) := by decide +kernel
theorem dX10_height_0 : decode cX10_height 0 = .ok (.aload_n 0, 1) := by decide +kernel
theorem dX10_height_1 : decode cX10_height 1 = .ok (.iload_n 1, 1) := by decide +kernel
theorem dX10_height_2 : decode cX10_height 2 = .ok (.iconst 4, 1) := by decide +kernel
theorem dX10_height_3 : decode cX10_height 3 = .ok (.invokevirtual 192, 3) := by decide +kernel
theorem dX10_height_6 : decode cX10_height 6 = .ok (.ireturn, 1) := by decide +kernel
theorem dX10_minutes_0 : decode cX10_minutes 0 = .ok (.aload_n 0, 1) := by decide +kernel
theorem dX10_minutes_1 : decode cX10_minutes 1 = .ok (.iload_n 1, 1) := by decide +kernel
theorem dX10_minutes_2 : decode cX10_minutes 2 = .ok (.iconst 5, 1) := by decide +kernel
theorem dX10_minutes_3 : decode cX10_minutes 3 = .ok (.invokevirtual 192, 3) := by decide +kernel
theorem dX10_minutes_6 : decode cX10_minutes 6 = .ok (.ireturn, 1) := by decide +kernel
theorem dX10_penalty_0 : decode cX10_penalty 0 = .ok (.aload_n 0, 1) := by decide +kernel
theorem dX10_penalty_1 : decode cX10_penalty 1 = .ok (.iload_n 1, 1) := by decide +kernel
theorem dX10_penalty_2 : decode cX10_penalty 2 = .ok (.bipush 6, 2) := by decide +kernel
theorem dX10_penalty_4 : decode cX10_penalty 4 = .ok (.invokevirtual 192, 3) := by decide +kernel
theorem dX10_penalty_7 : decode cX10_penalty 7 = .ok (.ireturn, 1) := by decide +kernel
theorem dX10_reached_0 : decode cX10_reached 0 = .ok (.aload_n 0, 1) := by decide +kernel
theorem dX10_reached_1 : decode cX10_reached 1 = .ok (.aload_n 0, 1) := by decide +kernel
theorem dX10_reached_2 : decode cX10_reached 2 = .ok (.iload_n 1, 1) := by decide +kernel
theorem dX10_reached_3 : decode cX10_reached 3 = .ok (.invokevirtual 131, 3) := by decide +kernel
theorem dX10_reached_6 : decode cX10_reached 6 = .ok (.ifCond .ne 7, 3) := by decide +kernel
theorem dX10_reached_9 : decode cX10_reached 9 = .ok (.iconst 1, 1) := by decide +kernel
theorem dX10_reached_10 : decode cX10_reached 10 = .ok (.goto 4, 3) := by decide +kernel
theorem dX10_reached_13 : decode cX10_reached 13 = .ok (.iconst 0, 1) := by decide +kernel
theorem dX10_reached_14 : decode cX10_reached 14 = .ok (.iconst 1, 1) := by decide +kernel
theorem dX10_reached_15 : decode cX10_reached 15 = .ok (.invokevirtual 85, 3) := by decide +kernel
theorem dX10_reached_18 : decode cX10_reached 18 = .ok (.ifCond .eq 7, 3) := by decide +kernel
theorem dX10_reached_21 : decode cX10_reached 21 = .ok (.iconst 0, 1) := by decide +kernel
theorem dX10_reached_22 : decode cX10_reached 22 = .ok (.goto 10, 3) := by decide +kernel
theorem dX10_reached_25 : decode cX10_reached 25 = .ok (.aload_n 0, 1) := by decide +kernel
theorem dX10_reached_26 : decode cX10_reached 26 = .ok (.iload_n 1, 1) := by decide +kernel
theorem dX10_reached_27 : decode cX10_reached 27 = .ok (.bipush 7, 2) := by decide +kernel
theorem dX10_reached_29 : decode cX10_reached 29 = .ok (.invokevirtual 78, 3) := by decide +kernel
theorem dX10_reached_32 : decode cX10_reached 32 = .ok (.ireturn, 1) := by decide +kernel
theorem dX10_isNoFlight_0 : decode cX10_isNoFlight 0 = .ok (.aload_n 0, 1) := by decide +kernel
theorem dX10_isNoFlight_1 : decode cX10_isNoFlight 1 = .ok (.aload_n 0, 1) := by decide +kernel
theorem dX10_isNoFlight_2 : decode cX10_isNoFlight 2 = .ok (.iload_n 1, 1) := by decide +kernel
theorem dX10_isNoFlight_3 : decode cX10_isNoFlight 3 = .ok (.invokevirtual 131, 3) := by decide +kernel
theorem dX10_isNoFlight_6 : decode cX10_isNoFlight 6 = .ok (.ifCond .ne 7, 3) := by decide +kernel
theorem dX10_isNoFlight_9 : decode cX10_isNoFlight 9 = .ok (.iconst 1, 1) := by decide +kernel
theorem dX10_isNoFlight_10 : decode cX10_isNoFlight 10 = .ok (.goto 4, 3) := by decide +kernel
theorem dX10_isNoFlight_13 : decode cX10_isNoFlight 13 = .ok (.iconst 0, 1) := by decide +kernel
theorem dX10_isNoFlight_14 : decode cX10_isNoFlight 14 = .ok (.iconst 1, 1) := by decide +kernel
theorem dX10_isNoFlight_15 : decode cX10_isNoFlight 15 = .ok (.invokevirtual 85, 3) := by decide +kernel
theorem dX10_isNoFlight_18 : decode cX10_isNoFlight 18 = .ok (.ifCond .ne 26, 3) := by decide +kernel
theorem dX10_isNoFlight_21 : decode cX10_isNoFlight 21 = .ok (.aload_n 0, 1) := by decide +kernel
theorem dX10_isNoFlight_22 : decode cX10_isNoFlight 22 = .ok (.aload_n 0, 1) := by decide +kernel
theorem dX10_isNoFlight_23 : decode cX10_isNoFlight 23 = .ok (.iload_n 1, 1) := by decide +kernel
theorem dX10_isNoFlight_24 : decode cX10_isNoFlight 24 = .ok (.iconst 1, 1) := by decide +kernel
theorem dX10_isNoFlight_25 : decode cX10_isNoFlight 25 = .ok (.invokevirtual 78, 3) := by decide +kernel
theorem dX10_isNoFlight_28 : decode cX10_isNoFlight 28 = .ok (.iconst 1, 1) := by decide +kernel
theorem dX10_isNoFlight_29 : decode cX10_isNoFlight 29 = .ok (.if_icmp .eq 7, 3) := by decide +kernel
theorem dX10_isNoFlight_32 : decode cX10_isNoFlight 32 = .ok (.iconst 1, 1) := by decide +kernel
theorem dX10_isNoFlight_33 : decode cX10_isNoFlight 33 = .ok (.goto 4, 3) := by decide +kernel
theorem dX10_isNoFlight_36 : decode cX10_isNoFlight 36 = .ok (.iconst 0, 1) := by decide +kernel
theorem dX10_isNoFlight_37 : decode cX10_isNoFlight 37 = .ok (.iconst 2, 1) := by decide +kernel
theorem dX10_isNoFlight_38 : decode cX10_isNoFlight 38 = .ok (.invokevirtual 85, 3) := by decide +kernel
theorem dX10_isNoFlight_41 : decode cX10_isNoFlight 41 = .ok (.ifCond .eq 7, 3) := by decide +kernel
theorem dX10_isNoFlight_44 : decode cX10_isNoFlight 44 = .ok (.iconst 1, 1) := by decide +kernel
theorem dX10_isNoFlight_45 : decode cX10_isNoFlight 45 = .ok (.goto 4, 3) := by decide +kernel
theorem dX10_isNoFlight_48 : decode cX10_isNoFlight 48 = .ok (.iconst 0, 1) := by decide +kernel
theorem dX10_isNoFlight_49 : decode cX10_isNoFlight 49 = .ok (.ireturn, 1) := by decide +kernel
theorem dX10_remaining_0 : decode cX10_remaining 0 = .ok (.aload_n 0, 1) := by decide +kernel
theorem dX10_remaining_1 : decode cX10_remaining 1 = .ok (.iload_n 1, 1) := by decide +kernel
theorem dX10_remaining_2 : decode cX10_remaining 2 = .ok (.invokevirtual 171, 3) := by decide +kernel
theorem dX10_remaining_5 : decode cX10_remaining 5 = .ok (.aload_n 0, 1) := by decide +kernel
theorem dX10_remaining_6 : decode cX10_remaining 6 = .ok (.aload_n 0, 1) := by decide +kernel
theorem dX10_remaining_7 : decode cX10_remaining 7 = .ok (.getfield 9, 3) := by decide +kernel
theorem dX10_remaining_10 : decode cX10_remaining 10 = .ok (.iconst 1, 1) := by decide +kernel
theorem dX10_remaining_11 : decode cX10_remaining 11 = .ok (.iaload, 1) := by decide +kernel
theorem dX10_remaining_12 : decode cX10_remaining 12 = .ok (.iconst 1, 1) := by decide +kernel
theorem dX10_remaining_13 : decode cX10_remaining 13 = .ok (.isub, 1) := by decide +kernel
theorem dX10_remaining_14 : decode cX10_remaining 14 = .ok (.invokevirtual 75, 3) := by decide +kernel
theorem dX10_remaining_17 : decode cX10_remaining 17 = .ok (.iadd, 1) := by decide +kernel
theorem dX10_remaining_18 : decode cX10_remaining 18 = .ok (.aload_n 0, 1) := by decide +kernel
theorem dX10_remaining_19 : decode cX10_remaining 19 = .ok (.aload_n 0, 1) := by decide +kernel
theorem dX10_remaining_20 : decode cX10_remaining 20 = .ok (.iload_n 1, 1) := by decide +kernel
theorem dX10_remaining_21 : decode cX10_remaining 21 = .ok (.bipush 7, 2) := by decide +kernel
theorem dX10_remaining_23 : decode cX10_remaining 23 = .ok (.invokevirtual 78, 3) := by decide +kernel
theorem dX10_remaining_26 : decode cX10_remaining 26 = .ok (.invokevirtual 75, 3) := by decide +kernel
theorem dX10_remaining_29 : decode cX10_remaining 29 = .ok (.isub, 1) := by decide +kernel
theorem dX10_remaining_30 : decode cX10_remaining 30 = .ok (.ireturn, 1) := by decide +kernel
theorem dX10_remainingDistance_0 : decode cX10_remainingDistance 0 = .ok (.aload_n 0, 1) := by decide +kernel
theorem dX10_remainingDistance_1 : decode cX10_remainingDistance 1 = .ok (.iload_n 1, 1) := by decide +kernel
theorem dX10_remainingDistance_2 : decode cX10_remainingDistance 2 = .ok (.invokevirtual 195, 3) := by decide +kernel
theorem dX10_remainingDistance_5 : decode cX10_remainingDistance 5 = .ok (.ifCond .eq 7, 3) := by decide +kernel
theorem dX10_remainingDistance_8 : decode cX10_remainingDistance 8 = .ok (.iconst 0, 1) := by decide +kernel
theorem dX10_remainingDistance_9 : decode cX10_remainingDistance 9 = .ok (.goto 8, 3) := by decide +kernel
theorem dX10_remainingDistance_12 : decode cX10_remainingDistance 12 = .ok (.aload_n 0, 1) := by decide +kernel
theorem dX10_remainingDistance_13 : decode cX10_remainingDistance 13 = .ok (.iload_n 1, 1) := by decide +kernel
theorem dX10_remainingDistance_14 : decode cX10_remainingDistance 14 = .ok (.invokevirtual 198, 3) := by decide +kernel
theorem dX10_remainingDistance_17 : decode cX10_remainingDistance 17 = .ok (.ireturn, 1) := by decide +kernel
theorem dX10_canFinish_0 : decode cX10_canFinish 0 = .ok (.aload_n 0, 1) := by decide +kernel
theorem dX10_canFinish_1 : decode cX10_canFinish 1 = .ok (.iload_n 1, 1) := by decide +kernel
theorem dX10_canFinish_2 : decode cX10_canFinish 2 = .ok (.invokevirtual 195, 3) := by decide +kernel
theorem dX10_canFinish_5 : decode cX10_canFinish 5 = .ok (.ifCond .ne 29, 3) := by decide +kernel
theorem dX10_canFinish_8 : decode cX10_canFinish 8 = .ok (.aload_n 0, 1) := by decide +kernel
theorem dX10_canFinish_9 : decode cX10_canFinish 9 = .ok (.iload_n 1, 1) := by decide +kernel
theorem dX10_canFinish_10 : decode cX10_canFinish 10 = .ok (.iconst 4, 1) := by decide +kernel
theorem dX10_canFinish_11 : decode cX10_canFinish 11 = .ok (.invokevirtual 78, 3) := by decide +kernel
theorem dX10_canFinish_14 : decode cX10_canFinish 14 = .ok (.aload_n 0, 1) := by decide +kernel
theorem dX10_canFinish_15 : decode cX10_canFinish 15 = .ok (.iload_n 1, 1) := by decide +kernel
theorem dX10_canFinish_16 : decode cX10_canFinish 16 = .ok (.invokevirtual 198, 3) := by decide +kernel
theorem dX10_canFinish_19 : decode cX10_canFinish 19 = .ok (.iconst 1, 1) := by decide +kernel
theorem dX10_canFinish_20 : decode cX10_canFinish 20 = .ok (.isub, 1) := by decide +kernel
theorem dX10_canFinish_21 : decode cX10_canFinish 21 = .ok (.aload_n 0, 1) := by decide +kernel
theorem dX10_canFinish_22 : decode cX10_canFinish 22 = .ok (.iload_n 1, 1) := by decide +kernel
theorem dX10_canFinish_23 : decode cX10_canFinish 23 = .ok (.invokevirtual 146, 3) := by decide +kernel
theorem dX10_canFinish_26 : decode cX10_canFinish 26 = .ok (.imul, 1) := by decide +kernel
theorem dX10_canFinish_27 : decode cX10_canFinish 27 = .ok (.if_icmp .le 7, 3) := by decide +kernel
theorem dX10_canFinish_30 : decode cX10_canFinish 30 = .ok (.iconst 1, 1) := by decide +kernel
theorem dX10_canFinish_31 : decode cX10_canFinish 31 = .ok (.goto 4, 3) := by decide +kernel
theorem dX10_canFinish_34 : decode cX10_canFinish 34 = .ok (.iconst 0, 1) := by decide +kernel
theorem dX10_canFinish_35 : decode cX10_canFinish 35 = .ok (.ireturn, 1) := by decide +kernel
theorem dX10_canFinishBySimulation_0 : decode cX10_canFinishBySimulation 0 = .ok (.aload_n 0, 1) := by decide +kernel
theorem dX10_canFinishBySimulation_1 : decode cX10_canFinishBySimulation 1 = .ok (.iload_n 1, 1) := by decide +kernel
theorem dX10_canFinishBySimulation_2 : decode cX10_canFinishBySimulation 2 = .ok (.invokevirtual 201, 3) := by decide +kernel
theorem dX10_canFinishBySimulation_5 : decode cX10_canFinishBySimulation 5 = .ok (.ireturn, 1) := by decide +kernel
theorem dX10_achievedDistance_0 : decode cX10_achievedDistance 0 = .ok (.aload_n 0, 1) := by decide +kernel
theorem dX10_achievedDistance_1 : decode cX10_achievedDistance 1 = .ok (.aload_n 0, 1) := by decide +kernel
theorem dX10_achievedDistance_2 : decode cX10_achievedDistance 2 = .ok (.iload_n 1, 1) := by decide +kernel
theorem dX10_achievedDistance_3 : decode cX10_achievedDistance 3 = .ok (.invokevirtual 131, 3) := by decide +kernel
theorem dX10_achievedDistance_6 : decode cX10_achievedDistance 6 = .ok (.ifCond .ne 7, 3) := by decide +kernel
theorem dX10_achievedDistance_9 : decode cX10_achievedDistance 9 = .ok (.iconst 1, 1) := by decide +kernel
theorem dX10_achievedDistance_10 : decode cX10_achievedDistance 10 = .ok (.goto 4, 3) := by decide +kernel
theorem dX10_achievedDistance_13 : decode cX10_achievedDistance 13 = .ok (.iconst 0, 1) := by decide +kernel
theorem dX10_achievedDistance_14 : decode cX10_achievedDistance 14 = .ok (.iconst 1, 1) := by decide +kernel
theorem dX10_achievedDistance_15 : decode cX10_achievedDistance 15 = .ok (.invokevirtual 85, 3) := by decide +kernel
theorem dX10_achievedDistance_18 : decode cX10_achievedDistance 18 = .ok (.ifCond .eq 7, 3) := by decide +kernel
theorem dX10_achievedDistance_21 : decode cX10_achievedDistance 21 = .ok (.iconst 0, 1) := by decide +kernel
theorem dX10_achievedDistance_22 : decode cX10_achievedDistance 22 = .ok (.goto 8, 3) := by decide +kernel
theorem dX10_achievedDistance_25 : decode cX10_achievedDistance 25 = .ok (.aload_n 0, 1) := by decide +kernel
theorem dX10_achievedDistance_26 : decode cX10_achievedDistance 26 = .ok (.iload_n 1, 1) := by decide +kernel
theorem dX10_achievedDistance_27 : decode cX10_achievedDistance 27 = .ok (.invokevirtual 174, 3) := by decide +kernel
theorem dX10_achievedDistance_30 : decode cX10_achievedDistance 30 = .ok (.ireturn, 1) := by decide +kernel
theorem dX10_dayScore_0 : decode cX10_dayScore 0 = .ok (.aload_n 0, 1) := by decide +kernel
theorem dX10_dayScore_1 : decode cX10_dayScore 1 = .ok (.aload_n 0, 1) := by decide +kernel
theorem dX10_dayScore_2 : decode cX10_dayScore 2 = .ok (.iload_n 1, 1) := by decide +kernel
theorem dX10_dayScore_3 : decode cX10_dayScore 3 = .ok (.invokevirtual 131, 3) := by decide +kernel
theorem dX10_dayScore_6 : decode cX10_dayScore 6 = .ok (.ifCond .ne 7, 3) := by decide +kernel
theorem dX10_dayScore_9 : decode cX10_dayScore 9 = .ok (.iconst 1, 1) := by decide +kernel
theorem dX10_dayScore_10 : decode cX10_dayScore 10 = .ok (.goto 4, 3) := by decide +kernel
theorem dX10_dayScore_13 : decode cX10_dayScore 13 = .ok (.iconst 0, 1) := by decide +kernel
theorem dX10_dayScore_14 : decode cX10_dayScore 14 = .ok (.iconst 1, 1) := by decide +kernel
theorem dX10_dayScore_15 : decode cX10_dayScore 15 = .ok (.invokevirtual 85, 3) := by decide +kernel
theorem dX10_dayScore_18 : decode cX10_dayScore 18 = .ok (.ifCond .eq 7, 3) := by decide +kernel
theorem dX10_dayScore_21 : decode cX10_dayScore 21 = .ok (.iconst 0, 1) := by decide +kernel
theorem dX10_dayScore_22 : decode cX10_dayScore 22 = .ok (.goto 8, 3) := by decide +kernel
theorem dX10_dayScore_25 : decode cX10_dayScore 25 = .ok (.aload_n 0, 1) := by decide +kernel
theorem dX10_dayScore_26 : decode cX10_dayScore 26 = .ok (.iload_n 1, 1) := by decide +kernel
theorem dX10_dayScore_27 : decode cX10_dayScore 27 = .ok (.invokevirtual 180, 3) := by decide +kernel
theorem dX10_dayScore_30 : decode cX10_dayScore 30 = .ok (.ireturn, 1) := by decide +kernel
theorem dX10_total_0 : decode cX10_total 0 = .ok (.aload_n 0, 1) := by decide +kernel
theorem dX10_total_1 : decode cX10_total 1 = .ok (.aload_n 0, 1) := by decide +kernel
theorem dX10_total_2 : decode cX10_total 2 = .ok (.iload_n 1, 1) := by decide +kernel
theorem dX10_total_3 : decode cX10_total 3 = .ok (.invokevirtual 131, 3) := by decide +kernel
theorem dX10_total_6 : decode cX10_total 6 = .ok (.ifCond .ne 7, 3) := by decide +kernel
theorem dX10_total_9 : decode cX10_total 9 = .ok (.iconst 1, 1) := by decide +kernel
theorem dX10_total_10 : decode cX10_total 10 = .ok (.goto 4, 3) := by decide +kernel
theorem dX10_total_13 : decode cX10_total 13 = .ok (.iconst 0, 1) := by decide +kernel
theorem dX10_total_14 : decode cX10_total 14 = .ok (.iconst 1, 1) := by decide +kernel
theorem dX10_total_15 : decode cX10_total 15 = .ok (.invokevirtual 85, 3) := by decide +kernel
theorem dX10_total_18 : decode cX10_total 18 = .ok (.ifCond .eq 7, 3) := by decide +kernel
theorem dX10_total_21 : decode cX10_total 21 = .ok (.lconst 0, 1) := by decide +kernel
theorem dX10_total_22 : decode cX10_total 22 = .ok (.goto 11, 3) := by decide +kernel
theorem dX10_total_25 : decode cX10_total 25 = .ok (.aload_n 0, 1) := by decide +kernel
theorem dX10_total_26 : decode cX10_total 26 = .ok (.iload_n 1, 1) := by decide +kernel
theorem dX10_total_27 : decode cX10_total 27 = .ok (.bipush 8, 2) := by decide +kernel
theorem dX10_total_29 : decode cX10_total 29 = .ok (.invokevirtual 78, 3) := by decide +kernel
theorem dX10_total_32 : decode cX10_total 32 = .ok (.i2l, 1) := by decide +kernel
theorem dX10_total_33 : decode cX10_total 33 = .ok (.lreturn, 1) := by decide +kernel
theorem dX10_isAhead_0 : decode cX10_isAhead 0 = .ok (.aload_n 0, 1) := by decide +kernel
theorem dX10_isAhead_1 : decode cX10_isAhead 1 = .ok (.iload_n 1, 1) := by decide +kernel
theorem dX10_isAhead_2 : decode cX10_isAhead 2 = .ok (.bipush 8, 2) := by decide +kernel
theorem dX10_isAhead_4 : decode cX10_isAhead 4 = .ok (.invokevirtual 78, 3) := by decide +kernel
theorem dX10_isAhead_7 : decode cX10_isAhead 7 = .ok (.aload_n 0, 1) := by decide +kernel
theorem dX10_isAhead_8 : decode cX10_isAhead 8 = .ok (.iload_n 1, 1) := by decide +kernel
theorem dX10_isAhead_9 : decode cX10_isAhead 9 = .ok (.invokevirtual 180, 3) := by decide +kernel
theorem dX10_isAhead_12 : decode cX10_isAhead 12 = .ok (.iadd, 1) := by decide +kernel
theorem dX10_isAhead_13 : decode cX10_isAhead 13 = .ok (.aload_n 0, 1) := by decide +kernel
theorem dX10_isAhead_14 : decode cX10_isAhead 14 = .ok (.iload_n 2, 1) := by decide +kernel
theorem dX10_isAhead_15 : decode cX10_isAhead 15 = .ok (.bipush 8, 2) := by decide +kernel
theorem dX10_isAhead_17 : decode cX10_isAhead 17 = .ok (.invokevirtual 78, 3) := by decide +kernel
theorem dX10_isAhead_20 : decode cX10_isAhead 20 = .ok (.isub, 1) := by decide +kernel
theorem dX10_isAhead_21 : decode cX10_isAhead 21 = .ok (.aload_n 0, 1) := by decide +kernel
theorem dX10_isAhead_22 : decode cX10_isAhead 22 = .ok (.iload_n 2, 1) := by decide +kernel
theorem dX10_isAhead_23 : decode cX10_isAhead 23 = .ok (.invokevirtual 180, 3) := by decide +kernel
theorem dX10_isAhead_26 : decode cX10_isAhead 26 = .ok (.isub, 1) := by decide +kernel
theorem dX10_isAhead_27 : decode cX10_isAhead 27 = .ok (.istore_n 3, 1) := by decide +kernel
theorem dX10_isAhead_28 : decode cX10_isAhead 28 = .ok (.iload_n 3, 1) := by decide +kernel
theorem dX10_isAhead_29 : decode cX10_isAhead 29 = .ok (.ifCond .eq 13, 3) := by decide +kernel
theorem dX10_isAhead_32 : decode cX10_isAhead 32 = .ok (.iload_n 3, 1) := by decide +kernel
theorem dX10_isAhead_33 : decode cX10_isAhead 33 = .ok (.ifCond .le 7, 3) := by decide +kernel
theorem dX10_isAhead_36 : decode cX10_isAhead 36 = .ok (.iconst 1, 1) := by decide +kernel
theorem dX10_isAhead_37 : decode cX10_isAhead 37 = .ok (.goto 4, 3) := by decide +kernel
theorem dX10_isAhead_40 : decode cX10_isAhead 40 = .ok (.iconst 0, 1) := by decide +kernel
theorem dX10_isAhead_41 : decode cX10_isAhead 41 = .ok (.ireturn, 1) := by decide +kernel
theorem dX10_isAhead_42 : decode cX10_isAhead 42 = .ok (.aload_n 0, 1) := by decide +kernel
theorem dX10_isAhead_43 : decode cX10_isAhead 43 = .ok (.iload_n 2, 1) := by decide +kernel
theorem dX10_isAhead_44 : decode cX10_isAhead 44 = .ok (.bipush 6, 2) := by decide +kernel
theorem dX10_isAhead_46 : decode cX10_isAhead 46 = .ok (.invokevirtual 78, 3) := by decide +kernel
theorem dX10_isAhead_49 : decode cX10_isAhead 49 = .ok (.aload_n 0, 1) := by decide +kernel
theorem dX10_isAhead_50 : decode cX10_isAhead 50 = .ok (.iload_n 1, 1) := by decide +kernel
theorem dX10_isAhead_51 : decode cX10_isAhead 51 = .ok (.bipush 6, 2) := by decide +kernel
theorem dX10_isAhead_53 : decode cX10_isAhead 53 = .ok (.invokevirtual 78, 3) := by decide +kernel
theorem dX10_isAhead_56 : decode cX10_isAhead 56 = .ok (.isub, 1) := by decide +kernel
theorem dX10_isAhead_57 : decode cX10_isAhead 57 = .ok (.istore 4, 2) := by decide +kernel
theorem dX10_isAhead_59 : decode cX10_isAhead 59 = .ok (.iload 4, 2) := by decide +kernel
theorem dX10_isAhead_61 : decode cX10_isAhead 61 = .ok (.ifCond .eq 16, 3) := by decide +kernel
theorem dX10_isAhead_64 : decode cX10_isAhead 64 = .ok (.iload 4, 2) := by decide +kernel
theorem dX10_isAhead_66 : decode cX10_isAhead 66 = .ok (.ifCond .le 7, 3) := by decide +kernel
theorem dX10_isAhead_69 : decode cX10_isAhead 69 = .ok (.iconst 1, 1) := by decide +kernel
theorem dX10_isAhead_70 : decode cX10_isAhead 70 = .ok (.goto 17, 3) := by decide +kernel
theorem dX10_isAhead_73 : decode cX10_isAhead 73 = .ok (.iconst 0, 1) := by decide +kernel
theorem dX10_isAhead_74 : decode cX10_isAhead 74 = .ok (.goto 13, 3) := by decide +kernel
theorem dX10_isAhead_77 : decode cX10_isAhead 77 = .ok (.iload_n 1, 1) := by decide +kernel
theorem dX10_isAhead_78 : decode cX10_isAhead 78 = .ok (.iload_n 2, 1) := by decide +kernel
theorem dX10_isAhead_79 : decode cX10_isAhead 79 = .ok (.if_icmp .ge 7, 3) := by decide +kernel
theorem dX10_isAhead_82 : decode cX10_isAhead 82 = .ok (.iconst 1, 1) := by decide +kernel
theorem dX10_isAhead_83 : decode cX10_isAhead 83 = .ok (.goto 4, 3) := by decide +kernel
theorem dX10_isAhead_86 : decode cX10_isAhead 86 = .ok (.iconst 0, 1) := by decide +kernel
theorem dX10_isAhead_87 : decode cX10_isAhead 87 = .ok (.ireturn, 1) := by decide +kernel
theorem dX10_pilotAtRank_0 : decode cX10_pilotAtRank 0 = .ok (.iconst 0, 1) := by decide +kernel
theorem dX10_pilotAtRank_1 : decode cX10_pilotAtRank 1 = .ok (.istore_n 2, 1) := by decide +kernel
theorem dX10_pilotAtRank_2 : decode cX10_pilotAtRank 2 = .ok (.iload_n 2, 1) := by decide +kernel
theorem dX10_pilotAtRank_3 : decode cX10_pilotAtRank 3 = .ok (.aload_n 0, 1) := by decide +kernel
theorem dX10_pilotAtRank_4 : decode cX10_pilotAtRank 4 = .ok (.getfield 9, 3) := by decide +kernel
theorem dX10_pilotAtRank_7 : decode cX10_pilotAtRank 7 = .ok (.iconst 4, 1) := by decide +kernel
theorem dX10_pilotAtRank_8 : decode cX10_pilotAtRank 8 = .ok (.iaload, 1) := by decide +kernel
theorem dX10_pilotAtRank_9 : decode cX10_pilotAtRank 9 = .ok (.if_icmp .ge 67, 3) := by decide +kernel
theorem dX10_pilotAtRank_12 : decode cX10_pilotAtRank 12 = .ok (.iconst 0, 1) := by decide +kernel
theorem dX10_pilotAtRank_13 : decode cX10_pilotAtRank 13 = .ok (.istore_n 3, 1) := by decide +kernel
theorem dX10_pilotAtRank_14 : decode cX10_pilotAtRank 14 = .ok (.iconst 0, 1) := by decide +kernel
theorem dX10_pilotAtRank_15 : decode cX10_pilotAtRank 15 = .ok (.istore 4, 2) := by decide +kernel
theorem dX10_pilotAtRank_17 : decode cX10_pilotAtRank 17 = .ok (.iload 4, 2) := by decide +kernel
theorem dX10_pilotAtRank_19 : decode cX10_pilotAtRank 19 = .ok (.aload_n 0, 1) := by decide +kernel
theorem dX10_pilotAtRank_20 : decode cX10_pilotAtRank 20 = .ok (.getfield 9, 3) := by decide +kernel
theorem dX10_pilotAtRank_23 : decode cX10_pilotAtRank 23 = .ok (.iconst 4, 1) := by decide +kernel
theorem dX10_pilotAtRank_24 : decode cX10_pilotAtRank 24 = .ok (.iaload, 1) := by decide +kernel
theorem dX10_pilotAtRank_25 : decode cX10_pilotAtRank 25 = .ok (.if_icmp .ge 33, 3) := by decide +kernel
theorem dX10_pilotAtRank_28 : decode cX10_pilotAtRank 28 = .ok (.iload_n 3, 1) := by decide +kernel
theorem dX10_pilotAtRank_29 : decode cX10_pilotAtRank 29 = .ok (.iload 4, 2) := by decide +kernel
theorem dX10_pilotAtRank_31 : decode cX10_pilotAtRank 31 = .ok (.iload_n 2, 1) := by decide +kernel
theorem dX10_pilotAtRank_32 : decode cX10_pilotAtRank 32 = .ok (.if_icmp .eq 17, 3) := by decide +kernel
theorem dX10_pilotAtRank_35 : decode cX10_pilotAtRank 35 = .ok (.aload_n 0, 1) := by decide +kernel
theorem dX10_pilotAtRank_36 : decode cX10_pilotAtRank 36 = .ok (.iload 4, 2) := by decide +kernel
theorem dX10_pilotAtRank_38 : decode cX10_pilotAtRank 38 = .ok (.iload_n 2, 1) := by decide +kernel
theorem dX10_pilotAtRank_39 : decode cX10_pilotAtRank 39 = .ok (.invokevirtual 204, 3) := by decide +kernel
theorem dX10_pilotAtRank_42 : decode cX10_pilotAtRank 42 = .ok (.ifCond .eq 7, 3) := by decide +kernel
theorem dX10_pilotAtRank_45 : decode cX10_pilotAtRank 45 = .ok (.iconst 1, 1) := by decide +kernel
theorem dX10_pilotAtRank_46 : decode cX10_pilotAtRank 46 = .ok (.goto 4, 3) := by decide +kernel
theorem dX10_pilotAtRank_49 : decode cX10_pilotAtRank 49 = .ok (.iconst 0, 1) := by decide +kernel
theorem dX10_pilotAtRank_50 : decode cX10_pilotAtRank 50 = .ok (.iadd, 1) := by decide +kernel
theorem dX10_pilotAtRank_51 : decode cX10_pilotAtRank 51 = .ok (.istore_n 3, 1) := by decide +kernel
theorem dX10_pilotAtRank_52 : decode cX10_pilotAtRank 52 = .ok (.iinc 4 1, 3) := by decide +kernel
theorem dX10_pilotAtRank_55 : decode cX10_pilotAtRank 55 = .ok (.goto (-38), 3) := by decide +kernel
theorem dX10_pilotAtRank_58 : decode cX10_pilotAtRank 58 = .ok (.iload_n 3, 1) := by decide +kernel
theorem dX10_pilotAtRank_59 : decode cX10_pilotAtRank 59 = .ok (.iload_n 1, 1) := by decide +kernel
theorem dX10_pilotAtRank_60 : decode cX10_pilotAtRank 60 = .ok (.if_icmp .ne 10, 3) := by decide +kernel
theorem dX10_pilotAtRank_63 : decode cX10_pilotAtRank 63 = .ok (.aload_n 0, 1) := by decide +kernel
theorem dX10_pilotAtRank_64 : decode cX10_pilotAtRank 64 = .ok (.iconst 0, 1) := by decide +kernel
theorem dX10_pilotAtRank_65 : decode cX10_pilotAtRank 65 = .ok (.putfield 41, 3) := by decide +kernel
theorem dX10_pilotAtRank_68 : decode cX10_pilotAtRank 68 = .ok (.iload_n 2, 1) := by decide +kernel
theorem dX10_pilotAtRank_69 : decode cX10_pilotAtRank 69 = .ok (.ireturn, 1) := by decide +kernel
theorem dX10_pilotAtRank_70 : decode cX10_pilotAtRank 70 = .ok (.iinc 2 1, 3) := by decide +kernel
theorem dX10_pilotAtRank_73 : decode cX10_pilotAtRank 73 = .ok (.goto (-71), 3) := by decide +kernel
theorem dX10_pilotAtRank_76 : decode cX10_pilotAtRank 76 = .ok (.aload_n 0, 1) := by decide +kernel
theorem dX10_pilotAtRank_77 : decode cX10_pilotAtRank 77 = .ok (.iconst 1, 1) := by decide +kernel
theorem dX10_pilotAtRank_78 : decode cX10_pilotAtRank 78 = .ok (.putfield 41, 3) := by decide +kernel
theorem dX10_pilotAtRank_81 : decode cX10_pilotAtRank 81 = .ok (.iconst 0, 1) := by decide +kernel
theorem dX10_pilotAtRank_82 : decode cX10_pilotAtRank 82 = .ok (.ireturn, 1) := by decide +kernel
theorem dX10_days_0 : decode cX10_days 0 = .ok (.aload_n 0, 1) := by decide +kernel
theorem dX10_days_1 : decode cX10_days 1 = .ok (.iconst 0, 1) := by decide +kernel
theorem dX10_days_2 : decode cX10_days 2 = .ok (.putfield 41, 3) := by decide +kernel
theorem dX10_days_5 : decode cX10_days 5 = .ok (.aload_n 0, 1) := by decide +kernel
theorem dX10_days_6 : decode cX10_days 6 = .ok (.getfield 9, 3) := by decide +kernel
theorem dX10_days_9 : decode cX10_days 9 = .ok (.bipush 6, 2) := by decide +kernel
theorem dX10_days_11 : decode cX10_days 11 = .ok (.iaload, 1) := by decide +kernel
theorem dX10_days_12 : decode cX10_days 12 = .ok (.ireturn, 1) := by decide +kernel
theorem dX10_speed_0 : decode cX10_speed 0 = .ok (.aload_n 0, 1) := by decide +kernel
theorem dX10_speed_1 : decode cX10_speed 1 = .ok (.aload_n 0, 1) := by decide +kernel
theorem dX10_speed_2 : decode cX10_speed 2 = .ok (.iload_n 1, 1) := by decide +kernel
theorem dX10_speed_3 : decode cX10_speed 3 = .ok (.invokevirtual 131, 3) := by decide +kernel
theorem dX10_speed_6 : decode cX10_speed 6 = .ok (.ifCond .ne 7, 3) := by decide +kernel
theorem dX10_speed_9 : decode cX10_speed 9 = .ok (.iconst 1, 1) := by decide +kernel
theorem dX10_speed_10 : decode cX10_speed 10 = .ok (.goto 4, 3) := by decide +kernel
theorem dX10_speed_13 : decode cX10_speed 13 = .ok (.iconst 0, 1) := by decide +kernel
theorem dX10_speed_14 : decode cX10_speed 14 = .ok (.iconst 1, 1) := by decide +kernel
theorem dX10_speed_15 : decode cX10_speed 15 = .ok (.invokevirtual 85, 3) := by decide +kernel
theorem dX10_speed_18 : decode cX10_speed 18 = .ok (.ifCond .ne 26, 3) := by decide +kernel
theorem dX10_speed_21 : decode cX10_speed 21 = .ok (.aload_n 0, 1) := by decide +kernel
theorem dX10_speed_22 : decode cX10_speed 22 = .ok (.aload_n 0, 1) := by decide +kernel
theorem dX10_speed_23 : decode cX10_speed 23 = .ok (.iload_n 1, 1) := by decide +kernel
theorem dX10_speed_24 : decode cX10_speed 24 = .ok (.iconst 1, 1) := by decide +kernel
theorem dX10_speed_25 : decode cX10_speed 25 = .ok (.invokevirtual 78, 3) := by decide +kernel
theorem dX10_speed_28 : decode cX10_speed 28 = .ok (.iconst 3, 1) := by decide +kernel
theorem dX10_speed_29 : decode cX10_speed 29 = .ok (.if_icmp .eq 7, 3) := by decide +kernel
theorem dX10_speed_32 : decode cX10_speed 32 = .ok (.iconst 1, 1) := by decide +kernel
theorem dX10_speed_33 : decode cX10_speed 33 = .ok (.goto 4, 3) := by decide +kernel
theorem dX10_speed_36 : decode cX10_speed 36 = .ok (.iconst 0, 1) := by decide +kernel
theorem dX10_speed_37 : decode cX10_speed 37 = .ok (.iconst 2, 1) := by decide +kernel
theorem dX10_speed_38 : decode cX10_speed 38 = .ok (.invokevirtual 85, 3) := by decide +kernel
theorem dX10_speed_41 : decode cX10_speed 41 = .ok (.ifCond .eq 5, 3) := by decide +kernel
theorem dX10_speed_44 : decode cX10_speed 44 = .ok (.fconst 0, 1) := by decide +kernel
theorem dX10_speed_45 : decode cX10_speed 45 = .ok (.freturn, 1) := by decide +kernel
theorem dX10_speed_46 : decode cX10_speed 46 = .ok (.aload_n 0, 1) := by decide +kernel
theorem dX10_speed_47 : decode cX10_speed 47 = .ok (.invokevirtual 168, 3) := by decide +kernel
theorem dX10_speed_50 : decode cX10_speed 50 = .ok (.i2f, 1) := by decide +kernel
theorem dX10_speed_51 : decode cX10_speed 51 = .ok (.aload_n 0, 1) := by decide +kernel
theorem dX10_speed_52 : decode cX10_speed 52 = .ok (.iload_n 1, 1) := by decide +kernel
theorem dX10_speed_53 : decode cX10_speed 53 = .ok (.iconst 5, 1) := by decide +kernel
theorem dX10_speed_54 : decode cX10_speed 54 = .ok (.invokevirtual 78, 3) := by decide +kernel
theorem dX10_speed_57 : decode cX10_speed 57 = .ok (.i2f, 1) := by decide +kernel
theorem dX10_speed_58 : decode cX10_speed 58 = .ok (.fdiv, 1) := by decide +kernel
theorem dX10_speed_59 : decode cX10_speed 59 = .ok (.freturn, 1) := by decide +kernel
theorem dX10_meanScore_0 : decode cX10_meanScore 0 = .ok (.iconst 0, 1) := by decide +kernel
theorem dX10_meanScore_1 : decode cX10_meanScore 1 = .ok (.istore_n 1, 1) := by decide +kernel
theorem dX10_meanScore_2 : decode cX10_meanScore 2 = .ok (.iconst 0, 1) := by decide +kernel
theorem dX10_meanScore_3 : decode cX10_meanScore 3 = .ok (.istore_n 2, 1) := by decide +kernel
theorem dX10_meanScore_4 : decode cX10_meanScore 4 = .ok (.iload_n 2, 1) := by decide +kernel
theorem dX10_meanScore_5 : decode cX10_meanScore 5 = .ok (.aload_n 0, 1) := by decide +kernel
theorem dX10_meanScore_6 : decode cX10_meanScore 6 = .ok (.getfield 9, 3) := by decide +kernel
theorem dX10_meanScore_9 : decode cX10_meanScore 9 = .ok (.iconst 4, 1) := by decide +kernel
theorem dX10_meanScore_10 : decode cX10_meanScore 10 = .ok (.iaload, 1) := by decide +kernel
theorem dX10_meanScore_11 : decode cX10_meanScore 11 = .ok (.if_icmp .ge 17, 3) := by decide +kernel
theorem dX10_meanScore_14 : decode cX10_meanScore 14 = .ok (.iload_n 1, 1) := by decide +kernel
theorem dX10_meanScore_15 : decode cX10_meanScore 15 = .ok (.aload_n 0, 1) := by decide +kernel
theorem dX10_meanScore_16 : decode cX10_meanScore 16 = .ok (.iload_n 2, 1) := by decide +kernel
theorem dX10_meanScore_17 : decode cX10_meanScore 17 = .ok (.invokevirtual 180, 3) := by decide +kernel
theorem dX10_meanScore_20 : decode cX10_meanScore 20 = .ok (.iadd, 1) := by decide +kernel
theorem dX10_meanScore_21 : decode cX10_meanScore 21 = .ok (.istore_n 1, 1) := by decide +kernel
theorem dX10_meanScore_22 : decode cX10_meanScore 22 = .ok (.iinc 2 1, 3) := by decide +kernel
theorem dX10_meanScore_25 : decode cX10_meanScore 25 = .ok (.goto (-21), 3) := by decide +kernel
theorem dX10_meanScore_28 : decode cX10_meanScore 28 = .ok (.aload_n 0, 1) := by decide +kernel
theorem dX10_meanScore_29 : decode cX10_meanScore 29 = .ok (.aload_n 0, 1) := by decide +kernel
theorem dX10_meanScore_30 : decode cX10_meanScore 30 = .ok (.getfield 9, 3) := by decide +kernel
theorem dX10_meanScore_33 : decode cX10_meanScore 33 = .ok (.iconst 4, 1) := by decide +kernel
theorem dX10_meanScore_34 : decode cX10_meanScore 34 = .ok (.iaload, 1) := by decide +kernel
theorem dX10_meanScore_35 : decode cX10_meanScore 35 = .ok (.ifCond .ne 7, 3) := by decide +kernel
theorem dX10_meanScore_38 : decode cX10_meanScore 38 = .ok (.iconst 1, 1) := by decide +kernel
theorem dX10_meanScore_39 : decode cX10_meanScore 39 = .ok (.goto 4, 3) := by decide +kernel
theorem dX10_meanScore_42 : decode cX10_meanScore 42 = .ok (.iconst 0, 1) := by decide +kernel
theorem dX10_meanScore_43 : decode cX10_meanScore 43 = .ok (.iconst 1, 1) := by decide +kernel
theorem dX10_meanScore_44 : decode cX10_meanScore 44 = .ok (.invokevirtual 85, 3) := by decide +kernel
theorem dX10_meanScore_47 : decode cX10_meanScore 47 = .ok (.ifCond .eq 7, 3) := by decide +kernel
theorem dX10_meanScore_50 : decode cX10_meanScore 50 = .ok (.dconst 0, 1) := by decide +kernel
theorem dX10_meanScore_51 : decode cX10_meanScore 51 = .ok (.goto 13, 3) := by decide +kernel
theorem dX10_meanScore_54 : decode cX10_meanScore 54 = .ok (.iload_n 1, 1) := by decide +kernel
theorem dX10_meanScore_55 : decode cX10_meanScore 55 = .ok (.i2d, 1) := by decide +kernel
theorem dX10_meanScore_56 : decode cX10_meanScore 56 = .ok (.aload_n 0, 1) := by decide +kernel
theorem dX10_meanScore_57 : decode cX10_meanScore 57 = .ok (.getfield 9, 3) := by decide +kernel
theorem dX10_meanScore_60 : decode cX10_meanScore 60 = .ok (.iconst 4, 1) := by decide +kernel
theorem dX10_meanScore_61 : decode cX10_meanScore 61 = .ok (.iaload, 1) := by decide +kernel
theorem dX10_meanScore_62 : decode cX10_meanScore 62 = .ok (.i2d, 1) := by decide +kernel
theorem dX10_meanScore_63 : decode cX10_meanScore 63 = .ok (.ddiv, 1) := by decide +kernel
theorem dX10_meanScore_64 : decode cX10_meanScore 64 = .ok (.dreturn, 1) := by decide +kernel
theorem dX10_isConsistent_0 : decode cX10_isConsistent 0 = .ok (.aload_n 0, 1) := by decide +kernel
theorem dX10_isConsistent_1 : decode cX10_isConsistent 1 = .ok (.iconst 0, 1) := by decide +kernel
theorem dX10_isConsistent_2 : decode cX10_isConsistent 2 = .ok (.putfield 41, 3) := by decide +kernel
theorem dX10_isConsistent_5 : decode cX10_isConsistent 5 = .ok (.iconst 1, 1) := by decide +kernel
theorem dX10_isConsistent_6 : decode cX10_isConsistent 6 = .ok (.istore_n 1, 1) := by decide +kernel
theorem dX10_isConsistent_7 : decode cX10_isConsistent 7 = .ok (.iconst 0, 1) := by decide +kernel
theorem dX10_isConsistent_8 : decode cX10_isConsistent 8 = .ok (.istore_n 2, 1) := by decide +kernel
theorem dX10_isConsistent_9 : decode cX10_isConsistent 9 = .ok (.iload_n 2, 1) := by decide +kernel
theorem dX10_isConsistent_10 : decode cX10_isConsistent 10 = .ok (.aload_n 0, 1) := by decide +kernel
theorem dX10_isConsistent_11 : decode cX10_isConsistent 11 = .ok (.getfield 9, 3) := by decide +kernel
theorem dX10_isConsistent_14 : decode cX10_isConsistent 14 = .ok (.iconst 4, 1) := by decide +kernel
theorem dX10_isConsistent_15 : decode cX10_isConsistent 15 = .ok (.iaload, 1) := by decide +kernel
theorem dX10_isConsistent_16 : decode cX10_isConsistent 16 = .ok (.if_icmp .ge 29, 3) := by decide +kernel
theorem dX10_isConsistent_19 : decode cX10_isConsistent 19 = .ok (.iload_n 1, 1) := by decide +kernel
theorem dX10_isConsistent_20 : decode cX10_isConsistent 20 = .ok (.aload_n 0, 1) := by decide +kernel
theorem dX10_isConsistent_21 : decode cX10_isConsistent 21 = .ok (.iload_n 2, 1) := by decide +kernel
theorem dX10_isConsistent_22 : decode cX10_isConsistent 22 = .ok (.invokevirtual 174, 3) := by decide +kernel
theorem dX10_isConsistent_25 : decode cX10_isConsistent 25 = .ok (.aload_n 0, 1) := by decide +kernel
theorem dX10_isConsistent_26 : decode cX10_isConsistent 26 = .ok (.invokevirtual 168, 3) := by decide +kernel
theorem dX10_isConsistent_29 : decode cX10_isConsistent 29 = .ok (.if_icmp .gt 7, 3) := by decide +kernel
theorem dX10_isConsistent_32 : decode cX10_isConsistent 32 = .ok (.iconst 1, 1) := by decide +kernel
theorem dX10_isConsistent_33 : decode cX10_isConsistent 33 = .ok (.goto 4, 3) := by decide +kernel
theorem dX10_isConsistent_36 : decode cX10_isConsistent 36 = .ok (.iconst 0, 1) := by decide +kernel
theorem dX10_isConsistent_37 : decode cX10_isConsistent 37 = .ok (.iand, 1) := by decide +kernel
theorem dX10_isConsistent_38 : decode cX10_isConsistent 38 = .ok (.istore_n 1, 1) := by decide +kernel
theorem dX10_isConsistent_39 : decode cX10_isConsistent 39 = .ok (.iinc 2 1, 3) := by decide +kernel
theorem dX10_isConsistent_42 : decode cX10_isConsistent 42 = .ok (.goto (-33), 3) := by decide +kernel
theorem dX10_isConsistent_45 : decode cX10_isConsistent 45 = .ok (.iload_n 1, 1) := by decide +kernel
theorem dX10_isConsistent_46 : decode cX10_isConsistent 46 = .ok (.ireturn, 1) := by decide +kernel
theorem dX10_puts_0 : decode cX10_puts 0 = .ok (.aload_n 0, 1) := by decide +kernel
theorem dX10_puts_1 : decode cX10_puts 1 = .ok (.getfield 32, 3) := by decide +kernel
theorem dX10_puts_4 : decode cX10_puts 4 = .ok (.aload_n 0, 1) := by decide +kernel
theorem dX10_puts_5 : decode cX10_puts 5 = .ok (.getfield 207, 3) := by decide +kernel
theorem dX10_puts_8 : decode cX10_puts 8 = .ok (.iload_n 1, 1) := by decide +kernel
theorem dX10_puts_9 : decode cX10_puts 9 = .ok (.iastore, 1) := by decide +kernel
theorem dX10_puts_10 : decode cX10_puts 10 = .ok (.aload_n 0, 1) := by decide +kernel
theorem dX10_puts_11 : decode cX10_puts 11 = .ok (.dup, 1) := by decide +kernel
theorem dX10_puts_12 : decode cX10_puts 12 = .ok (.getfield 207, 3) := by decide +kernel
theorem dX10_puts_15 : decode cX10_puts 15 = .ok (.iconst 1, 1) := by decide +kernel
theorem dX10_puts_16 : decode cX10_puts 16 = .ok (.iadd, 1) := by decide +kernel
theorem dX10_puts_17 : decode cX10_puts 17 = .ok (.putfield 207, 3) := by decide +kernel
theorem dX10_puts_20 : decode cX10_puts 20 = .ok (.return_, 1) := by decide +kernel
theorem dX10_number_0 : decode cX10_number 0 = .ok (.iload_n 1, 1) := by decide +kernel
theorem dX10_number_1 : decode cX10_number 1 = .ok (.bipush 10, 2) := by decide +kernel
theorem dX10_number_3 : decode cX10_number 3 = .ok (.if_icmp .lt 11, 3) := by decide +kernel
theorem dX10_number_6 : decode cX10_number 6 = .ok (.aload_n 0, 1) := by decide +kernel
theorem dX10_number_7 : decode cX10_number 7 = .ok (.iload_n 1, 1) := by decide +kernel
theorem dX10_number_8 : decode cX10_number 8 = .ok (.bipush 10, 2) := by decide +kernel
theorem dX10_number_10 : decode cX10_number 10 = .ok (.idiv, 1) := by decide +kernel
theorem dX10_number_11 : decode cX10_number 11 = .ok (.invokevirtual 210, 3) := by decide +kernel
theorem dX10_number_14 : decode cX10_number 14 = .ok (.aload_n 0, 1) := by decide +kernel
theorem dX10_number_15 : decode cX10_number 15 = .ok (.bipush 48, 2) := by decide +kernel
theorem dX10_number_17 : decode cX10_number 17 = .ok (.iload_n 1, 1) := by decide +kernel
theorem dX10_number_18 : decode cX10_number 18 = .ok (.bipush 10, 2) := by decide +kernel
theorem dX10_number_20 : decode cX10_number 20 = .ok (.irem, 1) := by decide +kernel
theorem dX10_number_21 : decode cX10_number 21 = .ok (.iadd, 1) := by decide +kernel
theorem dX10_number_22 : decode cX10_number 22 = .ok (.invokevirtual 214, 3) := by decide +kernel
theorem dX10_number_25 : decode cX10_number 25 = .ok (.return_, 1) := by decide +kernel
theorem dX10_writePilot_0 : decode cX10_writePilot 0 = .ok (.aload_n 0, 1) := by decide +kernel
theorem dX10_writePilot_1 : decode cX10_writePilot 1 = .ok (.aload_n 0, 1) := by decide +kernel
theorem dX10_writePilot_2 : decode cX10_writePilot 2 = .ok (.iload_n 1, 1) := by decide +kernel
theorem dX10_writePilot_3 : decode cX10_writePilot 3 = .ok (.invokevirtual 131, 3) := by decide +kernel
theorem dX10_writePilot_6 : decode cX10_writePilot 6 = .ok (.ifCond .ne 7, 3) := by decide +kernel
theorem dX10_writePilot_9 : decode cX10_writePilot 9 = .ok (.iconst 1, 1) := by decide +kernel
theorem dX10_writePilot_10 : decode cX10_writePilot 10 = .ok (.goto 4, 3) := by decide +kernel
theorem dX10_writePilot_13 : decode cX10_writePilot 13 = .ok (.iconst 0, 1) := by decide +kernel
theorem dX10_writePilot_14 : decode cX10_writePilot 14 = .ok (.iconst 1, 1) := by decide +kernel
theorem dX10_writePilot_15 : decode cX10_writePilot 15 = .ok (.invokevirtual 85, 3) := by decide +kernel
theorem dX10_writePilot_18 : decode cX10_writePilot 18 = .ok (.ifCond .eq 5, 3) := by decide +kernel
theorem dX10_writePilot_21 : decode cX10_writePilot 21 = .ok (.iconst 0, 1) := by decide +kernel
theorem dX10_writePilot_22 : decode cX10_writePilot 22 = .ok (.ireturn, 1) := by decide +kernel
theorem dX10_writePilot_23 : decode cX10_writePilot 23 = .ok (.aload_n 0, 1) := by decide +kernel
theorem dX10_writePilot_24 : decode cX10_writePilot 24 = .ok (.iconst 0, 1) := by decide +kernel
theorem dX10_writePilot_25 : decode cX10_writePilot 25 = .ok (.putfield 207, 3) := by decide +kernel
theorem dX10_writePilot_28 : decode cX10_writePilot 28 = .ok (.aload_n 0, 1) := by decide +kernel
theorem dX10_writePilot_29 : decode cX10_writePilot 29 = .ok (.iload_n 1, 1) := by decide +kernel
theorem dX10_writePilot_30 : decode cX10_writePilot 30 = .ok (.invokevirtual 210, 3) := by decide +kernel
theorem dX10_writePilot_33 : decode cX10_writePilot 33 = .ok (.aload_n 0, 1) := by decide +kernel
theorem dX10_writePilot_34 : decode cX10_writePilot 34 = .ok (.ldc 217, 2) := by decide +kernel
theorem dX10_writePilot_36 : decode cX10_writePilot 36 = .ok (.aload_n 0, 1) := by decide +kernel
theorem dX10_writePilot_37 : decode cX10_writePilot 37 = .ok (.iload_n 1, 1) := by decide +kernel
theorem dX10_writePilot_38 : decode cX10_writePilot 38 = .ok (.iconst 1, 1) := by decide +kernel
theorem dX10_writePilot_39 : decode cX10_writePilot 39 = .ok (.invokevirtual 78, 3) := by decide +kernel
theorem dX10_writePilot_42 : decode cX10_writePilot 42 = .ok (.invokevirtual 219, 3) := by decide +kernel
theorem dX10_writePilot_45 : decode cX10_writePilot 45 = .ok (.invokevirtual 214, 3) := by decide +kernel
theorem dX10_writePilot_48 : decode cX10_writePilot 48 = .ok (.aload_n 0, 1) := by decide +kernel
theorem dX10_writePilot_49 : decode cX10_writePilot 49 = .ok (.iload_n 1, 1) := by decide +kernel
theorem dX10_writePilot_50 : decode cX10_writePilot 50 = .ok (.iconst 1, 1) := by decide +kernel
theorem dX10_writePilot_51 : decode cX10_writePilot 51 = .ok (.invokevirtual 78, 3) := by decide +kernel
theorem dX10_writePilot_54 : decode cX10_writePilot 54 = .ok (.ifCond .ne 8, 3) := by decide +kernel
theorem dX10_writePilot_57 : decode cX10_writePilot 57 = .ok (.aload_n 0, 1) := by decide +kernel
theorem dX10_writePilot_58 : decode cX10_writePilot 58 = .ok (.getfield 207, 3) := by decide +kernel
theorem dX10_writePilot_61 : decode cX10_writePilot 61 = .ok (.ireturn, 1) := by decide +kernel
theorem dX10_writePilot_62 : decode cX10_writePilot 62 = .ok (.aload_n 0, 1) := by decide +kernel
theorem dX10_writePilot_63 : decode cX10_writePilot 63 = .ok (.aload_n 0, 1) := by decide +kernel
theorem dX10_writePilot_64 : decode cX10_writePilot 64 = .ok (.iload_n 1, 1) := by decide +kernel
theorem dX10_writePilot_65 : decode cX10_writePilot 65 = .ok (.iconst 2, 1) := by decide +kernel
theorem dX10_writePilot_66 : decode cX10_writePilot 66 = .ok (.invokevirtual 78, 3) := by decide +kernel
theorem dX10_writePilot_69 : decode cX10_writePilot 69 = .ok (.invokevirtual 210, 3) := by decide +kernel
theorem dX10_writePilot_72 : decode cX10_writePilot 72 = .ok (.aload_n 0, 1) := by decide +kernel
theorem dX10_writePilot_73 : decode cX10_writePilot 73 = .ok (.bipush 44, 2) := by decide +kernel
theorem dX10_writePilot_75 : decode cX10_writePilot 75 = .ok (.invokevirtual 214, 3) := by decide +kernel
theorem dX10_writePilot_78 : decode cX10_writePilot 78 = .ok (.aload_n 0, 1) := by decide +kernel
theorem dX10_writePilot_79 : decode cX10_writePilot 79 = .ok (.aload_n 0, 1) := by decide +kernel
theorem dX10_writePilot_80 : decode cX10_writePilot 80 = .ok (.iload_n 1, 1) := by decide +kernel
theorem dX10_writePilot_81 : decode cX10_writePilot 81 = .ok (.iconst 3, 1) := by decide +kernel
theorem dX10_writePilot_82 : decode cX10_writePilot 82 = .ok (.invokevirtual 78, 3) := by decide +kernel
theorem dX10_writePilot_85 : decode cX10_writePilot 85 = .ok (.invokevirtual 210, 3) := by decide +kernel
theorem dX10_writePilot_88 : decode cX10_writePilot 88 = .ok (.aload_n 0, 1) := by decide +kernel
theorem dX10_writePilot_89 : decode cX10_writePilot 89 = .ok (.bipush 32, 2) := by decide +kernel
theorem dX10_writePilot_91 : decode cX10_writePilot 91 = .ok (.invokevirtual 214, 3) := by decide +kernel
theorem dX10_writePilot_94 : decode cX10_writePilot 94 = .ok (.aload_n 0, 1) := by decide +kernel
theorem dX10_writePilot_95 : decode cX10_writePilot 95 = .ok (.aload_n 0, 1) := by decide +kernel
theorem dX10_writePilot_96 : decode cX10_writePilot 96 = .ok (.iload_n 1, 1) := by decide +kernel
theorem dX10_writePilot_97 : decode cX10_writePilot 97 = .ok (.iconst 4, 1) := by decide +kernel
theorem dX10_writePilot_98 : decode cX10_writePilot 98 = .ok (.invokevirtual 78, 3) := by decide +kernel
theorem dX10_writePilot_101 : decode cX10_writePilot 101 = .ok (.invokevirtual 210, 3) := by decide +kernel
theorem dX10_writePilot_104 : decode cX10_writePilot 104 = .ok (.aload_n 0, 1) := by decide +kernel
theorem dX10_writePilot_105 : decode cX10_writePilot 105 = .ok (.bipush 109, 2) := by decide +kernel
theorem dX10_writePilot_107 : decode cX10_writePilot 107 = .ok (.invokevirtual 214, 3) := by decide +kernel
theorem dX10_writePilot_110 : decode cX10_writePilot 110 = .ok (.aload_n 0, 1) := by decide +kernel
theorem dX10_writePilot_111 : decode cX10_writePilot 111 = .ok (.bipush 32, 2) := by decide +kernel
theorem dX10_writePilot_113 : decode cX10_writePilot 113 = .ok (.invokevirtual 214, 3) := by decide +kernel
theorem dX10_writePilot_116 : decode cX10_writePilot 116 = .ok (.aload_n 0, 1) := by decide +kernel
theorem dX10_writePilot_117 : decode cX10_writePilot 117 = .ok (.aload_n 0, 1) := by decide +kernel
theorem dX10_writePilot_118 : decode cX10_writePilot 118 = .ok (.iload_n 1, 1) := by decide +kernel
theorem dX10_writePilot_119 : decode cX10_writePilot 119 = .ok (.bipush 7, 2) := by decide +kernel
theorem dX10_writePilot_121 : decode cX10_writePilot 121 = .ok (.invokevirtual 78, 3) := by decide +kernel
theorem dX10_writePilot_124 : decode cX10_writePilot 124 = .ok (.invokevirtual 210, 3) := by decide +kernel
theorem dX10_writePilot_127 : decode cX10_writePilot 127 = .ok (.aload_n 0, 1) := by decide +kernel
theorem dX10_writePilot_128 : decode cX10_writePilot 128 = .ok (.bipush 47, 2) := by decide +kernel
theorem dX10_writePilot_130 : decode cX10_writePilot 130 = .ok (.invokevirtual 214, 3) := by decide +kernel
theorem dX10_writePilot_133 : decode cX10_writePilot 133 = .ok (.aload_n 0, 1) := by decide +kernel
theorem dX10_writePilot_134 : decode cX10_writePilot 134 = .ok (.aload_n 0, 1) := by decide +kernel
theorem dX10_writePilot_135 : decode cX10_writePilot 135 = .ok (.getfield 9, 3) := by decide +kernel
theorem dX10_writePilot_138 : decode cX10_writePilot 138 = .ok (.iconst 1, 1) := by decide +kernel
theorem dX10_writePilot_139 : decode cX10_writePilot 139 = .ok (.iaload, 1) := by decide +kernel
theorem dX10_writePilot_140 : decode cX10_writePilot 140 = .ok (.invokevirtual 210, 3) := by decide +kernel
theorem dX10_writePilot_143 : decode cX10_writePilot 143 = .ok (.aload_n 0, 1) := by decide +kernel
theorem dX10_writePilot_144 : decode cX10_writePilot 144 = .ok (.iload_n 1, 1) := by decide +kernel
theorem dX10_writePilot_145 : decode cX10_writePilot 145 = .ok (.bipush 6, 2) := by decide +kernel
theorem dX10_writePilot_147 : decode cX10_writePilot 147 = .ok (.invokevirtual 78, 3) := by decide +kernel
theorem dX10_writePilot_150 : decode cX10_writePilot 150 = .ok (.ifCond .le 26, 3) := by decide +kernel
theorem dX10_writePilot_153 : decode cX10_writePilot 153 = .ok (.aload_n 0, 1) := by decide +kernel
theorem dX10_writePilot_154 : decode cX10_writePilot 154 = .ok (.bipush 32, 2) := by decide +kernel
theorem dX10_writePilot_156 : decode cX10_writePilot 156 = .ok (.invokevirtual 214, 3) := by decide +kernel
theorem dX10_writePilot_159 : decode cX10_writePilot 159 = .ok (.aload_n 0, 1) := by decide +kernel
theorem dX10_writePilot_160 : decode cX10_writePilot 160 = .ok (.bipush 45, 2) := by decide +kernel
theorem dX10_writePilot_162 : decode cX10_writePilot 162 = .ok (.invokevirtual 214, 3) := by decide +kernel
theorem dX10_writePilot_165 : decode cX10_writePilot 165 = .ok (.aload_n 0, 1) := by decide +kernel
theorem dX10_writePilot_166 : decode cX10_writePilot 166 = .ok (.aload_n 0, 1) := by decide +kernel
theorem dX10_writePilot_167 : decode cX10_writePilot 167 = .ok (.iload_n 1, 1) := by decide +kernel
theorem dX10_writePilot_168 : decode cX10_writePilot 168 = .ok (.bipush 6, 2) := by decide +kernel
theorem dX10_writePilot_170 : decode cX10_writePilot 170 = .ok (.invokevirtual 78, 3) := by decide +kernel
theorem dX10_writePilot_173 : decode cX10_writePilot 173 = .ok (.invokevirtual 210, 3) := by decide +kernel
theorem dX10_writePilot_176 : decode cX10_writePilot 176 = .ok (.aload_n 0, 1) := by decide +kernel
theorem dX10_writePilot_177 : decode cX10_writePilot 177 = .ok (.getfield 207, 3) := by decide +kernel
theorem dX10_writePilot_180 : decode cX10_writePilot 180 = .ok (.ireturn, 1) := by decide +kernel
theorem dX10_writeTask_0 : decode cX10_writeTask 0 = .ok (.aload_n 0, 1) := by decide +kernel
theorem dX10_writeTask_1 : decode cX10_writeTask 1 = .ok (.iconst 0, 1) := by decide +kernel
theorem dX10_writeTask_2 : decode cX10_writeTask 2 = .ok (.putfield 41, 3) := by decide +kernel
theorem dX10_writeTask_5 : decode cX10_writeTask 5 = .ok (.aload_n 0, 1) := by decide +kernel
theorem dX10_writeTask_6 : decode cX10_writeTask 6 = .ok (.iconst 0, 1) := by decide +kernel
theorem dX10_writeTask_7 : decode cX10_writeTask 7 = .ok (.putfield 207, 3) := by decide +kernel
theorem dX10_writeTask_10 : decode cX10_writeTask 10 = .ok (.iconst 0, 1) := by decide +kernel
theorem dX10_writeTask_11 : decode cX10_writeTask 11 = .ok (.istore_n 1, 1) := by decide +kernel
theorem dX10_writeTask_12 : decode cX10_writeTask 12 = .ok (.iload_n 1, 1) := by decide +kernel
theorem dX10_writeTask_13 : decode cX10_writeTask 13 = .ok (.aload_n 0, 1) := by decide +kernel
theorem dX10_writeTask_14 : decode cX10_writeTask 14 = .ok (.getfield 9, 3) := by decide +kernel
theorem dX10_writeTask_17 : decode cX10_writeTask 17 = .ok (.iconst 1, 1) := by decide +kernel
theorem dX10_writeTask_18 : decode cX10_writeTask 18 = .ok (.iaload, 1) := by decide +kernel
theorem dX10_writeTask_19 : decode cX10_writeTask 19 = .ok (.if_icmp .ge 45, 3) := by decide +kernel
theorem dX10_writeTask_22 : decode cX10_writeTask 22 = .ok (.iload_n 1, 1) := by decide +kernel
theorem dX10_writeTask_23 : decode cX10_writeTask 23 = .ok (.ifCond .le 26, 3) := by decide +kernel
theorem dX10_writeTask_26 : decode cX10_writeTask 26 = .ok (.aload_n 0, 1) := by decide +kernel
theorem dX10_writeTask_27 : decode cX10_writeTask 27 = .ok (.bipush 45, 2) := by decide +kernel
theorem dX10_writeTask_29 : decode cX10_writeTask 29 = .ok (.invokevirtual 214, 3) := by decide +kernel
theorem dX10_writeTask_32 : decode cX10_writeTask 32 = .ok (.aload_n 0, 1) := by decide +kernel
theorem dX10_writeTask_33 : decode cX10_writeTask 33 = .ok (.aload_n 0, 1) := by decide +kernel
theorem dX10_writeTask_34 : decode cX10_writeTask 34 = .ok (.iload_n 1, 1) := by decide +kernel
theorem dX10_writeTask_35 : decode cX10_writeTask 35 = .ok (.iconst 1, 1) := by decide +kernel
theorem dX10_writeTask_36 : decode cX10_writeTask 36 = .ok (.isub, 1) := by decide +kernel
theorem dX10_writeTask_37 : decode cX10_writeTask 37 = .ok (.invokevirtual 72, 3) := by decide +kernel
theorem dX10_writeTask_40 : decode cX10_writeTask 40 = .ok (.invokevirtual 210, 3) := by decide +kernel
theorem dX10_writeTask_43 : decode cX10_writeTask 43 = .ok (.aload_n 0, 1) := by decide +kernel
theorem dX10_writeTask_44 : decode cX10_writeTask 44 = .ok (.bipush 62, 2) := by decide +kernel
theorem dX10_writeTask_46 : decode cX10_writeTask 46 = .ok (.invokevirtual 214, 3) := by decide +kernel
theorem dX10_writeTask_49 : decode cX10_writeTask 49 = .ok (.aload_n 0, 1) := by decide +kernel
theorem dX10_writeTask_50 : decode cX10_writeTask 50 = .ok (.aload_n 0, 1) := by decide +kernel
theorem dX10_writeTask_51 : decode cX10_writeTask 51 = .ok (.iload_n 1, 1) := by decide +kernel
theorem dX10_writeTask_52 : decode cX10_writeTask 52 = .ok (.invokevirtual 66, 3) := by decide +kernel
theorem dX10_writeTask_55 : decode cX10_writeTask 55 = .ok (.invokevirtual 210, 3) := by decide +kernel
theorem dX10_writeTask_58 : decode cX10_writeTask 58 = .ok (.iinc 1 1, 3) := by decide +kernel
theorem dX10_writeTask_61 : decode cX10_writeTask 61 = .ok (.goto (-49), 3) := by decide +kernel
theorem dX10_writeTask_64 : decode cX10_writeTask 64 = .ok (.aload_n 0, 1) := by decide +kernel
theorem dX10_writeTask_65 : decode cX10_writeTask 65 = .ok (.getfield 207, 3) := by decide +kernel
theorem dX10_writeTask_68 : decode cX10_writeTask 68 = .ok (.ireturn, 1) := by decide +kernel
theorem dX10_outputAt_0 : decode cX10_outputAt 0 = .ok (.aload_n 0, 1) := by decide +kernel
theorem dX10_outputAt_1 : decode cX10_outputAt 1 = .ok (.iload_n 1, 1) := by decide +kernel
theorem dX10_outputAt_2 : decode cX10_outputAt 2 = .ok (.iconst 0, 1) := by decide +kernel
theorem dX10_outputAt_3 : decode cX10_outputAt 3 = .ok (.aload_n 0, 1) := by decide +kernel
theorem dX10_outputAt_4 : decode cX10_outputAt 4 = .ok (.getfield 207, 3) := by decide +kernel
theorem dX10_outputAt_7 : decode cX10_outputAt 7 = .ok (.iconst 1, 1) := by decide +kernel
theorem dX10_outputAt_8 : decode cX10_outputAt 8 = .ok (.isub, 1) := by decide +kernel
theorem dX10_outputAt_9 : decode cX10_outputAt 9 = .ok (.invokestatic 51, 3) := by decide +kernel
theorem dX10_outputAt_12 : decode cX10_outputAt 12 = .ok (.ifCond .ne 7, 3) := by decide +kernel
theorem dX10_outputAt_15 : decode cX10_outputAt 15 = .ok (.iconst 1, 1) := by decide +kernel
theorem dX10_outputAt_16 : decode cX10_outputAt 16 = .ok (.goto 4, 3) := by decide +kernel
theorem dX10_outputAt_19 : decode cX10_outputAt 19 = .ok (.iconst 0, 1) := by decide +kernel
theorem dX10_outputAt_20 : decode cX10_outputAt 20 = .ok (.iconst 1, 1) := by decide +kernel
theorem dX10_outputAt_21 : decode cX10_outputAt 21 = .ok (.invokevirtual 85, 3) := by decide +kernel
theorem dX10_outputAt_24 : decode cX10_outputAt 24 = .ok (.ifCond .eq 7, 3) := by decide +kernel
theorem dX10_outputAt_27 : decode cX10_outputAt 27 = .ok (.iconst 0, 1) := by decide +kernel
theorem dX10_outputAt_28 : decode cX10_outputAt 28 = .ok (.goto 10, 3) := by decide +kernel
theorem dX10_outputAt_31 : decode cX10_outputAt 31 = .ok (.aload_n 0, 1) := by decide +kernel
theorem dX10_outputAt_32 : decode cX10_outputAt 32 = .ok (.getfield 32, 3) := by decide +kernel
theorem dX10_outputAt_35 : decode cX10_outputAt 35 = .ok (.iload_n 1, 1) := by decide +kernel
theorem dX10_outputAt_36 : decode cX10_outputAt 36 = .ok (.iaload, 1) := by decide +kernel
theorem dX10_outputAt_37 : decode cX10_outputAt 37 = .ok (.i2c, 1) := by decide +kernel
theorem dX10_outputAt_38 : decode cX10_outputAt 38 = .ok (.ireturn, 1) := by decide +kernel
theorem dX10_append_0 : decode cX10_append 0 = .ok (.aload_n 0, 1) := by decide +kernel
theorem dX10_append_1 : decode cX10_append 1 = .ok (.aload_n 0, 1) := by decide +kernel
theorem dX10_append_2 : decode cX10_append 2 = .ok (.getfield 225, 3) := by decide +kernel
theorem dX10_append_5 : decode cX10_append 5 = .ok (.bipush 60, 2) := by decide +kernel
theorem dX10_append_7 : decode cX10_append 7 = .ok (.if_icmp .ne 7, 3) := by decide +kernel
theorem dX10_append_10 : decode cX10_append 10 = .ok (.iconst 1, 1) := by decide +kernel
theorem dX10_append_11 : decode cX10_append 11 = .ok (.goto 4, 3) := by decide +kernel
theorem dX10_append_14 : decode cX10_append 14 = .ok (.iconst 0, 1) := by decide +kernel
theorem dX10_append_15 : decode cX10_append 15 = .ok (.iconst 1, 1) := by decide +kernel
theorem dX10_append_16 : decode cX10_append 16 = .ok (.invokevirtual 85, 3) := by decide +kernel
theorem dX10_append_19 : decode cX10_append 19 = .ok (.ifCond .eq 5, 3) := by decide +kernel
theorem dX10_append_22 : decode cX10_append 22 = .ok (.iconst 0, 1) := by decide +kernel
theorem dX10_append_23 : decode cX10_append 23 = .ok (.ireturn, 1) := by decide +kernel
theorem dX10_append_24 : decode cX10_append 24 = .ok (.aload_n 0, 1) := by decide +kernel
theorem dX10_append_25 : decode cX10_append 25 = .ok (.getfield 35, 3) := by decide +kernel
theorem dX10_append_28 : decode cX10_append 28 = .ok (.aload_n 0, 1) := by decide +kernel
theorem dX10_append_29 : decode cX10_append 29 = .ok (.getfield 225, 3) := by decide +kernel
theorem dX10_append_32 : decode cX10_append 32 = .ok (.iload_n 1, 1) := by decide +kernel
theorem dX10_append_33 : decode cX10_append 33 = .ok (.iastore, 1) := by decide +kernel
theorem dX10_append_34 : decode cX10_append 34 = .ok (.aload_n 0, 1) := by decide +kernel
theorem dX10_append_35 : decode cX10_append 35 = .ok (.dup, 1) := by decide +kernel
theorem dX10_append_36 : decode cX10_append 36 = .ok (.getfield 225, 3) := by decide +kernel
theorem dX10_append_39 : decode cX10_append 39 = .ok (.iconst 1, 1) := by decide +kernel
theorem dX10_append_40 : decode cX10_append 40 = .ok (.iadd, 1) := by decide +kernel
theorem dX10_append_41 : decode cX10_append 41 = .ok (.putfield 225, 3) := by decide +kernel
theorem dX10_append_44 : decode cX10_append 44 = .ok (.aload_n 0, 1) := by decide +kernel
theorem dX10_append_45 : decode cX10_append 45 = .ok (.getfield 225, 3) := by decide +kernel
theorem dX10_append_48 : decode cX10_append 48 = .ok (.ireturn, 1) := by decide +kernel
theorem dX10_sign_0 : decode cX10_sign 0 = .ok (.aload_n 0, 1) := by decide +kernel
theorem dX10_sign_1 : decode cX10_sign 1 = .ok (.getfield 228, 3) := by decide +kernel
theorem dX10_sign_4 : decode cX10_sign 4 = .ok (.aload_n 0, 1) := by decide +kernel
theorem dX10_sign_5 : decode cX10_sign 5 = .ok (.getfield 225, 3) := by decide +kernel
theorem dX10_sign_8 : decode cX10_sign 8 = .ok (.if_icmp .ge 15, 3) := by decide +kernel
theorem dX10_sign_11 : decode cX10_sign 11 = .ok (.aload_n 0, 1) := by decide +kernel
theorem dX10_sign_12 : decode cX10_sign 12 = .ok (.getfield 35, 3) := by decide +kernel
theorem dX10_sign_15 : decode cX10_sign 15 = .ok (.aload_n 0, 1) := by decide +kernel
theorem dX10_sign_16 : decode cX10_sign 16 = .ok (.getfield 228, 3) := by decide +kernel
theorem dX10_sign_19 : decode cX10_sign 19 = .ok (.iaload, 1) := by decide +kernel
theorem dX10_sign_20 : decode cX10_sign 20 = .ok (.goto 4, 3) := by decide +kernel
theorem dX10_sign_23 : decode cX10_sign 23 = .ok (.iconst (-1), 1) := by decide +kernel
theorem dX10_sign_24 : decode cX10_sign 24 = .ok (.ireturn, 1) := by decide +kernel
theorem dX10_isSign_0 : decode cX10_isSign 0 = .ok (.aload_n 0, 1) := by decide +kernel
theorem dX10_isSign_1 : decode cX10_isSign 1 = .ok (.invokevirtual 231, 3) := by decide +kernel
theorem dX10_isSign_4 : decode cX10_isSign 4 = .ok (.iload_n 1, 1) := by decide +kernel
theorem dX10_isSign_5 : decode cX10_isSign 5 = .ok (.if_icmp .ne 7, 3) := by decide +kernel
theorem dX10_isSign_8 : decode cX10_isSign 8 = .ok (.iconst 1, 1) := by decide +kernel
theorem dX10_isSign_9 : decode cX10_isSign 9 = .ok (.goto 4, 3) := by decide +kernel
theorem dX10_isSign_12 : decode cX10_isSign 12 = .ok (.iconst 0, 1) := by decide +kernel
theorem dX10_isSign_13 : decode cX10_isSign 13 = .ok (.istore_n 2, 1) := by decide +kernel
theorem dX10_isSign_14 : decode cX10_isSign 14 = .ok (.aload_n 0, 1) := by decide +kernel
theorem dX10_isSign_15 : decode cX10_isSign 15 = .ok (.dup, 1) := by decide +kernel
theorem dX10_isSign_16 : decode cX10_isSign 16 = .ok (.getfield 228, 3) := by decide +kernel
theorem dX10_isSign_19 : decode cX10_isSign 19 = .ok (.iload_n 2, 1) := by decide +kernel
theorem dX10_isSign_20 : decode cX10_isSign 20 = .ok (.ifCond .eq 7, 3) := by decide +kernel
theorem dX10_isSign_23 : decode cX10_isSign 23 = .ok (.iconst 1, 1) := by decide +kernel
theorem dX10_isSign_24 : decode cX10_isSign 24 = .ok (.goto 4, 3) := by decide +kernel
theorem dX10_isSign_27 : decode cX10_isSign 27 = .ok (.iconst 0, 1) := by decide +kernel
theorem dX10_isSign_28 : decode cX10_isSign 28 = .ok (.iadd, 1) := by decide +kernel
theorem dX10_isSign_29 : decode cX10_isSign 29 = .ok (.putfield 228, 3) := by decide +kernel
theorem dX10_isSign_32 : decode cX10_isSign 32 = .ok (.iload_n 2, 1) := by decide +kernel
theorem dX10_isSign_33 : decode cX10_isSign 33 = .ok (.ireturn, 1) := by decide +kernel
theorem dX10_isNumber_0 : decode cX10_isNumber 0 = .ok (.iconst 0, 1) := by decide +kernel
theorem dX10_isNumber_1 : decode cX10_isNumber 1 = .ok (.istore_n 3, 1) := by decide +kernel
theorem dX10_isNumber_2 : decode cX10_isNumber 2 = .ok (.iconst 0, 1) := by decide +kernel
theorem dX10_isNumber_3 : decode cX10_isNumber 3 = .ok (.istore 4, 2) := by decide +kernel
theorem dX10_isNumber_5 : decode cX10_isNumber 5 = .ok (.iload 4, 2) := by decide +kernel
theorem dX10_isNumber_7 : decode cX10_isNumber 7 = .ok (.iload_n 1, 1) := by decide +kernel
theorem dX10_isNumber_8 : decode cX10_isNumber 8 = .ok (.if_icmp .ge 46, 3) := by decide +kernel
theorem dX10_isNumber_11 : decode cX10_isNumber 11 = .ok (.aload_n 0, 1) := by decide +kernel
theorem dX10_isNumber_12 : decode cX10_isNumber 12 = .ok (.invokevirtual 231, 3) := by decide +kernel
theorem dX10_isNumber_15 : decode cX10_isNumber 15 = .ok (.bipush 48, 2) := by decide +kernel
theorem dX10_isNumber_17 : decode cX10_isNumber 17 = .ok (.bipush 57, 2) := by decide +kernel
theorem dX10_isNumber_19 : decode cX10_isNumber 19 = .ok (.invokestatic 51, 3) := by decide +kernel
theorem dX10_isNumber_22 : decode cX10_isNumber 22 = .ok (.ifCond .eq 32, 3) := by decide +kernel
theorem dX10_isNumber_25 : decode cX10_isNumber 25 = .ok (.bipush 10, 2) := by decide +kernel
theorem dX10_isNumber_27 : decode cX10_isNumber 27 = .ok (.iload_n 3, 1) := by decide +kernel
theorem dX10_isNumber_28 : decode cX10_isNumber 28 = .ok (.imul, 1) := by decide +kernel
theorem dX10_isNumber_29 : decode cX10_isNumber 29 = .ok (.aload_n 0, 1) := by decide +kernel
theorem dX10_isNumber_30 : decode cX10_isNumber 30 = .ok (.invokevirtual 231, 3) := by decide +kernel
theorem dX10_isNumber_33 : decode cX10_isNumber 33 = .ok (.iadd, 1) := by decide +kernel
theorem dX10_isNumber_34 : decode cX10_isNumber 34 = .ok (.bipush 48, 2) := by decide +kernel
theorem dX10_isNumber_36 : decode cX10_isNumber 36 = .ok (.isub, 1) := by decide +kernel
theorem dX10_isNumber_37 : decode cX10_isNumber 37 = .ok (.istore_n 3, 1) := by decide +kernel
theorem dX10_isNumber_38 : decode cX10_isNumber 38 = .ok (.aload_n 0, 1) := by decide +kernel
theorem dX10_isNumber_39 : decode cX10_isNumber 39 = .ok (.dup, 1) := by decide +kernel
theorem dX10_isNumber_40 : decode cX10_isNumber 40 = .ok (.getfield 228, 3) := by decide +kernel
theorem dX10_isNumber_43 : decode cX10_isNumber 43 = .ok (.iconst 1, 1) := by decide +kernel
theorem dX10_isNumber_44 : decode cX10_isNumber 44 = .ok (.iadd, 1) := by decide +kernel
theorem dX10_isNumber_45 : decode cX10_isNumber 45 = .ok (.putfield 228, 3) := by decide +kernel
theorem dX10_isNumber_48 : decode cX10_isNumber 48 = .ok (.iinc 4 1, 3) := by decide +kernel
theorem dX10_isNumber_51 : decode cX10_isNumber 51 = .ok (.goto (-46), 3) := by decide +kernel
theorem dX10_isNumber_54 : decode cX10_isNumber 54 = .ok (.aload_n 0, 1) := by decide +kernel
theorem dX10_isNumber_55 : decode cX10_isNumber 55 = .ok (.getfield 38, 3) := by decide +kernel
theorem dX10_isNumber_58 : decode cX10_isNumber 58 = .ok (.iload_n 2, 1) := by decide +kernel
theorem dX10_isNumber_59 : decode cX10_isNumber 59 = .ok (.iload_n 3, 1) := by decide +kernel
theorem dX10_isNumber_60 : decode cX10_isNumber 60 = .ok (.iastore, 1) := by decide +kernel
theorem dX10_isNumber_61 : decode cX10_isNumber 61 = .ok (.iload 4, 2) := by decide +kernel
theorem dX10_isNumber_63 : decode cX10_isNumber 63 = .ok (.ifCond .le 7, 3) := by decide +kernel
theorem dX10_isNumber_66 : decode cX10_isNumber 66 = .ok (.iconst 1, 1) := by decide +kernel
theorem dX10_isNumber_67 : decode cX10_isNumber 67 = .ok (.goto 4, 3) := by decide +kernel
theorem dX10_isNumber_70 : decode cX10_isNumber 70 = .ok (.iconst 0, 1) := by decide +kernel
theorem dX10_isNumber_71 : decode cX10_isNumber 71 = .ok (.ireturn, 1) := by decide +kernel
theorem dX10_isSpaced_0 : decode cX10_isSpaced 0 = .ok (.aload_n 0, 1) := by decide +kernel
theorem dX10_isSpaced_1 : decode cX10_isSpaced 1 = .ok (.bipush 32, 2) := by decide +kernel
theorem dX10_isSpaced_3 : decode cX10_isSpaced 3 = .ok (.invokevirtual 234, 3) := by decide +kernel
theorem dX10_isSpaced_6 : decode cX10_isSpaced 6 = .ok (.ifCond .eq 16, 3) := by decide +kernel
theorem dX10_isSpaced_9 : decode cX10_isSpaced 9 = .ok (.aload_n 0, 1) := by decide +kernel
theorem dX10_isSpaced_10 : decode cX10_isSpaced 10 = .ok (.iload_n 1, 1) := by decide +kernel
theorem dX10_isSpaced_11 : decode cX10_isSpaced 11 = .ok (.iload_n 2, 1) := by decide +kernel
theorem dX10_isSpaced_12 : decode cX10_isSpaced 12 = .ok (.invokevirtual 237, 3) := by decide +kernel
theorem dX10_isSpaced_15 : decode cX10_isSpaced 15 = .ok (.ifCond .eq 7, 3) := by decide +kernel
theorem dX10_isSpaced_18 : decode cX10_isSpaced 18 = .ok (.iconst 1, 1) := by decide +kernel
theorem dX10_isSpaced_19 : decode cX10_isSpaced 19 = .ok (.goto 4, 3) := by decide +kernel
theorem dX10_isSpaced_22 : decode cX10_isSpaced 22 = .ok (.iconst 0, 1) := by decide +kernel
theorem dX10_isSpaced_23 : decode cX10_isSpaced 23 = .ok (.ireturn, 1) := by decide +kernel
theorem dX10_isWord_0 : decode cX10_isWord 0 = .ok (.iconst 0, 1) := by decide +kernel
theorem dX10_isWord_1 : decode cX10_isWord 1 = .ok (.istore_n 2, 1) := by decide +kernel
theorem dX10_isWord_2 : decode cX10_isWord 2 = .ok (.iload_n 2, 1) := by decide +kernel
theorem dX10_isWord_3 : decode cX10_isWord 3 = .ok (.aload_n 1, 1) := by decide +kernel
theorem dX10_isWord_4 : decode cX10_isWord 4 = .ok (.invokevirtual 240, 3) := by decide +kernel
theorem dX10_isWord_7 : decode cX10_isWord 7 = .ok (.if_icmp .ge 23, 3) := by decide +kernel
theorem dX10_isWord_10 : decode cX10_isWord 10 = .ok (.aload_n 0, 1) := by decide +kernel
theorem dX10_isWord_11 : decode cX10_isWord 11 = .ok (.aload_n 1, 1) := by decide +kernel
theorem dX10_isWord_12 : decode cX10_isWord 12 = .ok (.iload_n 2, 1) := by decide +kernel
theorem dX10_isWord_13 : decode cX10_isWord 13 = .ok (.invokevirtual 219, 3) := by decide +kernel
theorem dX10_isWord_16 : decode cX10_isWord 16 = .ok (.invokevirtual 234, 3) := by decide +kernel
theorem dX10_isWord_19 : decode cX10_isWord 19 = .ok (.ifCond .ne 5, 3) := by decide +kernel
theorem dX10_isWord_22 : decode cX10_isWord 22 = .ok (.iconst 0, 1) := by decide +kernel
theorem dX10_isWord_23 : decode cX10_isWord 23 = .ok (.ireturn, 1) := by decide +kernel
theorem dX10_isWord_24 : decode cX10_isWord 24 = .ok (.iinc 2 1, 3) := by decide +kernel
theorem dX10_isWord_27 : decode cX10_isWord 27 = .ok (.goto (-25), 3) := by decide +kernel
theorem dX10_isWord_30 : decode cX10_isWord 30 = .ok (.iconst 1, 1) := by decide +kernel
theorem dX10_isWord_31 : decode cX10_isWord 31 = .ok (.ireturn, 1) := by decide +kernel
theorem dX10_isWay_0 : decode cX10_isWay 0 = .ok (.iconst 0, 1) := by decide +kernel
theorem dX10_isWay_1 : decode cX10_isWay 1 = .ok (.istore_n 2, 1) := by decide +kernel
theorem dX10_isWay_2 : decode cX10_isWay 2 = .ok (.iload_n 2, 1) := by decide +kernel
theorem dX10_isWay_3 : decode cX10_isWay 3 = .ok (.iconst 4, 1) := by decide +kernel
theorem dX10_isWay_4 : decode cX10_isWay 4 = .ok (.if_icmp .ge 31, 3) := by decide +kernel
theorem dX10_isWay_7 : decode cX10_isWay 7 = .ok (.aload_n 0, 1) := by decide +kernel
theorem dX10_isWay_8 : decode cX10_isWay 8 = .ok (.ldc 243, 2) := by decide +kernel
theorem dX10_isWay_10 : decode cX10_isWay 10 = .ok (.iload_n 2, 1) := by decide +kernel
theorem dX10_isWay_11 : decode cX10_isWay 11 = .ok (.invokevirtual 219, 3) := by decide +kernel
theorem dX10_isWay_14 : decode cX10_isWay 14 = .ok (.invokevirtual 234, 3) := by decide +kernel
theorem dX10_isWay_17 : decode cX10_isWay 17 = .ok (.ifCond .eq 12, 3) := by decide +kernel
theorem dX10_isWay_20 : decode cX10_isWay 20 = .ok (.aload_n 0, 1) := by decide +kernel
theorem dX10_isWay_21 : decode cX10_isWay 21 = .ok (.getfield 38, 3) := by decide +kernel
theorem dX10_isWay_24 : decode cX10_isWay 24 = .ok (.iload_n 1, 1) := by decide +kernel
theorem dX10_isWay_25 : decode cX10_isWay 25 = .ok (.iload_n 2, 1) := by decide +kernel
theorem dX10_isWay_26 : decode cX10_isWay 26 = .ok (.iastore, 1) := by decide +kernel
theorem dX10_isWay_27 : decode cX10_isWay 27 = .ok (.iconst 1, 1) := by decide +kernel
theorem dX10_isWay_28 : decode cX10_isWay 28 = .ok (.ireturn, 1) := by decide +kernel
theorem dX10_isWay_29 : decode cX10_isWay 29 = .ok (.iinc 2 1, 3) := by decide +kernel
theorem dX10_isWay_32 : decode cX10_isWay 32 = .ok (.goto (-30), 3) := by decide +kernel
theorem dX10_isWay_35 : decode cX10_isWay 35 = .ok (.iconst 0, 1) := by decide +kernel
theorem dX10_isWay_36 : decode cX10_isWay 36 = .ok (.ireturn, 1) := by decide +kernel
theorem dX10_readsP_0 : decode cX10_readsP 0 = .ok (.aload_n 0, 1) := by decide +kernel
theorem dX10_readsP_1 : decode cX10_readsP 1 = .ok (.bipush 111, 2) := by decide +kernel
theorem dX10_readsP_3 : decode cX10_readsP 3 = .ok (.invokevirtual 234, 3) := by decide +kernel
theorem dX10_readsP_6 : decode cX10_readsP 6 = .ok (.ifCond .eq 40, 3) := by decide +kernel
theorem dX10_readsP_9 : decode cX10_readsP 9 = .ok (.aload_n 0, 1) := by decide +kernel
theorem dX10_readsP_10 : decode cX10_readsP 10 = .ok (.ldc 245, 2) := by decide +kernel
theorem dX10_readsP_12 : decode cX10_readsP 12 = .ok (.invokevirtual 247, 3) := by decide +kernel
theorem dX10_readsP_15 : decode cX10_readsP 15 = .ok (.ifCond .eq 29, 3) := by decide +kernel
theorem dX10_readsP_18 : decode cX10_readsP 18 = .ok (.aload_n 0, 1) := by decide +kernel
theorem dX10_readsP_19 : decode cX10_readsP 19 = .ok (.iconst 2, 1) := by decide +kernel
theorem dX10_readsP_20 : decode cX10_readsP 20 = .ok (.iload_n 1, 1) := by decide +kernel
theorem dX10_readsP_21 : decode cX10_readsP 21 = .ok (.iconst 1, 1) := by decide +kernel
theorem dX10_readsP_22 : decode cX10_readsP 22 = .ok (.iadd, 1) := by decide +kernel
theorem dX10_readsP_23 : decode cX10_readsP 23 = .ok (.invokevirtual 251, 3) := by decide +kernel
theorem dX10_readsP_26 : decode cX10_readsP 26 = .ok (.ifCond .eq 18, 3) := by decide +kernel
theorem dX10_readsP_29 : decode cX10_readsP 29 = .ok (.aload_n 0, 1) := by decide +kernel
theorem dX10_readsP_30 : decode cX10_readsP 30 = .ok (.iconst 2, 1) := by decide +kernel
theorem dX10_readsP_31 : decode cX10_readsP 31 = .ok (.iload_n 1, 1) := by decide +kernel
theorem dX10_readsP_32 : decode cX10_readsP 32 = .ok (.iconst 2, 1) := by decide +kernel
theorem dX10_readsP_33 : decode cX10_readsP 33 = .ok (.iadd, 1) := by decide +kernel
theorem dX10_readsP_34 : decode cX10_readsP 34 = .ok (.invokevirtual 251, 3) := by decide +kernel
theorem dX10_readsP_37 : decode cX10_readsP 37 = .ok (.ifCond .eq 7, 3) := by decide +kernel
theorem dX10_readsP_40 : decode cX10_readsP 40 = .ok (.iconst 1, 1) := by decide +kernel
theorem dX10_readsP_41 : decode cX10_readsP 41 = .ok (.goto 4, 3) := by decide +kernel
theorem dX10_readsP_44 : decode cX10_readsP 44 = .ok (.iconst 0, 1) := by decide +kernel
theorem dX10_readsP_45 : decode cX10_readsP 45 = .ok (.ireturn, 1) := by decide +kernel
theorem dX10_readsP_46 : decode cX10_readsP 46 = .ok (.aload_n 0, 1) := by decide +kernel
theorem dX10_readsP_47 : decode cX10_readsP 47 = .ok (.getfield 38, 3) := by decide +kernel
theorem dX10_readsP_50 : decode cX10_readsP 50 = .ok (.iload_n 1, 1) := by decide +kernel
theorem dX10_readsP_51 : decode cX10_readsP 51 = .ok (.bipush 105, 2) := by decide +kernel
theorem dX10_readsP_53 : decode cX10_readsP 53 = .ok (.iastore, 1) := by decide +kernel
theorem dX10_readsP_54 : decode cX10_readsP 54 = .ok (.aload_n 0, 1) := by decide +kernel
theorem dX10_readsP_55 : decode cX10_readsP 55 = .ok (.ldc 254, 2) := by decide +kernel
theorem dX10_readsP_57 : decode cX10_readsP 57 = .ok (.invokevirtual 247, 3) := by decide +kernel
theorem dX10_readsP_60 : decode cX10_readsP 60 = .ok (.ifCond .eq 18, 3) := by decide +kernel
theorem dX10_readsP_63 : decode cX10_readsP 63 = .ok (.aload_n 0, 1) := by decide +kernel
theorem dX10_readsP_64 : decode cX10_readsP 64 = .ok (.iconst 2, 1) := by decide +kernel
theorem dX10_readsP_65 : decode cX10_readsP 65 = .ok (.iload_n 1, 1) := by decide +kernel
theorem dX10_readsP_66 : decode cX10_readsP 66 = .ok (.iconst 1, 1) := by decide +kernel
theorem dX10_readsP_67 : decode cX10_readsP 67 = .ok (.iadd, 1) := by decide +kernel
theorem dX10_readsP_68 : decode cX10_readsP 68 = .ok (.invokevirtual 251, 3) := by decide +kernel
theorem dX10_readsP_71 : decode cX10_readsP 71 = .ok (.ifCond .eq 7, 3) := by decide +kernel
theorem dX10_readsP_74 : decode cX10_readsP 74 = .ok (.iconst 1, 1) := by decide +kernel
theorem dX10_readsP_75 : decode cX10_readsP 75 = .ok (.goto 4, 3) := by decide +kernel
theorem dX10_readsP_78 : decode cX10_readsP 78 = .ok (.iconst 0, 1) := by decide +kernel
theorem dX10_readsP_79 : decode cX10_readsP 79 = .ok (.ireturn, 1) := by decide +kernel
theorem dX10_readsT_0 : decode cX10_readsT 0 = .ok (.aload_n 0, 1) := by decide +kernel
theorem dX10_readsT_1 : decode cX10_readsT 1 = .ok (.bipush 97, 2) := by decide +kernel
theorem dX10_readsT_3 : decode cX10_readsT 3 = .ok (.invokevirtual 234, 3) := by decide +kernel
theorem dX10_readsT_6 : decode cX10_readsT 6 = .ok (.ifCond .eq 30, 3) := by decide +kernel
theorem dX10_readsT_9 : decode cX10_readsT 9 = .ok (.aload_n 0, 1) := by decide +kernel
theorem dX10_readsT_10 : decode cX10_readsT 10 = .ok (.ldc_w 256, 3) := by decide +kernel
theorem dX10_readsT_13 : decode cX10_readsT 13 = .ok (.invokevirtual 247, 3) := by decide +kernel
theorem dX10_readsT_16 : decode cX10_readsT 16 = .ok (.ifCond .eq 18, 3) := by decide +kernel
theorem dX10_readsT_19 : decode cX10_readsT 19 = .ok (.aload_n 0, 1) := by decide +kernel
theorem dX10_readsT_20 : decode cX10_readsT 20 = .ok (.iconst 1, 1) := by decide +kernel
theorem dX10_readsT_21 : decode cX10_readsT 21 = .ok (.iload_n 1, 1) := by decide +kernel
theorem dX10_readsT_22 : decode cX10_readsT 22 = .ok (.iconst 1, 1) := by decide +kernel
theorem dX10_readsT_23 : decode cX10_readsT 23 = .ok (.iadd, 1) := by decide +kernel
theorem dX10_readsT_24 : decode cX10_readsT 24 = .ok (.invokevirtual 251, 3) := by decide +kernel
theorem dX10_readsT_27 : decode cX10_readsT 27 = .ok (.ifCond .eq 7, 3) := by decide +kernel
theorem dX10_readsT_30 : decode cX10_readsT 30 = .ok (.iconst 1, 1) := by decide +kernel
theorem dX10_readsT_31 : decode cX10_readsT 31 = .ok (.goto 4, 3) := by decide +kernel
theorem dX10_readsT_34 : decode cX10_readsT 34 = .ok (.iconst 0, 1) := by decide +kernel
theorem dX10_readsT_35 : decode cX10_readsT 35 = .ok (.ireturn, 1) := by decide +kernel
theorem dX10_readsT_36 : decode cX10_readsT 36 = .ok (.aload_n 0, 1) := by decide +kernel
theorem dX10_readsT_37 : decode cX10_readsT 37 = .ok (.getfield 38, 3) := by decide +kernel
theorem dX10_readsT_40 : decode cX10_readsT 40 = .ok (.iload_n 1, 1) := by decide +kernel
theorem dX10_readsT_41 : decode cX10_readsT 41 = .ok (.bipush 104, 2) := by decide +kernel
theorem dX10_readsT_43 : decode cX10_readsT 43 = .ok (.iastore, 1) := by decide +kernel
theorem dX10_readsT_44 : decode cX10_readsT 44 = .ok (.aload_n 0, 1) := by decide +kernel
theorem dX10_readsT_45 : decode cX10_readsT 45 = .ok (.ldc_w 258, 3) := by decide +kernel
theorem dX10_readsT_48 : decode cX10_readsT 48 = .ok (.invokevirtual 247, 3) := by decide +kernel
theorem dX10_readsT_51 : decode cX10_readsT 51 = .ok (.ifCond .eq 40, 3) := by decide +kernel
theorem dX10_readsT_54 : decode cX10_readsT 54 = .ok (.aload_n 0, 1) := by decide +kernel
theorem dX10_readsT_55 : decode cX10_readsT 55 = .ok (.iconst 2, 1) := by decide +kernel
theorem dX10_readsT_56 : decode cX10_readsT 56 = .ok (.iload_n 1, 1) := by decide +kernel
theorem dX10_readsT_57 : decode cX10_readsT 57 = .ok (.iconst 1, 1) := by decide +kernel
theorem dX10_readsT_58 : decode cX10_readsT 58 = .ok (.iadd, 1) := by decide +kernel
theorem dX10_readsT_59 : decode cX10_readsT 59 = .ok (.invokevirtual 251, 3) := by decide +kernel
theorem dX10_readsT_62 : decode cX10_readsT 62 = .ok (.ifCond .eq 29, 3) := by decide +kernel
theorem dX10_readsT_65 : decode cX10_readsT 65 = .ok (.aload_n 0, 1) := by decide +kernel
theorem dX10_readsT_66 : decode cX10_readsT 66 = .ok (.iconst 2, 1) := by decide +kernel
theorem dX10_readsT_67 : decode cX10_readsT 67 = .ok (.iload_n 1, 1) := by decide +kernel
theorem dX10_readsT_68 : decode cX10_readsT 68 = .ok (.iconst 2, 1) := by decide +kernel
theorem dX10_readsT_69 : decode cX10_readsT 69 = .ok (.iadd, 1) := by decide +kernel
theorem dX10_readsT_70 : decode cX10_readsT 70 = .ok (.invokevirtual 251, 3) := by decide +kernel
theorem dX10_readsT_73 : decode cX10_readsT 73 = .ok (.ifCond .eq 18, 3) := by decide +kernel
theorem dX10_readsT_76 : decode cX10_readsT 76 = .ok (.aload_n 0, 1) := by decide +kernel
theorem dX10_readsT_77 : decode cX10_readsT 77 = .ok (.iconst 1, 1) := by decide +kernel
theorem dX10_readsT_78 : decode cX10_readsT 78 = .ok (.iload_n 1, 1) := by decide +kernel
theorem dX10_readsT_79 : decode cX10_readsT 79 = .ok (.iconst 3, 1) := by decide +kernel
theorem dX10_readsT_80 : decode cX10_readsT 80 = .ok (.iadd, 1) := by decide +kernel
theorem dX10_readsT_81 : decode cX10_readsT 81 = .ok (.invokevirtual 251, 3) := by decide +kernel
theorem dX10_readsT_84 : decode cX10_readsT 84 = .ok (.ifCond .eq 7, 3) := by decide +kernel
theorem dX10_readsT_87 : decode cX10_readsT 87 = .ok (.iconst 1, 1) := by decide +kernel
theorem dX10_readsT_88 : decode cX10_readsT 88 = .ok (.goto 4, 3) := by decide +kernel
theorem dX10_readsT_91 : decode cX10_readsT 91 = .ok (.iconst 0, 1) := by decide +kernel
theorem dX10_readsT_92 : decode cX10_readsT 92 = .ok (.ireturn, 1) := by decide +kernel
theorem dX10_readsRest_0 : decode cX10_readsRest 0 = .ok (.iload_n 1, 1) := by decide +kernel
theorem dX10_readsRest_1 : decode cX10_readsRest 1 = .ok (.tableswitch 289 97 116 #[107, 289, 251, 289, 289, 194, 289, 289, 289, 289, 289, 167, 289, 289, 289, 95, 289, 289, 289, 101], 95) := by decide +kernel
theorem dX10_readsRest_96 : decode cX10_readsRest 96 = .ok (.aload_n 0, 1) := by decide +kernel
theorem dX10_readsRest_97 : decode cX10_readsRest 97 = .ok (.iload_n 2, 1) := by decide +kernel
theorem dX10_readsRest_98 : decode cX10_readsRest 98 = .ok (.invokevirtual 260, 3) := by decide +kernel
theorem dX10_readsRest_101 : decode cX10_readsRest 101 = .ok (.ireturn, 1) := by decide +kernel
theorem dX10_readsRest_102 : decode cX10_readsRest 102 = .ok (.aload_n 0, 1) := by decide +kernel
theorem dX10_readsRest_103 : decode cX10_readsRest 103 = .ok (.iload_n 2, 1) := by decide +kernel
theorem dX10_readsRest_104 : decode cX10_readsRest 104 = .ok (.invokevirtual 263, 3) := by decide +kernel
theorem dX10_readsRest_107 : decode cX10_readsRest 107 = .ok (.ireturn, 1) := by decide +kernel
theorem dX10_readsRest_108 : decode cX10_readsRest 108 = .ok (.aload_n 0, 1) := by decide +kernel
theorem dX10_readsRest_109 : decode cX10_readsRest 109 = .ok (.ldc_w 266, 3) := by decide +kernel
theorem dX10_readsRest_112 : decode cX10_readsRest 112 = .ok (.invokevirtual 247, 3) := by decide +kernel
theorem dX10_readsRest_115 : decode cX10_readsRest 115 = .ok (.ifCond .eq 51, 3) := by decide +kernel
theorem dX10_readsRest_118 : decode cX10_readsRest 118 = .ok (.aload_n 0, 1) := by decide +kernel
theorem dX10_readsRest_119 : decode cX10_readsRest 119 = .ok (.iconst 2, 1) := by decide +kernel
theorem dX10_readsRest_120 : decode cX10_readsRest 120 = .ok (.iload_n 2, 1) := by decide +kernel
theorem dX10_readsRest_121 : decode cX10_readsRest 121 = .ok (.iconst 1, 1) := by decide +kernel
theorem dX10_readsRest_122 : decode cX10_readsRest 122 = .ok (.iadd, 1) := by decide +kernel
theorem dX10_readsRest_123 : decode cX10_readsRest 123 = .ok (.invokevirtual 251, 3) := by decide +kernel
theorem dX10_readsRest_126 : decode cX10_readsRest 126 = .ok (.ifCond .eq 40, 3) := by decide +kernel
theorem dX10_readsRest_129 : decode cX10_readsRest 129 = .ok (.aload_n 0, 1) := by decide +kernel
theorem dX10_readsRest_130 : decode cX10_readsRest 130 = .ok (.iconst 2, 1) := by decide +kernel
theorem dX10_readsRest_131 : decode cX10_readsRest 131 = .ok (.iload_n 2, 1) := by decide +kernel
theorem dX10_readsRest_132 : decode cX10_readsRest 132 = .ok (.iconst 2, 1) := by decide +kernel
theorem dX10_readsRest_133 : decode cX10_readsRest 133 = .ok (.iadd, 1) := by decide +kernel
theorem dX10_readsRest_134 : decode cX10_readsRest 134 = .ok (.invokevirtual 251, 3) := by decide +kernel
theorem dX10_readsRest_137 : decode cX10_readsRest 137 = .ok (.ifCond .eq 29, 3) := by decide +kernel
theorem dX10_readsRest_140 : decode cX10_readsRest 140 = .ok (.aload_n 0, 1) := by decide +kernel
theorem dX10_readsRest_141 : decode cX10_readsRest 141 = .ok (.iconst 2, 1) := by decide +kernel
theorem dX10_readsRest_142 : decode cX10_readsRest 142 = .ok (.iload_n 2, 1) := by decide +kernel
theorem dX10_readsRest_143 : decode cX10_readsRest 143 = .ok (.iconst 3, 1) := by decide +kernel
theorem dX10_readsRest_144 : decode cX10_readsRest 144 = .ok (.iadd, 1) := by decide +kernel
theorem dX10_readsRest_145 : decode cX10_readsRest 145 = .ok (.invokevirtual 251, 3) := by decide +kernel
theorem dX10_readsRest_148 : decode cX10_readsRest 148 = .ok (.ifCond .eq 18, 3) := by decide +kernel
theorem dX10_readsRest_151 : decode cX10_readsRest 151 = .ok (.aload_n 0, 1) := by decide +kernel
theorem dX10_readsRest_152 : decode cX10_readsRest 152 = .ok (.iconst 2, 1) := by decide +kernel
theorem dX10_readsRest_153 : decode cX10_readsRest 153 = .ok (.iload_n 2, 1) := by decide +kernel
theorem dX10_readsRest_154 : decode cX10_readsRest 154 = .ok (.iconst 4, 1) := by decide +kernel
theorem dX10_readsRest_155 : decode cX10_readsRest 155 = .ok (.iadd, 1) := by decide +kernel
theorem dX10_readsRest_156 : decode cX10_readsRest 156 = .ok (.invokevirtual 251, 3) := by decide +kernel
theorem dX10_readsRest_159 : decode cX10_readsRest 159 = .ok (.ifCond .eq 7, 3) := by decide +kernel
theorem dX10_readsRest_162 : decode cX10_readsRest 162 = .ok (.iconst 1, 1) := by decide +kernel
theorem dX10_readsRest_163 : decode cX10_readsRest 163 = .ok (.goto 4, 3) := by decide +kernel
theorem dX10_readsRest_166 : decode cX10_readsRest 166 = .ok (.iconst 0, 1) := by decide +kernel
theorem dX10_readsRest_167 : decode cX10_readsRest 167 = .ok (.ireturn, 1) := by decide +kernel
theorem dX10_readsRest_168 : decode cX10_readsRest 168 = .ok (.aload_n 0, 1) := by decide +kernel
theorem dX10_readsRest_169 : decode cX10_readsRest 169 = .ok (.ldc_w 268, 3) := by decide +kernel
theorem dX10_readsRest_172 : decode cX10_readsRest 172 = .ok (.invokevirtual 247, 3) := by decide +kernel
theorem dX10_readsRest_175 : decode cX10_readsRest 175 = .ok (.ifCond .eq 18, 3) := by decide +kernel
theorem dX10_readsRest_178 : decode cX10_readsRest 178 = .ok (.aload_n 0, 1) := by decide +kernel
theorem dX10_readsRest_179 : decode cX10_readsRest 179 = .ok (.iconst 1, 1) := by decide +kernel
theorem dX10_readsRest_180 : decode cX10_readsRest 180 = .ok (.iload_n 2, 1) := by decide +kernel
theorem dX10_readsRest_181 : decode cX10_readsRest 181 = .ok (.iconst 1, 1) := by decide +kernel
theorem dX10_readsRest_182 : decode cX10_readsRest 182 = .ok (.iadd, 1) := by decide +kernel
theorem dX10_readsRest_183 : decode cX10_readsRest 183 = .ok (.invokevirtual 251, 3) := by decide +kernel
theorem dX10_readsRest_186 : decode cX10_readsRest 186 = .ok (.ifCond .eq 7, 3) := by decide +kernel
theorem dX10_readsRest_189 : decode cX10_readsRest 189 = .ok (.iconst 1, 1) := by decide +kernel
theorem dX10_readsRest_190 : decode cX10_readsRest 190 = .ok (.goto 4, 3) := by decide +kernel
theorem dX10_readsRest_193 : decode cX10_readsRest 193 = .ok (.iconst 0, 1) := by decide +kernel
theorem dX10_readsRest_194 : decode cX10_readsRest 194 = .ok (.ireturn, 1) := by decide +kernel
theorem dX10_readsRest_195 : decode cX10_readsRest 195 = .ok (.aload_n 0, 1) := by decide +kernel
theorem dX10_readsRest_196 : decode cX10_readsRest 196 = .ok (.ldc_w 270, 3) := by decide +kernel
theorem dX10_readsRest_199 : decode cX10_readsRest 199 = .ok (.invokevirtual 247, 3) := by decide +kernel
theorem dX10_readsRest_202 : decode cX10_readsRest 202 = .ok (.ifCond .eq 48, 3) := by decide +kernel
theorem dX10_readsRest_205 : decode cX10_readsRest 205 = .ok (.aload_n 0, 1) := by decide +kernel
theorem dX10_readsRest_206 : decode cX10_readsRest 206 = .ok (.iconst 1, 1) := by decide +kernel
theorem dX10_readsRest_207 : decode cX10_readsRest 207 = .ok (.iload_n 2, 1) := by decide +kernel
theorem dX10_readsRest_208 : decode cX10_readsRest 208 = .ok (.iconst 1, 1) := by decide +kernel
theorem dX10_readsRest_209 : decode cX10_readsRest 209 = .ok (.iadd, 1) := by decide +kernel
theorem dX10_readsRest_210 : decode cX10_readsRest 210 = .ok (.invokevirtual 251, 3) := by decide +kernel
theorem dX10_readsRest_213 : decode cX10_readsRest 213 = .ok (.ifCond .eq 37, 3) := by decide +kernel
theorem dX10_readsRest_216 : decode cX10_readsRest 216 = .ok (.aload_n 0, 1) := by decide +kernel
theorem dX10_readsRest_217 : decode cX10_readsRest 217 = .ok (.bipush 32, 2) := by decide +kernel
theorem dX10_readsRest_219 : decode cX10_readsRest 219 = .ok (.invokevirtual 234, 3) := by decide +kernel
theorem dX10_readsRest_222 : decode cX10_readsRest 222 = .ok (.ifCond .eq 28, 3) := by decide +kernel
theorem dX10_readsRest_225 : decode cX10_readsRest 225 = .ok (.aload_n 0, 1) := by decide +kernel
theorem dX10_readsRest_226 : decode cX10_readsRest 226 = .ok (.iload_n 2, 1) := by decide +kernel
theorem dX10_readsRest_227 : decode cX10_readsRest 227 = .ok (.iconst 2, 1) := by decide +kernel
theorem dX10_readsRest_228 : decode cX10_readsRest 228 = .ok (.iadd, 1) := by decide +kernel
theorem dX10_readsRest_229 : decode cX10_readsRest 229 = .ok (.invokevirtual 272, 3) := by decide +kernel
theorem dX10_readsRest_232 : decode cX10_readsRest 232 = .ok (.ifCond .eq 18, 3) := by decide +kernel
theorem dX10_readsRest_235 : decode cX10_readsRest 235 = .ok (.aload_n 0, 1) := by decide +kernel
theorem dX10_readsRest_236 : decode cX10_readsRest 236 = .ok (.iconst 2, 1) := by decide +kernel
theorem dX10_readsRest_237 : decode cX10_readsRest 237 = .ok (.iload_n 2, 1) := by decide +kernel
theorem dX10_readsRest_238 : decode cX10_readsRest 238 = .ok (.iconst 3, 1) := by decide +kernel
theorem dX10_readsRest_239 : decode cX10_readsRest 239 = .ok (.iadd, 1) := by decide +kernel
theorem dX10_readsRest_240 : decode cX10_readsRest 240 = .ok (.invokevirtual 237, 3) := by decide +kernel
theorem dX10_readsRest_243 : decode cX10_readsRest 243 = .ok (.ifCond .eq 7, 3) := by decide +kernel
theorem dX10_readsRest_246 : decode cX10_readsRest 246 = .ok (.iconst 1, 1) := by decide +kernel
theorem dX10_readsRest_247 : decode cX10_readsRest 247 = .ok (.goto 4, 3) := by decide +kernel
theorem dX10_readsRest_250 : decode cX10_readsRest 250 = .ok (.iconst 0, 1) := by decide +kernel
theorem dX10_readsRest_251 : decode cX10_readsRest 251 = .ok (.ireturn, 1) := by decide +kernel
theorem dX10_readsRest_252 : decode cX10_readsRest 252 = .ok (.aload_n 0, 1) := by decide +kernel
theorem dX10_readsRest_253 : decode cX10_readsRest 253 = .ok (.ldc_w 275, 3) := by decide +kernel
theorem dX10_readsRest_256 : decode cX10_readsRest 256 = .ok (.invokevirtual 247, 3) := by decide +kernel
theorem dX10_readsRest_259 : decode cX10_readsRest 259 = .ok (.ifCond .eq 29, 3) := by decide +kernel
theorem dX10_readsRest_262 : decode cX10_readsRest 262 = .ok (.aload_n 0, 1) := by decide +kernel
theorem dX10_readsRest_263 : decode cX10_readsRest 263 = .ok (.iconst 1, 1) := by decide +kernel
theorem dX10_readsRest_264 : decode cX10_readsRest 264 = .ok (.iload_n 2, 1) := by decide +kernel
theorem dX10_readsRest_265 : decode cX10_readsRest 265 = .ok (.iconst 1, 1) := by decide +kernel
theorem dX10_readsRest_266 : decode cX10_readsRest 266 = .ok (.iadd, 1) := by decide +kernel
theorem dX10_readsRest_267 : decode cX10_readsRest 267 = .ok (.invokevirtual 251, 3) := by decide +kernel
theorem dX10_readsRest_270 : decode cX10_readsRest 270 = .ok (.ifCond .eq 18, 3) := by decide +kernel
theorem dX10_readsRest_273 : decode cX10_readsRest 273 = .ok (.aload_n 0, 1) := by decide +kernel
theorem dX10_readsRest_274 : decode cX10_readsRest 274 = .ok (.iconst 2, 1) := by decide +kernel
theorem dX10_readsRest_275 : decode cX10_readsRest 275 = .ok (.iload_n 2, 1) := by decide +kernel
theorem dX10_readsRest_276 : decode cX10_readsRest 276 = .ok (.iconst 2, 1) := by decide +kernel
theorem dX10_readsRest_277 : decode cX10_readsRest 277 = .ok (.iadd, 1) := by decide +kernel
theorem dX10_readsRest_278 : decode cX10_readsRest 278 = .ok (.invokevirtual 251, 3) := by decide +kernel
theorem dX10_readsRest_281 : decode cX10_readsRest 281 = .ok (.ifCond .eq 7, 3) := by decide +kernel
theorem dX10_readsRest_284 : decode cX10_readsRest 284 = .ok (.iconst 1, 1) := by decide +kernel
theorem dX10_readsRest_285 : decode cX10_readsRest 285 = .ok (.goto 4, 3) := by decide +kernel
theorem dX10_readsRest_288 : decode cX10_readsRest 288 = .ok (.iconst 0, 1) := by decide +kernel
theorem dX10_readsRest_289 : decode cX10_readsRest 289 = .ok (.ireturn, 1) := by decide +kernel
theorem dX10_readsRest_290 : decode cX10_readsRest 290 = .ok (.aload_n 0, 1) := by decide +kernel
theorem dX10_readsRest_291 : decode cX10_readsRest 291 = .ok (.ldc_w 277, 3) := by decide +kernel
theorem dX10_readsRest_294 : decode cX10_readsRest 294 = .ok (.invokevirtual 247, 3) := by decide +kernel
theorem dX10_readsRest_297 : decode cX10_readsRest 297 = .ok (.ireturn, 1) := by decide +kernel
theorem dX10_isFirst_0 : decode cX10_isFirst 0 = .ok (.iload_n 0, 1) := by decide +kernel
theorem dX10_isFirst_1 : decode cX10_isFirst 1 = .ok (.bipush 112, 2) := by decide +kernel
theorem dX10_isFirst_3 : decode cX10_isFirst 3 = .ok (.if_icmp .eq 39, 3) := by decide +kernel
theorem dX10_isFirst_6 : decode cX10_isFirst 6 = .ok (.iload_n 0, 1) := by decide +kernel
theorem dX10_isFirst_7 : decode cX10_isFirst 7 = .ok (.bipush 116, 2) := by decide +kernel
theorem dX10_isFirst_9 : decode cX10_isFirst 9 = .ok (.if_icmp .eq 33, 3) := by decide +kernel
theorem dX10_isFirst_12 : decode cX10_isFirst 12 = .ok (.iload_n 0, 1) := by decide +kernel
theorem dX10_isFirst_13 : decode cX10_isFirst 13 = .ok (.bipush 97, 2) := by decide +kernel
theorem dX10_isFirst_15 : decode cX10_isFirst 15 = .ok (.if_icmp .eq 27, 3) := by decide +kernel
theorem dX10_isFirst_18 : decode cX10_isFirst 18 = .ok (.iload_n 0, 1) := by decide +kernel
theorem dX10_isFirst_19 : decode cX10_isFirst 19 = .ok (.bipush 108, 2) := by decide +kernel
theorem dX10_isFirst_21 : decode cX10_isFirst 21 = .ok (.if_icmp .eq 21, 3) := by decide +kernel
theorem dX10_isFirst_24 : decode cX10_isFirst 24 = .ok (.iload_n 0, 1) := by decide +kernel
theorem dX10_isFirst_25 : decode cX10_isFirst 25 = .ok (.bipush 102, 2) := by decide +kernel
theorem dX10_isFirst_27 : decode cX10_isFirst 27 = .ok (.if_icmp .eq 15, 3) := by decide +kernel
theorem dX10_isFirst_30 : decode cX10_isFirst 30 = .ok (.iload_n 0, 1) := by decide +kernel
theorem dX10_isFirst_31 : decode cX10_isFirst 31 = .ok (.bipush 99, 2) := by decide +kernel
theorem dX10_isFirst_33 : decode cX10_isFirst 33 = .ok (.if_icmp .eq 9, 3) := by decide +kernel
theorem dX10_isFirst_36 : decode cX10_isFirst 36 = .ok (.iload_n 0, 1) := by decide +kernel
theorem dX10_isFirst_37 : decode cX10_isFirst 37 = .ok (.bipush 101, 2) := by decide +kernel
theorem dX10_isFirst_39 : decode cX10_isFirst 39 = .ok (.if_icmp .ne 7, 3) := by decide +kernel
theorem dX10_isFirst_42 : decode cX10_isFirst 42 = .ok (.iconst 1, 1) := by decide +kernel
theorem dX10_isFirst_43 : decode cX10_isFirst 43 = .ok (.goto 4, 3) := by decide +kernel
theorem dX10_isFirst_46 : decode cX10_isFirst 46 = .ok (.iconst 0, 1) := by decide +kernel
theorem dX10_isFirst_47 : decode cX10_isFirst 47 = .ok (.ireturn, 1) := by decide +kernel
theorem dX10_readsCommand_0 : decode cX10_readsCommand 0 = .ok (.iconst 5, 1) := by decide +kernel
theorem dX10_readsCommand_1 : decode cX10_readsCommand 1 = .ok (.aload_n 0, 1) := by decide +kernel
theorem dX10_readsCommand_2 : decode cX10_readsCommand 2 = .ok (.getfield 279, 3) := by decide +kernel
theorem dX10_readsCommand_5 : decode cX10_readsCommand 5 = .ok (.imul, 1) := by decide +kernel
theorem dX10_readsCommand_6 : decode cX10_readsCommand 6 = .ok (.istore_n 1, 1) := by decide +kernel
theorem dX10_readsCommand_7 : decode cX10_readsCommand 7 = .ok (.aload_n 0, 1) := by decide +kernel
theorem dX10_readsCommand_8 : decode cX10_readsCommand 8 = .ok (.invokevirtual 231, 3) := by decide +kernel
theorem dX10_readsCommand_11 : decode cX10_readsCommand 11 = .ok (.istore_n 2, 1) := by decide +kernel
theorem dX10_readsCommand_12 : decode cX10_readsCommand 12 = .ok (.iload_n 2, 1) := by decide +kernel
theorem dX10_readsCommand_13 : decode cX10_readsCommand 13 = .ok (.invokestatic 282, 3) := by decide +kernel
theorem dX10_readsCommand_16 : decode cX10_readsCommand 16 = .ok (.ifCond .ne 5, 3) := by decide +kernel
theorem dX10_readsCommand_19 : decode cX10_readsCommand 19 = .ok (.iconst 0, 1) := by decide +kernel
theorem dX10_readsCommand_20 : decode cX10_readsCommand 20 = .ok (.ireturn, 1) := by decide +kernel
theorem dX10_readsCommand_21 : decode cX10_readsCommand 21 = .ok (.aload_n 0, 1) := by decide +kernel
theorem dX10_readsCommand_22 : decode cX10_readsCommand 22 = .ok (.getfield 38, 3) := by decide +kernel
theorem dX10_readsCommand_25 : decode cX10_readsCommand 25 = .ok (.iload_n 1, 1) := by decide +kernel
theorem dX10_readsCommand_26 : decode cX10_readsCommand 26 = .ok (.iload_n 2, 1) := by decide +kernel
theorem dX10_readsCommand_27 : decode cX10_readsCommand 27 = .ok (.iastore, 1) := by decide +kernel
theorem dX10_readsCommand_28 : decode cX10_readsCommand 28 = .ok (.aload_n 0, 1) := by decide +kernel
theorem dX10_readsCommand_29 : decode cX10_readsCommand 29 = .ok (.dup, 1) := by decide +kernel
theorem dX10_readsCommand_30 : decode cX10_readsCommand 30 = .ok (.getfield 228, 3) := by decide +kernel
theorem dX10_readsCommand_33 : decode cX10_readsCommand 33 = .ok (.iconst 1, 1) := by decide +kernel
theorem dX10_readsCommand_34 : decode cX10_readsCommand 34 = .ok (.iadd, 1) := by decide +kernel
theorem dX10_readsCommand_35 : decode cX10_readsCommand 35 = .ok (.putfield 228, 3) := by decide +kernel
theorem dX10_readsCommand_38 : decode cX10_readsCommand 38 = .ok (.aload_n 0, 1) := by decide +kernel
theorem dX10_readsCommand_39 : decode cX10_readsCommand 39 = .ok (.dup, 1) := by decide +kernel
theorem dX10_readsCommand_40 : decode cX10_readsCommand 40 = .ok (.getfield 279, 3) := by decide +kernel
theorem dX10_readsCommand_43 : decode cX10_readsCommand 43 = .ok (.iconst 1, 1) := by decide +kernel
theorem dX10_readsCommand_44 : decode cX10_readsCommand 44 = .ok (.iadd, 1) := by decide +kernel
theorem dX10_readsCommand_45 : decode cX10_readsCommand 45 = .ok (.putfield 279, 3) := by decide +kernel
theorem dX10_readsCommand_48 : decode cX10_readsCommand 48 = .ok (.aload_n 0, 1) := by decide +kernel
theorem dX10_readsCommand_49 : decode cX10_readsCommand 49 = .ok (.iload_n 2, 1) := by decide +kernel
theorem dX10_readsCommand_50 : decode cX10_readsCommand 50 = .ok (.iload_n 1, 1) := by decide +kernel
theorem dX10_readsCommand_51 : decode cX10_readsCommand 51 = .ok (.invokevirtual 285, 3) := by decide +kernel
theorem dX10_readsCommand_54 : decode cX10_readsCommand 54 = .ok (.ireturn, 1) := by decide +kernel
theorem dX10_isProgram_0 : decode cX10_isProgram 0 = .ok (.aload_n 0, 1) := by decide +kernel
theorem dX10_isProgram_1 : decode cX10_isProgram 1 = .ok (.iconst 0, 1) := by decide +kernel
theorem dX10_isProgram_2 : decode cX10_isProgram 2 = .ok (.putfield 228, 3) := by decide +kernel
theorem dX10_isProgram_5 : decode cX10_isProgram 5 = .ok (.aload_n 0, 1) := by decide +kernel
theorem dX10_isProgram_6 : decode cX10_isProgram 6 = .ok (.iconst 0, 1) := by decide +kernel
theorem dX10_isProgram_7 : decode cX10_isProgram 7 = .ok (.putfield 279, 3) := by decide +kernel
theorem dX10_isProgram_10 : decode cX10_isProgram 10 = .ok (.aload_n 0, 1) := by decide +kernel
theorem dX10_isProgram_11 : decode cX10_isProgram 11 = .ok (.invokevirtual 288, 3) := by decide +kernel
theorem dX10_isProgram_14 : decode cX10_isProgram 14 = .ok (.istore_n 1, 1) := by decide +kernel
theorem dX10_isProgram_15 : decode cX10_isProgram 15 = .ok (.iload_n 1, 1) := by decide +kernel
theorem dX10_isProgram_16 : decode cX10_isProgram 16 = .ok (.ifCond .eq 20, 3) := by decide +kernel
theorem dX10_isProgram_19 : decode cX10_isProgram 19 = .ok (.aload_n 0, 1) := by decide +kernel
theorem dX10_isProgram_20 : decode cX10_isProgram 20 = .ok (.bipush 59, 2) := by decide +kernel
theorem dX10_isProgram_22 : decode cX10_isProgram 22 = .ok (.invokevirtual 234, 3) := by decide +kernel
theorem dX10_isProgram_25 : decode cX10_isProgram 25 = .ok (.ifCond .eq 11, 3) := by decide +kernel
theorem dX10_isProgram_28 : decode cX10_isProgram 28 = .ok (.aload_n 0, 1) := by decide +kernel
theorem dX10_isProgram_29 : decode cX10_isProgram 29 = .ok (.invokevirtual 288, 3) := by decide +kernel
theorem dX10_isProgram_32 : decode cX10_isProgram 32 = .ok (.istore_n 1, 1) := by decide +kernel
theorem dX10_isProgram_33 : decode cX10_isProgram 33 = .ok (.goto (-18), 3) := by decide +kernel
theorem dX10_isProgram_36 : decode cX10_isProgram 36 = .ok (.iload_n 1, 1) := by decide +kernel
theorem dX10_isProgram_37 : decode cX10_isProgram 37 = .ok (.ifCond .eq 18, 3) := by decide +kernel
theorem dX10_isProgram_40 : decode cX10_isProgram 40 = .ok (.aload_n 0, 1) := by decide +kernel
theorem dX10_isProgram_41 : decode cX10_isProgram 41 = .ok (.getfield 228, 3) := by decide +kernel
theorem dX10_isProgram_44 : decode cX10_isProgram 44 = .ok (.aload_n 0, 1) := by decide +kernel
theorem dX10_isProgram_45 : decode cX10_isProgram 45 = .ok (.getfield 225, 3) := by decide +kernel
theorem dX10_isProgram_48 : decode cX10_isProgram 48 = .ok (.if_icmp .ne 7, 3) := by decide +kernel
theorem dX10_isProgram_51 : decode cX10_isProgram 51 = .ok (.iconst 1, 1) := by decide +kernel
theorem dX10_isProgram_52 : decode cX10_isProgram 52 = .ok (.goto 4, 3) := by decide +kernel
theorem dX10_isProgram_55 : decode cX10_isProgram 55 = .ok (.iconst 0, 1) := by decide +kernel
theorem dX10_isProgram_56 : decode cX10_isProgram 56 = .ok (.ireturn, 1) := by decide +kernel
theorem dX10_does_0 : decode cX10_does 0 = .ok (.aload_n 0, 1) := by decide +kernel
theorem dX10_does_1 : decode cX10_does 1 = .ok (.getfield 38, 3) := by decide +kernel
theorem dX10_does_4 : decode cX10_does 4 = .ok (.iload_n 1, 1) := by decide +kernel
theorem dX10_does_5 : decode cX10_does 5 = .ok (.iconst 1, 1) := by decide +kernel
theorem dX10_does_6 : decode cX10_does 6 = .ok (.iadd, 1) := by decide +kernel
theorem dX10_does_7 : decode cX10_does 7 = .ok (.iaload, 1) := by decide +kernel
theorem dX10_does_8 : decode cX10_does 8 = .ok (.istore_n 2, 1) := by decide +kernel
theorem dX10_does_9 : decode cX10_does 9 = .ok (.aload_n 0, 1) := by decide +kernel
theorem dX10_does_10 : decode cX10_does 10 = .ok (.getfield 38, 3) := by decide +kernel
theorem dX10_does_13 : decode cX10_does 13 = .ok (.iload_n 1, 1) := by decide +kernel
theorem dX10_does_14 : decode cX10_does 14 = .ok (.iconst 2, 1) := by decide +kernel
theorem dX10_does_15 : decode cX10_does 15 = .ok (.iadd, 1) := by decide +kernel
theorem dX10_does_16 : decode cX10_does 16 = .ok (.iaload, 1) := by decide +kernel
theorem dX10_does_17 : decode cX10_does 17 = .ok (.istore_n 3, 1) := by decide +kernel
theorem dX10_does_18 : decode cX10_does 18 = .ok (.aload_n 0, 1) := by decide +kernel
theorem dX10_does_19 : decode cX10_does 19 = .ok (.getfield 38, 3) := by decide +kernel
theorem dX10_does_22 : decode cX10_does 22 = .ok (.iload_n 1, 1) := by decide +kernel
theorem dX10_does_23 : decode cX10_does 23 = .ok (.iconst 3, 1) := by decide +kernel
theorem dX10_does_24 : decode cX10_does 24 = .ok (.iadd, 1) := by decide +kernel
theorem dX10_does_25 : decode cX10_does 25 = .ok (.iaload, 1) := by decide +kernel
theorem dX10_does_26 : decode cX10_does 26 = .ok (.istore 4, 2) := by decide +kernel
theorem dX10_does_28 : decode cX10_does 28 = .ok (.aload_n 0, 1) := by decide +kernel
theorem dX10_does_29 : decode cX10_does 29 = .ok (.getfield 38, 3) := by decide +kernel
theorem dX10_does_32 : decode cX10_does 32 = .ok (.iload_n 1, 1) := by decide +kernel
theorem dX10_does_33 : decode cX10_does 33 = .ok (.iaload, 1) := by decide +kernel
theorem dX10_does_34 : decode cX10_does 34 = .ok (.tableswitch 161 97 116 #[116, 161, 154, 161, 161, 145, 161, 107, 133, 161, 161, 139, 161, 161, 161, 94, 161, 161, 161, 101], 94) := by decide +kernel
theorem dX10_does_128 : decode cX10_does 128 = .ok (.aload_n 0, 1) := by decide +kernel
theorem dX10_does_129 : decode cX10_does 129 = .ok (.iload_n 2, 1) := by decide +kernel
theorem dX10_does_130 : decode cX10_does 130 = .ok (.iload_n 3, 1) := by decide +kernel
theorem dX10_does_131 : decode cX10_does 131 = .ok (.invokevirtual 92, 3) := by decide +kernel
theorem dX10_does_134 : decode cX10_does 134 = .ok (.ireturn, 1) := by decide +kernel
theorem dX10_does_135 : decode cX10_does 135 = .ok (.aload_n 0, 1) := by decide +kernel
theorem dX10_does_136 : decode cX10_does 136 = .ok (.iload_n 2, 1) := by decide +kernel
theorem dX10_does_137 : decode cX10_does 137 = .ok (.invokevirtual 106, 3) := by decide +kernel
theorem dX10_does_140 : decode cX10_does 140 = .ok (.ireturn, 1) := by decide +kernel
theorem dX10_does_141 : decode cX10_does 141 = .ok (.aload_n 0, 1) := by decide +kernel
theorem dX10_does_142 : decode cX10_does 142 = .ok (.iload_n 2, 1) := by decide +kernel
theorem dX10_does_143 : decode cX10_does 143 = .ok (.iload_n 3, 1) := by decide +kernel
theorem dX10_does_144 : decode cX10_does 144 = .ok (.iload 4, 2) := by decide +kernel
theorem dX10_does_146 : decode cX10_does 146 = .ok (.invokevirtual 113, 3) := by decide +kernel
theorem dX10_does_149 : decode cX10_does 149 = .ok (.ireturn, 1) := by decide +kernel
theorem dX10_does_150 : decode cX10_does 150 = .ok (.aload_n 0, 1) := by decide +kernel
theorem dX10_does_151 : decode cX10_does 151 = .ok (.iload_n 2, 1) := by decide +kernel
theorem dX10_does_152 : decode cX10_does 152 = .ok (.iload_n 3, 1) := by decide +kernel
theorem dX10_does_153 : decode cX10_does 153 = .ok (.iload 4, 2) := by decide +kernel
theorem dX10_does_155 : decode cX10_does 155 = .ok (.aload_n 0, 1) := by decide +kernel
theorem dX10_does_156 : decode cX10_does 156 = .ok (.getfield 38, 3) := by decide +kernel
theorem dX10_does_159 : decode cX10_does 159 = .ok (.iload_n 1, 1) := by decide +kernel
theorem dX10_does_160 : decode cX10_does 160 = .ok (.iconst 4, 1) := by decide +kernel
theorem dX10_does_161 : decode cX10_does 161 = .ok (.iadd, 1) := by decide +kernel
theorem dX10_does_162 : decode cX10_does 162 = .ok (.iaload, 1) := by decide +kernel
theorem dX10_does_163 : decode cX10_does 163 = .ok (.invokevirtual 120, 3) := by decide +kernel
theorem dX10_does_166 : decode cX10_does 166 = .ok (.ireturn, 1) := by decide +kernel
theorem dX10_does_167 : decode cX10_does 167 = .ok (.aload_n 0, 1) := by decide +kernel
theorem dX10_does_168 : decode cX10_does 168 = .ok (.iload_n 2, 1) := by decide +kernel
theorem dX10_does_169 : decode cX10_does 169 = .ok (.invokevirtual 128, 3) := by decide +kernel
theorem dX10_does_172 : decode cX10_does 172 = .ok (.ireturn, 1) := by decide +kernel
theorem dX10_does_173 : decode cX10_does 173 = .ok (.aload_n 0, 1) := by decide +kernel
theorem dX10_does_174 : decode cX10_does 174 = .ok (.iload_n 2, 1) := by decide +kernel
theorem dX10_does_175 : decode cX10_does 175 = .ok (.invokevirtual 137, 3) := by decide +kernel
theorem dX10_does_178 : decode cX10_does 178 = .ok (.ireturn, 1) := by decide +kernel
theorem dX10_does_179 : decode cX10_does 179 = .ok (.aload_n 0, 1) := by decide +kernel
theorem dX10_does_180 : decode cX10_does 180 = .ok (.iload_n 2, 1) := by decide +kernel
theorem dX10_does_181 : decode cX10_does 181 = .ok (.iload_n 3, 1) := by decide +kernel
theorem dX10_does_182 : decode cX10_does 182 = .ok (.iload 4, 2) := by decide +kernel
theorem dX10_does_184 : decode cX10_does 184 = .ok (.invokevirtual 159, 3) := by decide +kernel
theorem dX10_does_187 : decode cX10_does 187 = .ok (.ireturn, 1) := by decide +kernel
theorem dX10_does_188 : decode cX10_does 188 = .ok (.aload_n 0, 1) := by decide +kernel
theorem dX10_does_189 : decode cX10_does 189 = .ok (.iload_n 2, 1) := by decide +kernel
theorem dX10_does_190 : decode cX10_does 190 = .ok (.iload_n 3, 1) := by decide +kernel
theorem dX10_does_191 : decode cX10_does 191 = .ok (.invokevirtual 165, 3) := by decide +kernel
theorem dX10_does_194 : decode cX10_does 194 = .ok (.ireturn, 1) := by decide +kernel
theorem dX10_does_195 : decode cX10_does 195 = .ok (.aload_n 0, 1) := by decide +kernel
theorem dX10_does_196 : decode cX10_does 196 = .ok (.invokevirtual 183, 3) := by decide +kernel
theorem dX10_does_199 : decode cX10_does 199 = .ok (.ireturn, 1) := by decide +kernel
theorem dX10_run_0 : decode cX10_run 0 = .ok (.aload_n 0, 1) := by decide +kernel
theorem dX10_run_1 : decode cX10_run 1 = .ok (.invokevirtual 291, 3) := by decide +kernel
theorem dX10_run_4 : decode cX10_run 4 = .ok (.istore_n 1, 1) := by decide +kernel
theorem dX10_run_5 : decode cX10_run 5 = .ok (.aload_n 0, 1) := by decide +kernel
theorem dX10_run_6 : decode cX10_run 6 = .ok (.iconst 0, 1) := by decide +kernel
theorem dX10_run_7 : decode cX10_run 7 = .ok (.putfield 225, 3) := by decide +kernel
theorem dX10_run_10 : decode cX10_run 10 = .ok (.aload_n 0, 1) := by decide +kernel
theorem dX10_run_11 : decode cX10_run 11 = .ok (.iload_n 1, 1) := by decide +kernel
theorem dX10_run_12 : decode cX10_run 12 = .ok (.ifCond .ne 7, 3) := by decide +kernel
theorem dX10_run_15 : decode cX10_run 15 = .ok (.iconst 1, 1) := by decide +kernel
theorem dX10_run_16 : decode cX10_run 16 = .ok (.goto 4, 3) := by decide +kernel
theorem dX10_run_19 : decode cX10_run 19 = .ok (.iconst 0, 1) := by decide +kernel
theorem dX10_run_20 : decode cX10_run 20 = .ok (.iconst 1, 1) := by decide +kernel
theorem dX10_run_21 : decode cX10_run 21 = .ok (.invokevirtual 85, 3) := by decide +kernel
theorem dX10_run_24 : decode cX10_run 24 = .ok (.ifCond .eq 13, 3) := by decide +kernel
theorem dX10_run_27 : decode cX10_run 27 = .ok (.aload_n 0, 1) := by decide +kernel
theorem dX10_run_28 : decode cX10_run 28 = .ok (.aload_n 0, 1) := by decide +kernel
theorem dX10_run_29 : decode cX10_run 29 = .ok (.getfield 228, 3) := by decide +kernel
theorem dX10_run_32 : decode cX10_run 32 = .ok (.putfield 22, 3) := by decide +kernel
theorem dX10_run_35 : decode cX10_run 35 = .ok (.iconst 0, 1) := by decide +kernel
theorem dX10_run_36 : decode cX10_run 36 = .ok (.ireturn, 1) := by decide +kernel
theorem dX10_run_37 : decode cX10_run 37 = .ok (.aload_n 0, 1) := by decide +kernel
theorem dX10_run_38 : decode cX10_run 38 = .ok (.invokevirtual 89, 3) := by decide +kernel
theorem dX10_run_41 : decode cX10_run 41 = .ok (.iconst 0, 1) := by decide +kernel
theorem dX10_run_42 : decode cX10_run 42 = .ok (.istore_n 2, 1) := by decide +kernel
theorem dX10_run_43 : decode cX10_run 43 = .ok (.iload_n 2, 1) := by decide +kernel
theorem dX10_run_44 : decode cX10_run 44 = .ok (.aload_n 0, 1) := by decide +kernel
theorem dX10_run_45 : decode cX10_run 45 = .ok (.getfield 279, 3) := by decide +kernel
theorem dX10_run_48 : decode cX10_run 48 = .ok (.if_icmp .ge 57, 3) := by decide +kernel
theorem dX10_run_51 : decode cX10_run 51 = .ok (.aload_n 0, 1) := by decide +kernel
theorem dX10_run_52 : decode cX10_run 52 = .ok (.iconst 0, 1) := by decide +kernel
theorem dX10_run_53 : decode cX10_run 53 = .ok (.putfield 41, 3) := by decide +kernel
theorem dX10_run_56 : decode cX10_run 56 = .ok (.aload_n 0, 1) := by decide +kernel
theorem dX10_run_57 : decode cX10_run 57 = .ok (.aload_n 0, 1) := by decide +kernel
theorem dX10_run_58 : decode cX10_run 58 = .ok (.iconst 5, 1) := by decide +kernel
theorem dX10_run_59 : decode cX10_run 59 = .ok (.iload_n 2, 1) := by decide +kernel
theorem dX10_run_60 : decode cX10_run 60 = .ok (.imul, 1) := by decide +kernel
theorem dX10_run_61 : decode cX10_run 61 = .ok (.invokevirtual 294, 3) := by decide +kernel
theorem dX10_run_64 : decode cX10_run 64 = .ok (.putfield 297, 3) := by decide +kernel
theorem dX10_run_67 : decode cX10_run 67 = .ok (.aload_n 0, 1) := by decide +kernel
theorem dX10_run_68 : decode cX10_run 68 = .ok (.getfield 41, 3) := by decide +kernel
theorem dX10_run_71 : decode cX10_run 71 = .ok (.ifCond .eq 28, 3) := by decide +kernel
theorem dX10_run_74 : decode cX10_run 74 = .ok (.aload_n 0, 1) := by decide +kernel
theorem dX10_run_75 : decode cX10_run 75 = .ok (.getfield 13, 3) := by decide +kernel
theorem dX10_run_78 : decode cX10_run 78 = .ok (.iconst 0, 1) := by decide +kernel
theorem dX10_run_79 : decode cX10_run 79 = .ok (.aload_n 0, 1) := by decide +kernel
theorem dX10_run_80 : decode cX10_run 80 = .ok (.getfield 9, 3) := by decide +kernel
theorem dX10_run_83 : decode cX10_run 83 = .ok (.iconst 0, 1) := by decide +kernel
theorem dX10_run_84 : decode cX10_run 84 = .ok (.invokestatic 44, 3) := by decide +kernel
theorem dX10_run_87 : decode cX10_run 87 = .ok (.aload_n 0, 1) := by decide +kernel
theorem dX10_run_88 : decode cX10_run 88 = .ok (.iload_n 2, 1) := by decide +kernel
theorem dX10_run_89 : decode cX10_run 89 = .ok (.putfield 26, 3) := by decide +kernel
theorem dX10_run_92 : decode cX10_run 92 = .ok (.aload_n 0, 1) := by decide +kernel
theorem dX10_run_93 : decode cX10_run 93 = .ok (.iconst 2, 1) := by decide +kernel
theorem dX10_run_94 : decode cX10_run 94 = .ok (.putfield 41, 3) := by decide +kernel
theorem dX10_run_97 : decode cX10_run 97 = .ok (.iconst 0, 1) := by decide +kernel
theorem dX10_run_98 : decode cX10_run 98 = .ok (.ireturn, 1) := by decide +kernel
theorem dX10_run_99 : decode cX10_run 99 = .ok (.iinc 2 1, 3) := by decide +kernel
theorem dX10_run_102 : decode cX10_run 102 = .ok (.goto (-59), 3) := by decide +kernel
theorem dX10_run_105 : decode cX10_run 105 = .ok (.aload_n 0, 1) := by decide +kernel
theorem dX10_run_106 : decode cX10_run 106 = .ok (.aload_n 0, 1) := by decide +kernel
theorem dX10_run_107 : decode cX10_run 107 = .ok (.getfield 279, 3) := by decide +kernel
theorem dX10_run_110 : decode cX10_run 110 = .ok (.invokevirtual 95, 3) := by decide +kernel
theorem dX10_run_113 : decode cX10_run 113 = .ok (.ireturn, 1) := by decide +kernel
theorem dX10_errorPosition_0 : decode cX10_errorPosition 0 = .ok (.aload_n 0, 1) := by decide +kernel
theorem dX10_errorPosition_1 : decode cX10_errorPosition 1 = .ok (.aload_n 0, 1) := by decide +kernel
theorem dX10_errorPosition_2 : decode cX10_errorPosition 2 = .ok (.getfield 22, 3) := by decide +kernel
theorem dX10_errorPosition_5 : decode cX10_errorPosition 5 = .ok (.ifCond .ge 7, 3) := by decide +kernel
theorem dX10_errorPosition_8 : decode cX10_errorPosition 8 = .ok (.iconst 1, 1) := by decide +kernel
theorem dX10_errorPosition_9 : decode cX10_errorPosition 9 = .ok (.goto 4, 3) := by decide +kernel
theorem dX10_errorPosition_12 : decode cX10_errorPosition 12 = .ok (.iconst 0, 1) := by decide +kernel
theorem dX10_errorPosition_13 : decode cX10_errorPosition 13 = .ok (.iconst 1, 1) := by decide +kernel
theorem dX10_errorPosition_14 : decode cX10_errorPosition 14 = .ok (.invokevirtual 85, 3) := by decide +kernel
theorem dX10_errorPosition_17 : decode cX10_errorPosition 17 = .ok (.ifCond .eq 7, 3) := by decide +kernel
theorem dX10_errorPosition_20 : decode cX10_errorPosition 20 = .ok (.iconst 0, 1) := by decide +kernel
theorem dX10_errorPosition_21 : decode cX10_errorPosition 21 = .ok (.goto 7, 3) := by decide +kernel
theorem dX10_errorPosition_24 : decode cX10_errorPosition 24 = .ok (.aload_n 0, 1) := by decide +kernel
theorem dX10_errorPosition_25 : decode cX10_errorPosition 25 = .ok (.getfield 22, 3) := by decide +kernel
theorem dX10_errorPosition_28 : decode cX10_errorPosition 28 = .ok (.ireturn, 1) := by decide +kernel
theorem dX10_failedCommand_0 : decode cX10_failedCommand 0 = .ok (.aload_n 0, 1) := by decide +kernel
theorem dX10_failedCommand_1 : decode cX10_failedCommand 1 = .ok (.aload_n 0, 1) := by decide +kernel
theorem dX10_failedCommand_2 : decode cX10_failedCommand 2 = .ok (.getfield 26, 3) := by decide +kernel
theorem dX10_failedCommand_5 : decode cX10_failedCommand 5 = .ok (.ifCond .ge 7, 3) := by decide +kernel
theorem dX10_failedCommand_8 : decode cX10_failedCommand 8 = .ok (.iconst 1, 1) := by decide +kernel
theorem dX10_failedCommand_9 : decode cX10_failedCommand 9 = .ok (.goto 4, 3) := by decide +kernel
theorem dX10_failedCommand_12 : decode cX10_failedCommand 12 = .ok (.iconst 0, 1) := by decide +kernel
theorem dX10_failedCommand_13 : decode cX10_failedCommand 13 = .ok (.iconst 1, 1) := by decide +kernel
theorem dX10_failedCommand_14 : decode cX10_failedCommand 14 = .ok (.invokevirtual 85, 3) := by decide +kernel
theorem dX10_failedCommand_17 : decode cX10_failedCommand 17 = .ok (.ifCond .eq 7, 3) := by decide +kernel
theorem dX10_failedCommand_20 : decode cX10_failedCommand 20 = .ok (.iconst 0, 1) := by decide +kernel
theorem dX10_failedCommand_21 : decode cX10_failedCommand 21 = .ok (.goto 7, 3) := by decide +kernel
theorem dX10_failedCommand_24 : decode cX10_failedCommand 24 = .ok (.aload_n 0, 1) := by decide +kernel
theorem dX10_failedCommand_25 : decode cX10_failedCommand 25 = .ok (.getfield 26, 3) := by decide +kernel
theorem dX10_failedCommand_28 : decode cX10_failedCommand 28 = .ok (.ireturn, 1) := by decide +kernel
theorem dX10_undo_0 : decode cX10_undo 0 = .ok (.aload_n 0, 1) := by decide +kernel
theorem dX10_undo_1 : decode cX10_undo 1 = .ok (.aload_n 0, 1) := by decide +kernel
theorem dX10_undo_2 : decode cX10_undo 2 = .ok (.getfield 48, 3) := by decide +kernel
theorem dX10_undo_5 : decode cX10_undo 5 = .ok (.ifCond .ne 7, 3) := by decide +kernel
theorem dX10_undo_8 : decode cX10_undo 8 = .ok (.iconst 1, 1) := by decide +kernel
theorem dX10_undo_9 : decode cX10_undo 9 = .ok (.goto 4, 3) := by decide +kernel
theorem dX10_undo_12 : decode cX10_undo 12 = .ok (.iconst 0, 1) := by decide +kernel
theorem dX10_undo_13 : decode cX10_undo 13 = .ok (.iconst 1, 1) := by decide +kernel
theorem dX10_undo_14 : decode cX10_undo 14 = .ok (.invokevirtual 85, 3) := by decide +kernel
theorem dX10_undo_17 : decode cX10_undo 17 = .ok (.ifCond .eq 5, 3) := by decide +kernel
theorem dX10_undo_20 : decode cX10_undo 20 = .ok (.iconst 0, 1) := by decide +kernel
theorem dX10_undo_21 : decode cX10_undo 21 = .ok (.ireturn, 1) := by decide +kernel
theorem dX10_undo_22 : decode cX10_undo 22 = .ok (.aload_n 0, 1) := by decide +kernel
theorem dX10_undo_23 : decode cX10_undo 23 = .ok (.dup, 1) := by decide +kernel
theorem dX10_undo_24 : decode cX10_undo 24 = .ok (.getfield 48, 3) := by decide +kernel
theorem dX10_undo_27 : decode cX10_undo 27 = .ok (.iconst 1, 1) := by decide +kernel
theorem dX10_undo_28 : decode cX10_undo 28 = .ok (.isub, 1) := by decide +kernel
theorem dX10_undo_29 : decode cX10_undo 29 = .ok (.putfield 48, 3) := by decide +kernel
theorem dX10_undo_32 : decode cX10_undo 32 = .ok (.aload_n 0, 1) := by decide +kernel
theorem dX10_undo_33 : decode cX10_undo 33 = .ok (.getfield 19, 3) := by decide +kernel
theorem dX10_undo_36 : decode cX10_undo 36 = .ok (.bipush 113, 2) := by decide +kernel
theorem dX10_undo_38 : decode cX10_undo 38 = .ok (.aload_n 0, 1) := by decide +kernel
theorem dX10_undo_39 : decode cX10_undo 39 = .ok (.getfield 48, 3) := by decide +kernel
theorem dX10_undo_42 : decode cX10_undo 42 = .ok (.imul, 1) := by decide +kernel
theorem dX10_undo_43 : decode cX10_undo 43 = .ok (.aload_n 0, 1) := by decide +kernel
theorem dX10_undo_44 : decode cX10_undo 44 = .ok (.getfield 9, 3) := by decide +kernel
theorem dX10_undo_47 : decode cX10_undo 47 = .ok (.iconst 0, 1) := by decide +kernel
theorem dX10_undo_48 : decode cX10_undo 48 = .ok (.invokestatic 44, 3) := by decide +kernel
theorem dX10_undo_51 : decode cX10_undo 51 = .ok (.aload_n 0, 1) := by decide +kernel
theorem dX10_undo_52 : decode cX10_undo 52 = .ok (.getfield 48, 3) := by decide +kernel
theorem dX10_undo_55 : decode cX10_undo 55 = .ok (.ireturn, 1) := by decide +kernel
theorem dX10_save_0 : decode cX10_save 0 = .ok (.aload_n 0, 1) := by decide +kernel
theorem dX10_save_1 : decode cX10_save 1 = .ok (.iconst 0, 1) := by decide +kernel
theorem dX10_save_2 : decode cX10_save 2 = .ok (.putfield 41, 3) := by decide +kernel
theorem dX10_save_5 : decode cX10_save 5 = .ok (.aload_n 0, 1) := by decide +kernel
theorem dX10_save_6 : decode cX10_save 6 = .ok (.getfield 9, 3) := by decide +kernel
theorem dX10_save_9 : decode cX10_save 9 = .ok (.iconst 0, 1) := by decide +kernel
theorem dX10_save_10 : decode cX10_save 10 = .ok (.aload_n 0, 1) := by decide +kernel
theorem dX10_save_11 : decode cX10_save 11 = .ok (.getfield 16, 3) := by decide +kernel
theorem dX10_save_14 : decode cX10_save 14 = .ok (.iconst 0, 1) := by decide +kernel
theorem dX10_save_15 : decode cX10_save 15 = .ok (.invokestatic 44, 3) := by decide +kernel
theorem dX10_save_18 : decode cX10_save 18 = .ok (.aload_n 0, 1) := by decide +kernel
theorem dX10_save_19 : decode cX10_save 19 = .ok (.iconst 1, 1) := by decide +kernel
theorem dX10_save_20 : decode cX10_save 20 = .ok (.putfield 300, 3) := by decide +kernel
theorem dX10_save_23 : decode cX10_save 23 = .ok (.return_, 1) := by decide +kernel
theorem dX10_restore_0 : decode cX10_restore 0 = .ok (.aload_n 0, 1) := by decide +kernel
theorem dX10_restore_1 : decode cX10_restore 1 = .ok (.aload_n 0, 1) := by decide +kernel
theorem dX10_restore_2 : decode cX10_restore 2 = .ok (.getfield 300, 3) := by decide +kernel
theorem dX10_restore_5 : decode cX10_restore 5 = .ok (.ifCond .ne 7, 3) := by decide +kernel
theorem dX10_restore_8 : decode cX10_restore 8 = .ok (.iconst 1, 1) := by decide +kernel
theorem dX10_restore_9 : decode cX10_restore 9 = .ok (.goto 4, 3) := by decide +kernel
theorem dX10_restore_12 : decode cX10_restore 12 = .ok (.iconst 0, 1) := by decide +kernel
theorem dX10_restore_13 : decode cX10_restore 13 = .ok (.iconst 1, 1) := by decide +kernel
theorem dX10_restore_14 : decode cX10_restore 14 = .ok (.invokevirtual 85, 3) := by decide +kernel
theorem dX10_restore_17 : decode cX10_restore 17 = .ok (.ifCond .eq 4, 3) := by decide +kernel
theorem dX10_restore_20 : decode cX10_restore 20 = .ok (.return_, 1) := by decide +kernel
theorem dX10_restore_21 : decode cX10_restore 21 = .ok (.aload_n 0, 1) := by decide +kernel
theorem dX10_restore_22 : decode cX10_restore 22 = .ok (.getfield 16, 3) := by decide +kernel
theorem dX10_restore_25 : decode cX10_restore 25 = .ok (.iconst 0, 1) := by decide +kernel
theorem dX10_restore_26 : decode cX10_restore 26 = .ok (.aload_n 0, 1) := by decide +kernel
theorem dX10_restore_27 : decode cX10_restore 27 = .ok (.getfield 9, 3) := by decide +kernel
theorem dX10_restore_30 : decode cX10_restore 30 = .ok (.iconst 0, 1) := by decide +kernel
theorem dX10_restore_31 : decode cX10_restore 31 = .ok (.invokestatic 44, 3) := by decide +kernel
theorem dX10_restore_34 : decode cX10_restore 34 = .ok (.aload_n 0, 1) := by decide +kernel
theorem dX10_restore_35 : decode cX10_restore 35 = .ok (.iconst 0, 1) := by decide +kernel
theorem dX10_restore_36 : decode cX10_restore 36 = .ok (.putfield 48, 3) := by decide +kernel
theorem dX10_restore_39 : decode cX10_restore 39 = .ok (.return_, 1) := by decide +kernel
theorem dJ5_init_d00df_0 : decode cJ5_init_d00df 0 = .ok (.aload_n 0, 1) := by decide +kernel
theorem dJ5_init_d00df_1 : decode cJ5_init_d00df 1 = .ok (.invokespecial 3, 3) := by decide +kernel
theorem dJ5_init_d00df_4 : decode cJ5_init_d00df 4 = .ok (.getstatic 18, 3) := by decide +kernel
theorem dJ5_init_d00df_7 : decode cJ5_init_d00df 7 = .ok (.ifCond .eq 18, 3) := by decide +kernel
theorem dJ5_init_d00df_10 : decode cJ5_init_d00df 10 = .ok (.aload_n 0, 1) := by decide +kernel
theorem dJ5_init_d00df_11 : decode cJ5_init_d00df 11 = .ok (.iload_n 1, 1) := by decide +kernel
theorem dJ5_init_d00df_12 : decode cJ5_init_d00df 12 = .ok (.newarray .byte, 2) := by decide +kernel
theorem dJ5_init_d00df_14 : decode cJ5_init_d00df 14 = .ok (.putfield 15, 3) := by decide +kernel
theorem dJ5_init_d00df_17 : decode cJ5_init_d00df 17 = .ok (.aload_n 0, 1) := by decide +kernel
theorem dJ5_init_d00df_18 : decode cJ5_init_d00df 18 = .ok (.iconst 0, 1) := by decide +kernel
theorem dJ5_init_d00df_19 : decode cJ5_init_d00df 19 = .ok (.putfield 22, 3) := by decide +kernel
theorem dJ5_init_d00df_22 : decode cJ5_init_d00df 22 = .ok (.goto 16, 3) := by decide +kernel
theorem dJ5_init_d00df_25 : decode cJ5_init_d00df 25 = .ok (.aload_n 0, 1) := by decide +kernel
theorem dJ5_init_d00df_26 : decode cJ5_init_d00df 26 = .ok (.iload_n 1, 1) := by decide +kernel
theorem dJ5_init_d00df_27 : decode cJ5_init_d00df 27 = .ok (.invokestatic 26, 3) := by decide +kernel
theorem dJ5_init_d00df_30 : decode cJ5_init_d00df 30 = .ok (.putfield 15, 3) := by decide +kernel
theorem dJ5_init_d00df_33 : decode cJ5_init_d00df 33 = .ok (.aload_n 0, 1) := by decide +kernel
theorem dJ5_init_d00df_34 : decode cJ5_init_d00df 34 = .ok (.iconst 1, 1) := by decide +kernel
theorem dJ5_init_d00df_35 : decode cJ5_init_d00df 35 = .ok (.putfield 22, 3) := by decide +kernel
theorem dJ5_init_d00df_38 : decode cJ5_init_d00df 38 = .ok (.return_, 1) := by decide +kernel
theorem dJ5_length_8abf5_0 : decode cJ5_length_8abf5 0 = .ok (.aload_n 0, 1) := by decide +kernel
theorem dJ5_length_8abf5_1 : decode cJ5_length_8abf5 1 = .ok (.getfield 79, 3) := by decide +kernel
theorem dJ5_length_8abf5_4 : decode cJ5_length_8abf5 4 = .ok (.ireturn, 1) := by decide +kernel
theorem dJ5_ensureCapacityInternal_d00df_0 : decode cJ5_ensureCapacityInternal_d00df 0 = .ok (.aload_n 0, 1) := by decide +kernel
theorem dJ5_ensureCapacityInternal_d00df_1 : decode cJ5_ensureCapacityInternal_d00df 1 = .ok (.getfield 15, 3) := by decide +kernel
theorem dJ5_ensureCapacityInternal_d00df_4 : decode cJ5_ensureCapacityInternal_d00df 4 = .ok (.arraylength, 1) := by decide +kernel
theorem dJ5_ensureCapacityInternal_d00df_5 : decode cJ5_ensureCapacityInternal_d00df 5 = .ok (.aload_n 0, 1) := by decide +kernel
theorem dJ5_ensureCapacityInternal_d00df_6 : decode cJ5_ensureCapacityInternal_d00df 6 = .ok (.getfield 22, 3) := by decide +kernel
theorem dJ5_ensureCapacityInternal_d00df_9 : decode cJ5_ensureCapacityInternal_d00df 9 = .ok (.ishr, 1) := by decide +kernel
theorem dJ5_ensureCapacityInternal_d00df_10 : decode cJ5_ensureCapacityInternal_d00df 10 = .ok (.istore_n 2, 1) := by decide +kernel
theorem dJ5_ensureCapacityInternal_d00df_11 : decode cJ5_ensureCapacityInternal_d00df 11 = .ok (.iload_n 1, 1) := by decide +kernel
theorem dJ5_ensureCapacityInternal_d00df_12 : decode cJ5_ensureCapacityInternal_d00df 12 = .ok (.iload_n 2, 1) := by decide +kernel
theorem dJ5_ensureCapacityInternal_d00df_13 : decode cJ5_ensureCapacityInternal_d00df 13 = .ok (.isub, 1) := by decide +kernel
theorem dJ5_ensureCapacityInternal_d00df_14 : decode cJ5_ensureCapacityInternal_d00df 14 = .ok (.ifCond .le 24, 3) := by decide +kernel
theorem dJ5_ensureCapacityInternal_d00df_17 : decode cJ5_ensureCapacityInternal_d00df 17 = .ok (.aload_n 0, 1) := by decide +kernel
theorem dJ5_ensureCapacityInternal_d00df_18 : decode cJ5_ensureCapacityInternal_d00df 18 = .ok (.aload_n 0, 1) := by decide +kernel
theorem dJ5_ensureCapacityInternal_d00df_19 : decode cJ5_ensureCapacityInternal_d00df 19 = .ok (.getfield 15, 3) := by decide +kernel
theorem dJ5_ensureCapacityInternal_d00df_22 : decode cJ5_ensureCapacityInternal_d00df 22 = .ok (.aload_n 0, 1) := by decide +kernel
theorem dJ5_ensureCapacityInternal_d00df_23 : decode cJ5_ensureCapacityInternal_d00df 23 = .ok (.iload_n 1, 1) := by decide +kernel
theorem dJ5_ensureCapacityInternal_d00df_24 : decode cJ5_ensureCapacityInternal_d00df 24 = .ok (.invokevirtual 104, 3) := by decide +kernel
theorem dJ5_ensureCapacityInternal_d00df_27 : decode cJ5_ensureCapacityInternal_d00df 27 = .ok (.aload_n 0, 1) := by decide +kernel
theorem dJ5_ensureCapacityInternal_d00df_28 : decode cJ5_ensureCapacityInternal_d00df 28 = .ok (.getfield 22, 3) := by decide +kernel
theorem dJ5_ensureCapacityInternal_d00df_31 : decode cJ5_ensureCapacityInternal_d00df 31 = .ok (.ishl, 1) := by decide +kernel
theorem dJ5_ensureCapacityInternal_d00df_32 : decode cJ5_ensureCapacityInternal_d00df 32 = .ok (.invokestatic 108, 3) := by decide +kernel
theorem dJ5_ensureCapacityInternal_d00df_35 : decode cJ5_ensureCapacityInternal_d00df 35 = .ok (.putfield 15, 3) := by decide +kernel
theorem dJ5_ensureCapacityInternal_d00df_38 : decode cJ5_ensureCapacityInternal_d00df 38 = .ok (.return_, 1) := by decide +kernel
theorem dJ5_newCapacity_0f7a4_0 : decode cJ5_newCapacity_0f7a4 0 = .ok (.aload_n 0, 1) := by decide +kernel
theorem dJ5_newCapacity_0f7a4_1 : decode cJ5_newCapacity_0f7a4 1 = .ok (.getfield 15, 3) := by decide +kernel
theorem dJ5_newCapacity_0f7a4_4 : decode cJ5_newCapacity_0f7a4 4 = .ok (.arraylength, 1) := by decide +kernel
theorem dJ5_newCapacity_0f7a4_5 : decode cJ5_newCapacity_0f7a4 5 = .ok (.istore_n 2, 1) := by decide +kernel
theorem dJ5_newCapacity_0f7a4_6 : decode cJ5_newCapacity_0f7a4 6 = .ok (.iload_n 1, 1) := by decide +kernel
theorem dJ5_newCapacity_0f7a4_7 : decode cJ5_newCapacity_0f7a4 7 = .ok (.aload_n 0, 1) := by decide +kernel
theorem dJ5_newCapacity_0f7a4_8 : decode cJ5_newCapacity_0f7a4 8 = .ok (.getfield 22, 3) := by decide +kernel
theorem dJ5_newCapacity_0f7a4_11 : decode cJ5_newCapacity_0f7a4 11 = .ok (.ishl, 1) := by decide +kernel
theorem dJ5_newCapacity_0f7a4_12 : decode cJ5_newCapacity_0f7a4 12 = .ok (.istore_n 3, 1) := by decide +kernel
theorem dJ5_newCapacity_0f7a4_13 : decode cJ5_newCapacity_0f7a4 13 = .ok (.iload_n 3, 1) := by decide +kernel
theorem dJ5_newCapacity_0f7a4_14 : decode cJ5_newCapacity_0f7a4 14 = .ok (.iload_n 2, 1) := by decide +kernel
theorem dJ5_newCapacity_0f7a4_15 : decode cJ5_newCapacity_0f7a4 15 = .ok (.isub, 1) := by decide +kernel
theorem dJ5_newCapacity_0f7a4_16 : decode cJ5_newCapacity_0f7a4 16 = .ok (.istore 4, 2) := by decide +kernel
theorem dJ5_newCapacity_0f7a4_18 : decode cJ5_newCapacity_0f7a4 18 = .ok (.iload_n 2, 1) := by decide +kernel
theorem dJ5_newCapacity_0f7a4_19 : decode cJ5_newCapacity_0f7a4 19 = .ok (.iload 4, 2) := by decide +kernel
theorem dJ5_newCapacity_0f7a4_21 : decode cJ5_newCapacity_0f7a4 21 = .ok (.iload_n 2, 1) := by decide +kernel
theorem dJ5_newCapacity_0f7a4_22 : decode cJ5_newCapacity_0f7a4 22 = .ok (.iconst 2, 1) := by decide +kernel
theorem dJ5_newCapacity_0f7a4_23 : decode cJ5_newCapacity_0f7a4 23 = .ok (.aload_n 0, 1) := by decide +kernel
theorem dJ5_newCapacity_0f7a4_24 : decode cJ5_newCapacity_0f7a4 24 = .ok (.getfield 22, 3) := by decide +kernel
theorem dJ5_newCapacity_0f7a4_27 : decode cJ5_newCapacity_0f7a4 27 = .ok (.ishl, 1) := by decide +kernel
theorem dJ5_newCapacity_0f7a4_28 : decode cJ5_newCapacity_0f7a4 28 = .ok (.iadd, 1) := by decide +kernel
theorem dJ5_newCapacity_0f7a4_29 : decode cJ5_newCapacity_0f7a4 29 = .ok (.invokestatic 114, 3) := by decide +kernel
theorem dJ5_newCapacity_0f7a4_32 : decode cJ5_newCapacity_0f7a4 32 = .ok (.istore 5, 2) := by decide +kernel
theorem dJ5_newCapacity_0f7a4_34 : decode cJ5_newCapacity_0f7a4 34 = .ok (.iload 5, 2) := by decide +kernel
theorem dJ5_newCapacity_0f7a4_36 : decode cJ5_newCapacity_0f7a4 36 = .ok (.ldc 39, 2) := by decide +kernel
theorem dJ5_newCapacity_0f7a4_38 : decode cJ5_newCapacity_0f7a4 38 = .ok (.if_icmp .ne 13, 3) := by decide +kernel
theorem dJ5_newCapacity_0f7a4_41 : decode cJ5_newCapacity_0f7a4 41 = .ok (.new 120, 3) := by decide +kernel
theorem dJ5_newCapacity_0f7a4_44 : decode cJ5_newCapacity_0f7a4 44 = .ok (.dup, 1) := by decide +kernel
theorem dJ5_newCapacity_0f7a4_45 : decode cJ5_newCapacity_0f7a4 45 = .ok (.ldc 122, 2) := by decide +kernel
theorem dJ5_newCapacity_0f7a4_47 : decode cJ5_newCapacity_0f7a4 47 = .ok (.invokespecial 124, 3) := by decide +kernel
theorem dJ5_newCapacity_0f7a4_50 : decode cJ5_newCapacity_0f7a4 50 = .ok (.athrow, 1) := by decide +kernel
theorem dJ5_newCapacity_0f7a4_51 : decode cJ5_newCapacity_0f7a4 51 = .ok (.iload 5, 2) := by decide +kernel
theorem dJ5_newCapacity_0f7a4_53 : decode cJ5_newCapacity_0f7a4 53 = .ok (.aload_n 0, 1) := by decide +kernel
theorem dJ5_newCapacity_0f7a4_54 : decode cJ5_newCapacity_0f7a4 54 = .ok (.getfield 22, 3) := by decide +kernel
theorem dJ5_newCapacity_0f7a4_57 : decode cJ5_newCapacity_0f7a4 57 = .ok (.ishr, 1) := by decide +kernel
theorem dJ5_newCapacity_0f7a4_58 : decode cJ5_newCapacity_0f7a4 58 = .ok (.ireturn, 1) := by decide +kernel
theorem dJ5_inflate_da8c8_0 : decode cJ5_inflate_da8c8 0 = .ok (.aload_n 0, 1) := by decide +kernel
theorem dJ5_inflate_da8c8_1 : decode cJ5_inflate_da8c8 1 = .ok (.invokevirtual 83, 3) := by decide +kernel
theorem dJ5_inflate_da8c8_4 : decode cJ5_inflate_da8c8 4 = .ok (.ifCond .ne 4, 3) := by decide +kernel
theorem dJ5_inflate_da8c8_7 : decode cJ5_inflate_da8c8 7 = .ok (.return_, 1) := by decide +kernel
theorem dJ5_inflate_da8c8_8 : decode cJ5_inflate_da8c8 8 = .ok (.aload_n 0, 1) := by decide +kernel
theorem dJ5_inflate_da8c8_9 : decode cJ5_inflate_da8c8 9 = .ok (.getfield 15, 3) := by decide +kernel
theorem dJ5_inflate_da8c8_12 : decode cJ5_inflate_da8c8 12 = .ok (.arraylength, 1) := by decide +kernel
theorem dJ5_inflate_da8c8_13 : decode cJ5_inflate_da8c8 13 = .ok (.invokestatic 26, 3) := by decide +kernel
theorem dJ5_inflate_da8c8_16 : decode cJ5_inflate_da8c8 16 = .ok (.astore_n 1, 1) := by decide +kernel
theorem dJ5_inflate_da8c8_17 : decode cJ5_inflate_da8c8 17 = .ok (.aload_n 0, 1) := by decide +kernel
theorem dJ5_inflate_da8c8_18 : decode cJ5_inflate_da8c8 18 = .ok (.getfield 15, 3) := by decide +kernel
theorem dJ5_inflate_da8c8_21 : decode cJ5_inflate_da8c8 21 = .ok (.iconst 0, 1) := by decide +kernel
theorem dJ5_inflate_da8c8_22 : decode cJ5_inflate_da8c8 22 = .ok (.aload_n 1, 1) := by decide +kernel
theorem dJ5_inflate_da8c8_23 : decode cJ5_inflate_da8c8 23 = .ok (.iconst 0, 1) := by decide +kernel
theorem dJ5_inflate_da8c8_24 : decode cJ5_inflate_da8c8 24 = .ok (.aload_n 0, 1) := by decide +kernel
theorem dJ5_inflate_da8c8_25 : decode cJ5_inflate_da8c8 25 = .ok (.getfield 79, 3) := by decide +kernel
theorem dJ5_inflate_da8c8_28 : decode cJ5_inflate_da8c8 28 = .ok (.invokestatic 125, 3) := by decide +kernel
theorem dJ5_inflate_da8c8_31 : decode cJ5_inflate_da8c8 31 = .ok (.aload_n 0, 1) := by decide +kernel
theorem dJ5_inflate_da8c8_32 : decode cJ5_inflate_da8c8 32 = .ok (.aload_n 1, 1) := by decide +kernel
theorem dJ5_inflate_da8c8_33 : decode cJ5_inflate_da8c8 33 = .ok (.putfield 15, 3) := by decide +kernel
theorem dJ5_inflate_da8c8_36 : decode cJ5_inflate_da8c8 36 = .ok (.aload_n 0, 1) := by decide +kernel
theorem dJ5_inflate_da8c8_37 : decode cJ5_inflate_da8c8 37 = .ok (.iconst 1, 1) := by decide +kernel
theorem dJ5_inflate_da8c8_38 : decode cJ5_inflate_da8c8 38 = .ok (.putfield 22, 3) := by decide +kernel
theorem dJ5_inflate_da8c8_41 : decode cJ5_inflate_da8c8 41 = .ok (.return_, 1) := by decide +kernel
theorem dJ5_setLength_d00df_0 : decode cJ5_setLength_d00df 0 = .ok (.iload_n 1, 1) := by decide +kernel
theorem dJ5_setLength_d00df_1 : decode cJ5_setLength_d00df 1 = .ok (.ifCond .ge 12, 3) := by decide +kernel
theorem dJ5_setLength_d00df_4 : decode cJ5_setLength_d00df 4 = .ok (.new 129, 3) := by decide +kernel
theorem dJ5_setLength_d00df_7 : decode cJ5_setLength_d00df 7 = .ok (.dup, 1) := by decide +kernel
theorem dJ5_setLength_d00df_8 : decode cJ5_setLength_d00df 8 = .ok (.iload_n 1, 1) := by decide +kernel
theorem dJ5_setLength_d00df_9 : decode cJ5_setLength_d00df 9 = .ok (.invokespecial 131, 3) := by decide +kernel
theorem dJ5_setLength_d00df_12 : decode cJ5_setLength_d00df 12 = .ok (.athrow, 1) := by decide +kernel
theorem dJ5_setLength_d00df_13 : decode cJ5_setLength_d00df 13 = .ok (.aload_n 0, 1) := by decide +kernel
theorem dJ5_setLength_d00df_14 : decode cJ5_setLength_d00df 14 = .ok (.iload_n 1, 1) := by decide +kernel
theorem dJ5_setLength_d00df_15 : decode cJ5_setLength_d00df 15 = .ok (.invokevirtual 100, 3) := by decide +kernel
theorem dJ5_setLength_d00df_18 : decode cJ5_setLength_d00df 18 = .ok (.aload_n 0, 1) := by decide +kernel
theorem dJ5_setLength_d00df_19 : decode cJ5_setLength_d00df 19 = .ok (.getfield 79, 3) := by decide +kernel
theorem dJ5_setLength_d00df_22 : decode cJ5_setLength_d00df 22 = .ok (.iload_n 1, 1) := by decide +kernel
theorem dJ5_setLength_d00df_23 : decode cJ5_setLength_d00df 23 = .ok (.if_icmp .ge 40, 3) := by decide +kernel
theorem dJ5_setLength_d00df_26 : decode cJ5_setLength_d00df 26 = .ok (.aload_n 0, 1) := by decide +kernel
theorem dJ5_setLength_d00df_27 : decode cJ5_setLength_d00df 27 = .ok (.invokevirtual 83, 3) := by decide +kernel
theorem dJ5_setLength_d00df_30 : decode cJ5_setLength_d00df 30 = .ok (.ifCond .eq 18, 3) := by decide +kernel
theorem dJ5_setLength_d00df_33 : decode cJ5_setLength_d00df 33 = .ok (.aload_n 0, 1) := by decide +kernel
theorem dJ5_setLength_d00df_34 : decode cJ5_setLength_d00df 34 = .ok (.getfield 15, 3) := by decide +kernel
theorem dJ5_setLength_d00df_37 : decode cJ5_setLength_d00df 37 = .ok (.aload_n 0, 1) := by decide +kernel
theorem dJ5_setLength_d00df_38 : decode cJ5_setLength_d00df 38 = .ok (.getfield 79, 3) := by decide +kernel
theorem dJ5_setLength_d00df_41 : decode cJ5_setLength_d00df 41 = .ok (.iload_n 1, 1) := by decide +kernel
theorem dJ5_setLength_d00df_42 : decode cJ5_setLength_d00df 42 = .ok (.invokestatic 133, 3) := by decide +kernel
theorem dJ5_setLength_d00df_45 : decode cJ5_setLength_d00df 45 = .ok (.goto 31, 3) := by decide +kernel
theorem dJ5_setLength_d00df_48 : decode cJ5_setLength_d00df 48 = .ok (.aload_n 0, 1) := by decide +kernel
theorem dJ5_setLength_d00df_49 : decode cJ5_setLength_d00df 49 = .ok (.getfield 15, 3) := by decide +kernel
theorem dJ5_setLength_d00df_52 : decode cJ5_setLength_d00df 52 = .ok (.aload_n 0, 1) := by decide +kernel
theorem dJ5_setLength_d00df_53 : decode cJ5_setLength_d00df 53 = .ok (.getfield 79, 3) := by decide +kernel
theorem dJ5_setLength_d00df_56 : decode cJ5_setLength_d00df 56 = .ok (.iload_n 1, 1) := by decide +kernel
theorem dJ5_setLength_d00df_57 : decode cJ5_setLength_d00df 57 = .ok (.invokestatic 137, 3) := by decide +kernel
theorem dJ5_setLength_d00df_60 : decode cJ5_setLength_d00df 60 = .ok (.goto 16, 3) := by decide +kernel
theorem dJ5_setLength_d00df_63 : decode cJ5_setLength_d00df 63 = .ok (.aload_n 0, 1) := by decide +kernel
theorem dJ5_setLength_d00df_64 : decode cJ5_setLength_d00df 64 = .ok (.getfield 79, 3) := by decide +kernel
theorem dJ5_setLength_d00df_67 : decode cJ5_setLength_d00df 67 = .ok (.iload_n 1, 1) := by decide +kernel
theorem dJ5_setLength_d00df_68 : decode cJ5_setLength_d00df 68 = .ok (.if_icmp .le 8, 3) := by decide +kernel
theorem dJ5_setLength_d00df_71 : decode cJ5_setLength_d00df 71 = .ok (.aload_n 0, 1) := by decide +kernel
theorem dJ5_setLength_d00df_72 : decode cJ5_setLength_d00df 72 = .ok (.iconst 1, 1) := by decide +kernel
theorem dJ5_setLength_d00df_73 : decode cJ5_setLength_d00df 73 = .ok (.putfield 73, 3) := by decide +kernel
theorem dJ5_setLength_d00df_76 : decode cJ5_setLength_d00df 76 = .ok (.aload_n 0, 1) := by decide +kernel
theorem dJ5_setLength_d00df_77 : decode cJ5_setLength_d00df 77 = .ok (.iload_n 1, 1) := by decide +kernel
theorem dJ5_setLength_d00df_78 : decode cJ5_setLength_d00df 78 = .ok (.putfield 79, 3) := by decide +kernel
theorem dJ5_setLength_d00df_81 : decode cJ5_setLength_d00df 81 = .ok (.return_, 1) := by decide +kernel
theorem dJ5_charAt_5068e_0 : decode cJ5_charAt_5068e 0 = .ok (.aload_n 0, 1) := by decide +kernel
theorem dJ5_charAt_5068e_1 : decode cJ5_charAt_5068e 1 = .ok (.getfield 22, 3) := by decide +kernel
theorem dJ5_charAt_5068e_4 : decode cJ5_charAt_5068e 4 = .ok (.istore_n 2, 1) := by decide +kernel
theorem dJ5_charAt_5068e_5 : decode cJ5_charAt_5068e 5 = .ok (.aload_n 0, 1) := by decide +kernel
theorem dJ5_charAt_5068e_6 : decode cJ5_charAt_5068e 6 = .ok (.getfield 15, 3) := by decide +kernel
theorem dJ5_charAt_5068e_9 : decode cJ5_charAt_5068e 9 = .ok (.astore_n 3, 1) := by decide +kernel
theorem dJ5_charAt_5068e_10 : decode cJ5_charAt_5068e 10 = .ok (.aload_n 0, 1) := by decide +kernel
theorem dJ5_charAt_5068e_11 : decode cJ5_charAt_5068e 11 = .ok (.getfield 79, 3) := by decide +kernel
theorem dJ5_charAt_5068e_14 : decode cJ5_charAt_5068e 14 = .ok (.aload_n 3, 1) := by decide +kernel
theorem dJ5_charAt_5068e_15 : decode cJ5_charAt_5068e 15 = .ok (.arraylength, 1) := by decide +kernel
theorem dJ5_charAt_5068e_16 : decode cJ5_charAt_5068e 16 = .ok (.iload_n 2, 1) := by decide +kernel
theorem dJ5_charAt_5068e_17 : decode cJ5_charAt_5068e 17 = .ok (.ishr, 1) := by decide +kernel
theorem dJ5_charAt_5068e_18 : decode cJ5_charAt_5068e 18 = .ok (.invokestatic 138, 3) := by decide +kernel
theorem dJ5_charAt_5068e_21 : decode cJ5_charAt_5068e 21 = .ok (.istore 4, 2) := by decide +kernel
theorem dJ5_charAt_5068e_23 : decode cJ5_charAt_5068e 23 = .ok (.iload_n 1, 1) := by decide +kernel
theorem dJ5_charAt_5068e_24 : decode cJ5_charAt_5068e 24 = .ok (.iload 4, 2) := by decide +kernel
theorem dJ5_charAt_5068e_26 : decode cJ5_charAt_5068e 26 = .ok (.invokestatic 144, 3) := by decide +kernel
theorem dJ5_charAt_5068e_29 : decode cJ5_charAt_5068e 29 = .ok (.iload_n 2, 1) := by decide +kernel
theorem dJ5_charAt_5068e_30 : decode cJ5_charAt_5068e 30 = .ok (.ifCond .ne 12, 3) := by decide +kernel
theorem dJ5_charAt_5068e_33 : decode cJ5_charAt_5068e 33 = .ok (.aload_n 3, 1) := by decide +kernel
theorem dJ5_charAt_5068e_34 : decode cJ5_charAt_5068e 34 = .ok (.iload_n 1, 1) := by decide +kernel
theorem dJ5_charAt_5068e_35 : decode cJ5_charAt_5068e 35 = .ok (.baload, 1) := by decide +kernel
theorem dJ5_charAt_5068e_36 : decode cJ5_charAt_5068e 36 = .ok (.sipush 255, 3) := by decide +kernel
theorem dJ5_charAt_5068e_39 : decode cJ5_charAt_5068e 39 = .ok (.iand, 1) := by decide +kernel
theorem dJ5_charAt_5068e_40 : decode cJ5_charAt_5068e 40 = .ok (.i2c, 1) := by decide +kernel
theorem dJ5_charAt_5068e_41 : decode cJ5_charAt_5068e 41 = .ok (.ireturn, 1) := by decide +kernel
theorem dJ5_charAt_5068e_42 : decode cJ5_charAt_5068e 42 = .ok (.aload_n 3, 1) := by decide +kernel
theorem dJ5_charAt_5068e_43 : decode cJ5_charAt_5068e 43 = .ok (.iload_n 1, 1) := by decide +kernel
theorem dJ5_charAt_5068e_44 : decode cJ5_charAt_5068e 44 = .ok (.invokestatic 148, 3) := by decide +kernel
theorem dJ5_charAt_5068e_47 : decode cJ5_charAt_5068e 47 = .ok (.ireturn, 1) := by decide +kernel
theorem dJ5_append_cf1ce_0 : decode cJ5_append_cf1ce 0 = .ok (.aload_n 1, 1) := by decide +kernel
theorem dJ5_append_cf1ce_1 : decode cJ5_append_cf1ce 1 = .ok (.ifnonnull 8, 3) := by decide +kernel
theorem dJ5_append_cf1ce_4 : decode cJ5_append_cf1ce 4 = .ok (.aload_n 0, 1) := by decide +kernel
theorem dJ5_append_cf1ce_5 : decode cJ5_append_cf1ce 5 = .ok (.invokevirtual 204, 3) := by decide +kernel
theorem dJ5_append_cf1ce_8 : decode cJ5_append_cf1ce 8 = .ok (.areturn, 1) := by decide +kernel
theorem dJ5_append_cf1ce_9 : decode cJ5_append_cf1ce 9 = .ok (.aload_n 1, 1) := by decide +kernel
theorem dJ5_append_cf1ce_10 : decode cJ5_append_cf1ce 10 = .ok (.invokevirtual 32, 3) := by decide +kernel
theorem dJ5_append_cf1ce_13 : decode cJ5_append_cf1ce 13 = .ok (.istore_n 2, 1) := by decide +kernel
theorem dJ5_append_cf1ce_14 : decode cJ5_append_cf1ce 14 = .ok (.aload_n 0, 1) := by decide +kernel
theorem dJ5_append_cf1ce_15 : decode cJ5_append_cf1ce 15 = .ok (.aload_n 0, 1) := by decide +kernel
theorem dJ5_append_cf1ce_16 : decode cJ5_append_cf1ce 16 = .ok (.getfield 79, 3) := by decide +kernel
theorem dJ5_append_cf1ce_19 : decode cJ5_append_cf1ce 19 = .ok (.iload_n 2, 1) := by decide +kernel
theorem dJ5_append_cf1ce_20 : decode cJ5_append_cf1ce 20 = .ok (.iadd, 1) := by decide +kernel
theorem dJ5_append_cf1ce_21 : decode cJ5_append_cf1ce 21 = .ok (.invokevirtual 100, 3) := by decide +kernel
theorem dJ5_append_cf1ce_24 : decode cJ5_append_cf1ce 24 = .ok (.aload_n 0, 1) := by decide +kernel
theorem dJ5_append_cf1ce_25 : decode cJ5_append_cf1ce 25 = .ok (.aload_n 0, 1) := by decide +kernel
theorem dJ5_append_cf1ce_26 : decode cJ5_append_cf1ce 26 = .ok (.getfield 79, 3) := by decide +kernel
theorem dJ5_append_cf1ce_29 : decode cJ5_append_cf1ce 29 = .ok (.aload_n 1, 1) := by decide +kernel
theorem dJ5_append_cf1ce_30 : decode cJ5_append_cf1ce 30 = .ok (.invokevirtual 208, 3) := by decide +kernel
theorem dJ5_append_cf1ce_33 : decode cJ5_append_cf1ce 33 = .ok (.aload_n 0, 1) := by decide +kernel
theorem dJ5_append_cf1ce_34 : decode cJ5_append_cf1ce 34 = .ok (.dup, 1) := by decide +kernel
theorem dJ5_append_cf1ce_35 : decode cJ5_append_cf1ce 35 = .ok (.getfield 79, 3) := by decide +kernel
theorem dJ5_append_cf1ce_38 : decode cJ5_append_cf1ce 38 = .ok (.iload_n 2, 1) := by decide +kernel
theorem dJ5_append_cf1ce_39 : decode cJ5_append_cf1ce 39 = .ok (.iadd, 1) := by decide +kernel
theorem dJ5_append_cf1ce_40 : decode cJ5_append_cf1ce 40 = .ok (.putfield 79, 3) := by decide +kernel
theorem dJ5_append_cf1ce_43 : decode cJ5_append_cf1ce 43 = .ok (.aload_n 0, 1) := by decide +kernel
theorem dJ5_append_cf1ce_44 : decode cJ5_append_cf1ce 44 = .ok (.areturn, 1) := by decide +kernel
theorem dJ5_appendNull_278bc_0 : decode cJ5_appendNull_278bc 0 = .ok (.aload_n 0, 1) := by decide +kernel
theorem dJ5_appendNull_278bc_1 : decode cJ5_appendNull_278bc 1 = .ok (.aload_n 0, 1) := by decide +kernel
theorem dJ5_appendNull_278bc_2 : decode cJ5_appendNull_278bc 2 = .ok (.getfield 79, 3) := by decide +kernel
theorem dJ5_appendNull_278bc_5 : decode cJ5_appendNull_278bc 5 = .ok (.iconst 4, 1) := by decide +kernel
theorem dJ5_appendNull_278bc_6 : decode cJ5_appendNull_278bc 6 = .ok (.iadd, 1) := by decide +kernel
theorem dJ5_appendNull_278bc_7 : decode cJ5_appendNull_278bc 7 = .ok (.invokevirtual 100, 3) := by decide +kernel
theorem dJ5_appendNull_278bc_10 : decode cJ5_appendNull_278bc 10 = .ok (.aload_n 0, 1) := by decide +kernel
theorem dJ5_appendNull_278bc_11 : decode cJ5_appendNull_278bc 11 = .ok (.getfield 79, 3) := by decide +kernel
theorem dJ5_appendNull_278bc_14 : decode cJ5_appendNull_278bc 14 = .ok (.istore_n 1, 1) := by decide +kernel
theorem dJ5_appendNull_278bc_15 : decode cJ5_appendNull_278bc 15 = .ok (.aload_n 0, 1) := by decide +kernel
theorem dJ5_appendNull_278bc_16 : decode cJ5_appendNull_278bc 16 = .ok (.getfield 15, 3) := by decide +kernel
theorem dJ5_appendNull_278bc_19 : decode cJ5_appendNull_278bc 19 = .ok (.astore_n 2, 1) := by decide +kernel
theorem dJ5_appendNull_278bc_20 : decode cJ5_appendNull_278bc 20 = .ok (.aload_n 0, 1) := by decide +kernel
theorem dJ5_appendNull_278bc_21 : decode cJ5_appendNull_278bc 21 = .ok (.invokevirtual 83, 3) := by decide +kernel
theorem dJ5_appendNull_278bc_24 : decode cJ5_appendNull_278bc 24 = .ok (.ifCond .eq 38, 3) := by decide +kernel
theorem dJ5_appendNull_278bc_27 : decode cJ5_appendNull_278bc 27 = .ok (.aload_n 2, 1) := by decide +kernel
theorem dJ5_appendNull_278bc_28 : decode cJ5_appendNull_278bc 28 = .ok (.iload_n 1, 1) := by decide +kernel
theorem dJ5_appendNull_278bc_29 : decode cJ5_appendNull_278bc 29 = .ok (.iinc 1 1, 3) := by decide +kernel
theorem dJ5_appendNull_278bc_32 : decode cJ5_appendNull_278bc 32 = .ok (.bipush 110, 2) := by decide +kernel
theorem dJ5_appendNull_278bc_34 : decode cJ5_appendNull_278bc 34 = .ok (.bastore, 1) := by decide +kernel
theorem dJ5_appendNull_278bc_35 : decode cJ5_appendNull_278bc 35 = .ok (.aload_n 2, 1) := by decide +kernel
theorem dJ5_appendNull_278bc_36 : decode cJ5_appendNull_278bc 36 = .ok (.iload_n 1, 1) := by decide +kernel
theorem dJ5_appendNull_278bc_37 : decode cJ5_appendNull_278bc 37 = .ok (.iinc 1 1, 3) := by decide +kernel
theorem dJ5_appendNull_278bc_40 : decode cJ5_appendNull_278bc 40 = .ok (.bipush 117, 2) := by decide +kernel
theorem dJ5_appendNull_278bc_42 : decode cJ5_appendNull_278bc 42 = .ok (.bastore, 1) := by decide +kernel
theorem dJ5_appendNull_278bc_43 : decode cJ5_appendNull_278bc 43 = .ok (.aload_n 2, 1) := by decide +kernel
theorem dJ5_appendNull_278bc_44 : decode cJ5_appendNull_278bc 44 = .ok (.iload_n 1, 1) := by decide +kernel
theorem dJ5_appendNull_278bc_45 : decode cJ5_appendNull_278bc 45 = .ok (.iinc 1 1, 3) := by decide +kernel
theorem dJ5_appendNull_278bc_48 : decode cJ5_appendNull_278bc 48 = .ok (.bipush 108, 2) := by decide +kernel
theorem dJ5_appendNull_278bc_50 : decode cJ5_appendNull_278bc 50 = .ok (.bastore, 1) := by decide +kernel
theorem dJ5_appendNull_278bc_51 : decode cJ5_appendNull_278bc 51 = .ok (.aload_n 2, 1) := by decide +kernel
theorem dJ5_appendNull_278bc_52 : decode cJ5_appendNull_278bc 52 = .ok (.iload_n 1, 1) := by decide +kernel
theorem dJ5_appendNull_278bc_53 : decode cJ5_appendNull_278bc 53 = .ok (.iinc 1 1, 3) := by decide +kernel
theorem dJ5_appendNull_278bc_56 : decode cJ5_appendNull_278bc 56 = .ok (.bipush 108, 2) := by decide +kernel
theorem dJ5_appendNull_278bc_58 : decode cJ5_appendNull_278bc 58 = .ok (.bastore, 1) := by decide +kernel
theorem dJ5_appendNull_278bc_59 : decode cJ5_appendNull_278bc 59 = .ok (.goto 17, 3) := by decide +kernel
theorem dJ5_appendNull_278bc_62 : decode cJ5_appendNull_278bc 62 = .ok (.aload_n 2, 1) := by decide +kernel
theorem dJ5_appendNull_278bc_63 : decode cJ5_appendNull_278bc 63 = .ok (.iload_n 1, 1) := by decide +kernel
theorem dJ5_appendNull_278bc_64 : decode cJ5_appendNull_278bc 64 = .ok (.bipush 110, 2) := by decide +kernel
theorem dJ5_appendNull_278bc_66 : decode cJ5_appendNull_278bc 66 = .ok (.bipush 117, 2) := by decide +kernel
theorem dJ5_appendNull_278bc_68 : decode cJ5_appendNull_278bc 68 = .ok (.bipush 108, 2) := by decide +kernel
theorem dJ5_appendNull_278bc_70 : decode cJ5_appendNull_278bc 70 = .ok (.bipush 108, 2) := by decide +kernel
theorem dJ5_appendNull_278bc_72 : decode cJ5_appendNull_278bc 72 = .ok (.invokestatic 226, 3) := by decide +kernel
theorem dJ5_appendNull_278bc_75 : decode cJ5_appendNull_278bc 75 = .ok (.istore_n 1, 1) := by decide +kernel
theorem dJ5_appendNull_278bc_76 : decode cJ5_appendNull_278bc 76 = .ok (.aload_n 0, 1) := by decide +kernel
theorem dJ5_appendNull_278bc_77 : decode cJ5_appendNull_278bc 77 = .ok (.iload_n 1, 1) := by decide +kernel
theorem dJ5_appendNull_278bc_78 : decode cJ5_appendNull_278bc 78 = .ok (.putfield 79, 3) := by decide +kernel
theorem dJ5_appendNull_278bc_81 : decode cJ5_appendNull_278bc 81 = .ok (.aload_n 0, 1) := by decide +kernel
theorem dJ5_appendNull_278bc_82 : decode cJ5_appendNull_278bc 82 = .ok (.areturn, 1) := by decide +kernel
theorem dJ5_append_3fe6f_0 : decode cJ5_append_3fe6f 0 = .ok (.aload_n 0, 1) := by decide +kernel
theorem dJ5_append_3fe6f_1 : decode cJ5_append_3fe6f 1 = .ok (.aload_n 0, 1) := by decide +kernel
theorem dJ5_append_3fe6f_2 : decode cJ5_append_3fe6f 2 = .ok (.getfield 79, 3) := by decide +kernel
theorem dJ5_append_3fe6f_5 : decode cJ5_append_3fe6f 5 = .ok (.iconst 1, 1) := by decide +kernel
theorem dJ5_append_3fe6f_6 : decode cJ5_append_3fe6f 6 = .ok (.iadd, 1) := by decide +kernel
theorem dJ5_append_3fe6f_7 : decode cJ5_append_3fe6f 7 = .ok (.invokevirtual 100, 3) := by decide +kernel
theorem dJ5_append_3fe6f_10 : decode cJ5_append_3fe6f 10 = .ok (.aload_n 0, 1) := by decide +kernel
theorem dJ5_append_3fe6f_11 : decode cJ5_append_3fe6f 11 = .ok (.invokevirtual 83, 3) := by decide +kernel
theorem dJ5_append_3fe6f_14 : decode cJ5_append_3fe6f 14 = .ok (.ifCond .eq 31, 3) := by decide +kernel
theorem dJ5_append_3fe6f_17 : decode cJ5_append_3fe6f 17 = .ok (.iload_n 1, 1) := by decide +kernel
theorem dJ5_append_3fe6f_18 : decode cJ5_append_3fe6f 18 = .ok (.invokestatic 191, 3) := by decide +kernel
theorem dJ5_append_3fe6f_21 : decode cJ5_append_3fe6f 21 = .ok (.ifCond .eq 24, 3) := by decide +kernel
theorem dJ5_append_3fe6f_24 : decode cJ5_append_3fe6f 24 = .ok (.aload_n 0, 1) := by decide +kernel
theorem dJ5_append_3fe6f_25 : decode cJ5_append_3fe6f 25 = .ok (.getfield 15, 3) := by decide +kernel
theorem dJ5_append_3fe6f_28 : decode cJ5_append_3fe6f 28 = .ok (.aload_n 0, 1) := by decide +kernel
theorem dJ5_append_3fe6f_29 : decode cJ5_append_3fe6f 29 = .ok (.dup, 1) := by decide +kernel
theorem dJ5_append_3fe6f_30 : decode cJ5_append_3fe6f 30 = .ok (.getfield 79, 3) := by decide +kernel
theorem dJ5_append_3fe6f_33 : decode cJ5_append_3fe6f 33 = .ok (.dup_x1, 1) := by decide +kernel
theorem dJ5_append_3fe6f_34 : decode cJ5_append_3fe6f 34 = .ok (.iconst 1, 1) := by decide +kernel
theorem dJ5_append_3fe6f_35 : decode cJ5_append_3fe6f 35 = .ok (.iadd, 1) := by decide +kernel
theorem dJ5_append_3fe6f_36 : decode cJ5_append_3fe6f 36 = .ok (.putfield 79, 3) := by decide +kernel
theorem dJ5_append_3fe6f_39 : decode cJ5_append_3fe6f 39 = .ok (.iload_n 1, 1) := by decide +kernel
theorem dJ5_append_3fe6f_40 : decode cJ5_append_3fe6f 40 = .ok (.i2b, 1) := by decide +kernel
theorem dJ5_append_3fe6f_41 : decode cJ5_append_3fe6f 41 = .ok (.bastore, 1) := by decide +kernel
theorem dJ5_append_3fe6f_42 : decode cJ5_append_3fe6f 42 = .ok (.goto 33, 3) := by decide +kernel
theorem dJ5_append_3fe6f_45 : decode cJ5_append_3fe6f 45 = .ok (.aload_n 0, 1) := by decide +kernel
theorem dJ5_append_3fe6f_46 : decode cJ5_append_3fe6f 46 = .ok (.invokevirtual 83, 3) := by decide +kernel
theorem dJ5_append_3fe6f_49 : decode cJ5_append_3fe6f 49 = .ok (.ifCond .eq 7, 3) := by decide +kernel
theorem dJ5_append_3fe6f_52 : decode cJ5_append_3fe6f 52 = .ok (.aload_n 0, 1) := by decide +kernel
theorem dJ5_append_3fe6f_53 : decode cJ5_append_3fe6f 53 = .ok (.invokevirtual 195, 3) := by decide +kernel
theorem dJ5_append_3fe6f_56 : decode cJ5_append_3fe6f 56 = .ok (.aload_n 0, 1) := by decide +kernel
theorem dJ5_append_3fe6f_57 : decode cJ5_append_3fe6f 57 = .ok (.getfield 15, 3) := by decide +kernel
theorem dJ5_append_3fe6f_60 : decode cJ5_append_3fe6f 60 = .ok (.aload_n 0, 1) := by decide +kernel
theorem dJ5_append_3fe6f_61 : decode cJ5_append_3fe6f 61 = .ok (.dup, 1) := by decide +kernel
theorem dJ5_append_3fe6f_62 : decode cJ5_append_3fe6f 62 = .ok (.getfield 79, 3) := by decide +kernel
theorem dJ5_append_3fe6f_65 : decode cJ5_append_3fe6f 65 = .ok (.dup_x1, 1) := by decide +kernel
theorem dJ5_append_3fe6f_66 : decode cJ5_append_3fe6f 66 = .ok (.iconst 1, 1) := by decide +kernel
theorem dJ5_append_3fe6f_67 : decode cJ5_append_3fe6f 67 = .ok (.iadd, 1) := by decide +kernel
theorem dJ5_append_3fe6f_68 : decode cJ5_append_3fe6f 68 = .ok (.putfield 79, 3) := by decide +kernel
theorem dJ5_append_3fe6f_71 : decode cJ5_append_3fe6f 71 = .ok (.iload_n 1, 1) := by decide +kernel
theorem dJ5_append_3fe6f_72 : decode cJ5_append_3fe6f 72 = .ok (.invokestatic 197, 3) := by decide +kernel
theorem dJ5_append_3fe6f_75 : decode cJ5_append_3fe6f 75 = .ok (.aload_n 0, 1) := by decide +kernel
theorem dJ5_append_3fe6f_76 : decode cJ5_append_3fe6f 76 = .ok (.areturn, 1) := by decide +kernel
theorem dJ5_append_c97b9_0 : decode cJ5_append_c97b9 0 = .ok (.aload_n 0, 1) := by decide +kernel
theorem dJ5_append_c97b9_1 : decode cJ5_append_c97b9 1 = .ok (.getfield 79, 3) := by decide +kernel
theorem dJ5_append_c97b9_4 : decode cJ5_append_c97b9 4 = .ok (.istore_n 2, 1) := by decide +kernel
theorem dJ5_append_c97b9_5 : decode cJ5_append_c97b9 5 = .ok (.iload_n 2, 1) := by decide +kernel
theorem dJ5_append_c97b9_6 : decode cJ5_append_c97b9 6 = .ok (.iload_n 1, 1) := by decide +kernel
theorem dJ5_append_c97b9_7 : decode cJ5_append_c97b9 7 = .ok (.invokestatic 245, 3) := by decide +kernel
theorem dJ5_append_c97b9_10 : decode cJ5_append_c97b9 10 = .ok (.iadd, 1) := by decide +kernel
theorem dJ5_append_c97b9_11 : decode cJ5_append_c97b9 11 = .ok (.istore_n 3, 1) := by decide +kernel
theorem dJ5_append_c97b9_12 : decode cJ5_append_c97b9 12 = .ok (.aload_n 0, 1) := by decide +kernel
theorem dJ5_append_c97b9_13 : decode cJ5_append_c97b9 13 = .ok (.iload_n 3, 1) := by decide +kernel
theorem dJ5_append_c97b9_14 : decode cJ5_append_c97b9 14 = .ok (.invokevirtual 100, 3) := by decide +kernel
theorem dJ5_append_c97b9_17 : decode cJ5_append_c97b9 17 = .ok (.aload_n 0, 1) := by decide +kernel
theorem dJ5_append_c97b9_18 : decode cJ5_append_c97b9 18 = .ok (.invokevirtual 83, 3) := by decide +kernel
theorem dJ5_append_c97b9_21 : decode cJ5_append_c97b9 21 = .ok (.ifCond .eq 16, 3) := by decide +kernel
theorem dJ5_append_c97b9_24 : decode cJ5_append_c97b9 24 = .ok (.iload_n 1, 1) := by decide +kernel
theorem dJ5_append_c97b9_25 : decode cJ5_append_c97b9 25 = .ok (.iload_n 3, 1) := by decide +kernel
theorem dJ5_append_c97b9_26 : decode cJ5_append_c97b9 26 = .ok (.aload_n 0, 1) := by decide +kernel
theorem dJ5_append_c97b9_27 : decode cJ5_append_c97b9 27 = .ok (.getfield 15, 3) := by decide +kernel
theorem dJ5_append_c97b9_30 : decode cJ5_append_c97b9 30 = .ok (.invokestatic 248, 3) := by decide +kernel
theorem dJ5_append_c97b9_33 : decode cJ5_append_c97b9 33 = .ok (.pop, 1) := by decide +kernel
theorem dJ5_append_c97b9_34 : decode cJ5_append_c97b9 34 = .ok (.goto 14, 3) := by decide +kernel
theorem dJ5_append_c97b9_37 : decode cJ5_append_c97b9 37 = .ok (.iload_n 1, 1) := by decide +kernel
theorem dJ5_append_c97b9_38 : decode cJ5_append_c97b9 38 = .ok (.iload_n 2, 1) := by decide +kernel
theorem dJ5_append_c97b9_39 : decode cJ5_append_c97b9 39 = .ok (.iload_n 3, 1) := by decide +kernel
theorem dJ5_append_c97b9_40 : decode cJ5_append_c97b9 40 = .ok (.aload_n 0, 1) := by decide +kernel
theorem dJ5_append_c97b9_41 : decode cJ5_append_c97b9 41 = .ok (.getfield 15, 3) := by decide +kernel
theorem dJ5_append_c97b9_44 : decode cJ5_append_c97b9 44 = .ok (.invokestatic 251, 3) := by decide +kernel
theorem dJ5_append_c97b9_47 : decode cJ5_append_c97b9 47 = .ok (.pop, 1) := by decide +kernel
theorem dJ5_append_c97b9_48 : decode cJ5_append_c97b9 48 = .ok (.aload_n 0, 1) := by decide +kernel
theorem dJ5_append_c97b9_49 : decode cJ5_append_c97b9 49 = .ok (.iload_n 3, 1) := by decide +kernel
theorem dJ5_append_c97b9_50 : decode cJ5_append_c97b9 50 = .ok (.putfield 79, 3) := by decide +kernel
theorem dJ5_append_c97b9_53 : decode cJ5_append_c97b9 53 = .ok (.aload_n 0, 1) := by decide +kernel
theorem dJ5_append_c97b9_54 : decode cJ5_append_c97b9 54 = .ok (.areturn, 1) := by decide +kernel
theorem dJ5_getValue_6d5f1_0 : decode cJ5_getValue_6d5f1 0 = .ok (.aload_n 0, 1) := by decide +kernel
theorem dJ5_getValue_6d5f1_1 : decode cJ5_getValue_6d5f1 1 = .ok (.getfield 15, 3) := by decide +kernel
theorem dJ5_getValue_6d5f1_4 : decode cJ5_getValue_6d5f1 4 = .ok (.areturn, 1) := by decide +kernel
theorem dJ5_isLatin1_aae02_0 : decode cJ5_isLatin1_aae02 0 = .ok (.getstatic 18, 3) := by decide +kernel
theorem dJ5_isLatin1_aae02_3 : decode cJ5_isLatin1_aae02 3 = .ok (.ifCond .eq 14, 3) := by decide +kernel
theorem dJ5_isLatin1_aae02_6 : decode cJ5_isLatin1_aae02 6 = .ok (.aload_n 0, 1) := by decide +kernel
theorem dJ5_isLatin1_aae02_7 : decode cJ5_isLatin1_aae02 7 = .ok (.getfield 22, 3) := by decide +kernel
theorem dJ5_isLatin1_aae02_10 : decode cJ5_isLatin1_aae02 10 = .ok (.ifCond .ne 7, 3) := by decide +kernel
theorem dJ5_isLatin1_aae02_13 : decode cJ5_isLatin1_aae02 13 = .ok (.iconst 1, 1) := by decide +kernel
theorem dJ5_isLatin1_aae02_14 : decode cJ5_isLatin1_aae02 14 = .ok (.goto 4, 3) := by decide +kernel
theorem dJ5_isLatin1_aae02_17 : decode cJ5_isLatin1_aae02 17 = .ok (.iconst 0, 1) := by decide +kernel
theorem dJ5_isLatin1_aae02_18 : decode cJ5_isLatin1_aae02 18 = .ok (.ireturn, 1) := by decide +kernel
theorem dJ5_inflateIfNeededFor_a7421_0 : decode cJ5_inflateIfNeededFor_a7421 0 = .ok (.getstatic 18, 3) := by decide +kernel
theorem dJ5_inflateIfNeededFor_a7421_3 : decode cJ5_inflateIfNeededFor_a7421 3 = .ok (.ifCond .eq 18, 3) := by decide +kernel
theorem dJ5_inflateIfNeededFor_a7421_6 : decode cJ5_inflateIfNeededFor_a7421 6 = .ok (.aload_n 0, 1) := by decide +kernel
theorem dJ5_inflateIfNeededFor_a7421_7 : decode cJ5_inflateIfNeededFor_a7421 7 = .ok (.getfield 22, 3) := by decide +kernel
theorem dJ5_inflateIfNeededFor_a7421_10 : decode cJ5_inflateIfNeededFor_a7421 10 = .ok (.aload_n 1, 1) := by decide +kernel
theorem dJ5_inflateIfNeededFor_a7421_11 : decode cJ5_inflateIfNeededFor_a7421 11 = .ok (.invokevirtual 40, 3) := by decide +kernel
theorem dJ5_inflateIfNeededFor_a7421_14 : decode cJ5_inflateIfNeededFor_a7421 14 = .ok (.if_icmp .eq 7, 3) := by decide +kernel
theorem dJ5_inflateIfNeededFor_a7421_17 : decode cJ5_inflateIfNeededFor_a7421 17 = .ok (.aload_n 0, 1) := by decide +kernel
theorem dJ5_inflateIfNeededFor_a7421_18 : decode cJ5_inflateIfNeededFor_a7421 18 = .ok (.invokevirtual 195, 3) := by decide +kernel
theorem dJ5_inflateIfNeededFor_a7421_21 : decode cJ5_inflateIfNeededFor_a7421 21 = .ok (.return_, 1) := by decide +kernel
theorem dJ5_putStringAt_47b60_0 : decode cJ5_putStringAt_47b60 0 = .ok (.aload_n 0, 1) := by decide +kernel
theorem dJ5_putStringAt_47b60_1 : decode cJ5_putStringAt_47b60 1 = .ok (.aload_n 2, 1) := by decide +kernel
theorem dJ5_putStringAt_47b60_2 : decode cJ5_putStringAt_47b60 2 = .ok (.invokevirtual 397, 3) := by decide +kernel
theorem dJ5_putStringAt_47b60_5 : decode cJ5_putStringAt_47b60 5 = .ok (.aload_n 2, 1) := by decide +kernel
theorem dJ5_putStringAt_47b60_6 : decode cJ5_putStringAt_47b60 6 = .ok (.aload_n 0, 1) := by decide +kernel
theorem dJ5_putStringAt_47b60_7 : decode cJ5_putStringAt_47b60 7 = .ok (.getfield 15, 3) := by decide +kernel
theorem dJ5_putStringAt_47b60_10 : decode cJ5_putStringAt_47b60 10 = .ok (.iload_n 1, 1) := by decide +kernel
theorem dJ5_putStringAt_47b60_11 : decode cJ5_putStringAt_47b60 11 = .ok (.aload_n 0, 1) := by decide +kernel
theorem dJ5_putStringAt_47b60_12 : decode cJ5_putStringAt_47b60 12 = .ok (.getfield 22, 3) := by decide +kernel
theorem dJ5_putStringAt_47b60_15 : decode cJ5_putStringAt_47b60 15 = .ok (.invokevirtual 399, 3) := by decide +kernel
theorem dJ5_putStringAt_47b60_18 : decode cJ5_putStringAt_47b60 18 = .ok (.return_, 1) := by decide +kernel
theorem dJx00060_init_a7421_0 : decode cJx00060_init_a7421 0 = .ok (.aload_n 0, 1) := by decide +kernel
theorem dJx00060_init_a7421_1 : decode cJx00060_init_a7421 1 = .ok (.aload_n 1, 1) := by decide +kernel
theorem dJx00060_init_a7421_2 : decode cJx00060_init_a7421 2 = .ok (.invokespecial 7, 3) := by decide +kernel
theorem dJx00060_init_a7421_5 : decode cJx00060_init_a7421 5 = .ok (.return_, 1) := by decide +kernel
theorem dJx00060_init_d00df_0 : decode cJx00060_init_d00df 0 = .ok (.aload_n 0, 1) := by decide +kernel
theorem dJx00060_init_d00df_1 : decode cJx00060_init_d00df 1 = .ok (.new 10, 3) := by decide +kernel
theorem dJx00060_init_d00df_4 : decode cJx00060_init_d00df 4 = .ok (.dup, 1) := by decide +kernel
theorem dJx00060_init_d00df_5 : decode cJx00060_init_d00df 5 = .ok (.invokespecial 12, 3) := by decide +kernel
theorem dJx00060_init_d00df_8 : decode cJx00060_init_d00df 8 = .ok (.ldc 13, 2) := by decide +kernel
theorem dJx00060_init_d00df_10 : decode cJx00060_init_d00df 10 = .ok (.invokevirtual 15, 3) := by decide +kernel
theorem dJx00060_init_d00df_13 : decode cJx00060_init_d00df 13 = .ok (.iload_n 1, 1) := by decide +kernel
theorem dJx00060_init_d00df_14 : decode cJx00060_init_d00df 14 = .ok (.invokevirtual 19, 3) := by decide +kernel
theorem dJx00060_init_d00df_17 : decode cJx00060_init_d00df 17 = .ok (.invokevirtual 22, 3) := by decide +kernel
theorem dJx00060_init_d00df_20 : decode cJx00060_init_d00df 20 = .ok (.invokespecial 7, 3) := by decide +kernel
theorem dJx00060_init_d00df_23 : decode cJx00060_init_d00df 23 = .ok (.return_, 1) := by decide +kernel
theorem dJ6_getChars_ba4f3_0 : decode cJ6_getChars_ba4f3 0 = .ok (.iload_n 1, 1) := by decide +kernel
theorem dJ6_getChars_ba4f3_1 : decode cJ6_getChars_ba4f3 1 = .ok (.istore 5, 2) := by decide +kernel
theorem dJ6_getChars_ba4f3_3 : decode cJ6_getChars_ba4f3 3 = .ok (.iload_n 0, 1) := by decide +kernel
theorem dJ6_getChars_ba4f3_4 : decode cJ6_getChars_ba4f3 4 = .ok (.ifCond .ge 7, 3) := by decide +kernel
theorem dJ6_getChars_ba4f3_7 : decode cJ6_getChars_ba4f3 7 = .ok (.iconst 1, 1) := by decide +kernel
theorem dJ6_getChars_ba4f3_8 : decode cJ6_getChars_ba4f3 8 = .ok (.goto 4, 3) := by decide +kernel
theorem dJ6_getChars_ba4f3_11 : decode cJ6_getChars_ba4f3 11 = .ok (.iconst 0, 1) := by decide +kernel
theorem dJ6_getChars_ba4f3_12 : decode cJ6_getChars_ba4f3 12 = .ok (.istore 6, 2) := by decide +kernel
theorem dJ6_getChars_ba4f3_14 : decode cJ6_getChars_ba4f3 14 = .ok (.iload 6, 2) := by decide +kernel
theorem dJ6_getChars_ba4f3_16 : decode cJ6_getChars_ba4f3 16 = .ok (.ifCond .ne 6, 3) := by decide +kernel
theorem dJ6_getChars_ba4f3_19 : decode cJ6_getChars_ba4f3 19 = .ok (.iload_n 0, 1) := by decide +kernel
theorem dJ6_getChars_ba4f3_20 : decode cJ6_getChars_ba4f3 20 = .ok (.ineg, 1) := by decide +kernel
theorem dJ6_getChars_ba4f3_21 : decode cJ6_getChars_ba4f3 21 = .ok (.istore_n 0, 1) := by decide +kernel
theorem dJ6_getChars_ba4f3_22 : decode cJ6_getChars_ba4f3 22 = .ok (.iload_n 0, 1) := by decide +kernel
theorem dJ6_getChars_ba4f3_23 : decode cJ6_getChars_ba4f3 23 = .ok (.bipush (-100), 2) := by decide +kernel
theorem dJ6_getChars_ba4f3_25 : decode cJ6_getChars_ba4f3 25 = .ok (.if_icmp .gt 47, 3) := by decide +kernel
theorem dJ6_getChars_ba4f3_28 : decode cJ6_getChars_ba4f3 28 = .ok (.iload_n 0, 1) := by decide +kernel
theorem dJ6_getChars_ba4f3_29 : decode cJ6_getChars_ba4f3 29 = .ok (.bipush 100, 2) := by decide +kernel
theorem dJ6_getChars_ba4f3_31 : decode cJ6_getChars_ba4f3 31 = .ok (.idiv, 1) := by decide +kernel
theorem dJ6_getChars_ba4f3_32 : decode cJ6_getChars_ba4f3 32 = .ok (.istore_n 3, 1) := by decide +kernel
theorem dJ6_getChars_ba4f3_33 : decode cJ6_getChars_ba4f3 33 = .ok (.iload_n 3, 1) := by decide +kernel
theorem dJ6_getChars_ba4f3_34 : decode cJ6_getChars_ba4f3 34 = .ok (.bipush 100, 2) := by decide +kernel
theorem dJ6_getChars_ba4f3_36 : decode cJ6_getChars_ba4f3 36 = .ok (.imul, 1) := by decide +kernel
theorem dJ6_getChars_ba4f3_37 : decode cJ6_getChars_ba4f3 37 = .ok (.iload_n 0, 1) := by decide +kernel
theorem dJ6_getChars_ba4f3_38 : decode cJ6_getChars_ba4f3 38 = .ok (.isub, 1) := by decide +kernel
theorem dJ6_getChars_ba4f3_39 : decode cJ6_getChars_ba4f3 39 = .ok (.istore 4, 2) := by decide +kernel
theorem dJ6_getChars_ba4f3_41 : decode cJ6_getChars_ba4f3 41 = .ok (.iload_n 3, 1) := by decide +kernel
theorem dJ6_getChars_ba4f3_42 : decode cJ6_getChars_ba4f3 42 = .ok (.istore_n 0, 1) := by decide +kernel
theorem dJ6_getChars_ba4f3_43 : decode cJ6_getChars_ba4f3 43 = .ok (.aload_n 2, 1) := by decide +kernel
theorem dJ6_getChars_ba4f3_44 : decode cJ6_getChars_ba4f3 44 = .ok (.iinc 5 (-1), 3) := by decide +kernel
theorem dJ6_getChars_ba4f3_47 : decode cJ6_getChars_ba4f3 47 = .ok (.iload 5, 2) := by decide +kernel
theorem dJ6_getChars_ba4f3_49 : decode cJ6_getChars_ba4f3 49 = .ok (.getstatic 83, 3) := by decide +kernel
theorem dJ6_getChars_ba4f3_52 : decode cJ6_getChars_ba4f3 52 = .ok (.iload 4, 2) := by decide +kernel
theorem dJ6_getChars_ba4f3_54 : decode cJ6_getChars_ba4f3 54 = .ok (.baload, 1) := by decide +kernel
theorem dJ6_getChars_ba4f3_55 : decode cJ6_getChars_ba4f3 55 = .ok (.bastore, 1) := by decide +kernel
theorem dJ6_getChars_ba4f3_56 : decode cJ6_getChars_ba4f3 56 = .ok (.aload_n 2, 1) := by decide +kernel
theorem dJ6_getChars_ba4f3_57 : decode cJ6_getChars_ba4f3 57 = .ok (.iinc 5 (-1), 3) := by decide +kernel
theorem dJ6_getChars_ba4f3_60 : decode cJ6_getChars_ba4f3 60 = .ok (.iload 5, 2) := by decide +kernel
theorem dJ6_getChars_ba4f3_62 : decode cJ6_getChars_ba4f3 62 = .ok (.getstatic 87, 3) := by decide +kernel
theorem dJ6_getChars_ba4f3_65 : decode cJ6_getChars_ba4f3 65 = .ok (.iload 4, 2) := by decide +kernel
theorem dJ6_getChars_ba4f3_67 : decode cJ6_getChars_ba4f3 67 = .ok (.baload, 1) := by decide +kernel
theorem dJ6_getChars_ba4f3_68 : decode cJ6_getChars_ba4f3 68 = .ok (.bastore, 1) := by decide +kernel
theorem dJ6_getChars_ba4f3_69 : decode cJ6_getChars_ba4f3 69 = .ok (.goto (-47), 3) := by decide +kernel
theorem dJ6_getChars_ba4f3_72 : decode cJ6_getChars_ba4f3 72 = .ok (.aload_n 2, 1) := by decide +kernel
theorem dJ6_getChars_ba4f3_73 : decode cJ6_getChars_ba4f3 73 = .ok (.iinc 5 (-1), 3) := by decide +kernel
theorem dJ6_getChars_ba4f3_76 : decode cJ6_getChars_ba4f3 76 = .ok (.iload 5, 2) := by decide +kernel
theorem dJ6_getChars_ba4f3_78 : decode cJ6_getChars_ba4f3 78 = .ok (.getstatic 83, 3) := by decide +kernel
theorem dJ6_getChars_ba4f3_81 : decode cJ6_getChars_ba4f3 81 = .ok (.iload_n 0, 1) := by decide +kernel
theorem dJ6_getChars_ba4f3_82 : decode cJ6_getChars_ba4f3 82 = .ok (.ineg, 1) := by decide +kernel
theorem dJ6_getChars_ba4f3_83 : decode cJ6_getChars_ba4f3 83 = .ok (.baload, 1) := by decide +kernel
theorem dJ6_getChars_ba4f3_84 : decode cJ6_getChars_ba4f3 84 = .ok (.bastore, 1) := by decide +kernel
theorem dJ6_getChars_ba4f3_85 : decode cJ6_getChars_ba4f3 85 = .ok (.iload_n 0, 1) := by decide +kernel
theorem dJ6_getChars_ba4f3_86 : decode cJ6_getChars_ba4f3 86 = .ok (.bipush (-9), 2) := by decide +kernel
theorem dJ6_getChars_ba4f3_88 : decode cJ6_getChars_ba4f3 88 = .ok (.if_icmp .ge 16, 3) := by decide +kernel
theorem dJ6_getChars_ba4f3_91 : decode cJ6_getChars_ba4f3 91 = .ok (.aload_n 2, 1) := by decide +kernel
theorem dJ6_getChars_ba4f3_92 : decode cJ6_getChars_ba4f3 92 = .ok (.iinc 5 (-1), 3) := by decide +kernel
theorem dJ6_getChars_ba4f3_95 : decode cJ6_getChars_ba4f3 95 = .ok (.iload 5, 2) := by decide +kernel
theorem dJ6_getChars_ba4f3_97 : decode cJ6_getChars_ba4f3 97 = .ok (.getstatic 87, 3) := by decide +kernel
theorem dJ6_getChars_ba4f3_100 : decode cJ6_getChars_ba4f3 100 = .ok (.iload_n 0, 1) := by decide +kernel
theorem dJ6_getChars_ba4f3_101 : decode cJ6_getChars_ba4f3 101 = .ok (.ineg, 1) := by decide +kernel
theorem dJ6_getChars_ba4f3_102 : decode cJ6_getChars_ba4f3 102 = .ok (.baload, 1) := by decide +kernel
theorem dJ6_getChars_ba4f3_103 : decode cJ6_getChars_ba4f3 103 = .ok (.bastore, 1) := by decide +kernel
theorem dJ6_getChars_ba4f3_104 : decode cJ6_getChars_ba4f3 104 = .ok (.iload 6, 2) := by decide +kernel
theorem dJ6_getChars_ba4f3_106 : decode cJ6_getChars_ba4f3 106 = .ok (.ifCond .eq 12, 3) := by decide +kernel
theorem dJ6_getChars_ba4f3_109 : decode cJ6_getChars_ba4f3 109 = .ok (.aload_n 2, 1) := by decide +kernel
theorem dJ6_getChars_ba4f3_110 : decode cJ6_getChars_ba4f3 110 = .ok (.iinc 5 (-1), 3) := by decide +kernel
theorem dJ6_getChars_ba4f3_113 : decode cJ6_getChars_ba4f3 113 = .ok (.iload 5, 2) := by decide +kernel
theorem dJ6_getChars_ba4f3_115 : decode cJ6_getChars_ba4f3 115 = .ok (.bipush 45, 2) := by decide +kernel
theorem dJ6_getChars_ba4f3_117 : decode cJ6_getChars_ba4f3 117 = .ok (.bastore, 1) := by decide +kernel
theorem dJ6_getChars_ba4f3_118 : decode cJ6_getChars_ba4f3 118 = .ok (.iload 5, 2) := by decide +kernel
theorem dJ6_getChars_ba4f3_120 : decode cJ6_getChars_ba4f3 120 = .ok (.ireturn, 1) := by decide +kernel
theorem dJ6_stringSize_0f7a4_0 : decode cJ6_stringSize_0f7a4 0 = .ok (.iconst 1, 1) := by decide +kernel
theorem dJ6_stringSize_0f7a4_1 : decode cJ6_stringSize_0f7a4 1 = .ok (.istore_n 1, 1) := by decide +kernel
theorem dJ6_stringSize_0f7a4_2 : decode cJ6_stringSize_0f7a4 2 = .ok (.iload_n 0, 1) := by decide +kernel
theorem dJ6_stringSize_0f7a4_3 : decode cJ6_stringSize_0f7a4 3 = .ok (.ifCond .lt 8, 3) := by decide +kernel
theorem dJ6_stringSize_0f7a4_6 : decode cJ6_stringSize_0f7a4 6 = .ok (.iconst 0, 1) := by decide +kernel
theorem dJ6_stringSize_0f7a4_7 : decode cJ6_stringSize_0f7a4 7 = .ok (.istore_n 1, 1) := by decide +kernel
theorem dJ6_stringSize_0f7a4_8 : decode cJ6_stringSize_0f7a4 8 = .ok (.iload_n 0, 1) := by decide +kernel
theorem dJ6_stringSize_0f7a4_9 : decode cJ6_stringSize_0f7a4 9 = .ok (.ineg, 1) := by decide +kernel
theorem dJ6_stringSize_0f7a4_10 : decode cJ6_stringSize_0f7a4 10 = .ok (.istore_n 0, 1) := by decide +kernel
theorem dJ6_stringSize_0f7a4_11 : decode cJ6_stringSize_0f7a4 11 = .ok (.bipush (-10), 2) := by decide +kernel
theorem dJ6_stringSize_0f7a4_13 : decode cJ6_stringSize_0f7a4 13 = .ok (.istore_n 2, 1) := by decide +kernel
theorem dJ6_stringSize_0f7a4_14 : decode cJ6_stringSize_0f7a4 14 = .ok (.iconst 1, 1) := by decide +kernel
theorem dJ6_stringSize_0f7a4_15 : decode cJ6_stringSize_0f7a4 15 = .ok (.istore_n 3, 1) := by decide +kernel
theorem dJ6_stringSize_0f7a4_16 : decode cJ6_stringSize_0f7a4 16 = .ok (.iload_n 3, 1) := by decide +kernel
theorem dJ6_stringSize_0f7a4_17 : decode cJ6_stringSize_0f7a4 17 = .ok (.bipush 10, 2) := by decide +kernel
theorem dJ6_stringSize_0f7a4_19 : decode cJ6_stringSize_0f7a4 19 = .ok (.if_icmp .ge 23, 3) := by decide +kernel
theorem dJ6_stringSize_0f7a4_22 : decode cJ6_stringSize_0f7a4 22 = .ok (.iload_n 0, 1) := by decide +kernel
theorem dJ6_stringSize_0f7a4_23 : decode cJ6_stringSize_0f7a4 23 = .ok (.iload_n 2, 1) := by decide +kernel
theorem dJ6_stringSize_0f7a4_24 : decode cJ6_stringSize_0f7a4 24 = .ok (.if_icmp .le 7, 3) := by decide +kernel
theorem dJ6_stringSize_0f7a4_27 : decode cJ6_stringSize_0f7a4 27 = .ok (.iload_n 3, 1) := by decide +kernel
theorem dJ6_stringSize_0f7a4_28 : decode cJ6_stringSize_0f7a4 28 = .ok (.iload_n 1, 1) := by decide +kernel
theorem dJ6_stringSize_0f7a4_29 : decode cJ6_stringSize_0f7a4 29 = .ok (.iadd, 1) := by decide +kernel
theorem dJ6_stringSize_0f7a4_30 : decode cJ6_stringSize_0f7a4 30 = .ok (.ireturn, 1) := by decide +kernel
theorem dJ6_stringSize_0f7a4_31 : decode cJ6_stringSize_0f7a4 31 = .ok (.bipush 10, 2) := by decide +kernel
theorem dJ6_stringSize_0f7a4_33 : decode cJ6_stringSize_0f7a4 33 = .ok (.iload_n 2, 1) := by decide +kernel
theorem dJ6_stringSize_0f7a4_34 : decode cJ6_stringSize_0f7a4 34 = .ok (.imul, 1) := by decide +kernel
theorem dJ6_stringSize_0f7a4_35 : decode cJ6_stringSize_0f7a4 35 = .ok (.istore_n 2, 1) := by decide +kernel
theorem dJ6_stringSize_0f7a4_36 : decode cJ6_stringSize_0f7a4 36 = .ok (.iinc 3 1, 3) := by decide +kernel
theorem dJ6_stringSize_0f7a4_39 : decode cJ6_stringSize_0f7a4 39 = .ok (.goto (-23), 3) := by decide +kernel
theorem dJ6_stringSize_0f7a4_42 : decode cJ6_stringSize_0f7a4 42 = .ok (.bipush 10, 2) := by decide +kernel
theorem dJ6_stringSize_0f7a4_44 : decode cJ6_stringSize_0f7a4 44 = .ok (.iload_n 1, 1) := by decide +kernel
theorem dJ6_stringSize_0f7a4_45 : decode cJ6_stringSize_0f7a4 45 = .ok (.iadd, 1) := by decide +kernel
theorem dJ6_stringSize_0f7a4_46 : decode cJ6_stringSize_0f7a4 46 = .ok (.ireturn, 1) := by decide +kernel
theorem dJ9_abs_0f7a4_0 : decode cJ9_abs_0f7a4 0 = .ok (.iload_n 0, 1) := by decide +kernel
theorem dJ9_abs_0f7a4_1 : decode cJ9_abs_0f7a4 1 = .ok (.ifCond .ge 8, 3) := by decide +kernel
theorem dJ9_abs_0f7a4_4 : decode cJ9_abs_0f7a4 4 = .ok (.iload_n 0, 1) := by decide +kernel
theorem dJ9_abs_0f7a4_5 : decode cJ9_abs_0f7a4 5 = .ok (.ineg, 1) := by decide +kernel
theorem dJ9_abs_0f7a4_6 : decode cJ9_abs_0f7a4 6 = .ok (.goto 4, 3) := by decide +kernel
theorem dJ9_abs_0f7a4_9 : decode cJ9_abs_0f7a4 9 = .ok (.iload_n 0, 1) := by decide +kernel
theorem dJ9_abs_0f7a4_10 : decode cJ9_abs_0f7a4 10 = .ok (.ireturn, 1) := by decide +kernel
theorem dJ9_max_7cf53_0 : decode cJ9_max_7cf53 0 = .ok (.iload_n 0, 1) := by decide +kernel
theorem dJ9_max_7cf53_1 : decode cJ9_max_7cf53 1 = .ok (.iload_n 1, 1) := by decide +kernel
theorem dJ9_max_7cf53_2 : decode cJ9_max_7cf53 2 = .ok (.if_icmp .lt 7, 3) := by decide +kernel
theorem dJ9_max_7cf53_5 : decode cJ9_max_7cf53 5 = .ok (.iload_n 0, 1) := by decide +kernel
theorem dJ9_max_7cf53_6 : decode cJ9_max_7cf53 6 = .ok (.goto 4, 3) := by decide +kernel
theorem dJ9_max_7cf53_9 : decode cJ9_max_7cf53 9 = .ok (.iload_n 1, 1) := by decide +kernel
theorem dJ9_max_7cf53_10 : decode cJ9_max_7cf53 10 = .ok (.ireturn, 1) := by decide +kernel
theorem dJ9_min_7cf53_0 : decode cJ9_min_7cf53 0 = .ok (.iload_n 0, 1) := by decide +kernel
theorem dJ9_min_7cf53_1 : decode cJ9_min_7cf53 1 = .ok (.iload_n 1, 1) := by decide +kernel
theorem dJ9_min_7cf53_2 : decode cJ9_min_7cf53 2 = .ok (.if_icmp .gt 7, 3) := by decide +kernel
theorem dJ9_min_7cf53_5 : decode cJ9_min_7cf53 5 = .ok (.iload_n 0, 1) := by decide +kernel
theorem dJ9_min_7cf53_6 : decode cJ9_min_7cf53 6 = .ok (.goto 4, 3) := by decide +kernel
theorem dJ9_min_7cf53_9 : decode cJ9_min_7cf53 9 = .ok (.iload_n 1, 1) := by decide +kernel
theorem dJ9_min_7cf53_10 : decode cJ9_min_7cf53 10 = .ok (.ireturn, 1) := by decide +kernel
theorem dJ0_init_81219_0 : decode cJ0_init_81219 0 = .ok (.aload_n 0, 1) := by decide +kernel
theorem dJ0_init_81219_1 : decode cJ0_init_81219 1 = .ok (.aload_n 1, 1) := by decide +kernel
theorem dJ0_init_81219_2 : decode cJ0_init_81219 2 = .ok (.aconst_null, 1) := by decide +kernel
theorem dJ0_init_81219_3 : decode cJ0_init_81219 3 = .ok (.invokespecial 489, 3) := by decide +kernel
theorem dJ0_init_81219_6 : decode cJ0_init_81219 6 = .ok (.return_, 1) := by decide +kernel
theorem dJ0_length_8abf5_0 : decode cJ0_length_8abf5 0 = .ok (.aload_n 0, 1) := by decide +kernel
theorem dJ0_length_8abf5_1 : decode cJ0_length_8abf5 1 = .ok (.getfield 9, 3) := by decide +kernel
theorem dJ0_length_8abf5_4 : decode cJ0_length_8abf5 4 = .ok (.arraylength, 1) := by decide +kernel
theorem dJ0_length_8abf5_5 : decode cJ0_length_8abf5 5 = .ok (.aload_n 0, 1) := by decide +kernel
theorem dJ0_length_8abf5_6 : decode cJ0_length_8abf5 6 = .ok (.invokevirtual 335, 3) := by decide +kernel
theorem dJ0_length_8abf5_9 : decode cJ0_length_8abf5 9 = .ok (.ishr, 1) := by decide +kernel
theorem dJ0_length_8abf5_10 : decode cJ0_length_8abf5 10 = .ok (.ireturn, 1) := by decide +kernel
theorem dJ0_charAt_5068e_0 : decode cJ0_charAt_5068e 0 = .ok (.aload_n 0, 1) := by decide +kernel
theorem dJ0_charAt_5068e_1 : decode cJ0_charAt_5068e 1 = .ok (.invokevirtual 492, 3) := by decide +kernel
theorem dJ0_charAt_5068e_4 : decode cJ0_charAt_5068e 4 = .ok (.ifCond .eq 12, 3) := by decide +kernel
theorem dJ0_charAt_5068e_7 : decode cJ0_charAt_5068e 7 = .ok (.aload_n 0, 1) := by decide +kernel
theorem dJ0_charAt_5068e_8 : decode cJ0_charAt_5068e 8 = .ok (.getfield 9, 3) := by decide +kernel
theorem dJ0_charAt_5068e_11 : decode cJ0_charAt_5068e 11 = .ok (.iload_n 1, 1) := by decide +kernel
theorem dJ0_charAt_5068e_12 : decode cJ0_charAt_5068e 12 = .ok (.invokestatic 495, 3) := by decide +kernel
theorem dJ0_charAt_5068e_15 : decode cJ0_charAt_5068e 15 = .ok (.ireturn, 1) := by decide +kernel
theorem dJ0_charAt_5068e_16 : decode cJ0_charAt_5068e 16 = .ok (.aload_n 0, 1) := by decide +kernel
theorem dJ0_charAt_5068e_17 : decode cJ0_charAt_5068e 17 = .ok (.getfield 9, 3) := by decide +kernel
theorem dJ0_charAt_5068e_20 : decode cJ0_charAt_5068e 20 = .ok (.iload_n 1, 1) := by decide +kernel
theorem dJ0_charAt_5068e_21 : decode cJ0_charAt_5068e 21 = .ok (.invokestatic 498, 3) := by decide +kernel
theorem dJ0_charAt_5068e_24 : decode cJ0_charAt_5068e 24 = .ok (.ireturn, 1) := by decide +kernel
theorem dJ0_getBytes_840e7_0 : decode cJ0_getBytes_840e7 0 = .ok (.aload_n 0, 1) := by decide +kernel
theorem dJ0_getBytes_840e7_1 : decode cJ0_getBytes_840e7 1 = .ok (.invokevirtual 335, 3) := by decide +kernel
theorem dJ0_getBytes_840e7_4 : decode cJ0_getBytes_840e7 4 = .ok (.iload_n 3, 1) := by decide +kernel
theorem dJ0_getBytes_840e7_5 : decode cJ0_getBytes_840e7 5 = .ok (.if_icmp .ne 23, 3) := by decide +kernel
theorem dJ0_getBytes_840e7_8 : decode cJ0_getBytes_840e7 8 = .ok (.aload_n 0, 1) := by decide +kernel
theorem dJ0_getBytes_840e7_9 : decode cJ0_getBytes_840e7 9 = .ok (.getfield 9, 3) := by decide +kernel
theorem dJ0_getBytes_840e7_12 : decode cJ0_getBytes_840e7 12 = .ok (.iconst 0, 1) := by decide +kernel
theorem dJ0_getBytes_840e7_13 : decode cJ0_getBytes_840e7 13 = .ok (.aload_n 1, 1) := by decide +kernel
theorem dJ0_getBytes_840e7_14 : decode cJ0_getBytes_840e7 14 = .ok (.iload_n 2, 1) := by decide +kernel
theorem dJ0_getBytes_840e7_15 : decode cJ0_getBytes_840e7 15 = .ok (.iload_n 3, 1) := by decide +kernel
theorem dJ0_getBytes_840e7_16 : decode cJ0_getBytes_840e7 16 = .ok (.ishl, 1) := by decide +kernel
theorem dJ0_getBytes_840e7_17 : decode cJ0_getBytes_840e7 17 = .ok (.aload_n 0, 1) := by decide +kernel
theorem dJ0_getBytes_840e7_18 : decode cJ0_getBytes_840e7 18 = .ok (.getfield 9, 3) := by decide +kernel
theorem dJ0_getBytes_840e7_21 : decode cJ0_getBytes_840e7 21 = .ok (.arraylength, 1) := by decide +kernel
theorem dJ0_getBytes_840e7_22 : decode cJ0_getBytes_840e7 22 = .ok (.invokestatic 212, 3) := by decide +kernel
theorem dJ0_getBytes_840e7_25 : decode cJ0_getBytes_840e7 25 = .ok (.goto 18, 3) := by decide +kernel
theorem dJ0_getBytes_840e7_28 : decode cJ0_getBytes_840e7 28 = .ok (.aload_n 0, 1) := by decide +kernel
theorem dJ0_getBytes_840e7_29 : decode cJ0_getBytes_840e7 29 = .ok (.getfield 9, 3) := by decide +kernel
theorem dJ0_getBytes_840e7_32 : decode cJ0_getBytes_840e7 32 = .ok (.iconst 0, 1) := by decide +kernel
theorem dJ0_getBytes_840e7_33 : decode cJ0_getBytes_840e7 33 = .ok (.aload_n 1, 1) := by decide +kernel
theorem dJ0_getBytes_840e7_34 : decode cJ0_getBytes_840e7 34 = .ok (.iload_n 2, 1) := by decide +kernel
theorem dJ0_getBytes_840e7_35 : decode cJ0_getBytes_840e7 35 = .ok (.aload_n 0, 1) := by decide +kernel
theorem dJ0_getBytes_840e7_36 : decode cJ0_getBytes_840e7 36 = .ok (.getfield 9, 3) := by decide +kernel
theorem dJ0_getBytes_840e7_39 : decode cJ0_getBytes_840e7 39 = .ok (.arraylength, 1) := by decide +kernel
theorem dJ0_getBytes_840e7_40 : decode cJ0_getBytes_840e7 40 = .ok (.invokestatic 106, 3) := by decide +kernel
theorem dJ0_getBytes_840e7_43 : decode cJ0_getBytes_840e7 43 = .ok (.return_, 1) := by decide +kernel
theorem dJ0_init_db425_0 : decode cJ0_init_db425 0 = .ok (.aload_n 0, 1) := by decide +kernel
theorem dJ0_init_db425_1 : decode cJ0_init_db425 1 = .ok (.invokespecial 1, 3) := by decide +kernel
theorem dJ0_init_db425_4 : decode cJ0_init_db425 4 = .ok (.aload_n 1, 1) := by decide +kernel
theorem dJ0_init_db425_5 : decode cJ0_init_db425 5 = .ok (.invokevirtual 552, 3) := by decide +kernel
theorem dJ0_init_db425_8 : decode cJ0_init_db425 8 = .ok (.astore_n 3, 1) := by decide +kernel
theorem dJ0_init_db425_9 : decode cJ0_init_db425 9 = .ok (.aload_n 1, 1) := by decide +kernel
theorem dJ0_init_db425_10 : decode cJ0_init_db425 10 = .ok (.invokevirtual 549, 3) := by decide +kernel
theorem dJ0_init_db425_13 : decode cJ0_init_db425 13 = .ok (.istore 4, 2) := by decide +kernel
theorem dJ0_init_db425_15 : decode cJ0_init_db425 15 = .ok (.aload_n 1, 1) := by decide +kernel
theorem dJ0_init_db425_16 : decode cJ0_init_db425 16 = .ok (.invokevirtual 1047, 3) := by decide +kernel
theorem dJ0_init_db425_19 : decode cJ0_init_db425 19 = .ok (.ifCond .eq 22, 3) := by decide +kernel
theorem dJ0_init_db425_22 : decode cJ0_init_db425 22 = .ok (.aload_n 0, 1) := by decide +kernel
theorem dJ0_init_db425_23 : decode cJ0_init_db425 23 = .ok (.iconst 0, 1) := by decide +kernel
theorem dJ0_init_db425_24 : decode cJ0_init_db425 24 = .ok (.putfield 15, 3) := by decide +kernel
theorem dJ0_init_db425_27 : decode cJ0_init_db425 27 = .ok (.aload_n 0, 1) := by decide +kernel
theorem dJ0_init_db425_28 : decode cJ0_init_db425 28 = .ok (.aload_n 3, 1) := by decide +kernel
theorem dJ0_init_db425_29 : decode cJ0_init_db425 29 = .ok (.iconst 0, 1) := by decide +kernel
theorem dJ0_init_db425_30 : decode cJ0_init_db425 30 = .ok (.iload 4, 2) := by decide +kernel
theorem dJ0_init_db425_32 : decode cJ0_init_db425 32 = .ok (.invokestatic 54, 3) := by decide +kernel
theorem dJ0_init_db425_35 : decode cJ0_init_db425 35 = .ok (.putfield 9, 3) := by decide +kernel
theorem dJ0_init_db425_38 : decode cJ0_init_db425 38 = .ok (.goto 59, 3) := by decide +kernel
theorem dJ0_init_db425_41 : decode cJ0_init_db425 41 = .ok (.getstatic 38, 3) := by decide +kernel
theorem dJ0_init_db425_44 : decode cJ0_init_db425 44 = .ok (.ifCond .eq 35, 3) := by decide +kernel
theorem dJ0_init_db425_47 : decode cJ0_init_db425 47 = .ok (.aload_n 1, 1) := by decide +kernel
theorem dJ0_init_db425_48 : decode cJ0_init_db425 48 = .ok (.getfield 1048, 3) := by decide +kernel
theorem dJ0_init_db425_51 : decode cJ0_init_db425 51 = .ok (.ifCond .eq 28, 3) := by decide +kernel
theorem dJ0_init_db425_54 : decode cJ0_init_db425 54 = .ok (.aload_n 0, 1) := by decide +kernel
theorem dJ0_init_db425_55 : decode cJ0_init_db425 55 = .ok (.aload_n 3, 1) := by decide +kernel
theorem dJ0_init_db425_56 : decode cJ0_init_db425 56 = .ok (.iconst 0, 1) := by decide +kernel
theorem dJ0_init_db425_57 : decode cJ0_init_db425 57 = .ok (.iload 4, 2) := by decide +kernel
theorem dJ0_init_db425_59 : decode cJ0_init_db425 59 = .ok (.invokestatic 1051, 3) := by decide +kernel
theorem dJ0_init_db425_62 : decode cJ0_init_db425 62 = .ok (.putfield 9, 3) := by decide +kernel
theorem dJ0_init_db425_65 : decode cJ0_init_db425 65 = .ok (.aload_n 0, 1) := by decide +kernel
theorem dJ0_init_db425_66 : decode cJ0_init_db425 66 = .ok (.aload_n 0, 1) := by decide +kernel
theorem dJ0_init_db425_67 : decode cJ0_init_db425 67 = .ok (.getfield 9, 3) := by decide +kernel
theorem dJ0_init_db425_70 : decode cJ0_init_db425 70 = .ok (.iload 4, 2) := by decide +kernel
theorem dJ0_init_db425_72 : decode cJ0_init_db425 72 = .ok (.invokestatic 47, 3) := by decide +kernel
theorem dJ0_init_db425_75 : decode cJ0_init_db425 75 = .ok (.putfield 15, 3) := by decide +kernel
theorem dJ0_init_db425_78 : decode cJ0_init_db425 78 = .ok (.return_, 1) := by decide +kernel
theorem dJ0_init_db425_79 : decode cJ0_init_db425 79 = .ok (.aload_n 0, 1) := by decide +kernel
theorem dJ0_init_db425_80 : decode cJ0_init_db425 80 = .ok (.iconst 1, 1) := by decide +kernel
theorem dJ0_init_db425_81 : decode cJ0_init_db425 81 = .ok (.putfield 15, 3) := by decide +kernel
theorem dJ0_init_db425_84 : decode cJ0_init_db425 84 = .ok (.aload_n 0, 1) := by decide +kernel
theorem dJ0_init_db425_85 : decode cJ0_init_db425 85 = .ok (.aload_n 3, 1) := by decide +kernel
theorem dJ0_init_db425_86 : decode cJ0_init_db425 86 = .ok (.iconst 0, 1) := by decide +kernel
theorem dJ0_init_db425_87 : decode cJ0_init_db425 87 = .ok (.iload 4, 2) := by decide +kernel
theorem dJ0_init_db425_89 : decode cJ0_init_db425 89 = .ok (.iconst 1, 1) := by decide +kernel
theorem dJ0_init_db425_90 : decode cJ0_init_db425 90 = .ok (.ishl, 1) := by decide +kernel
theorem dJ0_init_db425_91 : decode cJ0_init_db425 91 = .ok (.invokestatic 54, 3) := by decide +kernel
theorem dJ0_init_db425_94 : decode cJ0_init_db425 94 = .ok (.putfield 9, 3) := by decide +kernel
theorem dJ0_init_db425_97 : decode cJ0_init_db425 97 = .ok (.return_, 1) := by decide +kernel
theorem dJ0_coder_7d493_0 : decode cJ0_coder_7d493 0 = .ok (.getstatic 38, 3) := by decide +kernel
theorem dJ0_coder_7d493_3 : decode cJ0_coder_7d493 3 = .ok (.ifCond .eq 10, 3) := by decide +kernel
theorem dJ0_coder_7d493_6 : decode cJ0_coder_7d493 6 = .ok (.aload_n 0, 1) := by decide +kernel
theorem dJ0_coder_7d493_7 : decode cJ0_coder_7d493 7 = .ok (.getfield 15, 3) := by decide +kernel
theorem dJ0_coder_7d493_10 : decode cJ0_coder_7d493 10 = .ok (.goto 4, 3) := by decide +kernel
theorem dJ0_coder_7d493_13 : decode cJ0_coder_7d493 13 = .ok (.iconst 1, 1) := by decide +kernel
theorem dJ0_coder_7d493_14 : decode cJ0_coder_7d493 14 = .ok (.ireturn, 1) := by decide +kernel
theorem dJ0_isLatin1_aae02_0 : decode cJ0_isLatin1_aae02 0 = .ok (.getstatic 38, 3) := by decide +kernel
theorem dJ0_isLatin1_aae02_3 : decode cJ0_isLatin1_aae02 3 = .ok (.ifCond .eq 14, 3) := by decide +kernel
theorem dJ0_isLatin1_aae02_6 : decode cJ0_isLatin1_aae02 6 = .ok (.aload_n 0, 1) := by decide +kernel
theorem dJ0_isLatin1_aae02_7 : decode cJ0_isLatin1_aae02 7 = .ok (.getfield 15, 3) := by decide +kernel
theorem dJ0_isLatin1_aae02_10 : decode cJ0_isLatin1_aae02 10 = .ok (.ifCond .ne 7, 3) := by decide +kernel
theorem dJ0_isLatin1_aae02_13 : decode cJ0_isLatin1_aae02 13 = .ok (.iconst 1, 1) := by decide +kernel
theorem dJ0_isLatin1_aae02_14 : decode cJ0_isLatin1_aae02 14 = .ok (.goto 4, 3) := by decide +kernel
theorem dJ0_isLatin1_aae02_17 : decode cJ0_isLatin1_aae02 17 = .ok (.iconst 0, 1) := by decide +kernel
theorem dJ0_isLatin1_aae02_18 : decode cJ0_isLatin1_aae02 18 = .ok (.ireturn, 1) := by decide +kernel
theorem dJ0_checkIndex_df160_0 : decode cJ0_checkIndex_df160 0 = .ok (.iload_n 0, 1) := by decide +kernel
theorem dJ0_checkIndex_df160_1 : decode cJ0_checkIndex_df160 1 = .ok (.iload_n 1, 1) := by decide +kernel
theorem dJ0_checkIndex_df160_2 : decode cJ0_checkIndex_df160 2 = .ok (.getstatic 1053, 3) := by decide +kernel
theorem dJ0_checkIndex_df160_5 : decode cJ0_checkIndex_df160 5 = .ok (.invokestatic 1059, 3) := by decide +kernel
theorem dJ0_checkIndex_df160_8 : decode cJ0_checkIndex_df160 8 = .ok (.pop, 1) := by decide +kernel
theorem dJ0_checkIndex_df160_9 : decode cJ0_checkIndex_df160 9 = .ok (.return_, 1) := by decide +kernel
theorem dJ0_checkBoundsOffCount_cabcc_0 : decode cJ0_checkBoundsOffCount_cabcc 0 = .ok (.iload_n 0, 1) := by decide +kernel
theorem dJ0_checkBoundsOffCount_cabcc_1 : decode cJ0_checkBoundsOffCount_cabcc 1 = .ok (.iload_n 1, 1) := by decide +kernel
theorem dJ0_checkBoundsOffCount_cabcc_2 : decode cJ0_checkBoundsOffCount_cabcc 2 = .ok (.iload_n 2, 1) := by decide +kernel
theorem dJ0_checkBoundsOffCount_cabcc_3 : decode cJ0_checkBoundsOffCount_cabcc 3 = .ok (.getstatic 1053, 3) := by decide +kernel
theorem dJ0_checkBoundsOffCount_cabcc_6 : decode cJ0_checkBoundsOffCount_cabcc 6 = .ok (.invokestatic 1065, 3) := by decide +kernel
theorem dJ0_checkBoundsOffCount_cabcc_9 : decode cJ0_checkBoundsOffCount_cabcc 9 = .ok (.ireturn, 1) := by decide +kernel
theorem dJ0_checkBoundsBeginEnd_23922_0 : decode cJ0_checkBoundsBeginEnd_23922 0 = .ok (.iload_n 0, 1) := by decide +kernel
theorem dJ0_checkBoundsBeginEnd_23922_1 : decode cJ0_checkBoundsBeginEnd_23922 1 = .ok (.iload_n 1, 1) := by decide +kernel
theorem dJ0_checkBoundsBeginEnd_23922_2 : decode cJ0_checkBoundsBeginEnd_23922 2 = .ok (.iload_n 2, 1) := by decide +kernel
theorem dJ0_checkBoundsBeginEnd_23922_3 : decode cJ0_checkBoundsBeginEnd_23922 3 = .ok (.getstatic 1053, 3) := by decide +kernel
theorem dJ0_checkBoundsBeginEnd_23922_6 : decode cJ0_checkBoundsBeginEnd_23922 6 = .ok (.invokestatic 1062, 3) := by decide +kernel
theorem dJ0_checkBoundsBeginEnd_23922_9 : decode cJ0_checkBoundsBeginEnd_23922 9 = .ok (.pop, 1) := by decide +kernel
theorem dJ0_checkBoundsBeginEnd_23922_10 : decode cJ0_checkBoundsBeginEnd_23922 10 = .ok (.return_, 1) := by decide +kernel
theorem dJ4_init_da8c8_0 : decode cJ4_init_da8c8 0 = .ok (.aload_n 0, 1) := by decide +kernel
theorem dJ4_init_da8c8_1 : decode cJ4_init_da8c8 1 = .ok (.bipush 16, 2) := by decide +kernel
theorem dJ4_init_da8c8_3 : decode cJ4_init_da8c8 3 = .ok (.invokespecial 1, 3) := by decide +kernel
theorem dJ4_init_da8c8_6 : decode cJ4_init_da8c8 6 = .ok (.return_, 1) := by decide +kernel
theorem dJ4_append_15ec4_0 : decode cJ4_append_15ec4 0 = .ok (.aload_n 0, 1) := by decide +kernel
theorem dJ4_append_15ec4_1 : decode cJ4_append_15ec4 1 = .ok (.aload_n 1, 1) := by decide +kernel
theorem dJ4_append_15ec4_2 : decode cJ4_append_15ec4 2 = .ok (.invokespecial 29, 3) := by decide +kernel
theorem dJ4_append_15ec4_5 : decode cJ4_append_15ec4 5 = .ok (.pop, 1) := by decide +kernel
theorem dJ4_append_15ec4_6 : decode cJ4_append_15ec4 6 = .ok (.aload_n 0, 1) := by decide +kernel
theorem dJ4_append_15ec4_7 : decode cJ4_append_15ec4 7 = .ok (.areturn, 1) := by decide +kernel
theorem dJ4_append_cf468_0 : decode cJ4_append_cf468 0 = .ok (.aload_n 0, 1) := by decide +kernel
theorem dJ4_append_cf468_1 : decode cJ4_append_cf468 1 = .ok (.iload_n 1, 1) := by decide +kernel
theorem dJ4_append_cf468_2 : decode cJ4_append_cf468 2 = .ok (.invokespecial 50, 3) := by decide +kernel
theorem dJ4_append_cf468_5 : decode cJ4_append_cf468 5 = .ok (.pop, 1) := by decide +kernel
theorem dJ4_append_cf468_6 : decode cJ4_append_cf468 6 = .ok (.aload_n 0, 1) := by decide +kernel
theorem dJ4_append_cf468_7 : decode cJ4_append_cf468 7 = .ok (.areturn, 1) := by decide +kernel
theorem dJ4_append_bf812_0 : decode cJ4_append_bf812 0 = .ok (.aload_n 0, 1) := by decide +kernel
theorem dJ4_append_bf812_1 : decode cJ4_append_bf812 1 = .ok (.iload_n 1, 1) := by decide +kernel
theorem dJ4_append_bf812_2 : decode cJ4_append_bf812 2 = .ok (.invokespecial 53, 3) := by decide +kernel
theorem dJ4_append_bf812_5 : decode cJ4_append_bf812 5 = .ok (.pop, 1) := by decide +kernel
theorem dJ4_append_bf812_6 : decode cJ4_append_bf812 6 = .ok (.aload_n 0, 1) := by decide +kernel
theorem dJ4_append_bf812_7 : decode cJ4_append_bf812 7 = .ok (.areturn, 1) := by decide +kernel
theorem dJ4_toString_0e30d_0 : decode cJ4_toString_0e30d 0 = .ok (.new 18, 3) := by decide +kernel
theorem dJ4_toString_0e30d_3 : decode cJ4_toString_0e30d 3 = .ok (.dup, 1) := by decide +kernel
theorem dJ4_toString_0e30d_4 : decode cJ4_toString_0e30d 4 = .ok (.aload_n 0, 1) := by decide +kernel
theorem dJ4_toString_0e30d_5 : decode cJ4_toString_0e30d 5 = .ok (.invokespecial 137, 3) := by decide +kernel
theorem dJ4_toString_0e30d_8 : decode cJ4_toString_0e30d 8 = .ok (.areturn, 1) := by decide +kernel
theorem dJ4_charAt_5068e_0 : decode cJ4_charAt_5068e 0 = .ok (.aload_n 0, 1) := by decide +kernel
theorem dJ4_charAt_5068e_1 : decode cJ4_charAt_5068e 1 = .ok (.iload_n 1, 1) := by decide +kernel
theorem dJ4_charAt_5068e_2 : decode cJ4_charAt_5068e 2 = .ok (.invokespecial 329, 3) := by decide +kernel
theorem dJ4_charAt_5068e_5 : decode cJ4_charAt_5068e 5 = .ok (.ireturn, 1) := by decide +kernel
theorem dJ4_setLength_d00df_0 : decode cJ4_setLength_d00df 0 = .ok (.aload_n 0, 1) := by decide +kernel
theorem dJ4_setLength_d00df_1 : decode cJ4_setLength_d00df 1 = .ok (.iload_n 1, 1) := by decide +kernel
theorem dJ4_setLength_d00df_2 : decode cJ4_setLength_d00df 2 = .ok (.invokespecial 333, 3) := by decide +kernel
theorem dJ4_setLength_d00df_5 : decode cJ4_setLength_d00df 5 = .ok (.return_, 1) := by decide +kernel
theorem dJ4_length_8abf5_0 : decode cJ4_length_8abf5 0 = .ok (.aload_n 0, 1) := by decide +kernel
theorem dJ4_length_8abf5_1 : decode cJ4_length_8abf5 1 = .ok (.invokespecial 343, 3) := by decide +kernel
theorem dJ4_length_8abf5_4 : decode cJ4_length_8abf5 4 = .ok (.ireturn, 1) := by decide +kernel
theorem dJx7c733_init_d00df_0 : decode cJx7c733_init_d00df 0 = .ok (.aload_n 0, 1) := by decide +kernel
theorem dJx7c733_init_d00df_1 : decode cJx7c733_init_d00df 1 = .ok (.new 10, 3) := by decide +kernel
theorem dJx7c733_init_d00df_4 : decode cJx7c733_init_d00df 4 = .ok (.dup, 1) := by decide +kernel
theorem dJx7c733_init_d00df_5 : decode cJx7c733_init_d00df 5 = .ok (.invokespecial 12, 3) := by decide +kernel
theorem dJx7c733_init_d00df_8 : decode cJx7c733_init_d00df 8 = .ok (.ldc 13, 2) := by decide +kernel
theorem dJx7c733_init_d00df_10 : decode cJx7c733_init_d00df 10 = .ok (.invokevirtual 15, 3) := by decide +kernel
theorem dJx7c733_init_d00df_13 : decode cJx7c733_init_d00df 13 = .ok (.iload_n 1, 1) := by decide +kernel
theorem dJx7c733_init_d00df_14 : decode cJx7c733_init_d00df 14 = .ok (.invokevirtual 19, 3) := by decide +kernel
theorem dJx7c733_init_d00df_17 : decode cJx7c733_init_d00df 17 = .ok (.invokevirtual 22, 3) := by decide +kernel
theorem dJx7c733_init_d00df_20 : decode cJx7c733_init_d00df 20 = .ok (.invokespecial 7, 3) := by decide +kernel
theorem dJx7c733_init_d00df_23 : decode cJx7c733_init_d00df 23 = .ok (.return_, 1) := by decide +kernel
theorem dJ1_charAt_3b067_0 : decode cJ1_charAt_3b067 0 = .ok (.iload_n 1, 1) := by decide +kernel
theorem dJ1_charAt_3b067_1 : decode cJ1_charAt_3b067 1 = .ok (.aload_n 0, 1) := by decide +kernel
theorem dJ1_charAt_3b067_2 : decode cJ1_charAt_3b067 2 = .ok (.arraylength, 1) := by decide +kernel
theorem dJ1_charAt_3b067_3 : decode cJ1_charAt_3b067 3 = .ok (.invokestatic 9, 3) := by decide +kernel
theorem dJ1_charAt_3b067_6 : decode cJ1_charAt_3b067 6 = .ok (.aload_n 0, 1) := by decide +kernel
theorem dJ1_charAt_3b067_7 : decode cJ1_charAt_3b067 7 = .ok (.iload_n 1, 1) := by decide +kernel
theorem dJ1_charAt_3b067_8 : decode cJ1_charAt_3b067 8 = .ok (.baload, 1) := by decide +kernel
theorem dJ1_charAt_3b067_9 : decode cJ1_charAt_3b067 9 = .ok (.sipush 255, 3) := by decide +kernel
theorem dJ1_charAt_3b067_12 : decode cJ1_charAt_3b067 12 = .ok (.iand, 1) := by decide +kernel
theorem dJ1_charAt_3b067_13 : decode cJ1_charAt_3b067 13 = .ok (.i2c, 1) := by decide +kernel
theorem dJ1_charAt_3b067_14 : decode cJ1_charAt_3b067 14 = .ok (.ireturn, 1) := by decide +kernel
theorem dJ1_canEncode_fc78d_0 : decode cJ1_canEncode_fc78d 0 = .ok (.iload_n 0, 1) := by decide +kernel
theorem dJ1_canEncode_fc78d_1 : decode cJ1_canEncode_fc78d 1 = .ok (.sipush 255, 3) := by decide +kernel
theorem dJ1_canEncode_fc78d_4 : decode cJ1_canEncode_fc78d 4 = .ok (.if_icmp .gt 7, 3) := by decide +kernel
theorem dJ1_canEncode_fc78d_7 : decode cJ1_canEncode_fc78d 7 = .ok (.iconst 1, 1) := by decide +kernel
theorem dJ1_canEncode_fc78d_8 : decode cJ1_canEncode_fc78d 8 = .ok (.goto 4, 3) := by decide +kernel
theorem dJ1_canEncode_fc78d_11 : decode cJ1_canEncode_fc78d 11 = .ok (.iconst 0, 1) := by decide +kernel
theorem dJ1_canEncode_fc78d_12 : decode cJ1_canEncode_fc78d 12 = .ok (.ireturn, 1) := by decide +kernel
theorem dJ1_fillNull_b72d1_0 : decode cJ1_fillNull_b72d1 0 = .ok (.aload_n 0, 1) := by decide +kernel
theorem dJ1_fillNull_b72d1_1 : decode cJ1_fillNull_b72d1 1 = .ok (.iload_n 1, 1) := by decide +kernel
theorem dJ1_fillNull_b72d1_2 : decode cJ1_fillNull_b72d1 2 = .ok (.iload_n 2, 1) := by decide +kernel
theorem dJ1_fillNull_b72d1_3 : decode cJ1_fillNull_b72d1 3 = .ok (.iconst 0, 1) := by decide +kernel
theorem dJ1_fillNull_b72d1_4 : decode cJ1_fillNull_b72d1 4 = .ok (.invokestatic 236, 3) := by decide +kernel
theorem dJ1_fillNull_b72d1_7 : decode cJ1_fillNull_b72d1 7 = .ok (.return_, 1) := by decide +kernel
theorem dJ1_inflate_0e8fd_0 : decode cJ1_inflate_0e8fd 0 = .ok (.aload_n 0, 1) := by decide +kernel
theorem dJ1_inflate_0e8fd_1 : decode cJ1_inflate_0e8fd 1 = .ok (.iload_n 1, 1) := by decide +kernel
theorem dJ1_inflate_0e8fd_2 : decode cJ1_inflate_0e8fd 2 = .ok (.aload_n 2, 1) := by decide +kernel
theorem dJ1_inflate_0e8fd_3 : decode cJ1_inflate_0e8fd 3 = .ok (.iload_n 3, 1) := by decide +kernel
theorem dJ1_inflate_0e8fd_4 : decode cJ1_inflate_0e8fd 4 = .ok (.iload 4, 2) := by decide +kernel
theorem dJ1_inflate_0e8fd_6 : decode cJ1_inflate_0e8fd 6 = .ok (.invokestatic 240, 3) := by decide +kernel
theorem dJ1_inflate_0e8fd_9 : decode cJ1_inflate_0e8fd 9 = .ok (.return_, 1) := by decide +kernel
theorem dJ2_newBytesFor_77867_0 : decode cJ2_newBytesFor_77867 0 = .ok (.iload_n 0, 1) := by decide +kernel
theorem dJ2_newBytesFor_77867_1 : decode cJ2_newBytesFor_77867 1 = .ok (.invokestatic 11, 3) := by decide +kernel
theorem dJ2_newBytesFor_77867_4 : decode cJ2_newBytesFor_77867 4 = .ok (.newarray .byte, 2) := by decide +kernel
theorem dJ2_newBytesFor_77867_6 : decode cJ2_newBytesFor_77867 6 = .ok (.areturn, 1) := by decide +kernel
theorem dJ2_newBytesLength_0f7a4_0 : decode cJ2_newBytesLength_0f7a4 0 = .ok (.iload_n 0, 1) := by decide +kernel
theorem dJ2_newBytesLength_0f7a4_1 : decode cJ2_newBytesLength_0f7a4 1 = .ok (.ifCond .ge 11, 3) := by decide +kernel
theorem dJ2_newBytesLength_0f7a4_4 : decode cJ2_newBytesLength_0f7a4 4 = .ok (.new 17, 3) := by decide +kernel
theorem dJ2_newBytesLength_0f7a4_7 : decode cJ2_newBytesLength_0f7a4 7 = .ok (.dup, 1) := by decide +kernel
theorem dJ2_newBytesLength_0f7a4_8 : decode cJ2_newBytesLength_0f7a4 8 = .ok (.invokespecial 19, 3) := by decide +kernel
theorem dJ2_newBytesLength_0f7a4_11 : decode cJ2_newBytesLength_0f7a4 11 = .ok (.athrow, 1) := by decide +kernel
theorem dJ2_newBytesLength_0f7a4_12 : decode cJ2_newBytesLength_0f7a4 12 = .ok (.iload_n 0, 1) := by decide +kernel
theorem dJ2_newBytesLength_0f7a4_13 : decode cJ2_newBytesLength_0f7a4 13 = .ok (.ldc 20, 2) := by decide +kernel
theorem dJ2_newBytesLength_0f7a4_15 : decode cJ2_newBytesLength_0f7a4 15 = .ok (.if_icmp .lt 40, 3) := by decide +kernel
theorem dJ2_newBytesLength_0f7a4_18 : decode cJ2_newBytesLength_0f7a4 18 = .ok (.new 21, 3) := by decide +kernel
theorem dJ2_newBytesLength_0f7a4_21 : decode cJ2_newBytesLength_0f7a4 21 = .ok (.dup, 1) := by decide +kernel
theorem dJ2_newBytesLength_0f7a4_22 : decode cJ2_newBytesLength_0f7a4 22 = .ok (.new 23, 3) := by decide +kernel
theorem dJ2_newBytesLength_0f7a4_25 : decode cJ2_newBytesLength_0f7a4 25 = .ok (.dup, 1) := by decide +kernel
theorem dJ2_newBytesLength_0f7a4_26 : decode cJ2_newBytesLength_0f7a4 26 = .ok (.invokespecial 25, 3) := by decide +kernel
theorem dJ2_newBytesLength_0f7a4_29 : decode cJ2_newBytesLength_0f7a4 29 = .ok (.ldc 26, 2) := by decide +kernel
theorem dJ2_newBytesLength_0f7a4_31 : decode cJ2_newBytesLength_0f7a4 31 = .ok (.invokevirtual 28, 3) := by decide +kernel
theorem dJ2_newBytesLength_0f7a4_34 : decode cJ2_newBytesLength_0f7a4 34 = .ok (.iload_n 0, 1) := by decide +kernel
theorem dJ2_newBytesLength_0f7a4_35 : decode cJ2_newBytesLength_0f7a4 35 = .ok (.invokevirtual 32, 3) := by decide +kernel
theorem dJ2_newBytesLength_0f7a4_38 : decode cJ2_newBytesLength_0f7a4 38 = .ok (.ldc 35, 2) := by decide +kernel
theorem dJ2_newBytesLength_0f7a4_40 : decode cJ2_newBytesLength_0f7a4 40 = .ok (.invokevirtual 28, 3) := by decide +kernel
theorem dJ2_newBytesLength_0f7a4_43 : decode cJ2_newBytesLength_0f7a4 43 = .ok (.ldc 20, 2) := by decide +kernel
theorem dJ2_newBytesLength_0f7a4_45 : decode cJ2_newBytesLength_0f7a4 45 = .ok (.invokevirtual 32, 3) := by decide +kernel
theorem dJ2_newBytesLength_0f7a4_48 : decode cJ2_newBytesLength_0f7a4 48 = .ok (.invokevirtual 37, 3) := by decide +kernel
theorem dJ2_newBytesLength_0f7a4_51 : decode cJ2_newBytesLength_0f7a4 51 = .ok (.invokespecial 41, 3) := by decide +kernel
theorem dJ2_newBytesLength_0f7a4_54 : decode cJ2_newBytesLength_0f7a4 54 = .ok (.athrow, 1) := by decide +kernel
theorem dJ2_newBytesLength_0f7a4_55 : decode cJ2_newBytesLength_0f7a4 55 = .ok (.iload_n 0, 1) := by decide +kernel
theorem dJ2_newBytesLength_0f7a4_56 : decode cJ2_newBytesLength_0f7a4 56 = .ok (.iconst 1, 1) := by decide +kernel
theorem dJ2_newBytesLength_0f7a4_57 : decode cJ2_newBytesLength_0f7a4 57 = .ok (.ishl, 1) := by decide +kernel
theorem dJ2_newBytesLength_0f7a4_58 : decode cJ2_newBytesLength_0f7a4 58 = .ok (.ireturn, 1) := by decide +kernel
theorem dJ2_putChar_b72d1_0 : decode cJ2_putChar_b72d1 0 = .ok (.getstatic 44, 3) := by decide +kernel
theorem dJ2_putChar_b72d1_3 : decode cJ2_putChar_b72d1 3 = .ok (.ifCond .ne 25, 3) := by decide +kernel
theorem dJ2_putChar_b72d1_6 : decode cJ2_putChar_b72d1 6 = .ok (.iload_n 1, 1) := by decide +kernel
theorem dJ2_putChar_b72d1_7 : decode cJ2_putChar_b72d1 7 = .ok (.ifCond .lt 11, 3) := by decide +kernel
theorem dJ2_putChar_b72d1_10 : decode cJ2_putChar_b72d1 10 = .ok (.iload_n 1, 1) := by decide +kernel
theorem dJ2_putChar_b72d1_11 : decode cJ2_putChar_b72d1 11 = .ok (.aload_n 0, 1) := by decide +kernel
theorem dJ2_putChar_b72d1_12 : decode cJ2_putChar_b72d1 12 = .ok (.invokestatic 48, 3) := by decide +kernel
theorem dJ2_putChar_b72d1_15 : decode cJ2_putChar_b72d1 15 = .ok (.if_icmp .lt 13, 3) := by decide +kernel
theorem dJ2_putChar_b72d1_18 : decode cJ2_putChar_b72d1 18 = .ok (.new 52, 3) := by decide +kernel
theorem dJ2_putChar_b72d1_21 : decode cJ2_putChar_b72d1 21 = .ok (.dup, 1) := by decide +kernel
theorem dJ2_putChar_b72d1_22 : decode cJ2_putChar_b72d1 22 = .ok (.ldc 54, 2) := by decide +kernel
theorem dJ2_putChar_b72d1_24 : decode cJ2_putChar_b72d1 24 = .ok (.invokespecial 56, 3) := by decide +kernel
theorem dJ2_putChar_b72d1_27 : decode cJ2_putChar_b72d1 27 = .ok (.athrow, 1) := by decide +kernel
theorem dJ2_putChar_b72d1_28 : decode cJ2_putChar_b72d1 28 = .ok (.iload_n 1, 1) := by decide +kernel
theorem dJ2_putChar_b72d1_29 : decode cJ2_putChar_b72d1 29 = .ok (.iconst 1, 1) := by decide +kernel
theorem dJ2_putChar_b72d1_30 : decode cJ2_putChar_b72d1 30 = .ok (.ishl, 1) := by decide +kernel
theorem dJ2_putChar_b72d1_31 : decode cJ2_putChar_b72d1 31 = .ok (.istore_n 1, 1) := by decide +kernel
theorem dJ2_putChar_b72d1_32 : decode cJ2_putChar_b72d1 32 = .ok (.aload_n 0, 1) := by decide +kernel
theorem dJ2_putChar_b72d1_33 : decode cJ2_putChar_b72d1 33 = .ok (.iload_n 1, 1) := by decide +kernel
theorem dJ2_putChar_b72d1_34 : decode cJ2_putChar_b72d1 34 = .ok (.iinc 1 1, 3) := by decide +kernel
theorem dJ2_putChar_b72d1_37 : decode cJ2_putChar_b72d1 37 = .ok (.iload_n 2, 1) := by decide +kernel
theorem dJ2_putChar_b72d1_38 : decode cJ2_putChar_b72d1 38 = .ok (.getstatic 59, 3) := by decide +kernel
theorem dJ2_putChar_b72d1_41 : decode cJ2_putChar_b72d1 41 = .ok (.ishr, 1) := by decide +kernel
theorem dJ2_putChar_b72d1_42 : decode cJ2_putChar_b72d1 42 = .ok (.i2b, 1) := by decide +kernel
theorem dJ2_putChar_b72d1_43 : decode cJ2_putChar_b72d1 43 = .ok (.bastore, 1) := by decide +kernel
theorem dJ2_putChar_b72d1_44 : decode cJ2_putChar_b72d1 44 = .ok (.aload_n 0, 1) := by decide +kernel
theorem dJ2_putChar_b72d1_45 : decode cJ2_putChar_b72d1 45 = .ok (.iload_n 1, 1) := by decide +kernel
theorem dJ2_putChar_b72d1_46 : decode cJ2_putChar_b72d1 46 = .ok (.iload_n 2, 1) := by decide +kernel
theorem dJ2_putChar_b72d1_47 : decode cJ2_putChar_b72d1 47 = .ok (.getstatic 63, 3) := by decide +kernel
theorem dJ2_putChar_b72d1_50 : decode cJ2_putChar_b72d1 50 = .ok (.ishr, 1) := by decide +kernel
theorem dJ2_putChar_b72d1_51 : decode cJ2_putChar_b72d1 51 = .ok (.i2b, 1) := by decide +kernel
theorem dJ2_putChar_b72d1_52 : decode cJ2_putChar_b72d1 52 = .ok (.bastore, 1) := by decide +kernel
theorem dJ2_putChar_b72d1_53 : decode cJ2_putChar_b72d1 53 = .ok (.return_, 1) := by decide +kernel
theorem dJ2_getChar_3b067_0 : decode cJ2_getChar_3b067 0 = .ok (.getstatic 44, 3) := by decide +kernel
theorem dJ2_getChar_3b067_3 : decode cJ2_getChar_3b067 3 = .ok (.ifCond .ne 25, 3) := by decide +kernel
theorem dJ2_getChar_3b067_6 : decode cJ2_getChar_3b067 6 = .ok (.iload_n 1, 1) := by decide +kernel
theorem dJ2_getChar_3b067_7 : decode cJ2_getChar_3b067 7 = .ok (.ifCond .lt 11, 3) := by decide +kernel
theorem dJ2_getChar_3b067_10 : decode cJ2_getChar_3b067 10 = .ok (.iload_n 1, 1) := by decide +kernel
theorem dJ2_getChar_3b067_11 : decode cJ2_getChar_3b067 11 = .ok (.aload_n 0, 1) := by decide +kernel
theorem dJ2_getChar_3b067_12 : decode cJ2_getChar_3b067 12 = .ok (.invokestatic 48, 3) := by decide +kernel
theorem dJ2_getChar_3b067_15 : decode cJ2_getChar_3b067 15 = .ok (.if_icmp .lt 13, 3) := by decide +kernel
theorem dJ2_getChar_3b067_18 : decode cJ2_getChar_3b067 18 = .ok (.new 52, 3) := by decide +kernel
theorem dJ2_getChar_3b067_21 : decode cJ2_getChar_3b067 21 = .ok (.dup, 1) := by decide +kernel
theorem dJ2_getChar_3b067_22 : decode cJ2_getChar_3b067 22 = .ok (.ldc 54, 2) := by decide +kernel
theorem dJ2_getChar_3b067_24 : decode cJ2_getChar_3b067 24 = .ok (.invokespecial 56, 3) := by decide +kernel
theorem dJ2_getChar_3b067_27 : decode cJ2_getChar_3b067 27 = .ok (.athrow, 1) := by decide +kernel
theorem dJ2_getChar_3b067_28 : decode cJ2_getChar_3b067 28 = .ok (.iload_n 1, 1) := by decide +kernel
theorem dJ2_getChar_3b067_29 : decode cJ2_getChar_3b067 29 = .ok (.iconst 1, 1) := by decide +kernel
theorem dJ2_getChar_3b067_30 : decode cJ2_getChar_3b067 30 = .ok (.ishl, 1) := by decide +kernel
theorem dJ2_getChar_3b067_31 : decode cJ2_getChar_3b067 31 = .ok (.istore_n 1, 1) := by decide +kernel
theorem dJ2_getChar_3b067_32 : decode cJ2_getChar_3b067 32 = .ok (.aload_n 0, 1) := by decide +kernel
theorem dJ2_getChar_3b067_33 : decode cJ2_getChar_3b067 33 = .ok (.iload_n 1, 1) := by decide +kernel
theorem dJ2_getChar_3b067_34 : decode cJ2_getChar_3b067 34 = .ok (.iinc 1 1, 3) := by decide +kernel
theorem dJ2_getChar_3b067_37 : decode cJ2_getChar_3b067 37 = .ok (.baload, 1) := by decide +kernel
theorem dJ2_getChar_3b067_38 : decode cJ2_getChar_3b067 38 = .ok (.sipush 255, 3) := by decide +kernel
theorem dJ2_getChar_3b067_41 : decode cJ2_getChar_3b067 41 = .ok (.iand, 1) := by decide +kernel
theorem dJ2_getChar_3b067_42 : decode cJ2_getChar_3b067 42 = .ok (.getstatic 59, 3) := by decide +kernel
theorem dJ2_getChar_3b067_45 : decode cJ2_getChar_3b067 45 = .ok (.ishl, 1) := by decide +kernel
theorem dJ2_getChar_3b067_46 : decode cJ2_getChar_3b067 46 = .ok (.aload_n 0, 1) := by decide +kernel
theorem dJ2_getChar_3b067_47 : decode cJ2_getChar_3b067 47 = .ok (.iload_n 1, 1) := by decide +kernel
theorem dJ2_getChar_3b067_48 : decode cJ2_getChar_3b067 48 = .ok (.baload, 1) := by decide +kernel
theorem dJ2_getChar_3b067_49 : decode cJ2_getChar_3b067 49 = .ok (.sipush 255, 3) := by decide +kernel
theorem dJ2_getChar_3b067_52 : decode cJ2_getChar_3b067 52 = .ok (.iand, 1) := by decide +kernel
theorem dJ2_getChar_3b067_53 : decode cJ2_getChar_3b067 53 = .ok (.getstatic 63, 3) := by decide +kernel
theorem dJ2_getChar_3b067_56 : decode cJ2_getChar_3b067 56 = .ok (.ishl, 1) := by decide +kernel
theorem dJ2_getChar_3b067_57 : decode cJ2_getChar_3b067 57 = .ok (.ior, 1) := by decide +kernel
theorem dJ2_getChar_3b067_58 : decode cJ2_getChar_3b067 58 = .ok (.i2c, 1) := by decide +kernel
theorem dJ2_getChar_3b067_59 : decode cJ2_getChar_3b067 59 = .ok (.ireturn, 1) := by decide +kernel
theorem dJ2_length_9d52b_0 : decode cJ2_length_9d52b 0 = .ok (.aload_n 0, 1) := by decide +kernel
theorem dJ2_length_9d52b_1 : decode cJ2_length_9d52b 1 = .ok (.arraylength, 1) := by decide +kernel
theorem dJ2_length_9d52b_2 : decode cJ2_length_9d52b 2 = .ok (.iconst 1, 1) := by decide +kernel
theorem dJ2_length_9d52b_3 : decode cJ2_length_9d52b 3 = .ok (.ishr, 1) := by decide +kernel
theorem dJ2_length_9d52b_4 : decode cJ2_length_9d52b 4 = .ok (.ireturn, 1) := by decide +kernel
theorem dJ2_coderFromArrayLen_85cad_0 : decode cJ2_coderFromArrayLen_85cad 0 = .ok (.iload_n 1, 1) := by decide +kernel
theorem dJ2_coderFromArrayLen_85cad_1 : decode cJ2_coderFromArrayLen_85cad 1 = .ok (.aload_n 0, 1) := by decide +kernel
theorem dJ2_coderFromArrayLen_85cad_2 : decode cJ2_coderFromArrayLen_85cad 2 = .ok (.arraylength, 1) := by decide +kernel
theorem dJ2_coderFromArrayLen_85cad_3 : decode cJ2_coderFromArrayLen_85cad 3 = .ok (.isub, 1) := by decide +kernel
theorem dJ2_coderFromArrayLen_85cad_4 : decode cJ2_coderFromArrayLen_85cad 4 = .ok (.bipush 31, 2) := by decide +kernel
theorem dJ2_coderFromArrayLen_85cad_6 : decode cJ2_coderFromArrayLen_85cad 6 = .ok (.iushr, 1) := by decide +kernel
theorem dJ2_coderFromArrayLen_85cad_7 : decode cJ2_coderFromArrayLen_85cad 7 = .ok (.i2b, 1) := by decide +kernel
theorem dJ2_coderFromArrayLen_85cad_8 : decode cJ2_coderFromArrayLen_85cad 8 = .ok (.ireturn, 1) := by decide +kernel
theorem dJ2_compress_39247_0 : decode cJ2_compress_39247 0 = .ok (.iload_n 2, 1) := by decide +kernel
theorem dJ2_compress_39247_1 : decode cJ2_compress_39247 1 = .ok (.newarray .byte, 2) := by decide +kernel
theorem dJ2_compress_39247_3 : decode cJ2_compress_39247 3 = .ok (.astore_n 3, 1) := by decide +kernel
theorem dJ2_compress_39247_4 : decode cJ2_compress_39247 4 = .ok (.aload_n 0, 1) := by decide +kernel
theorem dJ2_compress_39247_5 : decode cJ2_compress_39247 5 = .ok (.iload_n 1, 1) := by decide +kernel
theorem dJ2_compress_39247_6 : decode cJ2_compress_39247 6 = .ok (.aload_n 3, 1) := by decide +kernel
theorem dJ2_compress_39247_7 : decode cJ2_compress_39247 7 = .ok (.iconst 0, 1) := by decide +kernel
theorem dJ2_compress_39247_8 : decode cJ2_compress_39247 8 = .ok (.iload_n 2, 1) := by decide +kernel
theorem dJ2_compress_39247_9 : decode cJ2_compress_39247 9 = .ok (.invokestatic 123, 3) := by decide +kernel
theorem dJ2_compress_39247_12 : decode cJ2_compress_39247 12 = .ok (.istore 4, 2) := by decide +kernel
theorem dJ2_compress_39247_14 : decode cJ2_compress_39247 14 = .ok (.iload 4, 2) := by decide +kernel
theorem dJ2_compress_39247_16 : decode cJ2_compress_39247 16 = .ok (.iload_n 2, 1) := by decide +kernel
theorem dJ2_compress_39247_17 : decode cJ2_compress_39247 17 = .ok (.if_icmp .eq 47, 3) := by decide +kernel
theorem dJ2_compress_39247_20 : decode cJ2_compress_39247 20 = .ok (.aload_n 0, 1) := by decide +kernel
theorem dJ2_compress_39247_21 : decode cJ2_compress_39247 21 = .ok (.iload_n 1, 1) := by decide +kernel
theorem dJ2_compress_39247_22 : decode cJ2_compress_39247 22 = .ok (.iconst 1, 1) := by decide +kernel
theorem dJ2_compress_39247_23 : decode cJ2_compress_39247 23 = .ok (.ishl, 1) := by decide +kernel
theorem dJ2_compress_39247_24 : decode cJ2_compress_39247 24 = .ok (.iload_n 1, 1) := by decide +kernel
theorem dJ2_compress_39247_25 : decode cJ2_compress_39247 25 = .ok (.iload_n 2, 1) := by decide +kernel
theorem dJ2_compress_39247_26 : decode cJ2_compress_39247 26 = .ok (.iadd, 1) := by decide +kernel
theorem dJ2_compress_39247_27 : decode cJ2_compress_39247 27 = .ok (.invokestatic 11, 3) := by decide +kernel
theorem dJ2_compress_39247_30 : decode cJ2_compress_39247 30 = .ok (.invokestatic 126, 3) := by decide +kernel
theorem dJ2_compress_39247_33 : decode cJ2_compress_39247 33 = .ok (.astore 5, 2) := by decide +kernel
theorem dJ2_compress_39247_35 : decode cJ2_compress_39247 35 = .ok (.aload 5, 2) := by decide +kernel
theorem dJ2_compress_39247_37 : decode cJ2_compress_39247 37 = .ok (.iload 4, 2) := by decide +kernel
theorem dJ2_compress_39247_39 : decode cJ2_compress_39247 39 = .ok (.invokestatic 71, 3) := by decide +kernel
theorem dJ2_compress_39247_42 : decode cJ2_compress_39247 42 = .ok (.sipush 255, 3) := by decide +kernel
theorem dJ2_compress_39247_45 : decode cJ2_compress_39247 45 = .ok (.if_icmp .gt 16, 3) := by decide +kernel
theorem dJ2_compress_39247_48 : decode cJ2_compress_39247 48 = .ok (.aload 5, 2) := by decide +kernel
theorem dJ2_compress_39247_50 : decode cJ2_compress_39247 50 = .ok (.iconst 0, 1) := by decide +kernel
theorem dJ2_compress_39247_51 : decode cJ2_compress_39247 51 = .ok (.aload_n 3, 1) := by decide +kernel
theorem dJ2_compress_39247_52 : decode cJ2_compress_39247 52 = .ok (.iconst 0, 1) := by decide +kernel
theorem dJ2_compress_39247_53 : decode cJ2_compress_39247 53 = .ok (.iload_n 2, 1) := by decide +kernel
theorem dJ2_compress_39247_54 : decode cJ2_compress_39247 54 = .ok (.invokestatic 123, 3) := by decide +kernel
theorem dJ2_compress_39247_57 : decode cJ2_compress_39247 57 = .ok (.iload_n 2, 1) := by decide +kernel
theorem dJ2_compress_39247_58 : decode cJ2_compress_39247 58 = .ok (.if_icmp .eq 6, 3) := by decide +kernel
theorem dJ2_compress_39247_61 : decode cJ2_compress_39247 61 = .ok (.aload 5, 2) := by decide +kernel
theorem dJ2_compress_39247_63 : decode cJ2_compress_39247 63 = .ok (.areturn, 1) := by decide +kernel
theorem dJ2_compress_39247_64 : decode cJ2_compress_39247 64 = .ok (.aload_n 3, 1) := by decide +kernel
theorem dJ2_compress_39247_65 : decode cJ2_compress_39247 65 = .ok (.areturn, 1) := by decide +kernel
theorem dJ2_compress_5af95_0 : decode cJ2_compress_5af95 0 = .ok (.iload_n 1, 1) := by decide +kernel
theorem dJ2_compress_5af95_1 : decode cJ2_compress_5af95 1 = .ok (.iload 4, 2) := by decide +kernel
theorem dJ2_compress_5af95_3 : decode cJ2_compress_5af95 3 = .ok (.aload_n 0, 1) := by decide +kernel
theorem dJ2_compress_5af95_4 : decode cJ2_compress_5af95 4 = .ok (.invokestatic 173, 3) := by decide +kernel
theorem dJ2_compress_5af95_7 : decode cJ2_compress_5af95 7 = .ok (.iconst 0, 1) := by decide +kernel
theorem dJ2_compress_5af95_8 : decode cJ2_compress_5af95 8 = .ok (.istore 5, 2) := by decide +kernel
theorem dJ2_compress_5af95_10 : decode cJ2_compress_5af95 10 = .ok (.iload 5, 2) := by decide +kernel
theorem dJ2_compress_5af95_12 : decode cJ2_compress_5af95 12 = .ok (.iload 4, 2) := by decide +kernel
theorem dJ2_compress_5af95_14 : decode cJ2_compress_5af95 14 = .ok (.if_icmp .ge 39, 3) := by decide +kernel
theorem dJ2_compress_5af95_17 : decode cJ2_compress_5af95 17 = .ok (.aload_n 0, 1) := by decide +kernel
theorem dJ2_compress_5af95_18 : decode cJ2_compress_5af95 18 = .ok (.iload_n 1, 1) := by decide +kernel
theorem dJ2_compress_5af95_19 : decode cJ2_compress_5af95 19 = .ok (.invokestatic 71, 3) := by decide +kernel
theorem dJ2_compress_5af95_22 : decode cJ2_compress_5af95 22 = .ok (.istore 6, 2) := by decide +kernel
theorem dJ2_compress_5af95_24 : decode cJ2_compress_5af95 24 = .ok (.iload 6, 2) := by decide +kernel
theorem dJ2_compress_5af95_26 : decode cJ2_compress_5af95 26 = .ok (.sipush 255, 3) := by decide +kernel
theorem dJ2_compress_5af95_29 : decode cJ2_compress_5af95 29 = .ok (.if_icmp .le 6, 3) := by decide +kernel
theorem dJ2_compress_5af95_32 : decode cJ2_compress_5af95 32 = .ok (.iload 5, 2) := by decide +kernel
theorem dJ2_compress_5af95_34 : decode cJ2_compress_5af95 34 = .ok (.ireturn, 1) := by decide +kernel
theorem dJ2_compress_5af95_35 : decode cJ2_compress_5af95 35 = .ok (.aload_n 2, 1) := by decide +kernel
theorem dJ2_compress_5af95_36 : decode cJ2_compress_5af95 36 = .ok (.iload_n 3, 1) := by decide +kernel
theorem dJ2_compress_5af95_37 : decode cJ2_compress_5af95 37 = .ok (.iload 6, 2) := by decide +kernel
theorem dJ2_compress_5af95_39 : decode cJ2_compress_5af95 39 = .ok (.i2b, 1) := by decide +kernel
theorem dJ2_compress_5af95_40 : decode cJ2_compress_5af95 40 = .ok (.bastore, 1) := by decide +kernel
theorem dJ2_compress_5af95_41 : decode cJ2_compress_5af95 41 = .ok (.iinc 1 1, 3) := by decide +kernel
theorem dJ2_compress_5af95_44 : decode cJ2_compress_5af95 44 = .ok (.iinc 3 1, 3) := by decide +kernel
theorem dJ2_compress_5af95_47 : decode cJ2_compress_5af95 47 = .ok (.iinc 5 1, 3) := by decide +kernel
theorem dJ2_compress_5af95_50 : decode cJ2_compress_5af95 50 = .ok (.goto (-40), 3) := by decide +kernel
theorem dJ2_compress_5af95_53 : decode cJ2_compress_5af95 53 = .ok (.iload 4, 2) := by decide +kernel
theorem dJ2_compress_5af95_55 : decode cJ2_compress_5af95 55 = .ok (.ireturn, 1) := by decide +kernel
theorem dJ2_fillNull_b72d1_0 : decode cJ2_fillNull_b72d1 0 = .ok (.aload_n 0, 1) := by decide +kernel
theorem dJ2_fillNull_b72d1_1 : decode cJ2_fillNull_b72d1 1 = .ok (.iload_n 1, 1) := by decide +kernel
theorem dJ2_fillNull_b72d1_2 : decode cJ2_fillNull_b72d1 2 = .ok (.iconst 1, 1) := by decide +kernel
theorem dJ2_fillNull_b72d1_3 : decode cJ2_fillNull_b72d1 3 = .ok (.ishl, 1) := by decide +kernel
theorem dJ2_fillNull_b72d1_4 : decode cJ2_fillNull_b72d1 4 = .ok (.iload_n 2, 1) := by decide +kernel
theorem dJ2_fillNull_b72d1_5 : decode cJ2_fillNull_b72d1 5 = .ok (.iconst 1, 1) := by decide +kernel
theorem dJ2_fillNull_b72d1_6 : decode cJ2_fillNull_b72d1 6 = .ok (.ishl, 1) := by decide +kernel
theorem dJ2_fillNull_b72d1_7 : decode cJ2_fillNull_b72d1 7 = .ok (.iconst 0, 1) := by decide +kernel
theorem dJ2_fillNull_b72d1_8 : decode cJ2_fillNull_b72d1 8 = .ok (.invokestatic 380, 3) := by decide +kernel
theorem dJ2_fillNull_b72d1_11 : decode cJ2_fillNull_b72d1 11 = .ok (.return_, 1) := by decide +kernel
theorem dJ2_putCharSB_b72d1_0 : decode cJ2_putCharSB_b72d1 0 = .ok (.iload_n 1, 1) := by decide +kernel
theorem dJ2_putCharSB_b72d1_1 : decode cJ2_putCharSB_b72d1 1 = .ok (.aload_n 0, 1) := by decide +kernel
theorem dJ2_putCharSB_b72d1_2 : decode cJ2_putCharSB_b72d1 2 = .ok (.invokestatic 67, 3) := by decide +kernel
theorem dJ2_putCharSB_b72d1_5 : decode cJ2_putCharSB_b72d1 5 = .ok (.aload_n 0, 1) := by decide +kernel
theorem dJ2_putCharSB_b72d1_6 : decode cJ2_putCharSB_b72d1 6 = .ok (.iload_n 1, 1) := by decide +kernel
theorem dJ2_putCharSB_b72d1_7 : decode cJ2_putCharSB_b72d1 7 = .ok (.iload_n 2, 1) := by decide +kernel
theorem dJ2_putCharSB_b72d1_8 : decode cJ2_putCharSB_b72d1 8 = .ok (.invokestatic 111, 3) := by decide +kernel
theorem dJ2_putCharSB_b72d1_11 : decode cJ2_putCharSB_b72d1 11 = .ok (.return_, 1) := by decide +kernel
theorem dJ2_getChars_46870_0 : decode cJ2_getChars_46870 0 = .ok (.iload_n 1, 1) := by decide +kernel
theorem dJ2_getChars_46870_1 : decode cJ2_getChars_46870 1 = .ok (.iload_n 2, 1) := by decide +kernel
theorem dJ2_getChars_46870_2 : decode cJ2_getChars_46870 2 = .ok (.aload_n 3, 1) := by decide +kernel
theorem dJ2_getChars_46870_3 : decode cJ2_getChars_46870 3 = .ok (.invokestatic 96, 3) := by decide +kernel
theorem dJ2_getChars_46870_6 : decode cJ2_getChars_46870 6 = .ok (.iload_n 0, 1) := by decide +kernel
theorem dJ2_getChars_46870_7 : decode cJ2_getChars_46870 7 = .ok (.iload_n 2, 1) := by decide +kernel
theorem dJ2_getChars_46870_8 : decode cJ2_getChars_46870 8 = .ok (.aload_n 3, 1) := by decide +kernel
theorem dJ2_getChars_46870_9 : decode cJ2_getChars_46870 9 = .ok (.invokestatic 393, 3) := by decide +kernel
theorem dJ2_getChars_46870_12 : decode cJ2_getChars_46870 12 = .ok (.istore 4, 2) := by decide +kernel
theorem dJ2_getChars_46870_14 : decode cJ2_getChars_46870 14 = .ok (.getstatic 44, 3) := by decide +kernel
theorem dJ2_getChars_46870_17 : decode cJ2_getChars_46870 17 = .ok (.ifCond .ne 17, 3) := by decide +kernel
theorem dJ2_getChars_46870_20 : decode cJ2_getChars_46870 20 = .ok (.iload_n 1, 1) := by decide +kernel
theorem dJ2_getChars_46870_21 : decode cJ2_getChars_46870 21 = .ok (.iload 4, 2) := by decide +kernel
theorem dJ2_getChars_46870_23 : decode cJ2_getChars_46870 23 = .ok (.if_icmp .eq 11, 3) := by decide +kernel
theorem dJ2_getChars_46870_26 : decode cJ2_getChars_46870 26 = .ok (.new 52, 3) := by decide +kernel
theorem dJ2_getChars_46870_29 : decode cJ2_getChars_46870 29 = .ok (.dup, 1) := by decide +kernel
theorem dJ2_getChars_46870_30 : decode cJ2_getChars_46870 30 = .ok (.invokespecial 66, 3) := by decide +kernel
theorem dJ2_getChars_46870_33 : decode cJ2_getChars_46870 33 = .ok (.athrow, 1) := by decide +kernel
theorem dJ2_getChars_46870_34 : decode cJ2_getChars_46870 34 = .ok (.iload 4, 2) := by decide +kernel
theorem dJ2_getChars_46870_36 : decode cJ2_getChars_46870 36 = .ok (.ireturn, 1) := by decide +kernel
theorem dJ2_putCharsAt_cd4e5_0 : decode cJ2_putCharsAt_cd4e5 0 = .ok (.iload_n 1, 1) := by decide +kernel
theorem dJ2_putCharsAt_cd4e5_1 : decode cJ2_putCharsAt_cd4e5 1 = .ok (.iconst 4, 1) := by decide +kernel
theorem dJ2_putCharsAt_cd4e5_2 : decode cJ2_putCharsAt_cd4e5 2 = .ok (.iadd, 1) := by decide +kernel
theorem dJ2_putCharsAt_cd4e5_3 : decode cJ2_putCharsAt_cd4e5 3 = .ok (.istore 6, 2) := by decide +kernel
theorem dJ2_putCharsAt_cd4e5_5 : decode cJ2_putCharsAt_cd4e5 5 = .ok (.iload_n 1, 1) := by decide +kernel
theorem dJ2_putCharsAt_cd4e5_6 : decode cJ2_putCharsAt_cd4e5 6 = .ok (.iload 6, 2) := by decide +kernel
theorem dJ2_putCharsAt_cd4e5_8 : decode cJ2_putCharsAt_cd4e5 8 = .ok (.aload_n 0, 1) := by decide +kernel
theorem dJ2_putCharsAt_cd4e5_9 : decode cJ2_putCharsAt_cd4e5 9 = .ok (.invokestatic 96, 3) := by decide +kernel
theorem dJ2_putCharsAt_cd4e5_12 : decode cJ2_putCharsAt_cd4e5 12 = .ok (.aload_n 0, 1) := by decide +kernel
theorem dJ2_putCharsAt_cd4e5_13 : decode cJ2_putCharsAt_cd4e5 13 = .ok (.iload_n 1, 1) := by decide +kernel
theorem dJ2_putCharsAt_cd4e5_14 : decode cJ2_putCharsAt_cd4e5 14 = .ok (.iinc 1 1, 3) := by decide +kernel
theorem dJ2_putCharsAt_cd4e5_17 : decode cJ2_putCharsAt_cd4e5 17 = .ok (.iload_n 2, 1) := by decide +kernel
theorem dJ2_putCharsAt_cd4e5_18 : decode cJ2_putCharsAt_cd4e5 18 = .ok (.invokestatic 111, 3) := by decide +kernel
theorem dJ2_putCharsAt_cd4e5_21 : decode cJ2_putCharsAt_cd4e5 21 = .ok (.aload_n 0, 1) := by decide +kernel
theorem dJ2_putCharsAt_cd4e5_22 : decode cJ2_putCharsAt_cd4e5 22 = .ok (.iload_n 1, 1) := by decide +kernel
theorem dJ2_putCharsAt_cd4e5_23 : decode cJ2_putCharsAt_cd4e5 23 = .ok (.iinc 1 1, 3) := by decide +kernel
theorem dJ2_putCharsAt_cd4e5_26 : decode cJ2_putCharsAt_cd4e5 26 = .ok (.iload_n 3, 1) := by decide +kernel
theorem dJ2_putCharsAt_cd4e5_27 : decode cJ2_putCharsAt_cd4e5 27 = .ok (.invokestatic 111, 3) := by decide +kernel
theorem dJ2_putCharsAt_cd4e5_30 : decode cJ2_putCharsAt_cd4e5 30 = .ok (.aload_n 0, 1) := by decide +kernel
theorem dJ2_putCharsAt_cd4e5_31 : decode cJ2_putCharsAt_cd4e5 31 = .ok (.iload_n 1, 1) := by decide +kernel
theorem dJ2_putCharsAt_cd4e5_32 : decode cJ2_putCharsAt_cd4e5 32 = .ok (.iinc 1 1, 3) := by decide +kernel
theorem dJ2_putCharsAt_cd4e5_35 : decode cJ2_putCharsAt_cd4e5 35 = .ok (.iload 4, 2) := by decide +kernel
theorem dJ2_putCharsAt_cd4e5_37 : decode cJ2_putCharsAt_cd4e5 37 = .ok (.invokestatic 111, 3) := by decide +kernel
theorem dJ2_putCharsAt_cd4e5_40 : decode cJ2_putCharsAt_cd4e5 40 = .ok (.aload_n 0, 1) := by decide +kernel
theorem dJ2_putCharsAt_cd4e5_41 : decode cJ2_putCharsAt_cd4e5 41 = .ok (.iload_n 1, 1) := by decide +kernel
theorem dJ2_putCharsAt_cd4e5_42 : decode cJ2_putCharsAt_cd4e5 42 = .ok (.iinc 1 1, 3) := by decide +kernel
theorem dJ2_putCharsAt_cd4e5_45 : decode cJ2_putCharsAt_cd4e5 45 = .ok (.iload 5, 2) := by decide +kernel
theorem dJ2_putCharsAt_cd4e5_47 : decode cJ2_putCharsAt_cd4e5 47 = .ok (.invokestatic 111, 3) := by decide +kernel
theorem dJ2_putCharsAt_cd4e5_50 : decode cJ2_putCharsAt_cd4e5 50 = .ok (.getstatic 44, 3) := by decide +kernel
theorem dJ2_putCharsAt_cd4e5_53 : decode cJ2_putCharsAt_cd4e5 53 = .ok (.ifCond .ne 17, 3) := by decide +kernel
theorem dJ2_putCharsAt_cd4e5_56 : decode cJ2_putCharsAt_cd4e5 56 = .ok (.iload_n 1, 1) := by decide +kernel
theorem dJ2_putCharsAt_cd4e5_57 : decode cJ2_putCharsAt_cd4e5 57 = .ok (.iload 6, 2) := by decide +kernel
theorem dJ2_putCharsAt_cd4e5_59 : decode cJ2_putCharsAt_cd4e5 59 = .ok (.if_icmp .eq 11, 3) := by decide +kernel
theorem dJ2_putCharsAt_cd4e5_62 : decode cJ2_putCharsAt_cd4e5 62 = .ok (.new 52, 3) := by decide +kernel
theorem dJ2_putCharsAt_cd4e5_65 : decode cJ2_putCharsAt_cd4e5 65 = .ok (.dup, 1) := by decide +kernel
theorem dJ2_putCharsAt_cd4e5_66 : decode cJ2_putCharsAt_cd4e5 66 = .ok (.invokespecial 66, 3) := by decide +kernel
theorem dJ2_putCharsAt_cd4e5_69 : decode cJ2_putCharsAt_cd4e5 69 = .ok (.athrow, 1) := by decide +kernel
theorem dJ2_putCharsAt_cd4e5_70 : decode cJ2_putCharsAt_cd4e5 70 = .ok (.iload 6, 2) := by decide +kernel
theorem dJ2_putCharsAt_cd4e5_72 : decode cJ2_putCharsAt_cd4e5 72 = .ok (.ireturn, 1) := by decide +kernel
theorem dJ2_charAt_3b067_0 : decode cJ2_charAt_3b067 0 = .ok (.iload_n 1, 1) := by decide +kernel
theorem dJ2_charAt_3b067_1 : decode cJ2_charAt_3b067 1 = .ok (.aload_n 0, 1) := by decide +kernel
theorem dJ2_charAt_3b067_2 : decode cJ2_charAt_3b067 2 = .ok (.invokestatic 67, 3) := by decide +kernel
theorem dJ2_charAt_3b067_5 : decode cJ2_charAt_3b067 5 = .ok (.aload_n 0, 1) := by decide +kernel
theorem dJ2_charAt_3b067_6 : decode cJ2_charAt_3b067 6 = .ok (.iload_n 1, 1) := by decide +kernel
theorem dJ2_charAt_3b067_7 : decode cJ2_charAt_3b067 7 = .ok (.invokestatic 71, 3) := by decide +kernel
theorem dJ2_charAt_3b067_10 : decode cJ2_charAt_3b067 10 = .ok (.ireturn, 1) := by decide +kernel
theorem dJ2_inflate_0e8fd_0 : decode cJ2_inflate_0e8fd 0 = .ok (.iload_n 3, 1) := by decide +kernel
theorem dJ2_inflate_0e8fd_1 : decode cJ2_inflate_0e8fd 1 = .ok (.iload 4, 2) := by decide +kernel
theorem dJ2_inflate_0e8fd_3 : decode cJ2_inflate_0e8fd 3 = .ok (.aload_n 2, 1) := by decide +kernel
theorem dJ2_inflate_0e8fd_4 : decode cJ2_inflate_0e8fd 4 = .ok (.invokestatic 173, 3) := by decide +kernel
theorem dJ2_inflate_0e8fd_7 : decode cJ2_inflate_0e8fd 7 = .ok (.iconst 0, 1) := by decide +kernel
theorem dJ2_inflate_0e8fd_8 : decode cJ2_inflate_0e8fd 8 = .ok (.istore 5, 2) := by decide +kernel
theorem dJ2_inflate_0e8fd_10 : decode cJ2_inflate_0e8fd 10 = .ok (.iload 5, 2) := by decide +kernel
theorem dJ2_inflate_0e8fd_12 : decode cJ2_inflate_0e8fd 12 = .ok (.iload 4, 2) := by decide +kernel
theorem dJ2_inflate_0e8fd_14 : decode cJ2_inflate_0e8fd 14 = .ok (.if_icmp .ge 27, 3) := by decide +kernel
theorem dJ2_inflate_0e8fd_17 : decode cJ2_inflate_0e8fd 17 = .ok (.aload_n 2, 1) := by decide +kernel
theorem dJ2_inflate_0e8fd_18 : decode cJ2_inflate_0e8fd 18 = .ok (.iload_n 3, 1) := by decide +kernel
theorem dJ2_inflate_0e8fd_19 : decode cJ2_inflate_0e8fd 19 = .ok (.iinc 3 1, 3) := by decide +kernel
theorem dJ2_inflate_0e8fd_22 : decode cJ2_inflate_0e8fd 22 = .ok (.aload_n 0, 1) := by decide +kernel
theorem dJ2_inflate_0e8fd_23 : decode cJ2_inflate_0e8fd 23 = .ok (.iload_n 1, 1) := by decide +kernel
theorem dJ2_inflate_0e8fd_24 : decode cJ2_inflate_0e8fd 24 = .ok (.iinc 1 1, 3) := by decide +kernel
theorem dJ2_inflate_0e8fd_27 : decode cJ2_inflate_0e8fd 27 = .ok (.baload, 1) := by decide +kernel
theorem dJ2_inflate_0e8fd_28 : decode cJ2_inflate_0e8fd 28 = .ok (.sipush 255, 3) := by decide +kernel
theorem dJ2_inflate_0e8fd_31 : decode cJ2_inflate_0e8fd 31 = .ok (.iand, 1) := by decide +kernel
theorem dJ2_inflate_0e8fd_32 : decode cJ2_inflate_0e8fd 32 = .ok (.invokestatic 111, 3) := by decide +kernel
theorem dJ2_inflate_0e8fd_35 : decode cJ2_inflate_0e8fd 35 = .ok (.iinc 5 1, 3) := by decide +kernel
theorem dJ2_inflate_0e8fd_38 : decode cJ2_inflate_0e8fd 38 = .ok (.goto (-28), 3) := by decide +kernel
theorem dJ2_inflate_0e8fd_41 : decode cJ2_inflate_0e8fd 41 = .ok (.return_, 1) := by decide +kernel
theorem dJ2_getChars_ba4f3_0 : decode cJ2_getChars_ba4f3 0 = .ok (.iload_n 1, 1) := by decide +kernel
theorem dJ2_getChars_ba4f3_1 : decode cJ2_getChars_ba4f3 1 = .ok (.istore 5, 2) := by decide +kernel
theorem dJ2_getChars_ba4f3_3 : decode cJ2_getChars_ba4f3 3 = .ok (.iload_n 0, 1) := by decide +kernel
theorem dJ2_getChars_ba4f3_4 : decode cJ2_getChars_ba4f3 4 = .ok (.ifCond .ge 7, 3) := by decide +kernel
theorem dJ2_getChars_ba4f3_7 : decode cJ2_getChars_ba4f3 7 = .ok (.iconst 1, 1) := by decide +kernel
theorem dJ2_getChars_ba4f3_8 : decode cJ2_getChars_ba4f3 8 = .ok (.goto 4, 3) := by decide +kernel
theorem dJ2_getChars_ba4f3_11 : decode cJ2_getChars_ba4f3 11 = .ok (.iconst 0, 1) := by decide +kernel
theorem dJ2_getChars_ba4f3_12 : decode cJ2_getChars_ba4f3 12 = .ok (.istore 6, 2) := by decide +kernel
theorem dJ2_getChars_ba4f3_14 : decode cJ2_getChars_ba4f3 14 = .ok (.iload 6, 2) := by decide +kernel
theorem dJ2_getChars_ba4f3_16 : decode cJ2_getChars_ba4f3 16 = .ok (.ifCond .ne 6, 3) := by decide +kernel
theorem dJ2_getChars_ba4f3_19 : decode cJ2_getChars_ba4f3 19 = .ok (.iload_n 0, 1) := by decide +kernel
theorem dJ2_getChars_ba4f3_20 : decode cJ2_getChars_ba4f3 20 = .ok (.ineg, 1) := by decide +kernel
theorem dJ2_getChars_ba4f3_21 : decode cJ2_getChars_ba4f3 21 = .ok (.istore_n 0, 1) := by decide +kernel
theorem dJ2_getChars_ba4f3_22 : decode cJ2_getChars_ba4f3 22 = .ok (.iload_n 0, 1) := by decide +kernel
theorem dJ2_getChars_ba4f3_23 : decode cJ2_getChars_ba4f3 23 = .ok (.bipush (-100), 2) := by decide +kernel
theorem dJ2_getChars_ba4f3_25 : decode cJ2_getChars_ba4f3 25 = .ok (.if_icmp .gt 51, 3) := by decide +kernel
theorem dJ2_getChars_ba4f3_28 : decode cJ2_getChars_ba4f3 28 = .ok (.iload_n 0, 1) := by decide +kernel
theorem dJ2_getChars_ba4f3_29 : decode cJ2_getChars_ba4f3 29 = .ok (.bipush 100, 2) := by decide +kernel
theorem dJ2_getChars_ba4f3_31 : decode cJ2_getChars_ba4f3 31 = .ok (.idiv, 1) := by decide +kernel
theorem dJ2_getChars_ba4f3_32 : decode cJ2_getChars_ba4f3 32 = .ok (.istore_n 3, 1) := by decide +kernel
theorem dJ2_getChars_ba4f3_33 : decode cJ2_getChars_ba4f3 33 = .ok (.iload_n 3, 1) := by decide +kernel
theorem dJ2_getChars_ba4f3_34 : decode cJ2_getChars_ba4f3 34 = .ok (.bipush 100, 2) := by decide +kernel
theorem dJ2_getChars_ba4f3_36 : decode cJ2_getChars_ba4f3 36 = .ok (.imul, 1) := by decide +kernel
theorem dJ2_getChars_ba4f3_37 : decode cJ2_getChars_ba4f3 37 = .ok (.iload_n 0, 1) := by decide +kernel
theorem dJ2_getChars_ba4f3_38 : decode cJ2_getChars_ba4f3 38 = .ok (.isub, 1) := by decide +kernel
theorem dJ2_getChars_ba4f3_39 : decode cJ2_getChars_ba4f3 39 = .ok (.istore 4, 2) := by decide +kernel
theorem dJ2_getChars_ba4f3_41 : decode cJ2_getChars_ba4f3 41 = .ok (.iload_n 3, 1) := by decide +kernel
theorem dJ2_getChars_ba4f3_42 : decode cJ2_getChars_ba4f3 42 = .ok (.istore_n 0, 1) := by decide +kernel
theorem dJ2_getChars_ba4f3_43 : decode cJ2_getChars_ba4f3 43 = .ok (.aload_n 2, 1) := by decide +kernel
theorem dJ2_getChars_ba4f3_44 : decode cJ2_getChars_ba4f3 44 = .ok (.iinc 5 (-1), 3) := by decide +kernel
theorem dJ2_getChars_ba4f3_47 : decode cJ2_getChars_ba4f3 47 = .ok (.iload 5, 2) := by decide +kernel
theorem dJ2_getChars_ba4f3_49 : decode cJ2_getChars_ba4f3 49 = .ok (.getstatic 403, 3) := by decide +kernel
theorem dJ2_getChars_ba4f3_52 : decode cJ2_getChars_ba4f3 52 = .ok (.iload 4, 2) := by decide +kernel
theorem dJ2_getChars_ba4f3_54 : decode cJ2_getChars_ba4f3 54 = .ok (.baload, 1) := by decide +kernel
theorem dJ2_getChars_ba4f3_55 : decode cJ2_getChars_ba4f3 55 = .ok (.invokestatic 111, 3) := by decide +kernel
theorem dJ2_getChars_ba4f3_58 : decode cJ2_getChars_ba4f3 58 = .ok (.aload_n 2, 1) := by decide +kernel
theorem dJ2_getChars_ba4f3_59 : decode cJ2_getChars_ba4f3 59 = .ok (.iinc 5 (-1), 3) := by decide +kernel
theorem dJ2_getChars_ba4f3_62 : decode cJ2_getChars_ba4f3 62 = .ok (.iload 5, 2) := by decide +kernel
theorem dJ2_getChars_ba4f3_64 : decode cJ2_getChars_ba4f3 64 = .ok (.getstatic 407, 3) := by decide +kernel
theorem dJ2_getChars_ba4f3_67 : decode cJ2_getChars_ba4f3 67 = .ok (.iload 4, 2) := by decide +kernel
theorem dJ2_getChars_ba4f3_69 : decode cJ2_getChars_ba4f3 69 = .ok (.baload, 1) := by decide +kernel
theorem dJ2_getChars_ba4f3_70 : decode cJ2_getChars_ba4f3 70 = .ok (.invokestatic 111, 3) := by decide +kernel
theorem dJ2_getChars_ba4f3_73 : decode cJ2_getChars_ba4f3 73 = .ok (.goto (-51), 3) := by decide +kernel
theorem dJ2_getChars_ba4f3_76 : decode cJ2_getChars_ba4f3 76 = .ok (.aload_n 2, 1) := by decide +kernel
theorem dJ2_getChars_ba4f3_77 : decode cJ2_getChars_ba4f3 77 = .ok (.iinc 5 (-1), 3) := by decide +kernel
theorem dJ2_getChars_ba4f3_80 : decode cJ2_getChars_ba4f3 80 = .ok (.iload 5, 2) := by decide +kernel
theorem dJ2_getChars_ba4f3_82 : decode cJ2_getChars_ba4f3 82 = .ok (.getstatic 403, 3) := by decide +kernel
theorem dJ2_getChars_ba4f3_85 : decode cJ2_getChars_ba4f3 85 = .ok (.iload_n 0, 1) := by decide +kernel
theorem dJ2_getChars_ba4f3_86 : decode cJ2_getChars_ba4f3 86 = .ok (.ineg, 1) := by decide +kernel
theorem dJ2_getChars_ba4f3_87 : decode cJ2_getChars_ba4f3 87 = .ok (.baload, 1) := by decide +kernel
theorem dJ2_getChars_ba4f3_88 : decode cJ2_getChars_ba4f3 88 = .ok (.invokestatic 111, 3) := by decide +kernel
theorem dJ2_getChars_ba4f3_91 : decode cJ2_getChars_ba4f3 91 = .ok (.iload_n 0, 1) := by decide +kernel
theorem dJ2_getChars_ba4f3_92 : decode cJ2_getChars_ba4f3 92 = .ok (.bipush (-9), 2) := by decide +kernel
theorem dJ2_getChars_ba4f3_94 : decode cJ2_getChars_ba4f3 94 = .ok (.if_icmp .ge 18, 3) := by decide +kernel
theorem dJ2_getChars_ba4f3_97 : decode cJ2_getChars_ba4f3 97 = .ok (.aload_n 2, 1) := by decide +kernel
theorem dJ2_getChars_ba4f3_98 : decode cJ2_getChars_ba4f3 98 = .ok (.iinc 5 (-1), 3) := by decide +kernel
theorem dJ2_getChars_ba4f3_101 : decode cJ2_getChars_ba4f3 101 = .ok (.iload 5, 2) := by decide +kernel
theorem dJ2_getChars_ba4f3_103 : decode cJ2_getChars_ba4f3 103 = .ok (.getstatic 407, 3) := by decide +kernel
theorem dJ2_getChars_ba4f3_106 : decode cJ2_getChars_ba4f3 106 = .ok (.iload_n 0, 1) := by decide +kernel
theorem dJ2_getChars_ba4f3_107 : decode cJ2_getChars_ba4f3 107 = .ok (.ineg, 1) := by decide +kernel
theorem dJ2_getChars_ba4f3_108 : decode cJ2_getChars_ba4f3 108 = .ok (.baload, 1) := by decide +kernel
theorem dJ2_getChars_ba4f3_109 : decode cJ2_getChars_ba4f3 109 = .ok (.invokestatic 111, 3) := by decide +kernel
theorem dJ2_getChars_ba4f3_112 : decode cJ2_getChars_ba4f3 112 = .ok (.iload 6, 2) := by decide +kernel
theorem dJ2_getChars_ba4f3_114 : decode cJ2_getChars_ba4f3 114 = .ok (.ifCond .eq 14, 3) := by decide +kernel
theorem dJ2_getChars_ba4f3_117 : decode cJ2_getChars_ba4f3 117 = .ok (.aload_n 2, 1) := by decide +kernel
theorem dJ2_getChars_ba4f3_118 : decode cJ2_getChars_ba4f3 118 = .ok (.iinc 5 (-1), 3) := by decide +kernel
theorem dJ2_getChars_ba4f3_121 : decode cJ2_getChars_ba4f3 121 = .ok (.iload 5, 2) := by decide +kernel
theorem dJ2_getChars_ba4f3_123 : decode cJ2_getChars_ba4f3 123 = .ok (.bipush 45, 2) := by decide +kernel
theorem dJ2_getChars_ba4f3_125 : decode cJ2_getChars_ba4f3 125 = .ok (.invokestatic 111, 3) := by decide +kernel
theorem dJ2_getChars_ba4f3_128 : decode cJ2_getChars_ba4f3 128 = .ok (.iload 5, 2) := by decide +kernel
theorem dJ2_getChars_ba4f3_130 : decode cJ2_getChars_ba4f3 130 = .ok (.ireturn, 1) := by decide +kernel
theorem dJ2_checkIndex_2214a_0 : decode cJ2_checkIndex_2214a 0 = .ok (.iload_n 0, 1) := by decide +kernel
theorem dJ2_checkIndex_2214a_1 : decode cJ2_checkIndex_2214a 1 = .ok (.aload_n 1, 1) := by decide +kernel
theorem dJ2_checkIndex_2214a_2 : decode cJ2_checkIndex_2214a 2 = .ok (.invokestatic 48, 3) := by decide +kernel
theorem dJ2_checkIndex_2214a_5 : decode cJ2_checkIndex_2214a 5 = .ok (.invokestatic 414, 3) := by decide +kernel
theorem dJ2_checkIndex_2214a_8 : decode cJ2_checkIndex_2214a 8 = .ok (.return_, 1) := by decide +kernel
theorem dJ2_checkBoundsBeginEnd_d044e_0 : decode cJ2_checkBoundsBeginEnd_d044e 0 = .ok (.iload_n 0, 1) := by decide +kernel
theorem dJ2_checkBoundsBeginEnd_d044e_1 : decode cJ2_checkBoundsBeginEnd_d044e 1 = .ok (.iload_n 1, 1) := by decide +kernel
theorem dJ2_checkBoundsBeginEnd_d044e_2 : decode cJ2_checkBoundsBeginEnd_d044e 2 = .ok (.aload_n 2, 1) := by decide +kernel
theorem dJ2_checkBoundsBeginEnd_d044e_3 : decode cJ2_checkBoundsBeginEnd_d044e 3 = .ok (.invokestatic 48, 3) := by decide +kernel
theorem dJ2_checkBoundsBeginEnd_d044e_6 : decode cJ2_checkBoundsBeginEnd_d044e 6 = .ok (.invokestatic 241, 3) := by decide +kernel
theorem dJ2_checkBoundsBeginEnd_d044e_9 : decode cJ2_checkBoundsBeginEnd_d044e 9 = .ok (.return_, 1) := by decide +kernel
theorem dJ2_checkBoundsOffCount_d044e_0 : decode cJ2_checkBoundsOffCount_d044e 0 = .ok (.iload_n 0, 1) := by decide +kernel
theorem dJ2_checkBoundsOffCount_d044e_1 : decode cJ2_checkBoundsOffCount_d044e 1 = .ok (.iload_n 1, 1) := by decide +kernel
theorem dJ2_checkBoundsOffCount_d044e_2 : decode cJ2_checkBoundsOffCount_d044e 2 = .ok (.aload_n 2, 1) := by decide +kernel
theorem dJ2_checkBoundsOffCount_d044e_3 : decode cJ2_checkBoundsOffCount_d044e 3 = .ok (.invokestatic 48, 3) := by decide +kernel
theorem dJ2_checkBoundsOffCount_d044e_6 : decode cJ2_checkBoundsOffCount_d044e 6 = .ok (.invokestatic 419, 3) := by decide +kernel
theorem dJ2_checkBoundsOffCount_d044e_9 : decode cJ2_checkBoundsOffCount_d044e 9 = .ok (.pop, 1) := by decide +kernel
theorem dJ2_checkBoundsOffCount_d044e_10 : decode cJ2_checkBoundsOffCount_d044e 10 = .ok (.return_, 1) := by decide +kernel
theorem dJ7_rangeCheck_23922_0 : decode cJ7_rangeCheck_23922 0 = .ok (.iload_n 1, 1) := by decide +kernel
theorem dJ7_rangeCheck_23922_1 : decode cJ7_rangeCheck_23922 1 = .ok (.iload_n 2, 1) := by decide +kernel
theorem dJ7_rangeCheck_23922_2 : decode cJ7_rangeCheck_23922 2 = .ok (.if_icmp .le 44, 3) := by decide +kernel
theorem dJ7_rangeCheck_23922_5 : decode cJ7_rangeCheck_23922 5 = .ok (.new 43, 3) := by decide +kernel
theorem dJ7_rangeCheck_23922_8 : decode cJ7_rangeCheck_23922 8 = .ok (.dup, 1) := by decide +kernel
theorem dJ7_rangeCheck_23922_9 : decode cJ7_rangeCheck_23922 9 = .ok (.new 45, 3) := by decide +kernel
theorem dJ7_rangeCheck_23922_12 : decode cJ7_rangeCheck_23922 12 = .ok (.dup, 1) := by decide +kernel
theorem dJ7_rangeCheck_23922_13 : decode cJ7_rangeCheck_23922 13 = .ok (.invokespecial 47, 3) := by decide +kernel
theorem dJ7_rangeCheck_23922_16 : decode cJ7_rangeCheck_23922 16 = .ok (.ldc 48, 2) := by decide +kernel
theorem dJ7_rangeCheck_23922_18 : decode cJ7_rangeCheck_23922 18 = .ok (.invokevirtual 50, 3) := by decide +kernel
theorem dJ7_rangeCheck_23922_21 : decode cJ7_rangeCheck_23922 21 = .ok (.iload_n 1, 1) := by decide +kernel
theorem dJ7_rangeCheck_23922_22 : decode cJ7_rangeCheck_23922 22 = .ok (.invokevirtual 54, 3) := by decide +kernel
theorem dJ7_rangeCheck_23922_25 : decode cJ7_rangeCheck_23922 25 = .ok (.ldc 57, 2) := by decide +kernel
theorem dJ7_rangeCheck_23922_27 : decode cJ7_rangeCheck_23922 27 = .ok (.invokevirtual 50, 3) := by decide +kernel
theorem dJ7_rangeCheck_23922_30 : decode cJ7_rangeCheck_23922 30 = .ok (.iload_n 2, 1) := by decide +kernel
theorem dJ7_rangeCheck_23922_31 : decode cJ7_rangeCheck_23922 31 = .ok (.invokevirtual 54, 3) := by decide +kernel
theorem dJ7_rangeCheck_23922_34 : decode cJ7_rangeCheck_23922 34 = .ok (.ldc 59, 2) := by decide +kernel
theorem dJ7_rangeCheck_23922_36 : decode cJ7_rangeCheck_23922 36 = .ok (.invokevirtual 50, 3) := by decide +kernel
theorem dJ7_rangeCheck_23922_39 : decode cJ7_rangeCheck_23922 39 = .ok (.invokevirtual 61, 3) := by decide +kernel
theorem dJ7_rangeCheck_23922_42 : decode cJ7_rangeCheck_23922 42 = .ok (.invokespecial 65, 3) := by decide +kernel
theorem dJ7_rangeCheck_23922_45 : decode cJ7_rangeCheck_23922 45 = .ok (.athrow, 1) := by decide +kernel
theorem dJ7_rangeCheck_23922_46 : decode cJ7_rangeCheck_23922 46 = .ok (.iload_n 1, 1) := by decide +kernel
theorem dJ7_rangeCheck_23922_47 : decode cJ7_rangeCheck_23922 47 = .ok (.ifCond .ge 12, 3) := by decide +kernel
theorem dJ7_rangeCheck_23922_50 : decode cJ7_rangeCheck_23922 50 = .ok (.new 68, 3) := by decide +kernel
theorem dJ7_rangeCheck_23922_53 : decode cJ7_rangeCheck_23922 53 = .ok (.dup, 1) := by decide +kernel
theorem dJ7_rangeCheck_23922_54 : decode cJ7_rangeCheck_23922 54 = .ok (.iload_n 1, 1) := by decide +kernel
theorem dJ7_rangeCheck_23922_55 : decode cJ7_rangeCheck_23922 55 = .ok (.invokespecial 70, 3) := by decide +kernel
theorem dJ7_rangeCheck_23922_58 : decode cJ7_rangeCheck_23922 58 = .ok (.athrow, 1) := by decide +kernel
theorem dJ7_rangeCheck_23922_59 : decode cJ7_rangeCheck_23922 59 = .ok (.iload_n 2, 1) := by decide +kernel
theorem dJ7_rangeCheck_23922_60 : decode cJ7_rangeCheck_23922 60 = .ok (.iload_n 0, 1) := by decide +kernel
theorem dJ7_rangeCheck_23922_61 : decode cJ7_rangeCheck_23922 61 = .ok (.if_icmp .le 12, 3) := by decide +kernel
theorem dJ7_rangeCheck_23922_64 : decode cJ7_rangeCheck_23922 64 = .ok (.new 68, 3) := by decide +kernel
theorem dJ7_rangeCheck_23922_67 : decode cJ7_rangeCheck_23922 67 = .ok (.dup, 1) := by decide +kernel
theorem dJ7_rangeCheck_23922_68 : decode cJ7_rangeCheck_23922 68 = .ok (.iload_n 2, 1) := by decide +kernel
theorem dJ7_rangeCheck_23922_69 : decode cJ7_rangeCheck_23922 69 = .ok (.invokespecial 70, 3) := by decide +kernel
theorem dJ7_rangeCheck_23922_72 : decode cJ7_rangeCheck_23922 72 = .ok (.athrow, 1) := by decide +kernel
theorem dJ7_rangeCheck_23922_73 : decode cJ7_rangeCheck_23922 73 = .ok (.return_, 1) := by decide +kernel
theorem dJ7_fill_eb02e_0 : decode cJ7_fill_eb02e 0 = .ok (.aload_n 0, 1) := by decide +kernel
theorem dJ7_fill_eb02e_1 : decode cJ7_fill_eb02e 1 = .ok (.arraylength, 1) := by decide +kernel
theorem dJ7_fill_eb02e_2 : decode cJ7_fill_eb02e 2 = .ok (.iload_n 1, 1) := by decide +kernel
theorem dJ7_fill_eb02e_3 : decode cJ7_fill_eb02e 3 = .ok (.iload_n 2, 1) := by decide +kernel
theorem dJ7_fill_eb02e_4 : decode cJ7_fill_eb02e 4 = .ok (.invokestatic 13, 3) := by decide +kernel
theorem dJ7_fill_eb02e_7 : decode cJ7_fill_eb02e 7 = .ok (.iload_n 1, 1) := by decide +kernel
theorem dJ7_fill_eb02e_8 : decode cJ7_fill_eb02e 8 = .ok (.istore 4, 2) := by decide +kernel
theorem dJ7_fill_eb02e_10 : decode cJ7_fill_eb02e 10 = .ok (.iload 4, 2) := by decide +kernel
theorem dJ7_fill_eb02e_12 : decode cJ7_fill_eb02e 12 = .ok (.iload_n 2, 1) := by decide +kernel
theorem dJ7_fill_eb02e_13 : decode cJ7_fill_eb02e 13 = .ok (.if_icmp .ge 14, 3) := by decide +kernel
theorem dJ7_fill_eb02e_16 : decode cJ7_fill_eb02e 16 = .ok (.aload_n 0, 1) := by decide +kernel
theorem dJ7_fill_eb02e_17 : decode cJ7_fill_eb02e 17 = .ok (.iload 4, 2) := by decide +kernel
theorem dJ7_fill_eb02e_19 : decode cJ7_fill_eb02e 19 = .ok (.iload_n 3, 1) := by decide +kernel
theorem dJ7_fill_eb02e_20 : decode cJ7_fill_eb02e 20 = .ok (.bastore, 1) := by decide +kernel
theorem dJ7_fill_eb02e_21 : decode cJ7_fill_eb02e 21 = .ok (.iinc 4 1, 3) := by decide +kernel
theorem dJ7_fill_eb02e_24 : decode cJ7_fill_eb02e 24 = .ok (.goto (-14), 3) := by decide +kernel
theorem dJ7_fill_eb02e_27 : decode cJ7_fill_eb02e 27 = .ok (.return_, 1) := by decide +kernel
theorem dJ7_copyOf_9075b_0 : decode cJ7_copyOf_9075b 0 = .ok (.iload_n 1, 1) := by decide +kernel
theorem dJ7_copyOf_9075b_1 : decode cJ7_copyOf_9075b 1 = .ok (.aload_n 0, 1) := by decide +kernel
theorem dJ7_copyOf_9075b_2 : decode cJ7_copyOf_9075b 2 = .ok (.arraylength, 1) := by decide +kernel
theorem dJ7_copyOf_9075b_3 : decode cJ7_copyOf_9075b 3 = .ok (.if_icmp .ne 11, 3) := by decide +kernel
theorem dJ7_copyOf_9075b_6 : decode cJ7_copyOf_9075b 6 = .ok (.aload_n 0, 1) := by decide +kernel
theorem dJ7_copyOf_9075b_7 : decode cJ7_copyOf_9075b 7 = .ok (.invokevirtual 310, 3) := by decide +kernel
theorem dJ7_copyOf_9075b_10 : decode cJ7_copyOf_9075b 10 = .ok (.checkcast 311, 3) := by decide +kernel
theorem dJ7_copyOf_9075b_13 : decode cJ7_copyOf_9075b 13 = .ok (.areturn, 1) := by decide +kernel
theorem dJ7_copyOf_9075b_14 : decode cJ7_copyOf_9075b 14 = .ok (.iload_n 1, 1) := by decide +kernel
theorem dJ7_copyOf_9075b_15 : decode cJ7_copyOf_9075b 15 = .ok (.newarray .byte, 2) := by decide +kernel
theorem dJ7_copyOf_9075b_17 : decode cJ7_copyOf_9075b 17 = .ok (.astore_n 2, 1) := by decide +kernel
theorem dJ7_copyOf_9075b_18 : decode cJ7_copyOf_9075b 18 = .ok (.aload_n 0, 1) := by decide +kernel
theorem dJ7_copyOf_9075b_19 : decode cJ7_copyOf_9075b 19 = .ok (.iconst 0, 1) := by decide +kernel
theorem dJ7_copyOf_9075b_20 : decode cJ7_copyOf_9075b 20 = .ok (.aload_n 2, 1) := by decide +kernel
theorem dJ7_copyOf_9075b_21 : decode cJ7_copyOf_9075b 21 = .ok (.iconst 0, 1) := by decide +kernel
theorem dJ7_copyOf_9075b_22 : decode cJ7_copyOf_9075b 22 = .ok (.aload_n 0, 1) := by decide +kernel
theorem dJ7_copyOf_9075b_23 : decode cJ7_copyOf_9075b 23 = .ok (.arraylength, 1) := by decide +kernel
theorem dJ7_copyOf_9075b_24 : decode cJ7_copyOf_9075b 24 = .ok (.iload_n 1, 1) := by decide +kernel
theorem dJ7_copyOf_9075b_25 : decode cJ7_copyOf_9075b 25 = .ok (.invokestatic 304, 3) := by decide +kernel
theorem dJ7_copyOf_9075b_28 : decode cJ7_copyOf_9075b 28 = .ok (.invokestatic 150, 3) := by decide +kernel
theorem dJ7_copyOf_9075b_31 : decode cJ7_copyOf_9075b 31 = .ok (.aload_n 2, 1) := by decide +kernel
theorem dJ7_copyOf_9075b_32 : decode cJ7_copyOf_9075b 32 = .ok (.areturn, 1) := by decide +kernel
theorem dJ7_checkLength_df160_0 : decode cJ7_checkLength_df160 0 = .ok (.iload_n 1, 1) := by decide +kernel
theorem dJ7_checkLength_df160_1 : decode cJ7_checkLength_df160 1 = .ok (.iload_n 0, 1) := by decide +kernel
theorem dJ7_checkLength_df160_2 : decode cJ7_checkLength_df160 2 = .ok (.if_icmp .ge 35, 3) := by decide +kernel
theorem dJ7_checkLength_df160_5 : decode cJ7_checkLength_df160 5 = .ok (.new 43, 3) := by decide +kernel
theorem dJ7_checkLength_df160_8 : decode cJ7_checkLength_df160 8 = .ok (.dup, 1) := by decide +kernel
theorem dJ7_checkLength_df160_9 : decode cJ7_checkLength_df160 9 = .ok (.new 45, 3) := by decide +kernel
theorem dJ7_checkLength_df160_12 : decode cJ7_checkLength_df160 12 = .ok (.dup, 1) := by decide +kernel
theorem dJ7_checkLength_df160_13 : decode cJ7_checkLength_df160 13 = .ok (.invokespecial 47, 3) := by decide +kernel
theorem dJ7_checkLength_df160_16 : decode cJ7_checkLength_df160 16 = .ok (.iload_n 0, 1) := by decide +kernel
theorem dJ7_checkLength_df160_17 : decode cJ7_checkLength_df160 17 = .ok (.invokevirtual 54, 3) := by decide +kernel
theorem dJ7_checkLength_df160_20 : decode cJ7_checkLength_df160 20 = .ok (.ldc_w 337, 3) := by decide +kernel
theorem dJ7_checkLength_df160_23 : decode cJ7_checkLength_df160 23 = .ok (.invokevirtual 50, 3) := by decide +kernel
theorem dJ7_checkLength_df160_26 : decode cJ7_checkLength_df160 26 = .ok (.iload_n 1, 1) := by decide +kernel
theorem dJ7_checkLength_df160_27 : decode cJ7_checkLength_df160 27 = .ok (.invokevirtual 54, 3) := by decide +kernel
theorem dJ7_checkLength_df160_30 : decode cJ7_checkLength_df160 30 = .ok (.invokevirtual 61, 3) := by decide +kernel
theorem dJ7_checkLength_df160_33 : decode cJ7_checkLength_df160 33 = .ok (.invokespecial 65, 3) := by decide +kernel
theorem dJ7_checkLength_df160_36 : decode cJ7_checkLength_df160 36 = .ok (.athrow, 1) := by decide +kernel
theorem dJ7_checkLength_df160_37 : decode cJ7_checkLength_df160 37 = .ok (.return_, 1) := by decide +kernel
theorem dJ7_copyOfRange_39247_0 : decode cJ7_copyOfRange_39247 0 = .ok (.iload_n 1, 1) := by decide +kernel
theorem dJ7_copyOfRange_39247_1 : decode cJ7_copyOfRange_39247 1 = .ok (.ifCond .ne 9, 3) := by decide +kernel
theorem dJ7_copyOfRange_39247_4 : decode cJ7_copyOfRange_39247 4 = .ok (.iload_n 2, 1) := by decide +kernel
theorem dJ7_copyOfRange_39247_5 : decode cJ7_copyOfRange_39247 5 = .ok (.aload_n 0, 1) := by decide +kernel
theorem dJ7_copyOfRange_39247_6 : decode cJ7_copyOfRange_39247 6 = .ok (.arraylength, 1) := by decide +kernel
theorem dJ7_copyOfRange_39247_7 : decode cJ7_copyOfRange_39247 7 = .ok (.if_icmp .eq 10, 3) := by decide +kernel
theorem dJ7_copyOfRange_39247_10 : decode cJ7_copyOfRange_39247 10 = .ok (.aload_n 0, 1) := by decide +kernel
theorem dJ7_copyOfRange_39247_11 : decode cJ7_copyOfRange_39247 11 = .ok (.iload_n 1, 1) := by decide +kernel
theorem dJ7_copyOfRange_39247_12 : decode cJ7_copyOfRange_39247 12 = .ok (.iload_n 2, 1) := by decide +kernel
theorem dJ7_copyOfRange_39247_13 : decode cJ7_copyOfRange_39247 13 = .ok (.invokestatic 339, 3) := by decide +kernel
theorem dJ7_copyOfRange_39247_16 : decode cJ7_copyOfRange_39247 16 = .ok (.areturn, 1) := by decide +kernel
theorem dJ7_copyOfRange_39247_17 : decode cJ7_copyOfRange_39247 17 = .ok (.aload_n 0, 1) := by decide +kernel
theorem dJ7_copyOfRange_39247_18 : decode cJ7_copyOfRange_39247 18 = .ok (.invokevirtual 310, 3) := by decide +kernel
theorem dJ7_copyOfRange_39247_21 : decode cJ7_copyOfRange_39247 21 = .ok (.checkcast 311, 3) := by decide +kernel
theorem dJ7_copyOfRange_39247_24 : decode cJ7_copyOfRange_39247 24 = .ok (.areturn, 1) := by decide +kernel
theorem dJ7_copyOfRangeByte_39247_0 : decode cJ7_copyOfRangeByte_39247 0 = .ok (.iload_n 1, 1) := by decide +kernel
theorem dJ7_copyOfRangeByte_39247_1 : decode cJ7_copyOfRangeByte_39247 1 = .ok (.iload_n 2, 1) := by decide +kernel
theorem dJ7_copyOfRangeByte_39247_2 : decode cJ7_copyOfRangeByte_39247 2 = .ok (.invokestatic 343, 3) := by decide +kernel
theorem dJ7_copyOfRangeByte_39247_5 : decode cJ7_copyOfRangeByte_39247 5 = .ok (.iload_n 2, 1) := by decide +kernel
theorem dJ7_copyOfRangeByte_39247_6 : decode cJ7_copyOfRangeByte_39247 6 = .ok (.iload_n 1, 1) := by decide +kernel
theorem dJ7_copyOfRangeByte_39247_7 : decode cJ7_copyOfRangeByte_39247 7 = .ok (.isub, 1) := by decide +kernel
theorem dJ7_copyOfRangeByte_39247_8 : decode cJ7_copyOfRangeByte_39247 8 = .ok (.istore_n 3, 1) := by decide +kernel
theorem dJ7_copyOfRangeByte_39247_9 : decode cJ7_copyOfRangeByte_39247 9 = .ok (.iload_n 3, 1) := by decide +kernel
theorem dJ7_copyOfRangeByte_39247_10 : decode cJ7_copyOfRangeByte_39247 10 = .ok (.newarray .byte, 2) := by decide +kernel
theorem dJ7_copyOfRangeByte_39247_12 : decode cJ7_copyOfRangeByte_39247 12 = .ok (.astore 4, 2) := by decide +kernel
theorem dJ7_copyOfRangeByte_39247_14 : decode cJ7_copyOfRangeByte_39247 14 = .ok (.aload_n 0, 1) := by decide +kernel
theorem dJ7_copyOfRangeByte_39247_15 : decode cJ7_copyOfRangeByte_39247 15 = .ok (.iload_n 1, 1) := by decide +kernel
theorem dJ7_copyOfRangeByte_39247_16 : decode cJ7_copyOfRangeByte_39247 16 = .ok (.aload 4, 2) := by decide +kernel
theorem dJ7_copyOfRangeByte_39247_18 : decode cJ7_copyOfRangeByte_39247 18 = .ok (.iconst 0, 1) := by decide +kernel
theorem dJ7_copyOfRangeByte_39247_19 : decode cJ7_copyOfRangeByte_39247 19 = .ok (.aload_n 0, 1) := by decide +kernel
theorem dJ7_copyOfRangeByte_39247_20 : decode cJ7_copyOfRangeByte_39247 20 = .ok (.arraylength, 1) := by decide +kernel
theorem dJ7_copyOfRangeByte_39247_21 : decode cJ7_copyOfRangeByte_39247 21 = .ok (.iload_n 1, 1) := by decide +kernel
theorem dJ7_copyOfRangeByte_39247_22 : decode cJ7_copyOfRangeByte_39247 22 = .ok (.isub, 1) := by decide +kernel
theorem dJ7_copyOfRangeByte_39247_23 : decode cJ7_copyOfRangeByte_39247 23 = .ok (.iload_n 3, 1) := by decide +kernel
theorem dJ7_copyOfRangeByte_39247_24 : decode cJ7_copyOfRangeByte_39247 24 = .ok (.invokestatic 304, 3) := by decide +kernel
theorem dJ7_copyOfRangeByte_39247_27 : decode cJ7_copyOfRangeByte_39247 27 = .ok (.invokestatic 150, 3) := by decide +kernel
theorem dJ7_copyOfRangeByte_39247_30 : decode cJ7_copyOfRangeByte_39247 30 = .ok (.aload 4, 2) := by decide +kernel
theorem dJ7_copyOfRangeByte_39247_32 : decode cJ7_copyOfRangeByte_39247 32 = .ok (.areturn, 1) := by decide +kernel
theorem dJ8_newLength_cabcc_0 : decode cJ8_newLength_cabcc 0 = .ok (.iload_n 0, 1) := by decide +kernel
theorem dJ8_newLength_cabcc_1 : decode cJ8_newLength_cabcc 1 = .ok (.iload_n 1, 1) := by decide +kernel
theorem dJ8_newLength_cabcc_2 : decode cJ8_newLength_cabcc 2 = .ok (.iload_n 2, 1) := by decide +kernel
theorem dJ8_newLength_cabcc_3 : decode cJ8_newLength_cabcc 3 = .ok (.invokestatic 194, 3) := by decide +kernel
theorem dJ8_newLength_cabcc_6 : decode cJ8_newLength_cabcc 6 = .ok (.iadd, 1) := by decide +kernel
theorem dJ8_newLength_cabcc_7 : decode cJ8_newLength_cabcc 7 = .ok (.istore_n 3, 1) := by decide +kernel
theorem dJ8_newLength_cabcc_8 : decode cJ8_newLength_cabcc 8 = .ok (.iconst 0, 1) := by decide +kernel
theorem dJ8_newLength_cabcc_9 : decode cJ8_newLength_cabcc 9 = .ok (.iload_n 3, 1) := by decide +kernel
theorem dJ8_newLength_cabcc_10 : decode cJ8_newLength_cabcc 10 = .ok (.if_icmp .ge 11, 3) := by decide +kernel
theorem dJ8_newLength_cabcc_13 : decode cJ8_newLength_cabcc 13 = .ok (.iload_n 3, 1) := by decide +kernel
theorem dJ8_newLength_cabcc_14 : decode cJ8_newLength_cabcc 14 = .ok (.ldc 200, 2) := by decide +kernel
theorem dJ8_newLength_cabcc_16 : decode cJ8_newLength_cabcc 16 = .ok (.if_icmp .gt 5, 3) := by decide +kernel
theorem dJ8_newLength_cabcc_19 : decode cJ8_newLength_cabcc 19 = .ok (.iload_n 3, 1) := by decide +kernel
theorem dJ8_newLength_cabcc_20 : decode cJ8_newLength_cabcc 20 = .ok (.ireturn, 1) := by decide +kernel
theorem dJ8_newLength_cabcc_21 : decode cJ8_newLength_cabcc 21 = .ok (.iload_n 0, 1) := by decide +kernel
theorem dJ8_newLength_cabcc_22 : decode cJ8_newLength_cabcc 22 = .ok (.iload_n 1, 1) := by decide +kernel
theorem dJ8_newLength_cabcc_23 : decode cJ8_newLength_cabcc 23 = .ok (.invokestatic 201, 3) := by decide +kernel
theorem dJ8_newLength_cabcc_26 : decode cJ8_newLength_cabcc 26 = .ok (.ireturn, 1) := by decide +kernel
theorem dJ8_hugeLength_7cf53_0 : decode cJ8_hugeLength_7cf53 0 = .ok (.iload_n 0, 1) := by decide +kernel
theorem dJ8_hugeLength_7cf53_1 : decode cJ8_hugeLength_7cf53 1 = .ok (.iload_n 1, 1) := by decide +kernel
theorem dJ8_hugeLength_7cf53_2 : decode cJ8_hugeLength_7cf53 2 = .ok (.iadd, 1) := by decide +kernel
theorem dJ8_hugeLength_7cf53_3 : decode cJ8_hugeLength_7cf53 3 = .ok (.istore_n 2, 1) := by decide +kernel
theorem dJ8_hugeLength_7cf53_4 : decode cJ8_hugeLength_7cf53 4 = .ok (.iload_n 2, 1) := by decide +kernel
theorem dJ8_hugeLength_7cf53_5 : decode cJ8_hugeLength_7cf53 5 = .ok (.ifCond .ge 44, 3) := by decide +kernel
theorem dJ8_hugeLength_7cf53_8 : decode cJ8_hugeLength_7cf53 8 = .ok (.new 204, 3) := by decide +kernel
theorem dJ8_hugeLength_7cf53_11 : decode cJ8_hugeLength_7cf53 11 = .ok (.dup, 1) := by decide +kernel
theorem dJ8_hugeLength_7cf53_12 : decode cJ8_hugeLength_7cf53 12 = .ok (.new 89, 3) := by decide +kernel
theorem dJ8_hugeLength_7cf53_15 : decode cJ8_hugeLength_7cf53 15 = .ok (.dup, 1) := by decide +kernel
theorem dJ8_hugeLength_7cf53_16 : decode cJ8_hugeLength_7cf53 16 = .ok (.invokespecial 91, 3) := by decide +kernel
theorem dJ8_hugeLength_7cf53_19 : decode cJ8_hugeLength_7cf53 19 = .ok (.ldc 206, 2) := by decide +kernel
theorem dJ8_hugeLength_7cf53_21 : decode cJ8_hugeLength_7cf53 21 = .ok (.invokevirtual 94, 3) := by decide +kernel
theorem dJ8_hugeLength_7cf53_24 : decode cJ8_hugeLength_7cf53 24 = .ok (.iload_n 0, 1) := by decide +kernel
theorem dJ8_hugeLength_7cf53_25 : decode cJ8_hugeLength_7cf53 25 = .ok (.invokevirtual 98, 3) := by decide +kernel
theorem dJ8_hugeLength_7cf53_28 : decode cJ8_hugeLength_7cf53 28 = .ok (.ldc 208, 2) := by decide +kernel
theorem dJ8_hugeLength_7cf53_30 : decode cJ8_hugeLength_7cf53 30 = .ok (.invokevirtual 94, 3) := by decide +kernel
theorem dJ8_hugeLength_7cf53_33 : decode cJ8_hugeLength_7cf53 33 = .ok (.iload_n 1, 1) := by decide +kernel
theorem dJ8_hugeLength_7cf53_34 : decode cJ8_hugeLength_7cf53 34 = .ok (.invokevirtual 98, 3) := by decide +kernel
theorem dJ8_hugeLength_7cf53_37 : decode cJ8_hugeLength_7cf53 37 = .ok (.ldc 210, 2) := by decide +kernel
theorem dJ8_hugeLength_7cf53_39 : decode cJ8_hugeLength_7cf53 39 = .ok (.invokevirtual 94, 3) := by decide +kernel
theorem dJ8_hugeLength_7cf53_42 : decode cJ8_hugeLength_7cf53 42 = .ok (.invokevirtual 101, 3) := by decide +kernel
theorem dJ8_hugeLength_7cf53_45 : decode cJ8_hugeLength_7cf53 45 = .ok (.invokespecial 212, 3) := by decide +kernel
theorem dJ8_hugeLength_7cf53_48 : decode cJ8_hugeLength_7cf53 48 = .ok (.athrow, 1) := by decide +kernel
theorem dJ8_hugeLength_7cf53_49 : decode cJ8_hugeLength_7cf53 49 = .ok (.iload_n 2, 1) := by decide +kernel
theorem dJ8_hugeLength_7cf53_50 : decode cJ8_hugeLength_7cf53 50 = .ok (.ldc 200, 2) := by decide +kernel
theorem dJ8_hugeLength_7cf53_52 : decode cJ8_hugeLength_7cf53 52 = .ok (.if_icmp .gt 6, 3) := by decide +kernel
theorem dJ8_hugeLength_7cf53_55 : decode cJ8_hugeLength_7cf53 55 = .ok (.ldc 200, 2) := by decide +kernel
theorem dJ8_hugeLength_7cf53_57 : decode cJ8_hugeLength_7cf53 57 = .ok (.ireturn, 1) := by decide +kernel
theorem dJ8_hugeLength_7cf53_58 : decode cJ8_hugeLength_7cf53 58 = .ok (.iload_n 2, 1) := by decide +kernel
theorem dJ8_hugeLength_7cf53_59 : decode cJ8_hugeLength_7cf53 59 = .ok (.ireturn, 1) := by decide +kernel
theorem dJ3_checkIndex_8e157_0 : decode cJ3_checkIndex_8e157 0 = .ok (.iload_n 0, 1) := by decide +kernel
theorem dJ3_checkIndex_8e157_1 : decode cJ3_checkIndex_8e157 1 = .ok (.ifCond .lt 8, 3) := by decide +kernel
theorem dJ3_checkIndex_8e157_4 : decode cJ3_checkIndex_8e157 4 = .ok (.iload_n 0, 1) := by decide +kernel
theorem dJ3_checkIndex_8e157_5 : decode cJ3_checkIndex_8e157 5 = .ok (.iload_n 1, 1) := by decide +kernel
theorem dJ3_checkIndex_8e157_6 : decode cJ3_checkIndex_8e157 6 = .ok (.if_icmp .lt 10, 3) := by decide +kernel
theorem dJ3_checkIndex_8e157_9 : decode cJ3_checkIndex_8e157 9 = .ok (.aload_n 2, 1) := by decide +kernel
theorem dJ3_checkIndex_8e157_10 : decode cJ3_checkIndex_8e157 10 = .ok (.iload_n 0, 1) := by decide +kernel
theorem dJ3_checkIndex_8e157_11 : decode cJ3_checkIndex_8e157 11 = .ok (.iload_n 1, 1) := by decide +kernel
theorem dJ3_checkIndex_8e157_12 : decode cJ3_checkIndex_8e157 12 = .ok (.invokestatic 95, 3) := by decide +kernel
theorem dJ3_checkIndex_8e157_15 : decode cJ3_checkIndex_8e157 15 = .ok (.athrow, 1) := by decide +kernel
theorem dJ3_checkIndex_8e157_16 : decode cJ3_checkIndex_8e157 16 = .ok (.iload_n 0, 1) := by decide +kernel
theorem dJ3_checkIndex_8e157_17 : decode cJ3_checkIndex_8e157 17 = .ok (.ireturn, 1) := by decide +kernel
theorem dJ3_checkFromToIndex_8c36e_0 : decode cJ3_checkFromToIndex_8c36e 0 = .ok (.iload_n 0, 1) := by decide +kernel
theorem dJ3_checkFromToIndex_8c36e_1 : decode cJ3_checkFromToIndex_8c36e 1 = .ok (.ifCond .lt 13, 3) := by decide +kernel
theorem dJ3_checkFromToIndex_8c36e_4 : decode cJ3_checkFromToIndex_8c36e 4 = .ok (.iload_n 0, 1) := by decide +kernel
theorem dJ3_checkFromToIndex_8c36e_5 : decode cJ3_checkFromToIndex_8c36e 5 = .ok (.iload_n 1, 1) := by decide +kernel
theorem dJ3_checkFromToIndex_8c36e_6 : decode cJ3_checkFromToIndex_8c36e 6 = .ok (.if_icmp .gt 8, 3) := by decide +kernel
theorem dJ3_checkFromToIndex_8c36e_9 : decode cJ3_checkFromToIndex_8c36e 9 = .ok (.iload_n 1, 1) := by decide +kernel
theorem dJ3_checkFromToIndex_8c36e_10 : decode cJ3_checkFromToIndex_8c36e 10 = .ok (.iload_n 2, 1) := by decide +kernel
theorem dJ3_checkFromToIndex_8c36e_11 : decode cJ3_checkFromToIndex_8c36e 11 = .ok (.if_icmp .le 11, 3) := by decide +kernel
theorem dJ3_checkFromToIndex_8c36e_14 : decode cJ3_checkFromToIndex_8c36e 14 = .ok (.aload_n 3, 1) := by decide +kernel
theorem dJ3_checkFromToIndex_8c36e_15 : decode cJ3_checkFromToIndex_8c36e 15 = .ok (.iload_n 0, 1) := by decide +kernel
theorem dJ3_checkFromToIndex_8c36e_16 : decode cJ3_checkFromToIndex_8c36e 16 = .ok (.iload_n 1, 1) := by decide +kernel
theorem dJ3_checkFromToIndex_8c36e_17 : decode cJ3_checkFromToIndex_8c36e 17 = .ok (.iload_n 2, 1) := by decide +kernel
theorem dJ3_checkFromToIndex_8c36e_18 : decode cJ3_checkFromToIndex_8c36e 18 = .ok (.invokestatic 99, 3) := by decide +kernel
theorem dJ3_checkFromToIndex_8c36e_21 : decode cJ3_checkFromToIndex_8c36e 21 = .ok (.athrow, 1) := by decide +kernel
theorem dJ3_checkFromToIndex_8c36e_22 : decode cJ3_checkFromToIndex_8c36e 22 = .ok (.iload_n 0, 1) := by decide +kernel
theorem dJ3_checkFromToIndex_8c36e_23 : decode cJ3_checkFromToIndex_8c36e 23 = .ok (.ireturn, 1) := by decide +kernel
theorem dJ3_checkFromIndexSize_8c36e_0 : decode cJ3_checkFromIndexSize_8c36e 0 = .ok (.iload_n 2, 1) := by decide +kernel
theorem dJ3_checkFromIndexSize_8c36e_1 : decode cJ3_checkFromIndexSize_8c36e 1 = .ok (.iload_n 0, 1) := by decide +kernel
theorem dJ3_checkFromIndexSize_8c36e_2 : decode cJ3_checkFromIndexSize_8c36e 2 = .ok (.ior, 1) := by decide +kernel
theorem dJ3_checkFromIndexSize_8c36e_3 : decode cJ3_checkFromIndexSize_8c36e 3 = .ok (.iload_n 1, 1) := by decide +kernel
theorem dJ3_checkFromIndexSize_8c36e_4 : decode cJ3_checkFromIndexSize_8c36e 4 = .ok (.ior, 1) := by decide +kernel
theorem dJ3_checkFromIndexSize_8c36e_5 : decode cJ3_checkFromIndexSize_8c36e 5 = .ok (.ifCond .lt 10, 3) := by decide +kernel
theorem dJ3_checkFromIndexSize_8c36e_8 : decode cJ3_checkFromIndexSize_8c36e 8 = .ok (.iload_n 1, 1) := by decide +kernel
theorem dJ3_checkFromIndexSize_8c36e_9 : decode cJ3_checkFromIndexSize_8c36e 9 = .ok (.iload_n 2, 1) := by decide +kernel
theorem dJ3_checkFromIndexSize_8c36e_10 : decode cJ3_checkFromIndexSize_8c36e 10 = .ok (.iload_n 0, 1) := by decide +kernel
theorem dJ3_checkFromIndexSize_8c36e_11 : decode cJ3_checkFromIndexSize_8c36e 11 = .ok (.isub, 1) := by decide +kernel
theorem dJ3_checkFromIndexSize_8c36e_12 : decode cJ3_checkFromIndexSize_8c36e 12 = .ok (.if_icmp .le 11, 3) := by decide +kernel
theorem dJ3_checkFromIndexSize_8c36e_15 : decode cJ3_checkFromIndexSize_8c36e 15 = .ok (.aload_n 3, 1) := by decide +kernel
theorem dJ3_checkFromIndexSize_8c36e_16 : decode cJ3_checkFromIndexSize_8c36e 16 = .ok (.iload_n 0, 1) := by decide +kernel
theorem dJ3_checkFromIndexSize_8c36e_17 : decode cJ3_checkFromIndexSize_8c36e 17 = .ok (.iload_n 1, 1) := by decide +kernel
theorem dJ3_checkFromIndexSize_8c36e_18 : decode cJ3_checkFromIndexSize_8c36e 18 = .ok (.iload_n 2, 1) := by decide +kernel
theorem dJ3_checkFromIndexSize_8c36e_19 : decode cJ3_checkFromIndexSize_8c36e 19 = .ok (.invokestatic 103, 3) := by decide +kernel
theorem dJ3_checkFromIndexSize_8c36e_22 : decode cJ3_checkFromIndexSize_8c36e 22 = .ok (.athrow, 1) := by decide +kernel
theorem dJ3_checkFromIndexSize_8c36e_23 : decode cJ3_checkFromIndexSize_8c36e 23 = .ok (.iload_n 0, 1) := by decide +kernel
theorem dJ3_checkFromIndexSize_8c36e_24 : decode cJ3_checkFromIndexSize_8c36e 24 = .ok (.ireturn, 1) := by decide +kernel
theorem dL_addPoint_0 : decode cL_addPoint 0 = .ok (.aload_n 3, 1) := by decide +kernel
theorem dL_addPoint_1 : decode cL_addPoint 1 = .ok (.iconst 0, 1) := by decide +kernel
theorem dL_addPoint_2 : decode cL_addPoint 2 = .ok (.aload_n 0, 1) := by decide +kernel
theorem dL_addPoint_3 : decode cL_addPoint 3 = .ok (.iload_n 1, 1) := by decide +kernel
theorem dL_addPoint_4 : decode cL_addPoint 4 = .ok (.iload_n 2, 1) := by decide +kernel
theorem dL_addPoint_5 : decode cL_addPoint 5 = .ok (.invokevirtual 7, 3) := by decide +kernel
theorem dL_addPoint_8 : decode cL_addPoint 8 = .ok (.i2l, 1) := by decide +kernel
theorem dL_addPoint_9 : decode cL_addPoint 9 = .ok (.lastore, 1) := by decide +kernel
theorem dL_addPoint_10 : decode cL_addPoint 10 = .ok (.goto 11, 3) := by decide +kernel
theorem dL_addPoint_13 : decode cL_addPoint 13 = .ok (.astore 4, 2) := by decide +kernel
theorem dL_addPoint_15 : decode cL_addPoint 15 = .ok (.iconst 1, 1) := by decide +kernel
theorem dL_addPoint_16 : decode cL_addPoint 16 = .ok (.ireturn, 1) := by decide +kernel
theorem dL_addPoint_17 : decode cL_addPoint 17 = .ok (.astore 4, 2) := by decide +kernel
theorem dL_addPoint_19 : decode cL_addPoint 19 = .ok (.iconst 2, 1) := by decide +kernel
theorem dL_addPoint_20 : decode cL_addPoint 20 = .ok (.ireturn, 1) := by decide +kernel
theorem dL_addPoint_21 : decode cL_addPoint 21 = .ok (.iconst 0, 1) := by decide +kernel
theorem dL_addPoint_22 : decode cL_addPoint 22 = .ok (.ireturn, 1) := by decide +kernel
theorem dL_addTaskPoint_0 : decode cL_addTaskPoint 0 = .ok (.aload_n 2, 1) := by decide +kernel
theorem dL_addTaskPoint_1 : decode cL_addTaskPoint 1 = .ok (.iconst 0, 1) := by decide +kernel
theorem dL_addTaskPoint_2 : decode cL_addTaskPoint 2 = .ok (.aload_n 0, 1) := by decide +kernel
theorem dL_addTaskPoint_3 : decode cL_addTaskPoint 3 = .ok (.iload_n 1, 1) := by decide +kernel
theorem dL_addTaskPoint_4 : decode cL_addTaskPoint 4 = .ok (.invokevirtual 17, 3) := by decide +kernel
theorem dL_addTaskPoint_7 : decode cL_addTaskPoint 7 = .ok (.i2l, 1) := by decide +kernel
theorem dL_addTaskPoint_8 : decode cL_addTaskPoint 8 = .ok (.lastore, 1) := by decide +kernel
theorem dL_addTaskPoint_9 : decode cL_addTaskPoint 9 = .ok (.goto 12, 3) := by decide +kernel
theorem dL_addTaskPoint_12 : decode cL_addTaskPoint 12 = .ok (.astore_n 3, 1) := by decide +kernel
theorem dL_addTaskPoint_13 : decode cL_addTaskPoint 13 = .ok (.iconst 1, 1) := by decide +kernel
theorem dL_addTaskPoint_14 : decode cL_addTaskPoint 14 = .ok (.ireturn, 1) := by decide +kernel
theorem dL_addTaskPoint_15 : decode cL_addTaskPoint 15 = .ok (.astore_n 3, 1) := by decide +kernel
theorem dL_addTaskPoint_16 : decode cL_addTaskPoint 16 = .ok (.iconst 2, 1) := by decide +kernel
theorem dL_addTaskPoint_17 : decode cL_addTaskPoint 17 = .ok (.ireturn, 1) := by decide +kernel
theorem dL_addTaskPoint_18 : decode cL_addTaskPoint 18 = .ok (.astore_n 3, 1) := by decide +kernel
theorem dL_addTaskPoint_19 : decode cL_addTaskPoint 19 = .ok (.iconst 3, 1) := by decide +kernel
theorem dL_addTaskPoint_20 : decode cL_addTaskPoint 20 = .ok (.ireturn, 1) := by decide +kernel
theorem dL_addTaskPoint_21 : decode cL_addTaskPoint 21 = .ok (.iconst 0, 1) := by decide +kernel
theorem dL_addTaskPoint_22 : decode cL_addTaskPoint 22 = .ok (.ireturn, 1) := by decide +kernel
theorem dL_clearTask_0 : decode cL_clearTask 0 = .ok (.aload_n 1, 1) := by decide +kernel
theorem dL_clearTask_1 : decode cL_clearTask 1 = .ok (.iconst 0, 1) := by decide +kernel
theorem dL_clearTask_2 : decode cL_clearTask 2 = .ok (.aload_n 0, 1) := by decide +kernel
theorem dL_clearTask_3 : decode cL_clearTask 3 = .ok (.invokevirtual 25, 3) := by decide +kernel
theorem dL_clearTask_6 : decode cL_clearTask 6 = .ok (.i2l, 1) := by decide +kernel
theorem dL_clearTask_7 : decode cL_clearTask 7 = .ok (.lastore, 1) := by decide +kernel
theorem dL_clearTask_8 : decode cL_clearTask 8 = .ok (.goto 6, 3) := by decide +kernel
theorem dL_clearTask_11 : decode cL_clearTask 11 = .ok (.astore_n 2, 1) := by decide +kernel
theorem dL_clearTask_12 : decode cL_clearTask 12 = .ok (.iconst 1, 1) := by decide +kernel
theorem dL_clearTask_13 : decode cL_clearTask 13 = .ok (.ireturn, 1) := by decide +kernel
theorem dL_clearTask_14 : decode cL_clearTask 14 = .ok (.iconst 0, 1) := by decide +kernel
theorem dL_clearTask_15 : decode cL_clearTask 15 = .ok (.ireturn, 1) := by decide +kernel
theorem dL_addThermal_0 : decode cL_addThermal 0 = .ok (.aload 4, 2) := by decide +kernel
theorem dL_addThermal_2 : decode cL_addThermal 2 = .ok (.iconst 0, 1) := by decide +kernel
theorem dL_addThermal_3 : decode cL_addThermal 3 = .ok (.aload_n 0, 1) := by decide +kernel
theorem dL_addThermal_4 : decode cL_addThermal 4 = .ok (.iload_n 1, 1) := by decide +kernel
theorem dL_addThermal_5 : decode cL_addThermal 5 = .ok (.iload_n 2, 1) := by decide +kernel
theorem dL_addThermal_6 : decode cL_addThermal 6 = .ok (.iload_n 3, 1) := by decide +kernel
theorem dL_addThermal_7 : decode cL_addThermal 7 = .ok (.invokevirtual 29, 3) := by decide +kernel
theorem dL_addThermal_10 : decode cL_addThermal 10 = .ok (.i2l, 1) := by decide +kernel
theorem dL_addThermal_11 : decode cL_addThermal 11 = .ok (.lastore, 1) := by decide +kernel
theorem dL_addThermal_12 : decode cL_addThermal 12 = .ok (.goto 11, 3) := by decide +kernel
theorem dL_addThermal_15 : decode cL_addThermal 15 = .ok (.astore 5, 2) := by decide +kernel
theorem dL_addThermal_17 : decode cL_addThermal 17 = .ok (.iconst 1, 1) := by decide +kernel
theorem dL_addThermal_18 : decode cL_addThermal 18 = .ok (.ireturn, 1) := by decide +kernel
theorem dL_addThermal_19 : decode cL_addThermal 19 = .ok (.astore 5, 2) := by decide +kernel
theorem dL_addThermal_21 : decode cL_addThermal 21 = .ok (.iconst 2, 1) := by decide +kernel
theorem dL_addThermal_22 : decode cL_addThermal 22 = .ok (.ireturn, 1) := by decide +kernel
theorem dL_addThermal_23 : decode cL_addThermal 23 = .ok (.iconst 0, 1) := by decide +kernel
theorem dL_addThermal_24 : decode cL_addThermal 24 = .ok (.ireturn, 1) := by decide +kernel
theorem dL_setCloudBase_0 : decode cL_setCloudBase 0 = .ok (.aload_n 2, 1) := by decide +kernel
theorem dL_setCloudBase_1 : decode cL_setCloudBase 1 = .ok (.iconst 0, 1) := by decide +kernel
theorem dL_setCloudBase_2 : decode cL_setCloudBase 2 = .ok (.aload_n 0, 1) := by decide +kernel
theorem dL_setCloudBase_3 : decode cL_setCloudBase 3 = .ok (.iload_n 1, 1) := by decide +kernel
theorem dL_setCloudBase_4 : decode cL_setCloudBase 4 = .ok (.invokevirtual 33, 3) := by decide +kernel
theorem dL_setCloudBase_7 : decode cL_setCloudBase 7 = .ok (.i2l, 1) := by decide +kernel
theorem dL_setCloudBase_8 : decode cL_setCloudBase 8 = .ok (.lastore, 1) := by decide +kernel
theorem dL_setCloudBase_9 : decode cL_setCloudBase 9 = .ok (.goto 6, 3) := by decide +kernel
theorem dL_setCloudBase_12 : decode cL_setCloudBase 12 = .ok (.astore_n 3, 1) := by decide +kernel
theorem dL_setCloudBase_13 : decode cL_setCloudBase 13 = .ok (.iconst 1, 1) := by decide +kernel
theorem dL_setCloudBase_14 : decode cL_setCloudBase 14 = .ok (.ireturn, 1) := by decide +kernel
theorem dL_setCloudBase_15 : decode cL_setCloudBase 15 = .ok (.iconst 0, 1) := by decide +kernel
theorem dL_setCloudBase_16 : decode cL_setCloudBase 16 = .ok (.ireturn, 1) := by decide +kernel
theorem dL_addArea_0 : decode cL_addArea 0 = .ok (.aload 5, 2) := by decide +kernel
theorem dL_addArea_2 : decode cL_addArea 2 = .ok (.iconst 0, 1) := by decide +kernel
theorem dL_addArea_3 : decode cL_addArea 3 = .ok (.aload_n 0, 1) := by decide +kernel
theorem dL_addArea_4 : decode cL_addArea 4 = .ok (.iload_n 1, 1) := by decide +kernel
theorem dL_addArea_5 : decode cL_addArea 5 = .ok (.iload_n 2, 1) := by decide +kernel
theorem dL_addArea_6 : decode cL_addArea 6 = .ok (.iload_n 3, 1) := by decide +kernel
theorem dL_addArea_7 : decode cL_addArea 7 = .ok (.iload 4, 2) := by decide +kernel
theorem dL_addArea_9 : decode cL_addArea 9 = .ok (.invokevirtual 36, 3) := by decide +kernel
theorem dL_addArea_12 : decode cL_addArea 12 = .ok (.i2l, 1) := by decide +kernel
theorem dL_addArea_13 : decode cL_addArea 13 = .ok (.lastore, 1) := by decide +kernel
theorem dL_addArea_14 : decode cL_addArea 14 = .ok (.goto 11, 3) := by decide +kernel
theorem dL_addArea_17 : decode cL_addArea 17 = .ok (.astore 6, 2) := by decide +kernel
theorem dL_addArea_19 : decode cL_addArea 19 = .ok (.iconst 1, 1) := by decide +kernel
theorem dL_addArea_20 : decode cL_addArea 20 = .ok (.ireturn, 1) := by decide +kernel
theorem dL_addArea_21 : decode cL_addArea 21 = .ok (.astore 6, 2) := by decide +kernel
theorem dL_addArea_23 : decode cL_addArea 23 = .ok (.iconst 2, 1) := by decide +kernel
theorem dL_addArea_24 : decode cL_addArea 24 = .ok (.ireturn, 1) := by decide +kernel
theorem dL_addArea_25 : decode cL_addArea 25 = .ok (.iconst 0, 1) := by decide +kernel
theorem dL_addArea_26 : decode cL_addArea 26 = .ok (.ireturn, 1) := by decide +kernel
theorem dL_addPilot_0 : decode cL_addPilot 0 = .ok (.aload_n 2, 1) := by decide +kernel
theorem dL_addPilot_1 : decode cL_addPilot 1 = .ok (.iconst 0, 1) := by decide +kernel
theorem dL_addPilot_2 : decode cL_addPilot 2 = .ok (.aload_n 0, 1) := by decide +kernel
theorem dL_addPilot_3 : decode cL_addPilot 3 = .ok (.iload_n 1, 1) := by decide +kernel
theorem dL_addPilot_4 : decode cL_addPilot 4 = .ok (.invokevirtual 40, 3) := by decide +kernel
theorem dL_addPilot_7 : decode cL_addPilot 7 = .ok (.i2l, 1) := by decide +kernel
theorem dL_addPilot_8 : decode cL_addPilot 8 = .ok (.lastore, 1) := by decide +kernel
theorem dL_addPilot_9 : decode cL_addPilot 9 = .ok (.goto 9, 3) := by decide +kernel
theorem dL_addPilot_12 : decode cL_addPilot 12 = .ok (.astore_n 3, 1) := by decide +kernel
theorem dL_addPilot_13 : decode cL_addPilot 13 = .ok (.iconst 1, 1) := by decide +kernel
theorem dL_addPilot_14 : decode cL_addPilot 14 = .ok (.ireturn, 1) := by decide +kernel
theorem dL_addPilot_15 : decode cL_addPilot 15 = .ok (.astore_n 3, 1) := by decide +kernel
theorem dL_addPilot_16 : decode cL_addPilot 16 = .ok (.iconst 2, 1) := by decide +kernel
theorem dL_addPilot_17 : decode cL_addPilot 17 = .ok (.ireturn, 1) := by decide +kernel
theorem dL_addPilot_18 : decode cL_addPilot 18 = .ok (.iconst 0, 1) := by decide +kernel
theorem dL_addPilot_19 : decode cL_addPilot 19 = .ok (.ireturn, 1) := by decide +kernel
theorem dL_launch_0 : decode cL_launch 0 = .ok (.aload_n 2, 1) := by decide +kernel
theorem dL_launch_1 : decode cL_launch 1 = .ok (.iconst 0, 1) := by decide +kernel
theorem dL_launch_2 : decode cL_launch 2 = .ok (.aload_n 0, 1) := by decide +kernel
theorem dL_launch_3 : decode cL_launch 3 = .ok (.iload_n 1, 1) := by decide +kernel
theorem dL_launch_4 : decode cL_launch 4 = .ok (.invokevirtual 43, 3) := by decide +kernel
theorem dL_launch_7 : decode cL_launch 7 = .ok (.i2l, 1) := by decide +kernel
theorem dL_launch_8 : decode cL_launch 8 = .ok (.lastore, 1) := by decide +kernel
theorem dL_launch_9 : decode cL_launch 9 = .ok (.goto 12, 3) := by decide +kernel
theorem dL_launch_12 : decode cL_launch 12 = .ok (.astore_n 3, 1) := by decide +kernel
theorem dL_launch_13 : decode cL_launch 13 = .ok (.iconst 1, 1) := by decide +kernel
theorem dL_launch_14 : decode cL_launch 14 = .ok (.ireturn, 1) := by decide +kernel
theorem dL_launch_15 : decode cL_launch 15 = .ok (.astore_n 3, 1) := by decide +kernel
theorem dL_launch_16 : decode cL_launch 16 = .ok (.iconst 2, 1) := by decide +kernel
theorem dL_launch_17 : decode cL_launch 17 = .ok (.ireturn, 1) := by decide +kernel
theorem dL_launch_18 : decode cL_launch 18 = .ok (.astore_n 3, 1) := by decide +kernel
theorem dL_launch_19 : decode cL_launch 19 = .ok (.iconst 3, 1) := by decide +kernel
theorem dL_launch_20 : decode cL_launch 20 = .ok (.ireturn, 1) := by decide +kernel
theorem dL_launch_21 : decode cL_launch 21 = .ok (.iconst 0, 1) := by decide +kernel
theorem dL_launch_22 : decode cL_launch 22 = .ok (.ireturn, 1) := by decide +kernel
theorem dL_fly_0 : decode cL_fly 0 = .ok (.aload 4, 2) := by decide +kernel
theorem dL_fly_2 : decode cL_fly 2 = .ok (.iconst 0, 1) := by decide +kernel
theorem dL_fly_3 : decode cL_fly 3 = .ok (.aload_n 0, 1) := by decide +kernel
theorem dL_fly_4 : decode cL_fly 4 = .ok (.iload_n 1, 1) := by decide +kernel
theorem dL_fly_5 : decode cL_fly 5 = .ok (.iload_n 2, 1) := by decide +kernel
theorem dL_fly_6 : decode cL_fly 6 = .ok (.iload_n 3, 1) := by decide +kernel
theorem dL_fly_7 : decode cL_fly 7 = .ok (.invokevirtual 46, 3) := by decide +kernel
theorem dL_fly_10 : decode cL_fly 10 = .ok (.i2l, 1) := by decide +kernel
theorem dL_fly_11 : decode cL_fly 11 = .ok (.lastore, 1) := by decide +kernel
theorem dL_fly_12 : decode cL_fly 12 = .ok (.goto 19, 3) := by decide +kernel
theorem dL_fly_15 : decode cL_fly 15 = .ok (.astore 5, 2) := by decide +kernel
theorem dL_fly_17 : decode cL_fly 17 = .ok (.iconst 1, 1) := by decide +kernel
theorem dL_fly_18 : decode cL_fly 18 = .ok (.ireturn, 1) := by decide +kernel
theorem dL_fly_19 : decode cL_fly 19 = .ok (.astore 5, 2) := by decide +kernel
theorem dL_fly_21 : decode cL_fly 21 = .ok (.iconst 2, 1) := by decide +kernel
theorem dL_fly_22 : decode cL_fly 22 = .ok (.ireturn, 1) := by decide +kernel
theorem dL_fly_23 : decode cL_fly 23 = .ok (.astore 5, 2) := by decide +kernel
theorem dL_fly_25 : decode cL_fly 25 = .ok (.iconst 3, 1) := by decide +kernel
theorem dL_fly_26 : decode cL_fly 26 = .ok (.ireturn, 1) := by decide +kernel
theorem dL_fly_27 : decode cL_fly 27 = .ok (.astore 5, 2) := by decide +kernel
theorem dL_fly_29 : decode cL_fly 29 = .ok (.iconst 4, 1) := by decide +kernel
theorem dL_fly_30 : decode cL_fly 30 = .ok (.ireturn, 1) := by decide +kernel
theorem dL_fly_31 : decode cL_fly 31 = .ok (.iconst 0, 1) := by decide +kernel
theorem dL_fly_32 : decode cL_fly 32 = .ok (.ireturn, 1) := by decide +kernel
theorem dL_climb_0 : decode cL_climb 0 = .ok (.aload_n 3, 1) := by decide +kernel
theorem dL_climb_1 : decode cL_climb 1 = .ok (.iconst 0, 1) := by decide +kernel
theorem dL_climb_2 : decode cL_climb 2 = .ok (.aload_n 0, 1) := by decide +kernel
theorem dL_climb_3 : decode cL_climb 3 = .ok (.iload_n 1, 1) := by decide +kernel
theorem dL_climb_4 : decode cL_climb 4 = .ok (.iload_n 2, 1) := by decide +kernel
theorem dL_climb_5 : decode cL_climb 5 = .ok (.invokevirtual 49, 3) := by decide +kernel
theorem dL_climb_8 : decode cL_climb 8 = .ok (.i2l, 1) := by decide +kernel
theorem dL_climb_9 : decode cL_climb 9 = .ok (.lastore, 1) := by decide +kernel
theorem dL_climb_10 : decode cL_climb 10 = .ok (.goto 19, 3) := by decide +kernel
theorem dL_climb_13 : decode cL_climb 13 = .ok (.astore 4, 2) := by decide +kernel
theorem dL_climb_15 : decode cL_climb 15 = .ok (.iconst 1, 1) := by decide +kernel
theorem dL_climb_16 : decode cL_climb 16 = .ok (.ireturn, 1) := by decide +kernel
theorem dL_climb_17 : decode cL_climb 17 = .ok (.astore 4, 2) := by decide +kernel
theorem dL_climb_19 : decode cL_climb 19 = .ok (.iconst 2, 1) := by decide +kernel
theorem dL_climb_20 : decode cL_climb 20 = .ok (.ireturn, 1) := by decide +kernel
theorem dL_climb_21 : decode cL_climb 21 = .ok (.astore 4, 2) := by decide +kernel
theorem dL_climb_23 : decode cL_climb 23 = .ok (.iconst 3, 1) := by decide +kernel
theorem dL_climb_24 : decode cL_climb 24 = .ok (.ireturn, 1) := by decide +kernel
theorem dL_climb_25 : decode cL_climb 25 = .ok (.astore 4, 2) := by decide +kernel
theorem dL_climb_27 : decode cL_climb 27 = .ok (.iconst 4, 1) := by decide +kernel
theorem dL_climb_28 : decode cL_climb 28 = .ok (.ireturn, 1) := by decide +kernel
theorem dL_climb_29 : decode cL_climb 29 = .ok (.iconst 0, 1) := by decide +kernel
theorem dL_climb_30 : decode cL_climb 30 = .ok (.ireturn, 1) := by decide +kernel
theorem dL_endDay_0 : decode cL_endDay 0 = .ok (.aload_n 1, 1) := by decide +kernel
theorem dL_endDay_1 : decode cL_endDay 1 = .ok (.iconst 0, 1) := by decide +kernel
theorem dL_endDay_2 : decode cL_endDay 2 = .ok (.aload_n 0, 1) := by decide +kernel
theorem dL_endDay_3 : decode cL_endDay 3 = .ok (.invokevirtual 52, 3) := by decide +kernel
theorem dL_endDay_6 : decode cL_endDay 6 = .ok (.i2l, 1) := by decide +kernel
theorem dL_endDay_7 : decode cL_endDay 7 = .ok (.lastore, 1) := by decide +kernel
theorem dL_endDay_8 : decode cL_endDay 8 = .ok (.goto 6, 3) := by decide +kernel
theorem dL_endDay_11 : decode cL_endDay 11 = .ok (.astore_n 2, 1) := by decide +kernel
theorem dL_endDay_12 : decode cL_endDay 12 = .ok (.iconst 1, 1) := by decide +kernel
theorem dL_endDay_13 : decode cL_endDay 13 = .ok (.ireturn, 1) := by decide +kernel
theorem dL_endDay_14 : decode cL_endDay 14 = .ok (.iconst 0, 1) := by decide +kernel
theorem dL_endDay_15 : decode cL_endDay 15 = .ok (.ireturn, 1) := by decide +kernel
theorem dL_distance_0 : decode cL_distance 0 = .ok (.aload_n 3, 1) := by decide +kernel
theorem dL_distance_1 : decode cL_distance 1 = .ok (.iconst 0, 1) := by decide +kernel
theorem dL_distance_2 : decode cL_distance 2 = .ok (.aload_n 0, 1) := by decide +kernel
theorem dL_distance_3 : decode cL_distance 3 = .ok (.iload_n 1, 1) := by decide +kernel
theorem dL_distance_4 : decode cL_distance 4 = .ok (.iload_n 2, 1) := by decide +kernel
theorem dL_distance_5 : decode cL_distance 5 = .ok (.invokevirtual 55, 3) := by decide +kernel
theorem dL_distance_8 : decode cL_distance 8 = .ok (.i2l, 1) := by decide +kernel
theorem dL_distance_9 : decode cL_distance 9 = .ok (.lastore, 1) := by decide +kernel
theorem dL_distance_10 : decode cL_distance 10 = .ok (.goto 7, 3) := by decide +kernel
theorem dL_distance_13 : decode cL_distance 13 = .ok (.astore 4, 2) := by decide +kernel
theorem dL_distance_15 : decode cL_distance 15 = .ok (.iconst 1, 1) := by decide +kernel
theorem dL_distance_16 : decode cL_distance 16 = .ok (.ireturn, 1) := by decide +kernel
theorem dL_distance_17 : decode cL_distance 17 = .ok (.iconst 0, 1) := by decide +kernel
theorem dL_distance_18 : decode cL_distance 18 = .ok (.ireturn, 1) := by decide +kernel
theorem dL_taskPoint_0 : decode cL_taskPoint 0 = .ok (.aload_n 2, 1) := by decide +kernel
theorem dL_taskPoint_1 : decode cL_taskPoint 1 = .ok (.iconst 0, 1) := by decide +kernel
theorem dL_taskPoint_2 : decode cL_taskPoint 2 = .ok (.aload_n 0, 1) := by decide +kernel
theorem dL_taskPoint_3 : decode cL_taskPoint 3 = .ok (.iload_n 1, 1) := by decide +kernel
theorem dL_taskPoint_4 : decode cL_taskPoint 4 = .ok (.invokevirtual 58, 3) := by decide +kernel
theorem dL_taskPoint_7 : decode cL_taskPoint 7 = .ok (.i2l, 1) := by decide +kernel
theorem dL_taskPoint_8 : decode cL_taskPoint 8 = .ok (.lastore, 1) := by decide +kernel
theorem dL_taskPoint_9 : decode cL_taskPoint 9 = .ok (.goto 6, 3) := by decide +kernel
theorem dL_taskPoint_12 : decode cL_taskPoint 12 = .ok (.astore_n 3, 1) := by decide +kernel
theorem dL_taskPoint_13 : decode cL_taskPoint 13 = .ok (.iconst 1, 1) := by decide +kernel
theorem dL_taskPoint_14 : decode cL_taskPoint 14 = .ok (.ireturn, 1) := by decide +kernel
theorem dL_taskPoint_15 : decode cL_taskPoint 15 = .ok (.iconst 0, 1) := by decide +kernel
theorem dL_taskPoint_16 : decode cL_taskPoint 16 = .ok (.ireturn, 1) := by decide +kernel
theorem dL_strongestThermal_0 : decode cL_strongestThermal 0 = .ok (.aload_n 3, 1) := by decide +kernel
theorem dL_strongestThermal_1 : decode cL_strongestThermal 1 = .ok (.iconst 0, 1) := by decide +kernel
theorem dL_strongestThermal_2 : decode cL_strongestThermal 2 = .ok (.aload_n 0, 1) := by decide +kernel
theorem dL_strongestThermal_3 : decode cL_strongestThermal 3 = .ok (.iload_n 1, 1) := by decide +kernel
theorem dL_strongestThermal_4 : decode cL_strongestThermal 4 = .ok (.iload_n 2, 1) := by decide +kernel
theorem dL_strongestThermal_5 : decode cL_strongestThermal 5 = .ok (.invokevirtual 63, 3) := by decide +kernel
theorem dL_strongestThermal_8 : decode cL_strongestThermal 8 = .ok (.i2l, 1) := by decide +kernel
theorem dL_strongestThermal_9 : decode cL_strongestThermal 9 = .ok (.lastore, 1) := by decide +kernel
theorem dL_strongestThermal_10 : decode cL_strongestThermal 10 = .ok (.goto 11, 3) := by decide +kernel
theorem dL_strongestThermal_13 : decode cL_strongestThermal 13 = .ok (.astore 4, 2) := by decide +kernel
theorem dL_strongestThermal_15 : decode cL_strongestThermal 15 = .ok (.iconst 1, 1) := by decide +kernel
theorem dL_strongestThermal_16 : decode cL_strongestThermal 16 = .ok (.ireturn, 1) := by decide +kernel
theorem dL_strongestThermal_17 : decode cL_strongestThermal 17 = .ok (.astore 4, 2) := by decide +kernel
theorem dL_strongestThermal_19 : decode cL_strongestThermal 19 = .ok (.iconst 2, 1) := by decide +kernel
theorem dL_strongestThermal_20 : decode cL_strongestThermal 20 = .ok (.ireturn, 1) := by decide +kernel
theorem dL_strongestThermal_21 : decode cL_strongestThermal 21 = .ok (.iconst 0, 1) := by decide +kernel
theorem dL_strongestThermal_22 : decode cL_strongestThermal 22 = .ok (.ireturn, 1) := by decide +kernel
theorem dL_isRestricted_0 : decode cL_isRestricted 0 = .ok (.aload_n 3, 1) := by decide +kernel
theorem dL_isRestricted_1 : decode cL_isRestricted 1 = .ok (.iconst 0, 1) := by decide +kernel
theorem dL_isRestricted_2 : decode cL_isRestricted 2 = .ok (.aload_n 0, 1) := by decide +kernel
theorem dL_isRestricted_3 : decode cL_isRestricted 3 = .ok (.iload_n 1, 1) := by decide +kernel
theorem dL_isRestricted_4 : decode cL_isRestricted 4 = .ok (.iload_n 2, 1) := by decide +kernel
theorem dL_isRestricted_5 : decode cL_isRestricted 5 = .ok (.invokevirtual 66, 3) := by decide +kernel
theorem dL_isRestricted_8 : decode cL_isRestricted 8 = .ok (.ifCond .eq 7, 3) := by decide +kernel
theorem dL_isRestricted_11 : decode cL_isRestricted 11 = .ok (.lconst 1, 1) := by decide +kernel
theorem dL_isRestricted_12 : decode cL_isRestricted 12 = .ok (.goto 4, 3) := by decide +kernel
theorem dL_isRestricted_15 : decode cL_isRestricted 15 = .ok (.lconst 0, 1) := by decide +kernel
theorem dL_isRestricted_16 : decode cL_isRestricted 16 = .ok (.lastore, 1) := by decide +kernel
theorem dL_isRestricted_17 : decode cL_isRestricted 17 = .ok (.goto 7, 3) := by decide +kernel
theorem dL_isRestricted_20 : decode cL_isRestricted 20 = .ok (.astore 4, 2) := by decide +kernel
theorem dL_isRestricted_22 : decode cL_isRestricted 22 = .ok (.iconst 1, 1) := by decide +kernel
theorem dL_isRestricted_23 : decode cL_isRestricted 23 = .ok (.ireturn, 1) := by decide +kernel
theorem dL_isRestricted_24 : decode cL_isRestricted 24 = .ok (.iconst 0, 1) := by decide +kernel
theorem dL_isRestricted_25 : decode cL_isRestricted 25 = .ok (.ireturn, 1) := by decide +kernel
theorem dL_restrictedInRow_0 : decode cL_restrictedInRow 0 = .ok (.aload_n 2, 1) := by decide +kernel
theorem dL_restrictedInRow_1 : decode cL_restrictedInRow 1 = .ok (.iconst 0, 1) := by decide +kernel
theorem dL_restrictedInRow_2 : decode cL_restrictedInRow 2 = .ok (.aload_n 0, 1) := by decide +kernel
theorem dL_restrictedInRow_3 : decode cL_restrictedInRow 3 = .ok (.iload_n 1, 1) := by decide +kernel
theorem dL_restrictedInRow_4 : decode cL_restrictedInRow 4 = .ok (.invokevirtual 70, 3) := by decide +kernel
theorem dL_restrictedInRow_7 : decode cL_restrictedInRow 7 = .ok (.i2l, 1) := by decide +kernel
theorem dL_restrictedInRow_8 : decode cL_restrictedInRow 8 = .ok (.lastore, 1) := by decide +kernel
theorem dL_restrictedInRow_9 : decode cL_restrictedInRow 9 = .ok (.goto 6, 3) := by decide +kernel
theorem dL_restrictedInRow_12 : decode cL_restrictedInRow 12 = .ok (.astore_n 3, 1) := by decide +kernel
theorem dL_restrictedInRow_13 : decode cL_restrictedInRow 13 = .ok (.iconst 1, 1) := by decide +kernel
theorem dL_restrictedInRow_14 : decode cL_restrictedInRow 14 = .ok (.ireturn, 1) := by decide +kernel
theorem dL_restrictedInRow_15 : decode cL_restrictedInRow 15 = .ok (.iconst 0, 1) := by decide +kernel
theorem dL_restrictedInRow_16 : decode cL_restrictedInRow 16 = .ok (.ireturn, 1) := by decide +kernel
theorem dL_restrictedInRowByRanges_0 : decode cL_restrictedInRowByRanges 0 = .ok (.aload_n 2, 1) := by decide +kernel
theorem dL_restrictedInRowByRanges_1 : decode cL_restrictedInRowByRanges 1 = .ok (.iconst 0, 1) := by decide +kernel
theorem dL_restrictedInRowByRanges_2 : decode cL_restrictedInRowByRanges 2 = .ok (.aload_n 0, 1) := by decide +kernel
theorem dL_restrictedInRowByRanges_3 : decode cL_restrictedInRowByRanges 3 = .ok (.iload_n 1, 1) := by decide +kernel
theorem dL_restrictedInRowByRanges_4 : decode cL_restrictedInRowByRanges 4 = .ok (.invokevirtual 73, 3) := by decide +kernel
theorem dL_restrictedInRowByRanges_7 : decode cL_restrictedInRowByRanges 7 = .ok (.i2l, 1) := by decide +kernel
theorem dL_restrictedInRowByRanges_8 : decode cL_restrictedInRowByRanges 8 = .ok (.lastore, 1) := by decide +kernel
theorem dL_restrictedInRowByRanges_9 : decode cL_restrictedInRowByRanges 9 = .ok (.goto 6, 3) := by decide +kernel
theorem dL_restrictedInRowByRanges_12 : decode cL_restrictedInRowByRanges 12 = .ok (.astore_n 3, 1) := by decide +kernel
theorem dL_restrictedInRowByRanges_13 : decode cL_restrictedInRowByRanges 13 = .ok (.iconst 1, 1) := by decide +kernel
theorem dL_restrictedInRowByRanges_14 : decode cL_restrictedInRowByRanges 14 = .ok (.ireturn, 1) := by decide +kernel
theorem dL_restrictedInRowByRanges_15 : decode cL_restrictedInRowByRanges 15 = .ok (.iconst 0, 1) := by decide +kernel
theorem dL_restrictedInRowByRanges_16 : decode cL_restrictedInRowByRanges 16 = .ok (.ireturn, 1) := by decide +kernel
theorem dL_isFlying_0 : decode cL_isFlying 0 = .ok (.aload_n 2, 1) := by decide +kernel
theorem dL_isFlying_1 : decode cL_isFlying 1 = .ok (.iconst 0, 1) := by decide +kernel
theorem dL_isFlying_2 : decode cL_isFlying 2 = .ok (.aload_n 0, 1) := by decide +kernel
theorem dL_isFlying_3 : decode cL_isFlying 3 = .ok (.iload_n 1, 1) := by decide +kernel
theorem dL_isFlying_4 : decode cL_isFlying 4 = .ok (.invokevirtual 76, 3) := by decide +kernel
theorem dL_isFlying_7 : decode cL_isFlying 7 = .ok (.ifCond .eq 7, 3) := by decide +kernel
theorem dL_isFlying_10 : decode cL_isFlying 10 = .ok (.lconst 1, 1) := by decide +kernel
theorem dL_isFlying_11 : decode cL_isFlying 11 = .ok (.goto 4, 3) := by decide +kernel
theorem dL_isFlying_14 : decode cL_isFlying 14 = .ok (.lconst 0, 1) := by decide +kernel
theorem dL_isFlying_15 : decode cL_isFlying 15 = .ok (.lastore, 1) := by decide +kernel
theorem dL_isFlying_16 : decode cL_isFlying 16 = .ok (.goto 6, 3) := by decide +kernel
theorem dL_isFlying_19 : decode cL_isFlying 19 = .ok (.astore_n 3, 1) := by decide +kernel
theorem dL_isFlying_20 : decode cL_isFlying 20 = .ok (.iconst 1, 1) := by decide +kernel
theorem dL_isFlying_21 : decode cL_isFlying 21 = .ok (.ireturn, 1) := by decide +kernel
theorem dL_isFlying_22 : decode cL_isFlying 22 = .ok (.iconst 0, 1) := by decide +kernel
theorem dL_isFlying_23 : decode cL_isFlying 23 = .ok (.ireturn, 1) := by decide +kernel
theorem dL_isLanded_0 : decode cL_isLanded 0 = .ok (.aload_n 2, 1) := by decide +kernel
theorem dL_isLanded_1 : decode cL_isLanded 1 = .ok (.iconst 0, 1) := by decide +kernel
theorem dL_isLanded_2 : decode cL_isLanded 2 = .ok (.aload_n 0, 1) := by decide +kernel
theorem dL_isLanded_3 : decode cL_isLanded 3 = .ok (.iload_n 1, 1) := by decide +kernel
theorem dL_isLanded_4 : decode cL_isLanded 4 = .ok (.invokevirtual 80, 3) := by decide +kernel
theorem dL_isLanded_7 : decode cL_isLanded 7 = .ok (.ifCond .eq 7, 3) := by decide +kernel
theorem dL_isLanded_10 : decode cL_isLanded 10 = .ok (.lconst 1, 1) := by decide +kernel
theorem dL_isLanded_11 : decode cL_isLanded 11 = .ok (.goto 4, 3) := by decide +kernel
theorem dL_isLanded_14 : decode cL_isLanded 14 = .ok (.lconst 0, 1) := by decide +kernel
theorem dL_isLanded_15 : decode cL_isLanded 15 = .ok (.lastore, 1) := by decide +kernel
theorem dL_isLanded_16 : decode cL_isLanded 16 = .ok (.goto 6, 3) := by decide +kernel
theorem dL_isLanded_19 : decode cL_isLanded 19 = .ok (.astore_n 3, 1) := by decide +kernel
theorem dL_isLanded_20 : decode cL_isLanded 20 = .ok (.iconst 1, 1) := by decide +kernel
theorem dL_isLanded_21 : decode cL_isLanded 21 = .ok (.ireturn, 1) := by decide +kernel
theorem dL_isLanded_22 : decode cL_isLanded 22 = .ok (.iconst 0, 1) := by decide +kernel
theorem dL_isLanded_23 : decode cL_isLanded 23 = .ok (.ireturn, 1) := by decide +kernel
theorem dL_isFinished_0 : decode cL_isFinished 0 = .ok (.aload_n 2, 1) := by decide +kernel
theorem dL_isFinished_1 : decode cL_isFinished 1 = .ok (.iconst 0, 1) := by decide +kernel
theorem dL_isFinished_2 : decode cL_isFinished 2 = .ok (.aload_n 0, 1) := by decide +kernel
theorem dL_isFinished_3 : decode cL_isFinished 3 = .ok (.iload_n 1, 1) := by decide +kernel
theorem dL_isFinished_4 : decode cL_isFinished 4 = .ok (.invokevirtual 83, 3) := by decide +kernel
theorem dL_isFinished_7 : decode cL_isFinished 7 = .ok (.ifCond .eq 7, 3) := by decide +kernel
theorem dL_isFinished_10 : decode cL_isFinished 10 = .ok (.lconst 1, 1) := by decide +kernel
theorem dL_isFinished_11 : decode cL_isFinished 11 = .ok (.goto 4, 3) := by decide +kernel
theorem dL_isFinished_14 : decode cL_isFinished 14 = .ok (.lconst 0, 1) := by decide +kernel
theorem dL_isFinished_15 : decode cL_isFinished 15 = .ok (.lastore, 1) := by decide +kernel
theorem dL_isFinished_16 : decode cL_isFinished 16 = .ok (.goto 6, 3) := by decide +kernel
theorem dL_isFinished_19 : decode cL_isFinished 19 = .ok (.astore_n 3, 1) := by decide +kernel
theorem dL_isFinished_20 : decode cL_isFinished 20 = .ok (.iconst 1, 1) := by decide +kernel
theorem dL_isFinished_21 : decode cL_isFinished 21 = .ok (.ireturn, 1) := by decide +kernel
theorem dL_isFinished_22 : decode cL_isFinished 22 = .ok (.iconst 0, 1) := by decide +kernel
theorem dL_isFinished_23 : decode cL_isFinished 23 = .ok (.ireturn, 1) := by decide +kernel
theorem dL_sink_0 : decode cL_sink 0 = .ok (.aload_n 2, 1) := by decide +kernel
theorem dL_sink_1 : decode cL_sink 1 = .ok (.iconst 0, 1) := by decide +kernel
theorem dL_sink_2 : decode cL_sink 2 = .ok (.aload_n 0, 1) := by decide +kernel
theorem dL_sink_3 : decode cL_sink 3 = .ok (.iload_n 1, 1) := by decide +kernel
theorem dL_sink_4 : decode cL_sink 4 = .ok (.invokevirtual 86, 3) := by decide +kernel
theorem dL_sink_7 : decode cL_sink 7 = .ok (.i2l, 1) := by decide +kernel
theorem dL_sink_8 : decode cL_sink 8 = .ok (.lastore, 1) := by decide +kernel
theorem dL_sink_9 : decode cL_sink 9 = .ok (.goto 6, 3) := by decide +kernel
theorem dL_sink_12 : decode cL_sink 12 = .ok (.astore_n 3, 1) := by decide +kernel
theorem dL_sink_13 : decode cL_sink 13 = .ok (.iconst 1, 1) := by decide +kernel
theorem dL_sink_14 : decode cL_sink 14 = .ok (.ireturn, 1) := by decide +kernel
theorem dL_sink_15 : decode cL_sink 15 = .ok (.iconst 0, 1) := by decide +kernel
theorem dL_sink_16 : decode cL_sink 16 = .ok (.ireturn, 1) := by decide +kernel
theorem dL_x_0 : decode cL_x 0 = .ok (.aload_n 2, 1) := by decide +kernel
theorem dL_x_1 : decode cL_x 1 = .ok (.iconst 0, 1) := by decide +kernel
theorem dL_x_2 : decode cL_x 2 = .ok (.aload_n 0, 1) := by decide +kernel
theorem dL_x_3 : decode cL_x 3 = .ok (.iload_n 1, 1) := by decide +kernel
theorem dL_x_4 : decode cL_x 4 = .ok (.invokevirtual 89, 3) := by decide +kernel
theorem dL_x_7 : decode cL_x 7 = .ok (.i2l, 1) := by decide +kernel
theorem dL_x_8 : decode cL_x 8 = .ok (.lastore, 1) := by decide +kernel
theorem dL_x_9 : decode cL_x 9 = .ok (.goto 9, 3) := by decide +kernel
theorem dL_x_12 : decode cL_x 12 = .ok (.astore_n 3, 1) := by decide +kernel
theorem dL_x_13 : decode cL_x 13 = .ok (.iconst 1, 1) := by decide +kernel
theorem dL_x_14 : decode cL_x 14 = .ok (.ireturn, 1) := by decide +kernel
theorem dL_x_15 : decode cL_x 15 = .ok (.astore_n 3, 1) := by decide +kernel
theorem dL_x_16 : decode cL_x 16 = .ok (.iconst 2, 1) := by decide +kernel
theorem dL_x_17 : decode cL_x 17 = .ok (.ireturn, 1) := by decide +kernel
theorem dL_x_18 : decode cL_x 18 = .ok (.iconst 0, 1) := by decide +kernel
theorem dL_x_19 : decode cL_x 19 = .ok (.ireturn, 1) := by decide +kernel
theorem dL_y_0 : decode cL_y 0 = .ok (.aload_n 2, 1) := by decide +kernel
theorem dL_y_1 : decode cL_y 1 = .ok (.iconst 0, 1) := by decide +kernel
theorem dL_y_2 : decode cL_y 2 = .ok (.aload_n 0, 1) := by decide +kernel
theorem dL_y_3 : decode cL_y 3 = .ok (.iload_n 1, 1) := by decide +kernel
theorem dL_y_4 : decode cL_y 4 = .ok (.invokevirtual 92, 3) := by decide +kernel
theorem dL_y_7 : decode cL_y 7 = .ok (.i2l, 1) := by decide +kernel
theorem dL_y_8 : decode cL_y 8 = .ok (.lastore, 1) := by decide +kernel
theorem dL_y_9 : decode cL_y 9 = .ok (.goto 9, 3) := by decide +kernel
theorem dL_y_12 : decode cL_y 12 = .ok (.astore_n 3, 1) := by decide +kernel
theorem dL_y_13 : decode cL_y 13 = .ok (.iconst 1, 1) := by decide +kernel
theorem dL_y_14 : decode cL_y 14 = .ok (.ireturn, 1) := by decide +kernel
theorem dL_y_15 : decode cL_y 15 = .ok (.astore_n 3, 1) := by decide +kernel
theorem dL_y_16 : decode cL_y 16 = .ok (.iconst 2, 1) := by decide +kernel
theorem dL_y_17 : decode cL_y 17 = .ok (.ireturn, 1) := by decide +kernel
theorem dL_y_18 : decode cL_y 18 = .ok (.iconst 0, 1) := by decide +kernel
theorem dL_y_19 : decode cL_y 19 = .ok (.ireturn, 1) := by decide +kernel
theorem dL_height_0 : decode cL_height 0 = .ok (.aload_n 2, 1) := by decide +kernel
theorem dL_height_1 : decode cL_height 1 = .ok (.iconst 0, 1) := by decide +kernel
theorem dL_height_2 : decode cL_height 2 = .ok (.aload_n 0, 1) := by decide +kernel
theorem dL_height_3 : decode cL_height 3 = .ok (.iload_n 1, 1) := by decide +kernel
theorem dL_height_4 : decode cL_height 4 = .ok (.invokevirtual 95, 3) := by decide +kernel
theorem dL_height_7 : decode cL_height 7 = .ok (.i2l, 1) := by decide +kernel
theorem dL_height_8 : decode cL_height 8 = .ok (.lastore, 1) := by decide +kernel
theorem dL_height_9 : decode cL_height 9 = .ok (.goto 9, 3) := by decide +kernel
theorem dL_height_12 : decode cL_height 12 = .ok (.astore_n 3, 1) := by decide +kernel
theorem dL_height_13 : decode cL_height 13 = .ok (.iconst 1, 1) := by decide +kernel
theorem dL_height_14 : decode cL_height 14 = .ok (.ireturn, 1) := by decide +kernel
theorem dL_height_15 : decode cL_height 15 = .ok (.astore_n 3, 1) := by decide +kernel
theorem dL_height_16 : decode cL_height 16 = .ok (.iconst 2, 1) := by decide +kernel
theorem dL_height_17 : decode cL_height 17 = .ok (.ireturn, 1) := by decide +kernel
theorem dL_height_18 : decode cL_height 18 = .ok (.iconst 0, 1) := by decide +kernel
theorem dL_height_19 : decode cL_height 19 = .ok (.ireturn, 1) := by decide +kernel
theorem dL_minutes_0 : decode cL_minutes 0 = .ok (.aload_n 2, 1) := by decide +kernel
theorem dL_minutes_1 : decode cL_minutes 1 = .ok (.iconst 0, 1) := by decide +kernel
theorem dL_minutes_2 : decode cL_minutes 2 = .ok (.aload_n 0, 1) := by decide +kernel
theorem dL_minutes_3 : decode cL_minutes 3 = .ok (.iload_n 1, 1) := by decide +kernel
theorem dL_minutes_4 : decode cL_minutes 4 = .ok (.invokevirtual 98, 3) := by decide +kernel
theorem dL_minutes_7 : decode cL_minutes 7 = .ok (.i2l, 1) := by decide +kernel
theorem dL_minutes_8 : decode cL_minutes 8 = .ok (.lastore, 1) := by decide +kernel
theorem dL_minutes_9 : decode cL_minutes 9 = .ok (.goto 9, 3) := by decide +kernel
theorem dL_minutes_12 : decode cL_minutes 12 = .ok (.astore_n 3, 1) := by decide +kernel
theorem dL_minutes_13 : decode cL_minutes 13 = .ok (.iconst 1, 1) := by decide +kernel
theorem dL_minutes_14 : decode cL_minutes 14 = .ok (.ireturn, 1) := by decide +kernel
theorem dL_minutes_15 : decode cL_minutes 15 = .ok (.astore_n 3, 1) := by decide +kernel
theorem dL_minutes_16 : decode cL_minutes 16 = .ok (.iconst 2, 1) := by decide +kernel
theorem dL_minutes_17 : decode cL_minutes 17 = .ok (.ireturn, 1) := by decide +kernel
theorem dL_minutes_18 : decode cL_minutes 18 = .ok (.iconst 0, 1) := by decide +kernel
theorem dL_minutes_19 : decode cL_minutes 19 = .ok (.ireturn, 1) := by decide +kernel
theorem dL_penalty_0 : decode cL_penalty 0 = .ok (.aload_n 2, 1) := by decide +kernel
theorem dL_penalty_1 : decode cL_penalty 1 = .ok (.iconst 0, 1) := by decide +kernel
theorem dL_penalty_2 : decode cL_penalty 2 = .ok (.aload_n 0, 1) := by decide +kernel
theorem dL_penalty_3 : decode cL_penalty 3 = .ok (.iload_n 1, 1) := by decide +kernel
theorem dL_penalty_4 : decode cL_penalty 4 = .ok (.invokevirtual 101, 3) := by decide +kernel
theorem dL_penalty_7 : decode cL_penalty 7 = .ok (.i2l, 1) := by decide +kernel
theorem dL_penalty_8 : decode cL_penalty 8 = .ok (.lastore, 1) := by decide +kernel
theorem dL_penalty_9 : decode cL_penalty 9 = .ok (.goto 9, 3) := by decide +kernel
theorem dL_penalty_12 : decode cL_penalty 12 = .ok (.astore_n 3, 1) := by decide +kernel
theorem dL_penalty_13 : decode cL_penalty 13 = .ok (.iconst 1, 1) := by decide +kernel
theorem dL_penalty_14 : decode cL_penalty 14 = .ok (.ireturn, 1) := by decide +kernel
theorem dL_penalty_15 : decode cL_penalty 15 = .ok (.astore_n 3, 1) := by decide +kernel
theorem dL_penalty_16 : decode cL_penalty 16 = .ok (.iconst 2, 1) := by decide +kernel
theorem dL_penalty_17 : decode cL_penalty 17 = .ok (.ireturn, 1) := by decide +kernel
theorem dL_penalty_18 : decode cL_penalty 18 = .ok (.iconst 0, 1) := by decide +kernel
theorem dL_penalty_19 : decode cL_penalty 19 = .ok (.ireturn, 1) := by decide +kernel
theorem dL_reached_0 : decode cL_reached 0 = .ok (.aload_n 2, 1) := by decide +kernel
theorem dL_reached_1 : decode cL_reached 1 = .ok (.iconst 0, 1) := by decide +kernel
theorem dL_reached_2 : decode cL_reached 2 = .ok (.aload_n 0, 1) := by decide +kernel
theorem dL_reached_3 : decode cL_reached 3 = .ok (.iload_n 1, 1) := by decide +kernel
theorem dL_reached_4 : decode cL_reached 4 = .ok (.invokevirtual 104, 3) := by decide +kernel
theorem dL_reached_7 : decode cL_reached 7 = .ok (.i2l, 1) := by decide +kernel
theorem dL_reached_8 : decode cL_reached 8 = .ok (.lastore, 1) := by decide +kernel
theorem dL_reached_9 : decode cL_reached 9 = .ok (.goto 6, 3) := by decide +kernel
theorem dL_reached_12 : decode cL_reached 12 = .ok (.astore_n 3, 1) := by decide +kernel
theorem dL_reached_13 : decode cL_reached 13 = .ok (.iconst 1, 1) := by decide +kernel
theorem dL_reached_14 : decode cL_reached 14 = .ok (.ireturn, 1) := by decide +kernel
theorem dL_reached_15 : decode cL_reached 15 = .ok (.iconst 0, 1) := by decide +kernel
theorem dL_reached_16 : decode cL_reached 16 = .ok (.ireturn, 1) := by decide +kernel
theorem dL_remainingDistance_0 : decode cL_remainingDistance 0 = .ok (.aload_n 2, 1) := by decide +kernel
theorem dL_remainingDistance_1 : decode cL_remainingDistance 1 = .ok (.iconst 0, 1) := by decide +kernel
theorem dL_remainingDistance_2 : decode cL_remainingDistance 2 = .ok (.aload_n 0, 1) := by decide +kernel
theorem dL_remainingDistance_3 : decode cL_remainingDistance 3 = .ok (.iload_n 1, 1) := by decide +kernel
theorem dL_remainingDistance_4 : decode cL_remainingDistance 4 = .ok (.invokevirtual 107, 3) := by decide +kernel
theorem dL_remainingDistance_7 : decode cL_remainingDistance 7 = .ok (.i2l, 1) := by decide +kernel
theorem dL_remainingDistance_8 : decode cL_remainingDistance 8 = .ok (.lastore, 1) := by decide +kernel
theorem dL_remainingDistance_9 : decode cL_remainingDistance 9 = .ok (.goto 9, 3) := by decide +kernel
theorem dL_remainingDistance_12 : decode cL_remainingDistance 12 = .ok (.astore_n 3, 1) := by decide +kernel
theorem dL_remainingDistance_13 : decode cL_remainingDistance 13 = .ok (.iconst 1, 1) := by decide +kernel
theorem dL_remainingDistance_14 : decode cL_remainingDistance 14 = .ok (.ireturn, 1) := by decide +kernel
theorem dL_remainingDistance_15 : decode cL_remainingDistance 15 = .ok (.astore_n 3, 1) := by decide +kernel
theorem dL_remainingDistance_16 : decode cL_remainingDistance 16 = .ok (.iconst 2, 1) := by decide +kernel
theorem dL_remainingDistance_17 : decode cL_remainingDistance 17 = .ok (.ireturn, 1) := by decide +kernel
theorem dL_remainingDistance_18 : decode cL_remainingDistance 18 = .ok (.iconst 0, 1) := by decide +kernel
theorem dL_remainingDistance_19 : decode cL_remainingDistance 19 = .ok (.ireturn, 1) := by decide +kernel
theorem dL_canFinish_0 : decode cL_canFinish 0 = .ok (.aload_n 2, 1) := by decide +kernel
theorem dL_canFinish_1 : decode cL_canFinish 1 = .ok (.iconst 0, 1) := by decide +kernel
theorem dL_canFinish_2 : decode cL_canFinish 2 = .ok (.aload_n 0, 1) := by decide +kernel
theorem dL_canFinish_3 : decode cL_canFinish 3 = .ok (.iload_n 1, 1) := by decide +kernel
theorem dL_canFinish_4 : decode cL_canFinish 4 = .ok (.invokevirtual 110, 3) := by decide +kernel
theorem dL_canFinish_7 : decode cL_canFinish 7 = .ok (.ifCond .eq 7, 3) := by decide +kernel
theorem dL_canFinish_10 : decode cL_canFinish 10 = .ok (.lconst 1, 1) := by decide +kernel
theorem dL_canFinish_11 : decode cL_canFinish 11 = .ok (.goto 4, 3) := by decide +kernel
theorem dL_canFinish_14 : decode cL_canFinish 14 = .ok (.lconst 0, 1) := by decide +kernel
theorem dL_canFinish_15 : decode cL_canFinish 15 = .ok (.lastore, 1) := by decide +kernel
theorem dL_canFinish_16 : decode cL_canFinish 16 = .ok (.goto 9, 3) := by decide +kernel
theorem dL_canFinish_19 : decode cL_canFinish 19 = .ok (.astore_n 3, 1) := by decide +kernel
theorem dL_canFinish_20 : decode cL_canFinish 20 = .ok (.iconst 1, 1) := by decide +kernel
theorem dL_canFinish_21 : decode cL_canFinish 21 = .ok (.ireturn, 1) := by decide +kernel
theorem dL_canFinish_22 : decode cL_canFinish 22 = .ok (.astore_n 3, 1) := by decide +kernel
theorem dL_canFinish_23 : decode cL_canFinish 23 = .ok (.iconst 2, 1) := by decide +kernel
theorem dL_canFinish_24 : decode cL_canFinish 24 = .ok (.ireturn, 1) := by decide +kernel
theorem dL_canFinish_25 : decode cL_canFinish 25 = .ok (.iconst 0, 1) := by decide +kernel
theorem dL_canFinish_26 : decode cL_canFinish 26 = .ok (.ireturn, 1) := by decide +kernel
theorem dL_canFinishBySimulation_0 : decode cL_canFinishBySimulation 0 = .ok (.aload_n 2, 1) := by decide +kernel
theorem dL_canFinishBySimulation_1 : decode cL_canFinishBySimulation 1 = .ok (.iconst 0, 1) := by decide +kernel
theorem dL_canFinishBySimulation_2 : decode cL_canFinishBySimulation 2 = .ok (.aload_n 0, 1) := by decide +kernel
theorem dL_canFinishBySimulation_3 : decode cL_canFinishBySimulation 3 = .ok (.iload_n 1, 1) := by decide +kernel
theorem dL_canFinishBySimulation_4 : decode cL_canFinishBySimulation 4 = .ok (.invokevirtual 113, 3) := by decide +kernel
theorem dL_canFinishBySimulation_7 : decode cL_canFinishBySimulation 7 = .ok (.ifCond .eq 7, 3) := by decide +kernel
theorem dL_canFinishBySimulation_10 : decode cL_canFinishBySimulation 10 = .ok (.lconst 1, 1) := by decide +kernel
theorem dL_canFinishBySimulation_11 : decode cL_canFinishBySimulation 11 = .ok (.goto 4, 3) := by decide +kernel
theorem dL_canFinishBySimulation_14 : decode cL_canFinishBySimulation 14 = .ok (.lconst 0, 1) := by decide +kernel
theorem dL_canFinishBySimulation_15 : decode cL_canFinishBySimulation 15 = .ok (.lastore, 1) := by decide +kernel
theorem dL_canFinishBySimulation_16 : decode cL_canFinishBySimulation 16 = .ok (.goto 9, 3) := by decide +kernel
theorem dL_canFinishBySimulation_19 : decode cL_canFinishBySimulation 19 = .ok (.astore_n 3, 1) := by decide +kernel
theorem dL_canFinishBySimulation_20 : decode cL_canFinishBySimulation 20 = .ok (.iconst 1, 1) := by decide +kernel
theorem dL_canFinishBySimulation_21 : decode cL_canFinishBySimulation 21 = .ok (.ireturn, 1) := by decide +kernel
theorem dL_canFinishBySimulation_22 : decode cL_canFinishBySimulation 22 = .ok (.astore_n 3, 1) := by decide +kernel
theorem dL_canFinishBySimulation_23 : decode cL_canFinishBySimulation 23 = .ok (.iconst 2, 1) := by decide +kernel
theorem dL_canFinishBySimulation_24 : decode cL_canFinishBySimulation 24 = .ok (.ireturn, 1) := by decide +kernel
theorem dL_canFinishBySimulation_25 : decode cL_canFinishBySimulation 25 = .ok (.iconst 0, 1) := by decide +kernel
theorem dL_canFinishBySimulation_26 : decode cL_canFinishBySimulation 26 = .ok (.ireturn, 1) := by decide +kernel
theorem dL_achievedDistance_0 : decode cL_achievedDistance 0 = .ok (.aload_n 2, 1) := by decide +kernel
theorem dL_achievedDistance_1 : decode cL_achievedDistance 1 = .ok (.iconst 0, 1) := by decide +kernel
theorem dL_achievedDistance_2 : decode cL_achievedDistance 2 = .ok (.aload_n 0, 1) := by decide +kernel
theorem dL_achievedDistance_3 : decode cL_achievedDistance 3 = .ok (.iload_n 1, 1) := by decide +kernel
theorem dL_achievedDistance_4 : decode cL_achievedDistance 4 = .ok (.invokevirtual 116, 3) := by decide +kernel
theorem dL_achievedDistance_7 : decode cL_achievedDistance 7 = .ok (.i2l, 1) := by decide +kernel
theorem dL_achievedDistance_8 : decode cL_achievedDistance 8 = .ok (.lastore, 1) := by decide +kernel
theorem dL_achievedDistance_9 : decode cL_achievedDistance 9 = .ok (.goto 6, 3) := by decide +kernel
theorem dL_achievedDistance_12 : decode cL_achievedDistance 12 = .ok (.astore_n 3, 1) := by decide +kernel
theorem dL_achievedDistance_13 : decode cL_achievedDistance 13 = .ok (.iconst 1, 1) := by decide +kernel
theorem dL_achievedDistance_14 : decode cL_achievedDistance 14 = .ok (.ireturn, 1) := by decide +kernel
theorem dL_achievedDistance_15 : decode cL_achievedDistance 15 = .ok (.iconst 0, 1) := by decide +kernel
theorem dL_achievedDistance_16 : decode cL_achievedDistance 16 = .ok (.ireturn, 1) := by decide +kernel
theorem dL_dayScore_0 : decode cL_dayScore 0 = .ok (.aload_n 2, 1) := by decide +kernel
theorem dL_dayScore_1 : decode cL_dayScore 1 = .ok (.iconst 0, 1) := by decide +kernel
theorem dL_dayScore_2 : decode cL_dayScore 2 = .ok (.aload_n 0, 1) := by decide +kernel
theorem dL_dayScore_3 : decode cL_dayScore 3 = .ok (.iload_n 1, 1) := by decide +kernel
theorem dL_dayScore_4 : decode cL_dayScore 4 = .ok (.invokevirtual 119, 3) := by decide +kernel
theorem dL_dayScore_7 : decode cL_dayScore 7 = .ok (.i2l, 1) := by decide +kernel
theorem dL_dayScore_8 : decode cL_dayScore 8 = .ok (.lastore, 1) := by decide +kernel
theorem dL_dayScore_9 : decode cL_dayScore 9 = .ok (.goto 6, 3) := by decide +kernel
theorem dL_dayScore_12 : decode cL_dayScore 12 = .ok (.astore_n 3, 1) := by decide +kernel
theorem dL_dayScore_13 : decode cL_dayScore 13 = .ok (.iconst 1, 1) := by decide +kernel
theorem dL_dayScore_14 : decode cL_dayScore 14 = .ok (.ireturn, 1) := by decide +kernel
theorem dL_dayScore_15 : decode cL_dayScore 15 = .ok (.iconst 0, 1) := by decide +kernel
theorem dL_dayScore_16 : decode cL_dayScore 16 = .ok (.ireturn, 1) := by decide +kernel
theorem dL_total_0 : decode cL_total 0 = .ok (.aload_n 2, 1) := by decide +kernel
theorem dL_total_1 : decode cL_total 1 = .ok (.iconst 0, 1) := by decide +kernel
theorem dL_total_2 : decode cL_total 2 = .ok (.aload_n 0, 1) := by decide +kernel
theorem dL_total_3 : decode cL_total 3 = .ok (.iload_n 1, 1) := by decide +kernel
theorem dL_total_4 : decode cL_total 4 = .ok (.invokevirtual 122, 3) := by decide +kernel
theorem dL_total_7 : decode cL_total 7 = .ok (.lastore, 1) := by decide +kernel
theorem dL_total_8 : decode cL_total 8 = .ok (.goto 6, 3) := by decide +kernel
theorem dL_total_11 : decode cL_total 11 = .ok (.astore_n 3, 1) := by decide +kernel
theorem dL_total_12 : decode cL_total 12 = .ok (.iconst 1, 1) := by decide +kernel
theorem dL_total_13 : decode cL_total 13 = .ok (.ireturn, 1) := by decide +kernel
theorem dL_total_14 : decode cL_total 14 = .ok (.iconst 0, 1) := by decide +kernel
theorem dL_total_15 : decode cL_total 15 = .ok (.ireturn, 1) := by decide +kernel
theorem dL_pilotAtRank_0 : decode cL_pilotAtRank 0 = .ok (.aload_n 2, 1) := by decide +kernel
theorem dL_pilotAtRank_1 : decode cL_pilotAtRank 1 = .ok (.iconst 0, 1) := by decide +kernel
theorem dL_pilotAtRank_2 : decode cL_pilotAtRank 2 = .ok (.aload_n 0, 1) := by decide +kernel
theorem dL_pilotAtRank_3 : decode cL_pilotAtRank 3 = .ok (.iload_n 1, 1) := by decide +kernel
theorem dL_pilotAtRank_4 : decode cL_pilotAtRank 4 = .ok (.invokevirtual 126, 3) := by decide +kernel
theorem dL_pilotAtRank_7 : decode cL_pilotAtRank 7 = .ok (.i2l, 1) := by decide +kernel
theorem dL_pilotAtRank_8 : decode cL_pilotAtRank 8 = .ok (.lastore, 1) := by decide +kernel
theorem dL_pilotAtRank_9 : decode cL_pilotAtRank 9 = .ok (.goto 6, 3) := by decide +kernel
theorem dL_pilotAtRank_12 : decode cL_pilotAtRank 12 = .ok (.astore_n 3, 1) := by decide +kernel
theorem dL_pilotAtRank_13 : decode cL_pilotAtRank 13 = .ok (.iconst 1, 1) := by decide +kernel
theorem dL_pilotAtRank_14 : decode cL_pilotAtRank 14 = .ok (.ireturn, 1) := by decide +kernel
theorem dL_pilotAtRank_15 : decode cL_pilotAtRank 15 = .ok (.iconst 0, 1) := by decide +kernel
theorem dL_pilotAtRank_16 : decode cL_pilotAtRank 16 = .ok (.ireturn, 1) := by decide +kernel
theorem dL_speed_0 : decode cL_speed 0 = .ok (.aload_n 2, 1) := by decide +kernel
theorem dL_speed_1 : decode cL_speed 1 = .ok (.iconst 0, 1) := by decide +kernel
theorem dL_speed_2 : decode cL_speed 2 = .ok (.aload_n 0, 1) := by decide +kernel
theorem dL_speed_3 : decode cL_speed 3 = .ok (.iload_n 1, 1) := by decide +kernel
theorem dL_speed_4 : decode cL_speed 4 = .ok (.invokevirtual 129, 3) := by decide +kernel
theorem dL_speed_7 : decode cL_speed 7 = .ok (.f2d, 1) := by decide +kernel
theorem dL_speed_8 : decode cL_speed 8 = .ok (.dastore, 1) := by decide +kernel
theorem dL_speed_9 : decode cL_speed 9 = .ok (.goto 9, 3) := by decide +kernel
theorem dL_speed_12 : decode cL_speed 12 = .ok (.astore_n 3, 1) := by decide +kernel
theorem dL_speed_13 : decode cL_speed 13 = .ok (.iconst 1, 1) := by decide +kernel
theorem dL_speed_14 : decode cL_speed 14 = .ok (.ireturn, 1) := by decide +kernel
theorem dL_speed_15 : decode cL_speed 15 = .ok (.astore_n 3, 1) := by decide +kernel
theorem dL_speed_16 : decode cL_speed 16 = .ok (.iconst 2, 1) := by decide +kernel
theorem dL_speed_17 : decode cL_speed 17 = .ok (.ireturn, 1) := by decide +kernel
theorem dL_speed_18 : decode cL_speed 18 = .ok (.iconst 0, 1) := by decide +kernel
theorem dL_speed_19 : decode cL_speed 19 = .ok (.ireturn, 1) := by decide +kernel
theorem dL_meanScore_0 : decode cL_meanScore 0 = .ok (.aload_n 1, 1) := by decide +kernel
theorem dL_meanScore_1 : decode cL_meanScore 1 = .ok (.iconst 0, 1) := by decide +kernel
theorem dL_meanScore_2 : decode cL_meanScore 2 = .ok (.aload_n 0, 1) := by decide +kernel
theorem dL_meanScore_3 : decode cL_meanScore 3 = .ok (.invokevirtual 133, 3) := by decide +kernel
theorem dL_meanScore_6 : decode cL_meanScore 6 = .ok (.dastore, 1) := by decide +kernel
theorem dL_meanScore_7 : decode cL_meanScore 7 = .ok (.goto 6, 3) := by decide +kernel
theorem dL_meanScore_10 : decode cL_meanScore 10 = .ok (.astore_n 2, 1) := by decide +kernel
theorem dL_meanScore_11 : decode cL_meanScore 11 = .ok (.iconst 1, 1) := by decide +kernel
theorem dL_meanScore_12 : decode cL_meanScore 12 = .ok (.ireturn, 1) := by decide +kernel
theorem dL_meanScore_13 : decode cL_meanScore 13 = .ok (.iconst 0, 1) := by decide +kernel
theorem dL_meanScore_14 : decode cL_meanScore 14 = .ok (.ireturn, 1) := by decide +kernel
theorem dL_append_0 : decode cL_append 0 = .ok (.aload_n 2, 1) := by decide +kernel
theorem dL_append_1 : decode cL_append 1 = .ok (.iconst 0, 1) := by decide +kernel
theorem dL_append_2 : decode cL_append 2 = .ok (.aload_n 0, 1) := by decide +kernel
theorem dL_append_3 : decode cL_append 3 = .ok (.iload_n 1, 1) := by decide +kernel
theorem dL_append_4 : decode cL_append 4 = .ok (.invokevirtual 139, 3) := by decide +kernel
theorem dL_append_7 : decode cL_append 7 = .ok (.i2l, 1) := by decide +kernel
theorem dL_append_8 : decode cL_append 8 = .ok (.lastore, 1) := by decide +kernel
theorem dL_append_9 : decode cL_append 9 = .ok (.goto 6, 3) := by decide +kernel
theorem dL_append_12 : decode cL_append 12 = .ok (.astore_n 3, 1) := by decide +kernel
theorem dL_append_13 : decode cL_append 13 = .ok (.iconst 1, 1) := by decide +kernel
theorem dL_append_14 : decode cL_append 14 = .ok (.ireturn, 1) := by decide +kernel
theorem dL_append_15 : decode cL_append 15 = .ok (.iconst 0, 1) := by decide +kernel
theorem dL_append_16 : decode cL_append 16 = .ok (.ireturn, 1) := by decide +kernel
theorem dL_run_0 : decode cL_run 0 = .ok (.aload_n 1, 1) := by decide +kernel
theorem dL_run_1 : decode cL_run 1 = .ok (.iconst 0, 1) := by decide +kernel
theorem dL_run_2 : decode cL_run 2 = .ok (.aload_n 0, 1) := by decide +kernel
theorem dL_run_3 : decode cL_run 3 = .ok (.invokevirtual 143, 3) := by decide +kernel
theorem dL_run_6 : decode cL_run 6 = .ok (.i2l, 1) := by decide +kernel
theorem dL_run_7 : decode cL_run 7 = .ok (.lastore, 1) := by decide +kernel
theorem dL_run_8 : decode cL_run 8 = .ok (.goto 9, 3) := by decide +kernel
theorem dL_run_11 : decode cL_run 11 = .ok (.astore_n 2, 1) := by decide +kernel
theorem dL_run_12 : decode cL_run 12 = .ok (.iconst 1, 1) := by decide +kernel
theorem dL_run_13 : decode cL_run 13 = .ok (.ireturn, 1) := by decide +kernel
theorem dL_run_14 : decode cL_run 14 = .ok (.astore_n 2, 1) := by decide +kernel
theorem dL_run_15 : decode cL_run 15 = .ok (.iconst 2, 1) := by decide +kernel
theorem dL_run_16 : decode cL_run 16 = .ok (.ireturn, 1) := by decide +kernel
theorem dL_run_17 : decode cL_run 17 = .ok (.iconst 0, 1) := by decide +kernel
theorem dL_run_18 : decode cL_run 18 = .ok (.ireturn, 1) := by decide +kernel
theorem dL_errorPosition_0 : decode cL_errorPosition 0 = .ok (.aload_n 1, 1) := by decide +kernel
theorem dL_errorPosition_1 : decode cL_errorPosition 1 = .ok (.iconst 0, 1) := by decide +kernel
theorem dL_errorPosition_2 : decode cL_errorPosition 2 = .ok (.aload_n 0, 1) := by decide +kernel
theorem dL_errorPosition_3 : decode cL_errorPosition 3 = .ok (.invokevirtual 146, 3) := by decide +kernel
theorem dL_errorPosition_6 : decode cL_errorPosition 6 = .ok (.i2l, 1) := by decide +kernel
theorem dL_errorPosition_7 : decode cL_errorPosition 7 = .ok (.lastore, 1) := by decide +kernel
theorem dL_errorPosition_8 : decode cL_errorPosition 8 = .ok (.goto 6, 3) := by decide +kernel
theorem dL_errorPosition_11 : decode cL_errorPosition 11 = .ok (.astore_n 2, 1) := by decide +kernel
theorem dL_errorPosition_12 : decode cL_errorPosition 12 = .ok (.iconst 1, 1) := by decide +kernel
theorem dL_errorPosition_13 : decode cL_errorPosition 13 = .ok (.ireturn, 1) := by decide +kernel
theorem dL_errorPosition_14 : decode cL_errorPosition 14 = .ok (.iconst 0, 1) := by decide +kernel
theorem dL_errorPosition_15 : decode cL_errorPosition 15 = .ok (.ireturn, 1) := by decide +kernel
theorem dL_failedCommand_0 : decode cL_failedCommand 0 = .ok (.aload_n 1, 1) := by decide +kernel
theorem dL_failedCommand_1 : decode cL_failedCommand 1 = .ok (.iconst 0, 1) := by decide +kernel
theorem dL_failedCommand_2 : decode cL_failedCommand 2 = .ok (.aload_n 0, 1) := by decide +kernel
theorem dL_failedCommand_3 : decode cL_failedCommand 3 = .ok (.invokevirtual 149, 3) := by decide +kernel
theorem dL_failedCommand_6 : decode cL_failedCommand 6 = .ok (.i2l, 1) := by decide +kernel
theorem dL_failedCommand_7 : decode cL_failedCommand 7 = .ok (.lastore, 1) := by decide +kernel
theorem dL_failedCommand_8 : decode cL_failedCommand 8 = .ok (.goto 6, 3) := by decide +kernel
theorem dL_failedCommand_11 : decode cL_failedCommand 11 = .ok (.astore_n 2, 1) := by decide +kernel
theorem dL_failedCommand_12 : decode cL_failedCommand 12 = .ok (.iconst 1, 1) := by decide +kernel
theorem dL_failedCommand_13 : decode cL_failedCommand 13 = .ok (.ireturn, 1) := by decide +kernel
theorem dL_failedCommand_14 : decode cL_failedCommand 14 = .ok (.iconst 0, 1) := by decide +kernel
theorem dL_failedCommand_15 : decode cL_failedCommand 15 = .ok (.ireturn, 1) := by decide +kernel
theorem dL_writePilot_0 : decode cL_writePilot 0 = .ok (.aload_n 2, 1) := by decide +kernel
theorem dL_writePilot_1 : decode cL_writePilot 1 = .ok (.iconst 0, 1) := by decide +kernel
theorem dL_writePilot_2 : decode cL_writePilot 2 = .ok (.aload_n 0, 1) := by decide +kernel
theorem dL_writePilot_3 : decode cL_writePilot 3 = .ok (.iload_n 1, 1) := by decide +kernel
theorem dL_writePilot_4 : decode cL_writePilot 4 = .ok (.invokevirtual 152, 3) := by decide +kernel
theorem dL_writePilot_7 : decode cL_writePilot 7 = .ok (.i2l, 1) := by decide +kernel
theorem dL_writePilot_8 : decode cL_writePilot 8 = .ok (.lastore, 1) := by decide +kernel
theorem dL_writePilot_9 : decode cL_writePilot 9 = .ok (.goto 6, 3) := by decide +kernel
theorem dL_writePilot_12 : decode cL_writePilot 12 = .ok (.astore_n 3, 1) := by decide +kernel
theorem dL_writePilot_13 : decode cL_writePilot 13 = .ok (.iconst 1, 1) := by decide +kernel
theorem dL_writePilot_14 : decode cL_writePilot 14 = .ok (.ireturn, 1) := by decide +kernel
theorem dL_writePilot_15 : decode cL_writePilot 15 = .ok (.iconst 0, 1) := by decide +kernel
theorem dL_writePilot_16 : decode cL_writePilot 16 = .ok (.ireturn, 1) := by decide +kernel
theorem dL_outputAt_0 : decode cL_outputAt 0 = .ok (.aload_n 2, 1) := by decide +kernel
theorem dL_outputAt_1 : decode cL_outputAt 1 = .ok (.iconst 0, 1) := by decide +kernel
theorem dL_outputAt_2 : decode cL_outputAt 2 = .ok (.aload_n 0, 1) := by decide +kernel
theorem dL_outputAt_3 : decode cL_outputAt 3 = .ok (.iload_n 1, 1) := by decide +kernel
theorem dL_outputAt_4 : decode cL_outputAt 4 = .ok (.invokevirtual 155, 3) := by decide +kernel
theorem dL_outputAt_7 : decode cL_outputAt 7 = .ok (.i2l, 1) := by decide +kernel
theorem dL_outputAt_8 : decode cL_outputAt 8 = .ok (.lastore, 1) := by decide +kernel
theorem dL_outputAt_9 : decode cL_outputAt 9 = .ok (.goto 6, 3) := by decide +kernel
theorem dL_outputAt_12 : decode cL_outputAt 12 = .ok (.astore_n 3, 1) := by decide +kernel
theorem dL_outputAt_13 : decode cL_outputAt 13 = .ok (.iconst 1, 1) := by decide +kernel
theorem dL_outputAt_14 : decode cL_outputAt 14 = .ok (.ireturn, 1) := by decide +kernel
theorem dL_outputAt_15 : decode cL_outputAt 15 = .ok (.iconst 0, 1) := by decide +kernel
theorem dL_outputAt_16 : decode cL_outputAt 16 = .ok (.ireturn, 1) := by decide +kernel
theorem dL_undo_0 : decode cL_undo 0 = .ok (.aload_n 1, 1) := by decide +kernel
theorem dL_undo_1 : decode cL_undo 1 = .ok (.iconst 0, 1) := by decide +kernel
theorem dL_undo_2 : decode cL_undo 2 = .ok (.aload_n 0, 1) := by decide +kernel
theorem dL_undo_3 : decode cL_undo 3 = .ok (.invokevirtual 159, 3) := by decide +kernel
theorem dL_undo_6 : decode cL_undo 6 = .ok (.i2l, 1) := by decide +kernel
theorem dL_undo_7 : decode cL_undo 7 = .ok (.lastore, 1) := by decide +kernel
theorem dL_undo_8 : decode cL_undo 8 = .ok (.goto 6, 3) := by decide +kernel
theorem dL_undo_11 : decode cL_undo 11 = .ok (.astore_n 2, 1) := by decide +kernel
theorem dL_undo_12 : decode cL_undo 12 = .ok (.iconst 1, 1) := by decide +kernel
theorem dL_undo_13 : decode cL_undo 13 = .ok (.ireturn, 1) := by decide +kernel
theorem dL_undo_14 : decode cL_undo 14 = .ok (.iconst 0, 1) := by decide +kernel
theorem dL_undo_15 : decode cL_undo 15 = .ok (.ireturn, 1) := by decide +kernel
theorem dL_restore_0 : decode cL_restore 0 = .ok (.aload_n 0, 1) := by decide +kernel
theorem dL_restore_1 : decode cL_restore 1 = .ok (.invokevirtual 162, 3) := by decide +kernel
theorem dL_restore_4 : decode cL_restore 4 = .ok (.goto 6, 3) := by decide +kernel
theorem dL_restore_7 : decode cL_restore 7 = .ok (.astore_n 1, 1) := by decide +kernel
theorem dL_restore_8 : decode cL_restore 8 = .ok (.iconst 1, 1) := by decide +kernel
theorem dL_restore_9 : decode cL_restore 9 = .ok (.ireturn, 1) := by decide +kernel
theorem dL_restore_10 : decode cL_restore 10 = .ok (.iconst 0, 1) := by decide +kernel
theorem dL_restore_11 : decode cL_restore 11 = .ok (.ireturn, 1) := by decide +kernel
theorem dL_law_0 : decode cL_law 0 = .ok (.new 8, 3) := by decide +kernel
theorem dL_law_3 : decode cL_law 3 = .ok (.dup, 1) := by decide +kernel
theorem dL_law_4 : decode cL_law 4 = .ok (.invokespecial 165, 3) := by decide +kernel
theorem dL_law_7 : decode cL_law 7 = .ok (.astore_n 1, 1) := by decide +kernel
theorem dL_law_8 : decode cL_law 8 = .ok (.new 166, 3) := by decide +kernel
theorem dL_law_11 : decode cL_law 11 = .ok (.dup, 1) := by decide +kernel
theorem dL_law_12 : decode cL_law 12 = .ok (.invokespecial 168, 3) := by decide +kernel
theorem dL_law_15 : decode cL_law 15 = .ok (.astore_n 2, 1) := by decide +kernel
theorem dL_law_16 : decode cL_law 16 = .ok (.iconst 1, 1) := by decide +kernel
theorem dL_law_17 : decode cL_law 17 = .ok (.newarray .long, 2) := by decide +kernel
theorem dL_law_19 : decode cL_law 19 = .ok (.astore_n 3, 1) := by decide +kernel
theorem dL_law_20 : decode cL_law 20 = .ok (.iconst 1, 1) := by decide +kernel
theorem dL_law_21 : decode cL_law 21 = .ok (.newarray .double, 2) := by decide +kernel
theorem dL_law_23 : decode cL_law 23 = .ok (.astore 4, 2) := by decide +kernel
theorem dL_law_25 : decode cL_law 25 = .ok (.iconst 0, 1) := by decide +kernel
theorem dL_law_26 : decode cL_law 26 = .ok (.istore 5, 2) := by decide +kernel
theorem dL_law_28 : decode cL_law 28 = .ok (.iload 5, 2) := by decide +kernel
theorem dL_law_30 : decode cL_law 30 = .ok (.aload_n 0, 1) := by decide +kernel
theorem dL_law_31 : decode cL_law 31 = .ok (.arraylength, 1) := by decide +kernel
theorem dL_law_32 : decode cL_law 32 = .ok (.iconst 5, 1) := by decide +kernel
theorem dL_law_33 : decode cL_law 33 = .ok (.isub, 1) := by decide +kernel
theorem dL_law_34 : decode cL_law 34 = .ok (.if_icmp .gt 2954, 3) := by decide +kernel
theorem dL_law_37 : decode cL_law 37 = .ok (.aload_n 0, 1) := by decide +kernel
theorem dL_law_38 : decode cL_law 38 = .ok (.iload 5, 2) := by decide +kernel
theorem dL_law_40 : decode cL_law 40 = .ok (.iaload, 1) := by decide +kernel
theorem dL_law_41 : decode cL_law 41 = .ok (.bipush 63, 2) := by decide +kernel
theorem dL_law_43 : decode cL_law 43 = .ok (.iand, 1) := by decide +kernel
theorem dL_law_44 : decode cL_law 44 = .ok (.tableswitch 2938 0 53 #[232, 300, 356, 400, 480, 536, 628, 684, 740, 820, 888, 932, 945, 1013, 1026, 1082, 1095, 1163, 1176, 1251, 1307, 1363, 1376, 1389, 1452, 1515, 1578, 1634, 1690, 1746, 1802, 1858, 1914, 1970, 2026, 2089, 2152, 2208, 2264, 2319, 2375, 2388, 2466, 2531, 2544, 2602, 2646, 2690, 2734, 2790, 2803, 2859, 2903, 2914], 232) := by decide +kernel
theorem dL_law_276 : decode cL_law 276 = .ok (.aload_n 1, 1) := by decide +kernel
theorem dL_law_277 : decode cL_law 277 = .ok (.aload_n 0, 1) := by decide +kernel
theorem dL_law_278 : decode cL_law 278 = .ok (.iload 5, 2) := by decide +kernel
theorem dL_law_280 : decode cL_law 280 = .ok (.iconst 1, 1) := by decide +kernel
theorem dL_law_281 : decode cL_law 281 = .ok (.iadd, 1) := by decide +kernel
theorem dL_law_282 : decode cL_law 282 = .ok (.iaload, 1) := by decide +kernel
theorem dL_law_283 : decode cL_law 283 = .ok (.aload_n 0, 1) := by decide +kernel
theorem dL_law_284 : decode cL_law 284 = .ok (.iload 5, 2) := by decide +kernel
theorem dL_law_286 : decode cL_law 286 = .ok (.iconst 2, 1) := by decide +kernel
theorem dL_law_287 : decode cL_law 287 = .ok (.iadd, 1) := by decide +kernel
theorem dL_law_288 : decode cL_law 288 = .ok (.iaload, 1) := by decide +kernel
theorem dL_law_289 : decode cL_law 289 = .ok (.aload_n 3, 1) := by decide +kernel
theorem dL_law_290 : decode cL_law 290 = .ok (.invokestatic 169, 3) := by decide +kernel
theorem dL_law_293 : decode cL_law 293 = .ok (.istore 6, 2) := by decide +kernel
theorem dL_law_295 : decode cL_law 295 = .ok (.aload_n 2, 1) := by decide +kernel
theorem dL_law_296 : decode cL_law 296 = .ok (.aload_n 0, 1) := by decide +kernel
theorem dL_law_297 : decode cL_law 297 = .ok (.iload 5, 2) := by decide +kernel
theorem dL_law_299 : decode cL_law 299 = .ok (.iconst 1, 1) := by decide +kernel
theorem dL_law_300 : decode cL_law 300 = .ok (.iadd, 1) := by decide +kernel
theorem dL_law_301 : decode cL_law 301 = .ok (.iaload, 1) := by decide +kernel
theorem dL_law_302 : decode cL_law 302 = .ok (.aload_n 0, 1) := by decide +kernel
theorem dL_law_303 : decode cL_law 303 = .ok (.iload 5, 2) := by decide +kernel
theorem dL_law_305 : decode cL_law 305 = .ok (.iconst 2, 1) := by decide +kernel
theorem dL_law_306 : decode cL_law 306 = .ok (.iadd, 1) := by decide +kernel
theorem dL_law_307 : decode cL_law 307 = .ok (.iaload, 1) := by decide +kernel
theorem dL_law_308 : decode cL_law 308 = .ok (.invokevirtual 174, 3) := by decide +kernel
theorem dL_law_311 : decode cL_law 311 = .ok (.istore 7, 2) := by decide +kernel
theorem dL_law_313 : decode cL_law 313 = .ok (.aload_n 2, 1) := by decide +kernel
theorem dL_law_314 : decode cL_law 314 = .ok (.invokevirtual 175, 3) := by decide +kernel
theorem dL_law_317 : decode cL_law 317 = .ok (.iload 6, 2) := by decide +kernel
theorem dL_law_319 : decode cL_law 319 = .ok (.if_icmp .eq 5, 3) := by decide +kernel
theorem dL_law_322 : decode cL_law 322 = .ok (.iconst 0, 1) := by decide +kernel
theorem dL_law_323 : decode cL_law 323 = .ok (.ireturn, 1) := by decide +kernel
theorem dL_law_324 : decode cL_law 324 = .ok (.iload 6, 2) := by decide +kernel
theorem dL_law_326 : decode cL_law 326 = .ok (.ifCond .ne 15, 3) := by decide +kernel
theorem dL_law_329 : decode cL_law 329 = .ok (.aload_n 3, 1) := by decide +kernel
theorem dL_law_330 : decode cL_law 330 = .ok (.iconst 0, 1) := by decide +kernel
theorem dL_law_331 : decode cL_law 331 = .ok (.laload, 1) := by decide +kernel
theorem dL_law_332 : decode cL_law 332 = .ok (.iload 7, 2) := by decide +kernel
theorem dL_law_334 : decode cL_law 334 = .ok (.i2l, 1) := by decide +kernel
theorem dL_law_335 : decode cL_law 335 = .ok (.lcmp, 1) := by decide +kernel
theorem dL_law_336 : decode cL_law 336 = .ok (.ifCond .eq 5, 3) := by decide +kernel
theorem dL_law_339 : decode cL_law 339 = .ok (.iconst 0, 1) := by decide +kernel
theorem dL_law_340 : decode cL_law 340 = .ok (.ireturn, 1) := by decide +kernel
theorem dL_law_341 : decode cL_law 341 = .ok (.goto 2641, 3) := by decide +kernel
theorem dL_law_344 : decode cL_law 344 = .ok (.aload_n 1, 1) := by decide +kernel
theorem dL_law_345 : decode cL_law 345 = .ok (.aload_n 0, 1) := by decide +kernel
theorem dL_law_346 : decode cL_law 346 = .ok (.iload 5, 2) := by decide +kernel
theorem dL_law_348 : decode cL_law 348 = .ok (.iconst 1, 1) := by decide +kernel
theorem dL_law_349 : decode cL_law 349 = .ok (.iadd, 1) := by decide +kernel
theorem dL_law_350 : decode cL_law 350 = .ok (.iaload, 1) := by decide +kernel
theorem dL_law_351 : decode cL_law 351 = .ok (.aload_n 3, 1) := by decide +kernel
theorem dL_law_352 : decode cL_law 352 = .ok (.invokestatic 178, 3) := by decide +kernel
theorem dL_law_355 : decode cL_law 355 = .ok (.istore 6, 2) := by decide +kernel
theorem dL_law_357 : decode cL_law 357 = .ok (.aload_n 2, 1) := by decide +kernel
theorem dL_law_358 : decode cL_law 358 = .ok (.aload_n 0, 1) := by decide +kernel
theorem dL_law_359 : decode cL_law 359 = .ok (.iload 5, 2) := by decide +kernel
theorem dL_law_361 : decode cL_law 361 = .ok (.iconst 1, 1) := by decide +kernel
theorem dL_law_362 : decode cL_law 362 = .ok (.iadd, 1) := by decide +kernel
theorem dL_law_363 : decode cL_law 363 = .ok (.iaload, 1) := by decide +kernel
theorem dL_law_364 : decode cL_law 364 = .ok (.invokevirtual 181, 3) := by decide +kernel
theorem dL_law_367 : decode cL_law 367 = .ok (.istore 7, 2) := by decide +kernel
theorem dL_law_369 : decode cL_law 369 = .ok (.aload_n 2, 1) := by decide +kernel
theorem dL_law_370 : decode cL_law 370 = .ok (.invokevirtual 175, 3) := by decide +kernel
theorem dL_law_373 : decode cL_law 373 = .ok (.iload 6, 2) := by decide +kernel
theorem dL_law_375 : decode cL_law 375 = .ok (.if_icmp .eq 5, 3) := by decide +kernel
theorem dL_law_378 : decode cL_law 378 = .ok (.iconst 0, 1) := by decide +kernel
theorem dL_law_379 : decode cL_law 379 = .ok (.ireturn, 1) := by decide +kernel
theorem dL_law_380 : decode cL_law 380 = .ok (.iload 6, 2) := by decide +kernel
theorem dL_law_382 : decode cL_law 382 = .ok (.ifCond .ne 15, 3) := by decide +kernel
theorem dL_law_385 : decode cL_law 385 = .ok (.aload_n 3, 1) := by decide +kernel
theorem dL_law_386 : decode cL_law 386 = .ok (.iconst 0, 1) := by decide +kernel
theorem dL_law_387 : decode cL_law 387 = .ok (.laload, 1) := by decide +kernel
theorem dL_law_388 : decode cL_law 388 = .ok (.iload 7, 2) := by decide +kernel
theorem dL_law_390 : decode cL_law 390 = .ok (.i2l, 1) := by decide +kernel
theorem dL_law_391 : decode cL_law 391 = .ok (.lcmp, 1) := by decide +kernel
theorem dL_law_392 : decode cL_law 392 = .ok (.ifCond .eq 5, 3) := by decide +kernel
theorem dL_law_395 : decode cL_law 395 = .ok (.iconst 0, 1) := by decide +kernel
theorem dL_law_396 : decode cL_law 396 = .ok (.ireturn, 1) := by decide +kernel
theorem dL_law_397 : decode cL_law 397 = .ok (.goto 2585, 3) := by decide +kernel
theorem dL_law_400 : decode cL_law 400 = .ok (.aload_n 1, 1) := by decide +kernel
theorem dL_law_401 : decode cL_law 401 = .ok (.aload_n 3, 1) := by decide +kernel
theorem dL_law_402 : decode cL_law 402 = .ok (.invokestatic 182, 3) := by decide +kernel
theorem dL_law_405 : decode cL_law 405 = .ok (.istore 6, 2) := by decide +kernel
theorem dL_law_407 : decode cL_law 407 = .ok (.aload_n 2, 1) := by decide +kernel
theorem dL_law_408 : decode cL_law 408 = .ok (.invokevirtual 185, 3) := by decide +kernel
theorem dL_law_411 : decode cL_law 411 = .ok (.istore 7, 2) := by decide +kernel
theorem dL_law_413 : decode cL_law 413 = .ok (.aload_n 2, 1) := by decide +kernel
theorem dL_law_414 : decode cL_law 414 = .ok (.invokevirtual 175, 3) := by decide +kernel
theorem dL_law_417 : decode cL_law 417 = .ok (.iload 6, 2) := by decide +kernel
theorem dL_law_419 : decode cL_law 419 = .ok (.if_icmp .eq 5, 3) := by decide +kernel
theorem dL_law_422 : decode cL_law 422 = .ok (.iconst 0, 1) := by decide +kernel
theorem dL_law_423 : decode cL_law 423 = .ok (.ireturn, 1) := by decide +kernel
theorem dL_law_424 : decode cL_law 424 = .ok (.iload 6, 2) := by decide +kernel
theorem dL_law_426 : decode cL_law 426 = .ok (.ifCond .ne 15, 3) := by decide +kernel
theorem dL_law_429 : decode cL_law 429 = .ok (.aload_n 3, 1) := by decide +kernel
theorem dL_law_430 : decode cL_law 430 = .ok (.iconst 0, 1) := by decide +kernel
theorem dL_law_431 : decode cL_law 431 = .ok (.laload, 1) := by decide +kernel
theorem dL_law_432 : decode cL_law 432 = .ok (.iload 7, 2) := by decide +kernel
theorem dL_law_434 : decode cL_law 434 = .ok (.i2l, 1) := by decide +kernel
theorem dL_law_435 : decode cL_law 435 = .ok (.lcmp, 1) := by decide +kernel
theorem dL_law_436 : decode cL_law 436 = .ok (.ifCond .eq 5, 3) := by decide +kernel
theorem dL_law_439 : decode cL_law 439 = .ok (.iconst 0, 1) := by decide +kernel
theorem dL_law_440 : decode cL_law 440 = .ok (.ireturn, 1) := by decide +kernel
theorem dL_law_441 : decode cL_law 441 = .ok (.goto 2541, 3) := by decide +kernel
theorem dL_law_444 : decode cL_law 444 = .ok (.aload_n 1, 1) := by decide +kernel
theorem dL_law_445 : decode cL_law 445 = .ok (.aload_n 0, 1) := by decide +kernel
theorem dL_law_446 : decode cL_law 446 = .ok (.iload 5, 2) := by decide +kernel
theorem dL_law_448 : decode cL_law 448 = .ok (.iconst 1, 1) := by decide +kernel
theorem dL_law_449 : decode cL_law 449 = .ok (.iadd, 1) := by decide +kernel
theorem dL_law_450 : decode cL_law 450 = .ok (.iaload, 1) := by decide +kernel
theorem dL_law_451 : decode cL_law 451 = .ok (.aload_n 0, 1) := by decide +kernel
theorem dL_law_452 : decode cL_law 452 = .ok (.iload 5, 2) := by decide +kernel
theorem dL_law_454 : decode cL_law 454 = .ok (.iconst 2, 1) := by decide +kernel
theorem dL_law_455 : decode cL_law 455 = .ok (.iadd, 1) := by decide +kernel
theorem dL_law_456 : decode cL_law 456 = .ok (.iaload, 1) := by decide +kernel
theorem dL_law_457 : decode cL_law 457 = .ok (.aload_n 0, 1) := by decide +kernel
theorem dL_law_458 : decode cL_law 458 = .ok (.iload 5, 2) := by decide +kernel
theorem dL_law_460 : decode cL_law 460 = .ok (.iconst 3, 1) := by decide +kernel
theorem dL_law_461 : decode cL_law 461 = .ok (.iadd, 1) := by decide +kernel
theorem dL_law_462 : decode cL_law 462 = .ok (.iaload, 1) := by decide +kernel
theorem dL_law_463 : decode cL_law 463 = .ok (.aload_n 3, 1) := by decide +kernel
theorem dL_law_464 : decode cL_law 464 = .ok (.invokestatic 186, 3) := by decide +kernel
theorem dL_law_467 : decode cL_law 467 = .ok (.istore 6, 2) := by decide +kernel
theorem dL_law_469 : decode cL_law 469 = .ok (.aload_n 2, 1) := by decide +kernel
theorem dL_law_470 : decode cL_law 470 = .ok (.aload_n 0, 1) := by decide +kernel
theorem dL_law_471 : decode cL_law 471 = .ok (.iload 5, 2) := by decide +kernel
theorem dL_law_473 : decode cL_law 473 = .ok (.iconst 1, 1) := by decide +kernel
theorem dL_law_474 : decode cL_law 474 = .ok (.iadd, 1) := by decide +kernel
theorem dL_law_475 : decode cL_law 475 = .ok (.iaload, 1) := by decide +kernel
theorem dL_law_476 : decode cL_law 476 = .ok (.aload_n 0, 1) := by decide +kernel
theorem dL_law_477 : decode cL_law 477 = .ok (.iload 5, 2) := by decide +kernel
theorem dL_law_479 : decode cL_law 479 = .ok (.iconst 2, 1) := by decide +kernel
theorem dL_law_480 : decode cL_law 480 = .ok (.iadd, 1) := by decide +kernel
theorem dL_law_481 : decode cL_law 481 = .ok (.iaload, 1) := by decide +kernel
theorem dL_law_482 : decode cL_law 482 = .ok (.aload_n 0, 1) := by decide +kernel
theorem dL_law_483 : decode cL_law 483 = .ok (.iload 5, 2) := by decide +kernel
theorem dL_law_485 : decode cL_law 485 = .ok (.iconst 3, 1) := by decide +kernel
theorem dL_law_486 : decode cL_law 486 = .ok (.iadd, 1) := by decide +kernel
theorem dL_law_487 : decode cL_law 487 = .ok (.iaload, 1) := by decide +kernel
theorem dL_law_488 : decode cL_law 488 = .ok (.invokevirtual 189, 3) := by decide +kernel
theorem dL_law_491 : decode cL_law 491 = .ok (.istore 7, 2) := by decide +kernel
theorem dL_law_493 : decode cL_law 493 = .ok (.aload_n 2, 1) := by decide +kernel
theorem dL_law_494 : decode cL_law 494 = .ok (.invokevirtual 175, 3) := by decide +kernel
theorem dL_law_497 : decode cL_law 497 = .ok (.iload 6, 2) := by decide +kernel
theorem dL_law_499 : decode cL_law 499 = .ok (.if_icmp .eq 5, 3) := by decide +kernel
theorem dL_law_502 : decode cL_law 502 = .ok (.iconst 0, 1) := by decide +kernel
theorem dL_law_503 : decode cL_law 503 = .ok (.ireturn, 1) := by decide +kernel
theorem dL_law_504 : decode cL_law 504 = .ok (.iload 6, 2) := by decide +kernel
theorem dL_law_506 : decode cL_law 506 = .ok (.ifCond .ne 15, 3) := by decide +kernel
theorem dL_law_509 : decode cL_law 509 = .ok (.aload_n 3, 1) := by decide +kernel
theorem dL_law_510 : decode cL_law 510 = .ok (.iconst 0, 1) := by decide +kernel
theorem dL_law_511 : decode cL_law 511 = .ok (.laload, 1) := by decide +kernel
theorem dL_law_512 : decode cL_law 512 = .ok (.iload 7, 2) := by decide +kernel
theorem dL_law_514 : decode cL_law 514 = .ok (.i2l, 1) := by decide +kernel
theorem dL_law_515 : decode cL_law 515 = .ok (.lcmp, 1) := by decide +kernel
theorem dL_law_516 : decode cL_law 516 = .ok (.ifCond .eq 5, 3) := by decide +kernel
theorem dL_law_519 : decode cL_law 519 = .ok (.iconst 0, 1) := by decide +kernel
theorem dL_law_520 : decode cL_law 520 = .ok (.ireturn, 1) := by decide +kernel
theorem dL_law_521 : decode cL_law 521 = .ok (.goto 2461, 3) := by decide +kernel
theorem dL_law_524 : decode cL_law 524 = .ok (.aload_n 1, 1) := by decide +kernel
theorem dL_law_525 : decode cL_law 525 = .ok (.aload_n 0, 1) := by decide +kernel
theorem dL_law_526 : decode cL_law 526 = .ok (.iload 5, 2) := by decide +kernel
theorem dL_law_528 : decode cL_law 528 = .ok (.iconst 1, 1) := by decide +kernel
theorem dL_law_529 : decode cL_law 529 = .ok (.iadd, 1) := by decide +kernel
theorem dL_law_530 : decode cL_law 530 = .ok (.iaload, 1) := by decide +kernel
theorem dL_law_531 : decode cL_law 531 = .ok (.aload_n 3, 1) := by decide +kernel
theorem dL_law_532 : decode cL_law 532 = .ok (.invokestatic 190, 3) := by decide +kernel
theorem dL_law_535 : decode cL_law 535 = .ok (.istore 6, 2) := by decide +kernel
theorem dL_law_537 : decode cL_law 537 = .ok (.aload_n 2, 1) := by decide +kernel
theorem dL_law_538 : decode cL_law 538 = .ok (.aload_n 0, 1) := by decide +kernel
theorem dL_law_539 : decode cL_law 539 = .ok (.iload 5, 2) := by decide +kernel
theorem dL_law_541 : decode cL_law 541 = .ok (.iconst 1, 1) := by decide +kernel
theorem dL_law_542 : decode cL_law 542 = .ok (.iadd, 1) := by decide +kernel
theorem dL_law_543 : decode cL_law 543 = .ok (.iaload, 1) := by decide +kernel
theorem dL_law_544 : decode cL_law 544 = .ok (.invokevirtual 192, 3) := by decide +kernel
theorem dL_law_547 : decode cL_law 547 = .ok (.istore 7, 2) := by decide +kernel
theorem dL_law_549 : decode cL_law 549 = .ok (.aload_n 2, 1) := by decide +kernel
theorem dL_law_550 : decode cL_law 550 = .ok (.invokevirtual 175, 3) := by decide +kernel
theorem dL_law_553 : decode cL_law 553 = .ok (.iload 6, 2) := by decide +kernel
theorem dL_law_555 : decode cL_law 555 = .ok (.if_icmp .eq 5, 3) := by decide +kernel
theorem dL_law_558 : decode cL_law 558 = .ok (.iconst 0, 1) := by decide +kernel
theorem dL_law_559 : decode cL_law 559 = .ok (.ireturn, 1) := by decide +kernel
theorem dL_law_560 : decode cL_law 560 = .ok (.iload 6, 2) := by decide +kernel
theorem dL_law_562 : decode cL_law 562 = .ok (.ifCond .ne 15, 3) := by decide +kernel
theorem dL_law_565 : decode cL_law 565 = .ok (.aload_n 3, 1) := by decide +kernel
theorem dL_law_566 : decode cL_law 566 = .ok (.iconst 0, 1) := by decide +kernel
theorem dL_law_567 : decode cL_law 567 = .ok (.laload, 1) := by decide +kernel
theorem dL_law_568 : decode cL_law 568 = .ok (.iload 7, 2) := by decide +kernel
theorem dL_law_570 : decode cL_law 570 = .ok (.i2l, 1) := by decide +kernel
theorem dL_law_571 : decode cL_law 571 = .ok (.lcmp, 1) := by decide +kernel
theorem dL_law_572 : decode cL_law 572 = .ok (.ifCond .eq 5, 3) := by decide +kernel
theorem dL_law_575 : decode cL_law 575 = .ok (.iconst 0, 1) := by decide +kernel
theorem dL_law_576 : decode cL_law 576 = .ok (.ireturn, 1) := by decide +kernel
theorem dL_law_577 : decode cL_law 577 = .ok (.goto 2405, 3) := by decide +kernel
theorem dL_law_580 : decode cL_law 580 = .ok (.aload_n 1, 1) := by decide +kernel
theorem dL_law_581 : decode cL_law 581 = .ok (.aload_n 0, 1) := by decide +kernel
theorem dL_law_582 : decode cL_law 582 = .ok (.iload 5, 2) := by decide +kernel
theorem dL_law_584 : decode cL_law 584 = .ok (.iconst 1, 1) := by decide +kernel
theorem dL_law_585 : decode cL_law 585 = .ok (.iadd, 1) := by decide +kernel
theorem dL_law_586 : decode cL_law 586 = .ok (.iaload, 1) := by decide +kernel
theorem dL_law_587 : decode cL_law 587 = .ok (.aload_n 0, 1) := by decide +kernel
theorem dL_law_588 : decode cL_law 588 = .ok (.iload 5, 2) := by decide +kernel
theorem dL_law_590 : decode cL_law 590 = .ok (.iconst 2, 1) := by decide +kernel
theorem dL_law_591 : decode cL_law 591 = .ok (.iadd, 1) := by decide +kernel
theorem dL_law_592 : decode cL_law 592 = .ok (.iaload, 1) := by decide +kernel
theorem dL_law_593 : decode cL_law 593 = .ok (.aload_n 0, 1) := by decide +kernel
theorem dL_law_594 : decode cL_law 594 = .ok (.iload 5, 2) := by decide +kernel
theorem dL_law_596 : decode cL_law 596 = .ok (.iconst 3, 1) := by decide +kernel
theorem dL_law_597 : decode cL_law 597 = .ok (.iadd, 1) := by decide +kernel
theorem dL_law_598 : decode cL_law 598 = .ok (.iaload, 1) := by decide +kernel
theorem dL_law_599 : decode cL_law 599 = .ok (.aload_n 0, 1) := by decide +kernel
theorem dL_law_600 : decode cL_law 600 = .ok (.iload 5, 2) := by decide +kernel
theorem dL_law_602 : decode cL_law 602 = .ok (.iconst 4, 1) := by decide +kernel
theorem dL_law_603 : decode cL_law 603 = .ok (.iadd, 1) := by decide +kernel
theorem dL_law_604 : decode cL_law 604 = .ok (.iaload, 1) := by decide +kernel
theorem dL_law_605 : decode cL_law 605 = .ok (.aload_n 3, 1) := by decide +kernel
theorem dL_law_606 : decode cL_law 606 = .ok (.invokestatic 193, 3) := by decide +kernel
theorem dL_law_609 : decode cL_law 609 = .ok (.istore 6, 2) := by decide +kernel
theorem dL_law_611 : decode cL_law 611 = .ok (.aload_n 2, 1) := by decide +kernel
theorem dL_law_612 : decode cL_law 612 = .ok (.aload_n 0, 1) := by decide +kernel
theorem dL_law_613 : decode cL_law 613 = .ok (.iload 5, 2) := by decide +kernel
theorem dL_law_615 : decode cL_law 615 = .ok (.iconst 1, 1) := by decide +kernel
theorem dL_law_616 : decode cL_law 616 = .ok (.iadd, 1) := by decide +kernel
theorem dL_law_617 : decode cL_law 617 = .ok (.iaload, 1) := by decide +kernel
theorem dL_law_618 : decode cL_law 618 = .ok (.aload_n 0, 1) := by decide +kernel
theorem dL_law_619 : decode cL_law 619 = .ok (.iload 5, 2) := by decide +kernel
theorem dL_law_621 : decode cL_law 621 = .ok (.iconst 2, 1) := by decide +kernel
theorem dL_law_622 : decode cL_law 622 = .ok (.iadd, 1) := by decide +kernel
theorem dL_law_623 : decode cL_law 623 = .ok (.iaload, 1) := by decide +kernel
theorem dL_law_624 : decode cL_law 624 = .ok (.aload_n 0, 1) := by decide +kernel
theorem dL_law_625 : decode cL_law 625 = .ok (.iload 5, 2) := by decide +kernel
theorem dL_law_627 : decode cL_law 627 = .ok (.iconst 3, 1) := by decide +kernel
theorem dL_law_628 : decode cL_law 628 = .ok (.iadd, 1) := by decide +kernel
theorem dL_law_629 : decode cL_law 629 = .ok (.iaload, 1) := by decide +kernel
theorem dL_law_630 : decode cL_law 630 = .ok (.aload_n 0, 1) := by decide +kernel
theorem dL_law_631 : decode cL_law 631 = .ok (.iload 5, 2) := by decide +kernel
theorem dL_law_633 : decode cL_law 633 = .ok (.iconst 4, 1) := by decide +kernel
theorem dL_law_634 : decode cL_law 634 = .ok (.iadd, 1) := by decide +kernel
theorem dL_law_635 : decode cL_law 635 = .ok (.iaload, 1) := by decide +kernel
theorem dL_law_636 : decode cL_law 636 = .ok (.invokevirtual 196, 3) := by decide +kernel
theorem dL_law_639 : decode cL_law 639 = .ok (.istore 7, 2) := by decide +kernel
theorem dL_law_641 : decode cL_law 641 = .ok (.aload_n 2, 1) := by decide +kernel
theorem dL_law_642 : decode cL_law 642 = .ok (.invokevirtual 175, 3) := by decide +kernel
theorem dL_law_645 : decode cL_law 645 = .ok (.iload 6, 2) := by decide +kernel
theorem dL_law_647 : decode cL_law 647 = .ok (.if_icmp .eq 5, 3) := by decide +kernel
theorem dL_law_650 : decode cL_law 650 = .ok (.iconst 0, 1) := by decide +kernel
theorem dL_law_651 : decode cL_law 651 = .ok (.ireturn, 1) := by decide +kernel
theorem dL_law_652 : decode cL_law 652 = .ok (.iload 6, 2) := by decide +kernel
theorem dL_law_654 : decode cL_law 654 = .ok (.ifCond .ne 15, 3) := by decide +kernel
theorem dL_law_657 : decode cL_law 657 = .ok (.aload_n 3, 1) := by decide +kernel
theorem dL_law_658 : decode cL_law 658 = .ok (.iconst 0, 1) := by decide +kernel
theorem dL_law_659 : decode cL_law 659 = .ok (.laload, 1) := by decide +kernel
theorem dL_law_660 : decode cL_law 660 = .ok (.iload 7, 2) := by decide +kernel
theorem dL_law_662 : decode cL_law 662 = .ok (.i2l, 1) := by decide +kernel
theorem dL_law_663 : decode cL_law 663 = .ok (.lcmp, 1) := by decide +kernel
theorem dL_law_664 : decode cL_law 664 = .ok (.ifCond .eq 5, 3) := by decide +kernel
theorem dL_law_667 : decode cL_law 667 = .ok (.iconst 0, 1) := by decide +kernel
theorem dL_law_668 : decode cL_law 668 = .ok (.ireturn, 1) := by decide +kernel
theorem dL_law_669 : decode cL_law 669 = .ok (.goto 2313, 3) := by decide +kernel
theorem dL_law_672 : decode cL_law 672 = .ok (.aload_n 1, 1) := by decide +kernel
theorem dL_law_673 : decode cL_law 673 = .ok (.aload_n 0, 1) := by decide +kernel
theorem dL_law_674 : decode cL_law 674 = .ok (.iload 5, 2) := by decide +kernel
theorem dL_law_676 : decode cL_law 676 = .ok (.iconst 1, 1) := by decide +kernel
theorem dL_law_677 : decode cL_law 677 = .ok (.iadd, 1) := by decide +kernel
theorem dL_law_678 : decode cL_law 678 = .ok (.iaload, 1) := by decide +kernel
theorem dL_law_679 : decode cL_law 679 = .ok (.aload_n 3, 1) := by decide +kernel
theorem dL_law_680 : decode cL_law 680 = .ok (.invokestatic 197, 3) := by decide +kernel
theorem dL_law_683 : decode cL_law 683 = .ok (.istore 6, 2) := by decide +kernel
theorem dL_law_685 : decode cL_law 685 = .ok (.aload_n 2, 1) := by decide +kernel
theorem dL_law_686 : decode cL_law 686 = .ok (.aload_n 0, 1) := by decide +kernel
theorem dL_law_687 : decode cL_law 687 = .ok (.iload 5, 2) := by decide +kernel
theorem dL_law_689 : decode cL_law 689 = .ok (.iconst 1, 1) := by decide +kernel
theorem dL_law_690 : decode cL_law 690 = .ok (.iadd, 1) := by decide +kernel
theorem dL_law_691 : decode cL_law 691 = .ok (.iaload, 1) := by decide +kernel
theorem dL_law_692 : decode cL_law 692 = .ok (.invokevirtual 199, 3) := by decide +kernel
theorem dL_law_695 : decode cL_law 695 = .ok (.istore 7, 2) := by decide +kernel
theorem dL_law_697 : decode cL_law 697 = .ok (.aload_n 2, 1) := by decide +kernel
theorem dL_law_698 : decode cL_law 698 = .ok (.invokevirtual 175, 3) := by decide +kernel
theorem dL_law_701 : decode cL_law 701 = .ok (.iload 6, 2) := by decide +kernel
theorem dL_law_703 : decode cL_law 703 = .ok (.if_icmp .eq 5, 3) := by decide +kernel
theorem dL_law_706 : decode cL_law 706 = .ok (.iconst 0, 1) := by decide +kernel
theorem dL_law_707 : decode cL_law 707 = .ok (.ireturn, 1) := by decide +kernel
theorem dL_law_708 : decode cL_law 708 = .ok (.iload 6, 2) := by decide +kernel
theorem dL_law_710 : decode cL_law 710 = .ok (.ifCond .ne 15, 3) := by decide +kernel
theorem dL_law_713 : decode cL_law 713 = .ok (.aload_n 3, 1) := by decide +kernel
theorem dL_law_714 : decode cL_law 714 = .ok (.iconst 0, 1) := by decide +kernel
theorem dL_law_715 : decode cL_law 715 = .ok (.laload, 1) := by decide +kernel
theorem dL_law_716 : decode cL_law 716 = .ok (.iload 7, 2) := by decide +kernel
theorem dL_law_718 : decode cL_law 718 = .ok (.i2l, 1) := by decide +kernel
theorem dL_law_719 : decode cL_law 719 = .ok (.lcmp, 1) := by decide +kernel
theorem dL_law_720 : decode cL_law 720 = .ok (.ifCond .eq 5, 3) := by decide +kernel
theorem dL_law_723 : decode cL_law 723 = .ok (.iconst 0, 1) := by decide +kernel
theorem dL_law_724 : decode cL_law 724 = .ok (.ireturn, 1) := by decide +kernel
theorem dL_law_725 : decode cL_law 725 = .ok (.goto 2257, 3) := by decide +kernel
theorem dL_law_728 : decode cL_law 728 = .ok (.aload_n 1, 1) := by decide +kernel
theorem dL_law_729 : decode cL_law 729 = .ok (.aload_n 0, 1) := by decide +kernel
theorem dL_law_730 : decode cL_law 730 = .ok (.iload 5, 2) := by decide +kernel
theorem dL_law_732 : decode cL_law 732 = .ok (.iconst 1, 1) := by decide +kernel
theorem dL_law_733 : decode cL_law 733 = .ok (.iadd, 1) := by decide +kernel
theorem dL_law_734 : decode cL_law 734 = .ok (.iaload, 1) := by decide +kernel
theorem dL_law_735 : decode cL_law 735 = .ok (.aload_n 3, 1) := by decide +kernel
theorem dL_law_736 : decode cL_law 736 = .ok (.invokestatic 200, 3) := by decide +kernel
theorem dL_law_739 : decode cL_law 739 = .ok (.istore 6, 2) := by decide +kernel
theorem dL_law_741 : decode cL_law 741 = .ok (.aload_n 2, 1) := by decide +kernel
theorem dL_law_742 : decode cL_law 742 = .ok (.aload_n 0, 1) := by decide +kernel
theorem dL_law_743 : decode cL_law 743 = .ok (.iload 5, 2) := by decide +kernel
theorem dL_law_745 : decode cL_law 745 = .ok (.iconst 1, 1) := by decide +kernel
theorem dL_law_746 : decode cL_law 746 = .ok (.iadd, 1) := by decide +kernel
theorem dL_law_747 : decode cL_law 747 = .ok (.iaload, 1) := by decide +kernel
theorem dL_law_748 : decode cL_law 748 = .ok (.invokevirtual 202, 3) := by decide +kernel
theorem dL_law_751 : decode cL_law 751 = .ok (.istore 7, 2) := by decide +kernel
theorem dL_law_753 : decode cL_law 753 = .ok (.aload_n 2, 1) := by decide +kernel
theorem dL_law_754 : decode cL_law 754 = .ok (.invokevirtual 175, 3) := by decide +kernel
theorem dL_law_757 : decode cL_law 757 = .ok (.iload 6, 2) := by decide +kernel
theorem dL_law_759 : decode cL_law 759 = .ok (.if_icmp .eq 5, 3) := by decide +kernel
theorem dL_law_762 : decode cL_law 762 = .ok (.iconst 0, 1) := by decide +kernel
theorem dL_law_763 : decode cL_law 763 = .ok (.ireturn, 1) := by decide +kernel
theorem dL_law_764 : decode cL_law 764 = .ok (.iload 6, 2) := by decide +kernel
theorem dL_law_766 : decode cL_law 766 = .ok (.ifCond .ne 15, 3) := by decide +kernel
theorem dL_law_769 : decode cL_law 769 = .ok (.aload_n 3, 1) := by decide +kernel
theorem dL_law_770 : decode cL_law 770 = .ok (.iconst 0, 1) := by decide +kernel
theorem dL_law_771 : decode cL_law 771 = .ok (.laload, 1) := by decide +kernel
theorem dL_law_772 : decode cL_law 772 = .ok (.iload 7, 2) := by decide +kernel
theorem dL_law_774 : decode cL_law 774 = .ok (.i2l, 1) := by decide +kernel
theorem dL_law_775 : decode cL_law 775 = .ok (.lcmp, 1) := by decide +kernel
theorem dL_law_776 : decode cL_law 776 = .ok (.ifCond .eq 5, 3) := by decide +kernel
theorem dL_law_779 : decode cL_law 779 = .ok (.iconst 0, 1) := by decide +kernel
theorem dL_law_780 : decode cL_law 780 = .ok (.ireturn, 1) := by decide +kernel
theorem dL_law_781 : decode cL_law 781 = .ok (.goto 2201, 3) := by decide +kernel
theorem dL_law_784 : decode cL_law 784 = .ok (.aload_n 1, 1) := by decide +kernel
theorem dL_law_785 : decode cL_law 785 = .ok (.aload_n 0, 1) := by decide +kernel
theorem dL_law_786 : decode cL_law 786 = .ok (.iload 5, 2) := by decide +kernel
theorem dL_law_788 : decode cL_law 788 = .ok (.iconst 1, 1) := by decide +kernel
theorem dL_law_789 : decode cL_law 789 = .ok (.iadd, 1) := by decide +kernel
theorem dL_law_790 : decode cL_law 790 = .ok (.iaload, 1) := by decide +kernel
theorem dL_law_791 : decode cL_law 791 = .ok (.aload_n 0, 1) := by decide +kernel
theorem dL_law_792 : decode cL_law 792 = .ok (.iload 5, 2) := by decide +kernel
theorem dL_law_794 : decode cL_law 794 = .ok (.iconst 2, 1) := by decide +kernel
theorem dL_law_795 : decode cL_law 795 = .ok (.iadd, 1) := by decide +kernel
theorem dL_law_796 : decode cL_law 796 = .ok (.iaload, 1) := by decide +kernel
theorem dL_law_797 : decode cL_law 797 = .ok (.aload_n 0, 1) := by decide +kernel
theorem dL_law_798 : decode cL_law 798 = .ok (.iload 5, 2) := by decide +kernel
theorem dL_law_800 : decode cL_law 800 = .ok (.iconst 3, 1) := by decide +kernel
theorem dL_law_801 : decode cL_law 801 = .ok (.iadd, 1) := by decide +kernel
theorem dL_law_802 : decode cL_law 802 = .ok (.iaload, 1) := by decide +kernel
theorem dL_law_803 : decode cL_law 803 = .ok (.aload_n 3, 1) := by decide +kernel
theorem dL_law_804 : decode cL_law 804 = .ok (.invokestatic 203, 3) := by decide +kernel
theorem dL_law_807 : decode cL_law 807 = .ok (.istore 6, 2) := by decide +kernel
theorem dL_law_809 : decode cL_law 809 = .ok (.aload_n 2, 1) := by decide +kernel
theorem dL_law_810 : decode cL_law 810 = .ok (.aload_n 0, 1) := by decide +kernel
theorem dL_law_811 : decode cL_law 811 = .ok (.iload 5, 2) := by decide +kernel
theorem dL_law_813 : decode cL_law 813 = .ok (.iconst 1, 1) := by decide +kernel
theorem dL_law_814 : decode cL_law 814 = .ok (.iadd, 1) := by decide +kernel
theorem dL_law_815 : decode cL_law 815 = .ok (.iaload, 1) := by decide +kernel
theorem dL_law_816 : decode cL_law 816 = .ok (.aload_n 0, 1) := by decide +kernel
theorem dL_law_817 : decode cL_law 817 = .ok (.iload 5, 2) := by decide +kernel
theorem dL_law_819 : decode cL_law 819 = .ok (.iconst 2, 1) := by decide +kernel
theorem dL_law_820 : decode cL_law 820 = .ok (.iadd, 1) := by decide +kernel
theorem dL_law_821 : decode cL_law 821 = .ok (.iaload, 1) := by decide +kernel
theorem dL_law_822 : decode cL_law 822 = .ok (.aload_n 0, 1) := by decide +kernel
theorem dL_law_823 : decode cL_law 823 = .ok (.iload 5, 2) := by decide +kernel
theorem dL_law_825 : decode cL_law 825 = .ok (.iconst 3, 1) := by decide +kernel
theorem dL_law_826 : decode cL_law 826 = .ok (.iadd, 1) := by decide +kernel
theorem dL_law_827 : decode cL_law 827 = .ok (.iaload, 1) := by decide +kernel
theorem dL_law_828 : decode cL_law 828 = .ok (.invokevirtual 205, 3) := by decide +kernel
theorem dL_law_831 : decode cL_law 831 = .ok (.istore 7, 2) := by decide +kernel
theorem dL_law_833 : decode cL_law 833 = .ok (.aload_n 2, 1) := by decide +kernel
theorem dL_law_834 : decode cL_law 834 = .ok (.invokevirtual 175, 3) := by decide +kernel
theorem dL_law_837 : decode cL_law 837 = .ok (.iload 6, 2) := by decide +kernel
theorem dL_law_839 : decode cL_law 839 = .ok (.if_icmp .eq 5, 3) := by decide +kernel
theorem dL_law_842 : decode cL_law 842 = .ok (.iconst 0, 1) := by decide +kernel
theorem dL_law_843 : decode cL_law 843 = .ok (.ireturn, 1) := by decide +kernel
theorem dL_law_844 : decode cL_law 844 = .ok (.iload 6, 2) := by decide +kernel
theorem dL_law_846 : decode cL_law 846 = .ok (.ifCond .ne 15, 3) := by decide +kernel
theorem dL_law_849 : decode cL_law 849 = .ok (.aload_n 3, 1) := by decide +kernel
theorem dL_law_850 : decode cL_law 850 = .ok (.iconst 0, 1) := by decide +kernel
theorem dL_law_851 : decode cL_law 851 = .ok (.laload, 1) := by decide +kernel
theorem dL_law_852 : decode cL_law 852 = .ok (.iload 7, 2) := by decide +kernel
theorem dL_law_854 : decode cL_law 854 = .ok (.i2l, 1) := by decide +kernel
theorem dL_law_855 : decode cL_law 855 = .ok (.lcmp, 1) := by decide +kernel
theorem dL_law_856 : decode cL_law 856 = .ok (.ifCond .eq 5, 3) := by decide +kernel
theorem dL_law_859 : decode cL_law 859 = .ok (.iconst 0, 1) := by decide +kernel
theorem dL_law_860 : decode cL_law 860 = .ok (.ireturn, 1) := by decide +kernel
theorem dL_law_861 : decode cL_law 861 = .ok (.goto 2121, 3) := by decide +kernel
theorem dL_law_864 : decode cL_law 864 = .ok (.aload_n 1, 1) := by decide +kernel
theorem dL_law_865 : decode cL_law 865 = .ok (.aload_n 0, 1) := by decide +kernel
theorem dL_law_866 : decode cL_law 866 = .ok (.iload 5, 2) := by decide +kernel
theorem dL_law_868 : decode cL_law 868 = .ok (.iconst 1, 1) := by decide +kernel
theorem dL_law_869 : decode cL_law 869 = .ok (.iadd, 1) := by decide +kernel
theorem dL_law_870 : decode cL_law 870 = .ok (.iaload, 1) := by decide +kernel
theorem dL_law_871 : decode cL_law 871 = .ok (.aload_n 0, 1) := by decide +kernel
theorem dL_law_872 : decode cL_law 872 = .ok (.iload 5, 2) := by decide +kernel
theorem dL_law_874 : decode cL_law 874 = .ok (.iconst 2, 1) := by decide +kernel
theorem dL_law_875 : decode cL_law 875 = .ok (.iadd, 1) := by decide +kernel
theorem dL_law_876 : decode cL_law 876 = .ok (.iaload, 1) := by decide +kernel
theorem dL_law_877 : decode cL_law 877 = .ok (.aload_n 3, 1) := by decide +kernel
theorem dL_law_878 : decode cL_law 878 = .ok (.invokestatic 206, 3) := by decide +kernel
theorem dL_law_881 : decode cL_law 881 = .ok (.istore 6, 2) := by decide +kernel
theorem dL_law_883 : decode cL_law 883 = .ok (.aload_n 2, 1) := by decide +kernel
theorem dL_law_884 : decode cL_law 884 = .ok (.aload_n 0, 1) := by decide +kernel
theorem dL_law_885 : decode cL_law 885 = .ok (.iload 5, 2) := by decide +kernel
theorem dL_law_887 : decode cL_law 887 = .ok (.iconst 1, 1) := by decide +kernel
theorem dL_law_888 : decode cL_law 888 = .ok (.iadd, 1) := by decide +kernel
theorem dL_law_889 : decode cL_law 889 = .ok (.iaload, 1) := by decide +kernel
theorem dL_law_890 : decode cL_law 890 = .ok (.aload_n 0, 1) := by decide +kernel
theorem dL_law_891 : decode cL_law 891 = .ok (.iload 5, 2) := by decide +kernel
theorem dL_law_893 : decode cL_law 893 = .ok (.iconst 2, 1) := by decide +kernel
theorem dL_law_894 : decode cL_law 894 = .ok (.iadd, 1) := by decide +kernel
theorem dL_law_895 : decode cL_law 895 = .ok (.iaload, 1) := by decide +kernel
theorem dL_law_896 : decode cL_law 896 = .ok (.invokevirtual 208, 3) := by decide +kernel
theorem dL_law_899 : decode cL_law 899 = .ok (.istore 7, 2) := by decide +kernel
theorem dL_law_901 : decode cL_law 901 = .ok (.aload_n 2, 1) := by decide +kernel
theorem dL_law_902 : decode cL_law 902 = .ok (.invokevirtual 175, 3) := by decide +kernel
theorem dL_law_905 : decode cL_law 905 = .ok (.iload 6, 2) := by decide +kernel
theorem dL_law_907 : decode cL_law 907 = .ok (.if_icmp .eq 5, 3) := by decide +kernel
theorem dL_law_910 : decode cL_law 910 = .ok (.iconst 0, 1) := by decide +kernel
theorem dL_law_911 : decode cL_law 911 = .ok (.ireturn, 1) := by decide +kernel
theorem dL_law_912 : decode cL_law 912 = .ok (.iload 6, 2) := by decide +kernel
theorem dL_law_914 : decode cL_law 914 = .ok (.ifCond .ne 15, 3) := by decide +kernel
theorem dL_law_917 : decode cL_law 917 = .ok (.aload_n 3, 1) := by decide +kernel
theorem dL_law_918 : decode cL_law 918 = .ok (.iconst 0, 1) := by decide +kernel
theorem dL_law_919 : decode cL_law 919 = .ok (.laload, 1) := by decide +kernel
theorem dL_law_920 : decode cL_law 920 = .ok (.iload 7, 2) := by decide +kernel
theorem dL_law_922 : decode cL_law 922 = .ok (.i2l, 1) := by decide +kernel
theorem dL_law_923 : decode cL_law 923 = .ok (.lcmp, 1) := by decide +kernel
theorem dL_law_924 : decode cL_law 924 = .ok (.ifCond .eq 5, 3) := by decide +kernel
theorem dL_law_927 : decode cL_law 927 = .ok (.iconst 0, 1) := by decide +kernel
theorem dL_law_928 : decode cL_law 928 = .ok (.ireturn, 1) := by decide +kernel
theorem dL_law_929 : decode cL_law 929 = .ok (.goto 2053, 3) := by decide +kernel
theorem dL_law_932 : decode cL_law 932 = .ok (.aload_n 1, 1) := by decide +kernel
theorem dL_law_933 : decode cL_law 933 = .ok (.aload_n 3, 1) := by decide +kernel
theorem dL_law_934 : decode cL_law 934 = .ok (.invokestatic 209, 3) := by decide +kernel
theorem dL_law_937 : decode cL_law 937 = .ok (.istore 6, 2) := by decide +kernel
theorem dL_law_939 : decode cL_law 939 = .ok (.aload_n 2, 1) := by decide +kernel
theorem dL_law_940 : decode cL_law 940 = .ok (.invokevirtual 211, 3) := by decide +kernel
theorem dL_law_943 : decode cL_law 943 = .ok (.istore 7, 2) := by decide +kernel
theorem dL_law_945 : decode cL_law 945 = .ok (.aload_n 2, 1) := by decide +kernel
theorem dL_law_946 : decode cL_law 946 = .ok (.invokevirtual 175, 3) := by decide +kernel
theorem dL_law_949 : decode cL_law 949 = .ok (.iload 6, 2) := by decide +kernel
theorem dL_law_951 : decode cL_law 951 = .ok (.if_icmp .eq 5, 3) := by decide +kernel
theorem dL_law_954 : decode cL_law 954 = .ok (.iconst 0, 1) := by decide +kernel
theorem dL_law_955 : decode cL_law 955 = .ok (.ireturn, 1) := by decide +kernel
theorem dL_law_956 : decode cL_law 956 = .ok (.iload 6, 2) := by decide +kernel
theorem dL_law_958 : decode cL_law 958 = .ok (.ifCond .ne 15, 3) := by decide +kernel
theorem dL_law_961 : decode cL_law 961 = .ok (.aload_n 3, 1) := by decide +kernel
theorem dL_law_962 : decode cL_law 962 = .ok (.iconst 0, 1) := by decide +kernel
theorem dL_law_963 : decode cL_law 963 = .ok (.laload, 1) := by decide +kernel
theorem dL_law_964 : decode cL_law 964 = .ok (.iload 7, 2) := by decide +kernel
theorem dL_law_966 : decode cL_law 966 = .ok (.i2l, 1) := by decide +kernel
theorem dL_law_967 : decode cL_law 967 = .ok (.lcmp, 1) := by decide +kernel
theorem dL_law_968 : decode cL_law 968 = .ok (.ifCond .eq 5, 3) := by decide +kernel
theorem dL_law_971 : decode cL_law 971 = .ok (.iconst 0, 1) := by decide +kernel
theorem dL_law_972 : decode cL_law 972 = .ok (.ireturn, 1) := by decide +kernel
theorem dL_law_973 : decode cL_law 973 = .ok (.goto 2009, 3) := by decide +kernel
theorem dL_law_976 : decode cL_law 976 = .ok (.aload_n 1, 1) := by decide +kernel
theorem dL_law_977 : decode cL_law 977 = .ok (.invokevirtual 212, 3) := by decide +kernel
theorem dL_law_980 : decode cL_law 980 = .ok (.aload_n 2, 1) := by decide +kernel
theorem dL_law_981 : decode cL_law 981 = .ok (.invokevirtual 215, 3) := by decide +kernel
theorem dL_law_984 : decode cL_law 984 = .ok (.if_icmp .eq 1998, 3) := by decide +kernel
theorem dL_law_987 : decode cL_law 987 = .ok (.iconst 0, 1) := by decide +kernel
theorem dL_law_988 : decode cL_law 988 = .ok (.ireturn, 1) := by decide +kernel
theorem dL_law_989 : decode cL_law 989 = .ok (.aload_n 1, 1) := by decide +kernel
theorem dL_law_990 : decode cL_law 990 = .ok (.aload_n 0, 1) := by decide +kernel
theorem dL_law_991 : decode cL_law 991 = .ok (.iload 5, 2) := by decide +kernel
theorem dL_law_993 : decode cL_law 993 = .ok (.iconst 1, 1) := by decide +kernel
theorem dL_law_994 : decode cL_law 994 = .ok (.iadd, 1) := by decide +kernel
theorem dL_law_995 : decode cL_law 995 = .ok (.iaload, 1) := by decide +kernel
theorem dL_law_996 : decode cL_law 996 = .ok (.aload_n 0, 1) := by decide +kernel
theorem dL_law_997 : decode cL_law 997 = .ok (.iload 5, 2) := by decide +kernel
theorem dL_law_999 : decode cL_law 999 = .ok (.iconst 2, 1) := by decide +kernel
theorem dL_law_1000 : decode cL_law 1000 = .ok (.iadd, 1) := by decide +kernel
theorem dL_law_1001 : decode cL_law 1001 = .ok (.iaload, 1) := by decide +kernel
theorem dL_law_1002 : decode cL_law 1002 = .ok (.aload_n 3, 1) := by decide +kernel
theorem dL_law_1003 : decode cL_law 1003 = .ok (.invokestatic 216, 3) := by decide +kernel
theorem dL_law_1006 : decode cL_law 1006 = .ok (.istore 6, 2) := by decide +kernel
theorem dL_law_1008 : decode cL_law 1008 = .ok (.aload_n 2, 1) := by decide +kernel
theorem dL_law_1009 : decode cL_law 1009 = .ok (.aload_n 0, 1) := by decide +kernel
theorem dL_law_1010 : decode cL_law 1010 = .ok (.iload 5, 2) := by decide +kernel
theorem dL_law_1012 : decode cL_law 1012 = .ok (.iconst 1, 1) := by decide +kernel
theorem dL_law_1013 : decode cL_law 1013 = .ok (.iadd, 1) := by decide +kernel
theorem dL_law_1014 : decode cL_law 1014 = .ok (.iaload, 1) := by decide +kernel
theorem dL_law_1015 : decode cL_law 1015 = .ok (.aload_n 0, 1) := by decide +kernel
theorem dL_law_1016 : decode cL_law 1016 = .ok (.iload 5, 2) := by decide +kernel
theorem dL_law_1018 : decode cL_law 1018 = .ok (.iconst 2, 1) := by decide +kernel
theorem dL_law_1019 : decode cL_law 1019 = .ok (.iadd, 1) := by decide +kernel
theorem dL_law_1020 : decode cL_law 1020 = .ok (.iaload, 1) := by decide +kernel
theorem dL_law_1021 : decode cL_law 1021 = .ok (.invokevirtual 218, 3) := by decide +kernel
theorem dL_law_1024 : decode cL_law 1024 = .ok (.istore 7, 2) := by decide +kernel
theorem dL_law_1026 : decode cL_law 1026 = .ok (.aload_n 2, 1) := by decide +kernel
theorem dL_law_1027 : decode cL_law 1027 = .ok (.invokevirtual 175, 3) := by decide +kernel
theorem dL_law_1030 : decode cL_law 1030 = .ok (.iload 6, 2) := by decide +kernel
theorem dL_law_1032 : decode cL_law 1032 = .ok (.if_icmp .eq 5, 3) := by decide +kernel
theorem dL_law_1035 : decode cL_law 1035 = .ok (.iconst 0, 1) := by decide +kernel
theorem dL_law_1036 : decode cL_law 1036 = .ok (.ireturn, 1) := by decide +kernel
theorem dL_law_1037 : decode cL_law 1037 = .ok (.iload 6, 2) := by decide +kernel
theorem dL_law_1039 : decode cL_law 1039 = .ok (.ifCond .ne 15, 3) := by decide +kernel
theorem dL_law_1042 : decode cL_law 1042 = .ok (.aload_n 3, 1) := by decide +kernel
theorem dL_law_1043 : decode cL_law 1043 = .ok (.iconst 0, 1) := by decide +kernel
theorem dL_law_1044 : decode cL_law 1044 = .ok (.laload, 1) := by decide +kernel
theorem dL_law_1045 : decode cL_law 1045 = .ok (.iload 7, 2) := by decide +kernel
theorem dL_law_1047 : decode cL_law 1047 = .ok (.i2l, 1) := by decide +kernel
theorem dL_law_1048 : decode cL_law 1048 = .ok (.lcmp, 1) := by decide +kernel
theorem dL_law_1049 : decode cL_law 1049 = .ok (.ifCond .eq 5, 3) := by decide +kernel
theorem dL_law_1052 : decode cL_law 1052 = .ok (.iconst 0, 1) := by decide +kernel
theorem dL_law_1053 : decode cL_law 1053 = .ok (.ireturn, 1) := by decide +kernel
theorem dL_law_1054 : decode cL_law 1054 = .ok (.goto 1928, 3) := by decide +kernel
theorem dL_law_1057 : decode cL_law 1057 = .ok (.aload_n 1, 1) := by decide +kernel
theorem dL_law_1058 : decode cL_law 1058 = .ok (.invokevirtual 219, 3) := by decide +kernel
theorem dL_law_1061 : decode cL_law 1061 = .ok (.aload_n 2, 1) := by decide +kernel
theorem dL_law_1062 : decode cL_law 1062 = .ok (.invokevirtual 222, 3) := by decide +kernel
theorem dL_law_1065 : decode cL_law 1065 = .ok (.if_icmp .eq 1917, 3) := by decide +kernel
theorem dL_law_1068 : decode cL_law 1068 = .ok (.iconst 0, 1) := by decide +kernel
theorem dL_law_1069 : decode cL_law 1069 = .ok (.ireturn, 1) := by decide +kernel
theorem dL_law_1070 : decode cL_law 1070 = .ok (.aload_n 1, 1) := by decide +kernel
theorem dL_law_1071 : decode cL_law 1071 = .ok (.aload_n 0, 1) := by decide +kernel
theorem dL_law_1072 : decode cL_law 1072 = .ok (.iload 5, 2) := by decide +kernel
theorem dL_law_1074 : decode cL_law 1074 = .ok (.iconst 1, 1) := by decide +kernel
theorem dL_law_1075 : decode cL_law 1075 = .ok (.iadd, 1) := by decide +kernel
theorem dL_law_1076 : decode cL_law 1076 = .ok (.iaload, 1) := by decide +kernel
theorem dL_law_1077 : decode cL_law 1077 = .ok (.aload_n 3, 1) := by decide +kernel
theorem dL_law_1078 : decode cL_law 1078 = .ok (.invokestatic 223, 3) := by decide +kernel
theorem dL_law_1081 : decode cL_law 1081 = .ok (.istore 6, 2) := by decide +kernel
theorem dL_law_1083 : decode cL_law 1083 = .ok (.aload_n 2, 1) := by decide +kernel
theorem dL_law_1084 : decode cL_law 1084 = .ok (.aload_n 0, 1) := by decide +kernel
theorem dL_law_1085 : decode cL_law 1085 = .ok (.iload 5, 2) := by decide +kernel
theorem dL_law_1087 : decode cL_law 1087 = .ok (.iconst 1, 1) := by decide +kernel
theorem dL_law_1088 : decode cL_law 1088 = .ok (.iadd, 1) := by decide +kernel
theorem dL_law_1089 : decode cL_law 1089 = .ok (.iaload, 1) := by decide +kernel
theorem dL_law_1090 : decode cL_law 1090 = .ok (.invokevirtual 225, 3) := by decide +kernel
theorem dL_law_1093 : decode cL_law 1093 = .ok (.istore 7, 2) := by decide +kernel
theorem dL_law_1095 : decode cL_law 1095 = .ok (.aload_n 2, 1) := by decide +kernel
theorem dL_law_1096 : decode cL_law 1096 = .ok (.invokevirtual 175, 3) := by decide +kernel
theorem dL_law_1099 : decode cL_law 1099 = .ok (.iload 6, 2) := by decide +kernel
theorem dL_law_1101 : decode cL_law 1101 = .ok (.if_icmp .eq 5, 3) := by decide +kernel
theorem dL_law_1104 : decode cL_law 1104 = .ok (.iconst 0, 1) := by decide +kernel
theorem dL_law_1105 : decode cL_law 1105 = .ok (.ireturn, 1) := by decide +kernel
theorem dL_law_1106 : decode cL_law 1106 = .ok (.iload 6, 2) := by decide +kernel
theorem dL_law_1108 : decode cL_law 1108 = .ok (.ifCond .ne 15, 3) := by decide +kernel
theorem dL_law_1111 : decode cL_law 1111 = .ok (.aload_n 3, 1) := by decide +kernel
theorem dL_law_1112 : decode cL_law 1112 = .ok (.iconst 0, 1) := by decide +kernel
theorem dL_law_1113 : decode cL_law 1113 = .ok (.laload, 1) := by decide +kernel
theorem dL_law_1114 : decode cL_law 1114 = .ok (.iload 7, 2) := by decide +kernel
theorem dL_law_1116 : decode cL_law 1116 = .ok (.i2l, 1) := by decide +kernel
theorem dL_law_1117 : decode cL_law 1117 = .ok (.lcmp, 1) := by decide +kernel
theorem dL_law_1118 : decode cL_law 1118 = .ok (.ifCond .eq 5, 3) := by decide +kernel
theorem dL_law_1121 : decode cL_law 1121 = .ok (.iconst 0, 1) := by decide +kernel
theorem dL_law_1122 : decode cL_law 1122 = .ok (.ireturn, 1) := by decide +kernel
theorem dL_law_1123 : decode cL_law 1123 = .ok (.goto 1859, 3) := by decide +kernel
theorem dL_law_1126 : decode cL_law 1126 = .ok (.aload_n 1, 1) := by decide +kernel
theorem dL_law_1127 : decode cL_law 1127 = .ok (.invokevirtual 226, 3) := by decide +kernel
theorem dL_law_1130 : decode cL_law 1130 = .ok (.aload_n 2, 1) := by decide +kernel
theorem dL_law_1131 : decode cL_law 1131 = .ok (.invokevirtual 229, 3) := by decide +kernel
theorem dL_law_1134 : decode cL_law 1134 = .ok (.if_icmp .eq 1848, 3) := by decide +kernel
theorem dL_law_1137 : decode cL_law 1137 = .ok (.iconst 0, 1) := by decide +kernel
theorem dL_law_1138 : decode cL_law 1138 = .ok (.ireturn, 1) := by decide +kernel
theorem dL_law_1139 : decode cL_law 1139 = .ok (.aload_n 1, 1) := by decide +kernel
theorem dL_law_1140 : decode cL_law 1140 = .ok (.aload_n 0, 1) := by decide +kernel
theorem dL_law_1141 : decode cL_law 1141 = .ok (.iload 5, 2) := by decide +kernel
theorem dL_law_1143 : decode cL_law 1143 = .ok (.iconst 1, 1) := by decide +kernel
theorem dL_law_1144 : decode cL_law 1144 = .ok (.iadd, 1) := by decide +kernel
theorem dL_law_1145 : decode cL_law 1145 = .ok (.iaload, 1) := by decide +kernel
theorem dL_law_1146 : decode cL_law 1146 = .ok (.aload_n 0, 1) := by decide +kernel
theorem dL_law_1147 : decode cL_law 1147 = .ok (.iload 5, 2) := by decide +kernel
theorem dL_law_1149 : decode cL_law 1149 = .ok (.iconst 2, 1) := by decide +kernel
theorem dL_law_1150 : decode cL_law 1150 = .ok (.iadd, 1) := by decide +kernel
theorem dL_law_1151 : decode cL_law 1151 = .ok (.iaload, 1) := by decide +kernel
theorem dL_law_1152 : decode cL_law 1152 = .ok (.aload_n 3, 1) := by decide +kernel
theorem dL_law_1153 : decode cL_law 1153 = .ok (.invokestatic 230, 3) := by decide +kernel
theorem dL_law_1156 : decode cL_law 1156 = .ok (.istore 6, 2) := by decide +kernel
theorem dL_law_1158 : decode cL_law 1158 = .ok (.aload_n 2, 1) := by decide +kernel
theorem dL_law_1159 : decode cL_law 1159 = .ok (.aload_n 0, 1) := by decide +kernel
theorem dL_law_1160 : decode cL_law 1160 = .ok (.iload 5, 2) := by decide +kernel
theorem dL_law_1162 : decode cL_law 1162 = .ok (.iconst 1, 1) := by decide +kernel
theorem dL_law_1163 : decode cL_law 1163 = .ok (.iadd, 1) := by decide +kernel
theorem dL_law_1164 : decode cL_law 1164 = .ok (.iaload, 1) := by decide +kernel
theorem dL_law_1165 : decode cL_law 1165 = .ok (.aload_n 0, 1) := by decide +kernel
theorem dL_law_1166 : decode cL_law 1166 = .ok (.iload 5, 2) := by decide +kernel
theorem dL_law_1168 : decode cL_law 1168 = .ok (.iconst 2, 1) := by decide +kernel
theorem dL_law_1169 : decode cL_law 1169 = .ok (.iadd, 1) := by decide +kernel
theorem dL_law_1170 : decode cL_law 1170 = .ok (.iaload, 1) := by decide +kernel
theorem dL_law_1171 : decode cL_law 1171 = .ok (.invokevirtual 232, 3) := by decide +kernel
theorem dL_law_1174 : decode cL_law 1174 = .ok (.istore 7, 2) := by decide +kernel
theorem dL_law_1176 : decode cL_law 1176 = .ok (.aload_n 2, 1) := by decide +kernel
theorem dL_law_1177 : decode cL_law 1177 = .ok (.invokevirtual 175, 3) := by decide +kernel
theorem dL_law_1180 : decode cL_law 1180 = .ok (.iload 6, 2) := by decide +kernel
theorem dL_law_1182 : decode cL_law 1182 = .ok (.if_icmp .eq 5, 3) := by decide +kernel
theorem dL_law_1185 : decode cL_law 1185 = .ok (.iconst 0, 1) := by decide +kernel
theorem dL_law_1186 : decode cL_law 1186 = .ok (.ireturn, 1) := by decide +kernel
theorem dL_law_1187 : decode cL_law 1187 = .ok (.iload 6, 2) := by decide +kernel
theorem dL_law_1189 : decode cL_law 1189 = .ok (.ifCond .ne 15, 3) := by decide +kernel
theorem dL_law_1192 : decode cL_law 1192 = .ok (.aload_n 3, 1) := by decide +kernel
theorem dL_law_1193 : decode cL_law 1193 = .ok (.iconst 0, 1) := by decide +kernel
theorem dL_law_1194 : decode cL_law 1194 = .ok (.laload, 1) := by decide +kernel
theorem dL_law_1195 : decode cL_law 1195 = .ok (.iload 7, 2) := by decide +kernel
theorem dL_law_1197 : decode cL_law 1197 = .ok (.i2l, 1) := by decide +kernel
theorem dL_law_1198 : decode cL_law 1198 = .ok (.lcmp, 1) := by decide +kernel
theorem dL_law_1199 : decode cL_law 1199 = .ok (.ifCond .eq 5, 3) := by decide +kernel
theorem dL_law_1202 : decode cL_law 1202 = .ok (.iconst 0, 1) := by decide +kernel
theorem dL_law_1203 : decode cL_law 1203 = .ok (.ireturn, 1) := by decide +kernel
theorem dL_law_1204 : decode cL_law 1204 = .ok (.goto 1778, 3) := by decide +kernel
theorem dL_law_1207 : decode cL_law 1207 = .ok (.aload_n 1, 1) := by decide +kernel
theorem dL_law_1208 : decode cL_law 1208 = .ok (.invokevirtual 233, 3) := by decide +kernel
theorem dL_law_1211 : decode cL_law 1211 = .ok (.aload_n 2, 1) := by decide +kernel
theorem dL_law_1212 : decode cL_law 1212 = .ok (.invokevirtual 236, 3) := by decide +kernel
theorem dL_law_1215 : decode cL_law 1215 = .ok (.if_icmp .eq 1767, 3) := by decide +kernel
theorem dL_law_1218 : decode cL_law 1218 = .ok (.iconst 0, 1) := by decide +kernel
theorem dL_law_1219 : decode cL_law 1219 = .ok (.ireturn, 1) := by decide +kernel
theorem dL_law_1220 : decode cL_law 1220 = .ok (.aload_n 1, 1) := by decide +kernel
theorem dL_law_1221 : decode cL_law 1221 = .ok (.aload_n 0, 1) := by decide +kernel
theorem dL_law_1222 : decode cL_law 1222 = .ok (.iload 5, 2) := by decide +kernel
theorem dL_law_1224 : decode cL_law 1224 = .ok (.iconst 1, 1) := by decide +kernel
theorem dL_law_1225 : decode cL_law 1225 = .ok (.iadd, 1) := by decide +kernel
theorem dL_law_1226 : decode cL_law 1226 = .ok (.iaload, 1) := by decide +kernel
theorem dL_law_1227 : decode cL_law 1227 = .ok (.aload_n 0, 1) := by decide +kernel
theorem dL_law_1228 : decode cL_law 1228 = .ok (.iload 5, 2) := by decide +kernel
theorem dL_law_1230 : decode cL_law 1230 = .ok (.iconst 2, 1) := by decide +kernel
theorem dL_law_1231 : decode cL_law 1231 = .ok (.iadd, 1) := by decide +kernel
theorem dL_law_1232 : decode cL_law 1232 = .ok (.iaload, 1) := by decide +kernel
theorem dL_law_1233 : decode cL_law 1233 = .ok (.aload_n 3, 1) := by decide +kernel
theorem dL_law_1234 : decode cL_law 1234 = .ok (.invokestatic 237, 3) := by decide +kernel
theorem dL_law_1237 : decode cL_law 1237 = .ok (.istore 6, 2) := by decide +kernel
theorem dL_law_1239 : decode cL_law 1239 = .ok (.aload_n 2, 1) := by decide +kernel
theorem dL_law_1240 : decode cL_law 1240 = .ok (.aload_n 0, 1) := by decide +kernel
theorem dL_law_1241 : decode cL_law 1241 = .ok (.iload 5, 2) := by decide +kernel
theorem dL_law_1243 : decode cL_law 1243 = .ok (.iconst 1, 1) := by decide +kernel
theorem dL_law_1244 : decode cL_law 1244 = .ok (.iadd, 1) := by decide +kernel
theorem dL_law_1245 : decode cL_law 1245 = .ok (.iaload, 1) := by decide +kernel
theorem dL_law_1246 : decode cL_law 1246 = .ok (.aload_n 0, 1) := by decide +kernel
theorem dL_law_1247 : decode cL_law 1247 = .ok (.iload 5, 2) := by decide +kernel
theorem dL_law_1249 : decode cL_law 1249 = .ok (.iconst 2, 1) := by decide +kernel
theorem dL_law_1250 : decode cL_law 1250 = .ok (.iadd, 1) := by decide +kernel
theorem dL_law_1251 : decode cL_law 1251 = .ok (.iaload, 1) := by decide +kernel
theorem dL_law_1252 : decode cL_law 1252 = .ok (.invokevirtual 239, 3) := by decide +kernel
theorem dL_law_1255 : decode cL_law 1255 = .ok (.istore 7, 2) := by decide +kernel
theorem dL_law_1257 : decode cL_law 1257 = .ok (.aload_n 2, 1) := by decide +kernel
theorem dL_law_1258 : decode cL_law 1258 = .ok (.invokevirtual 175, 3) := by decide +kernel
theorem dL_law_1261 : decode cL_law 1261 = .ok (.iload 6, 2) := by decide +kernel
theorem dL_law_1263 : decode cL_law 1263 = .ok (.if_icmp .eq 5, 3) := by decide +kernel
theorem dL_law_1266 : decode cL_law 1266 = .ok (.iconst 0, 1) := by decide +kernel
theorem dL_law_1267 : decode cL_law 1267 = .ok (.ireturn, 1) := by decide +kernel
theorem dL_law_1268 : decode cL_law 1268 = .ok (.iload 6, 2) := by decide +kernel
theorem dL_law_1270 : decode cL_law 1270 = .ok (.ifCond .ne 22, 3) := by decide +kernel
theorem dL_law_1273 : decode cL_law 1273 = .ok (.aload_n 3, 1) := by decide +kernel
theorem dL_law_1274 : decode cL_law 1274 = .ok (.iconst 0, 1) := by decide +kernel
theorem dL_law_1275 : decode cL_law 1275 = .ok (.laload, 1) := by decide +kernel
theorem dL_law_1276 : decode cL_law 1276 = .ok (.iload 7, 2) := by decide +kernel
theorem dL_law_1278 : decode cL_law 1278 = .ok (.ifCond .eq 7, 3) := by decide +kernel
theorem dL_law_1281 : decode cL_law 1281 = .ok (.lconst 1, 1) := by decide +kernel
theorem dL_law_1282 : decode cL_law 1282 = .ok (.goto 4, 3) := by decide +kernel
theorem dL_law_1285 : decode cL_law 1285 = .ok (.lconst 0, 1) := by decide +kernel
theorem dL_law_1286 : decode cL_law 1286 = .ok (.lcmp, 1) := by decide +kernel
theorem dL_law_1287 : decode cL_law 1287 = .ok (.ifCond .eq 5, 3) := by decide +kernel
theorem dL_law_1290 : decode cL_law 1290 = .ok (.iconst 0, 1) := by decide +kernel
theorem dL_law_1291 : decode cL_law 1291 = .ok (.ireturn, 1) := by decide +kernel
theorem dL_law_1292 : decode cL_law 1292 = .ok (.goto 1690, 3) := by decide +kernel
theorem dL_law_1295 : decode cL_law 1295 = .ok (.aload_n 1, 1) := by decide +kernel
theorem dL_law_1296 : decode cL_law 1296 = .ok (.aload_n 0, 1) := by decide +kernel
theorem dL_law_1297 : decode cL_law 1297 = .ok (.iload 5, 2) := by decide +kernel
theorem dL_law_1299 : decode cL_law 1299 = .ok (.iconst 1, 1) := by decide +kernel
theorem dL_law_1300 : decode cL_law 1300 = .ok (.iadd, 1) := by decide +kernel
theorem dL_law_1301 : decode cL_law 1301 = .ok (.iaload, 1) := by decide +kernel
theorem dL_law_1302 : decode cL_law 1302 = .ok (.aload_n 3, 1) := by decide +kernel
theorem dL_law_1303 : decode cL_law 1303 = .ok (.invokestatic 240, 3) := by decide +kernel
theorem dL_law_1306 : decode cL_law 1306 = .ok (.istore 6, 2) := by decide +kernel
theorem dL_law_1308 : decode cL_law 1308 = .ok (.aload_n 2, 1) := by decide +kernel
theorem dL_law_1309 : decode cL_law 1309 = .ok (.aload_n 0, 1) := by decide +kernel
theorem dL_law_1310 : decode cL_law 1310 = .ok (.iload 5, 2) := by decide +kernel
theorem dL_law_1312 : decode cL_law 1312 = .ok (.iconst 1, 1) := by decide +kernel
theorem dL_law_1313 : decode cL_law 1313 = .ok (.iadd, 1) := by decide +kernel
theorem dL_law_1314 : decode cL_law 1314 = .ok (.iaload, 1) := by decide +kernel
theorem dL_law_1315 : decode cL_law 1315 = .ok (.invokevirtual 242, 3) := by decide +kernel
theorem dL_law_1318 : decode cL_law 1318 = .ok (.istore 7, 2) := by decide +kernel
theorem dL_law_1320 : decode cL_law 1320 = .ok (.aload_n 2, 1) := by decide +kernel
theorem dL_law_1321 : decode cL_law 1321 = .ok (.invokevirtual 175, 3) := by decide +kernel
theorem dL_law_1324 : decode cL_law 1324 = .ok (.iload 6, 2) := by decide +kernel
theorem dL_law_1326 : decode cL_law 1326 = .ok (.if_icmp .eq 5, 3) := by decide +kernel
theorem dL_law_1329 : decode cL_law 1329 = .ok (.iconst 0, 1) := by decide +kernel
theorem dL_law_1330 : decode cL_law 1330 = .ok (.ireturn, 1) := by decide +kernel
theorem dL_law_1331 : decode cL_law 1331 = .ok (.iload 6, 2) := by decide +kernel
theorem dL_law_1333 : decode cL_law 1333 = .ok (.ifCond .ne 15, 3) := by decide +kernel
theorem dL_law_1336 : decode cL_law 1336 = .ok (.aload_n 3, 1) := by decide +kernel
theorem dL_law_1337 : decode cL_law 1337 = .ok (.iconst 0, 1) := by decide +kernel
theorem dL_law_1338 : decode cL_law 1338 = .ok (.laload, 1) := by decide +kernel
theorem dL_law_1339 : decode cL_law 1339 = .ok (.iload 7, 2) := by decide +kernel
theorem dL_law_1341 : decode cL_law 1341 = .ok (.i2l, 1) := by decide +kernel
theorem dL_law_1342 : decode cL_law 1342 = .ok (.lcmp, 1) := by decide +kernel
theorem dL_law_1343 : decode cL_law 1343 = .ok (.ifCond .eq 5, 3) := by decide +kernel
theorem dL_law_1346 : decode cL_law 1346 = .ok (.iconst 0, 1) := by decide +kernel
theorem dL_law_1347 : decode cL_law 1347 = .ok (.ireturn, 1) := by decide +kernel
theorem dL_law_1348 : decode cL_law 1348 = .ok (.goto 1634, 3) := by decide +kernel
theorem dL_law_1351 : decode cL_law 1351 = .ok (.aload_n 1, 1) := by decide +kernel
theorem dL_law_1352 : decode cL_law 1352 = .ok (.aload_n 0, 1) := by decide +kernel
theorem dL_law_1353 : decode cL_law 1353 = .ok (.iload 5, 2) := by decide +kernel
theorem dL_law_1355 : decode cL_law 1355 = .ok (.iconst 1, 1) := by decide +kernel
theorem dL_law_1356 : decode cL_law 1356 = .ok (.iadd, 1) := by decide +kernel
theorem dL_law_1357 : decode cL_law 1357 = .ok (.iaload, 1) := by decide +kernel
theorem dL_law_1358 : decode cL_law 1358 = .ok (.aload_n 3, 1) := by decide +kernel
theorem dL_law_1359 : decode cL_law 1359 = .ok (.invokestatic 243, 3) := by decide +kernel
theorem dL_law_1362 : decode cL_law 1362 = .ok (.istore 6, 2) := by decide +kernel
theorem dL_law_1364 : decode cL_law 1364 = .ok (.aload_n 2, 1) := by decide +kernel
theorem dL_law_1365 : decode cL_law 1365 = .ok (.aload_n 0, 1) := by decide +kernel
theorem dL_law_1366 : decode cL_law 1366 = .ok (.iload 5, 2) := by decide +kernel
theorem dL_law_1368 : decode cL_law 1368 = .ok (.iconst 1, 1) := by decide +kernel
theorem dL_law_1369 : decode cL_law 1369 = .ok (.iadd, 1) := by decide +kernel
theorem dL_law_1370 : decode cL_law 1370 = .ok (.iaload, 1) := by decide +kernel
theorem dL_law_1371 : decode cL_law 1371 = .ok (.invokevirtual 245, 3) := by decide +kernel
theorem dL_law_1374 : decode cL_law 1374 = .ok (.istore 7, 2) := by decide +kernel
theorem dL_law_1376 : decode cL_law 1376 = .ok (.aload_n 2, 1) := by decide +kernel
theorem dL_law_1377 : decode cL_law 1377 = .ok (.invokevirtual 175, 3) := by decide +kernel
theorem dL_law_1380 : decode cL_law 1380 = .ok (.iload 6, 2) := by decide +kernel
theorem dL_law_1382 : decode cL_law 1382 = .ok (.if_icmp .eq 5, 3) := by decide +kernel
theorem dL_law_1385 : decode cL_law 1385 = .ok (.iconst 0, 1) := by decide +kernel
theorem dL_law_1386 : decode cL_law 1386 = .ok (.ireturn, 1) := by decide +kernel
theorem dL_law_1387 : decode cL_law 1387 = .ok (.iload 6, 2) := by decide +kernel
theorem dL_law_1389 : decode cL_law 1389 = .ok (.ifCond .ne 15, 3) := by decide +kernel
theorem dL_law_1392 : decode cL_law 1392 = .ok (.aload_n 3, 1) := by decide +kernel
theorem dL_law_1393 : decode cL_law 1393 = .ok (.iconst 0, 1) := by decide +kernel
theorem dL_law_1394 : decode cL_law 1394 = .ok (.laload, 1) := by decide +kernel
theorem dL_law_1395 : decode cL_law 1395 = .ok (.iload 7, 2) := by decide +kernel
theorem dL_law_1397 : decode cL_law 1397 = .ok (.i2l, 1) := by decide +kernel
theorem dL_law_1398 : decode cL_law 1398 = .ok (.lcmp, 1) := by decide +kernel
theorem dL_law_1399 : decode cL_law 1399 = .ok (.ifCond .eq 5, 3) := by decide +kernel
theorem dL_law_1402 : decode cL_law 1402 = .ok (.iconst 0, 1) := by decide +kernel
theorem dL_law_1403 : decode cL_law 1403 = .ok (.ireturn, 1) := by decide +kernel
theorem dL_law_1404 : decode cL_law 1404 = .ok (.goto 1578, 3) := by decide +kernel
theorem dL_law_1407 : decode cL_law 1407 = .ok (.aload_n 1, 1) := by decide +kernel
theorem dL_law_1408 : decode cL_law 1408 = .ok (.invokevirtual 246, 3) := by decide +kernel
theorem dL_law_1411 : decode cL_law 1411 = .ok (.aload_n 2, 1) := by decide +kernel
theorem dL_law_1412 : decode cL_law 1412 = .ok (.invokevirtual 249, 3) := by decide +kernel
theorem dL_law_1415 : decode cL_law 1415 = .ok (.if_icmp .eq 1567, 3) := by decide +kernel
theorem dL_law_1418 : decode cL_law 1418 = .ok (.iconst 0, 1) := by decide +kernel
theorem dL_law_1419 : decode cL_law 1419 = .ok (.ireturn, 1) := by decide +kernel
theorem dL_law_1420 : decode cL_law 1420 = .ok (.aload_n 1, 1) := by decide +kernel
theorem dL_law_1421 : decode cL_law 1421 = .ok (.invokevirtual 250, 3) := by decide +kernel
theorem dL_law_1424 : decode cL_law 1424 = .ok (.aload_n 2, 1) := by decide +kernel
theorem dL_law_1425 : decode cL_law 1425 = .ok (.invokevirtual 254, 3) := by decide +kernel
theorem dL_law_1428 : decode cL_law 1428 = .ok (.if_icmp .eq 1554, 3) := by decide +kernel
theorem dL_law_1431 : decode cL_law 1431 = .ok (.iconst 0, 1) := by decide +kernel
theorem dL_law_1432 : decode cL_law 1432 = .ok (.ireturn, 1) := by decide +kernel
theorem dL_law_1433 : decode cL_law 1433 = .ok (.aload_n 1, 1) := by decide +kernel
theorem dL_law_1434 : decode cL_law 1434 = .ok (.aload_n 0, 1) := by decide +kernel
theorem dL_law_1435 : decode cL_law 1435 = .ok (.iload 5, 2) := by decide +kernel
theorem dL_law_1437 : decode cL_law 1437 = .ok (.iconst 1, 1) := by decide +kernel
theorem dL_law_1438 : decode cL_law 1438 = .ok (.iadd, 1) := by decide +kernel
theorem dL_law_1439 : decode cL_law 1439 = .ok (.iaload, 1) := by decide +kernel
theorem dL_law_1440 : decode cL_law 1440 = .ok (.aload_n 3, 1) := by decide +kernel
theorem dL_law_1441 : decode cL_law 1441 = .ok (.invokestatic 255, 3) := by decide +kernel
theorem dL_law_1444 : decode cL_law 1444 = .ok (.istore 6, 2) := by decide +kernel
theorem dL_law_1446 : decode cL_law 1446 = .ok (.aload_n 2, 1) := by decide +kernel
theorem dL_law_1447 : decode cL_law 1447 = .ok (.aload_n 0, 1) := by decide +kernel
theorem dL_law_1448 : decode cL_law 1448 = .ok (.iload 5, 2) := by decide +kernel
theorem dL_law_1450 : decode cL_law 1450 = .ok (.iconst 1, 1) := by decide +kernel
theorem dL_law_1451 : decode cL_law 1451 = .ok (.iadd, 1) := by decide +kernel
theorem dL_law_1452 : decode cL_law 1452 = .ok (.iaload, 1) := by decide +kernel
theorem dL_law_1453 : decode cL_law 1453 = .ok (.invokevirtual 257, 3) := by decide +kernel
theorem dL_law_1456 : decode cL_law 1456 = .ok (.istore 7, 2) := by decide +kernel
theorem dL_law_1458 : decode cL_law 1458 = .ok (.aload_n 2, 1) := by decide +kernel
theorem dL_law_1459 : decode cL_law 1459 = .ok (.invokevirtual 175, 3) := by decide +kernel
theorem dL_law_1462 : decode cL_law 1462 = .ok (.iload 6, 2) := by decide +kernel
theorem dL_law_1464 : decode cL_law 1464 = .ok (.if_icmp .eq 5, 3) := by decide +kernel
theorem dL_law_1467 : decode cL_law 1467 = .ok (.iconst 0, 1) := by decide +kernel
theorem dL_law_1468 : decode cL_law 1468 = .ok (.ireturn, 1) := by decide +kernel
theorem dL_law_1469 : decode cL_law 1469 = .ok (.iload 6, 2) := by decide +kernel
theorem dL_law_1471 : decode cL_law 1471 = .ok (.ifCond .ne 22, 3) := by decide +kernel
theorem dL_law_1474 : decode cL_law 1474 = .ok (.aload_n 3, 1) := by decide +kernel
theorem dL_law_1475 : decode cL_law 1475 = .ok (.iconst 0, 1) := by decide +kernel
theorem dL_law_1476 : decode cL_law 1476 = .ok (.laload, 1) := by decide +kernel
theorem dL_law_1477 : decode cL_law 1477 = .ok (.iload 7, 2) := by decide +kernel
theorem dL_law_1479 : decode cL_law 1479 = .ok (.ifCond .eq 7, 3) := by decide +kernel
theorem dL_law_1482 : decode cL_law 1482 = .ok (.lconst 1, 1) := by decide +kernel
theorem dL_law_1483 : decode cL_law 1483 = .ok (.goto 4, 3) := by decide +kernel
theorem dL_law_1486 : decode cL_law 1486 = .ok (.lconst 0, 1) := by decide +kernel
theorem dL_law_1487 : decode cL_law 1487 = .ok (.lcmp, 1) := by decide +kernel
theorem dL_law_1488 : decode cL_law 1488 = .ok (.ifCond .eq 5, 3) := by decide +kernel
theorem dL_law_1491 : decode cL_law 1491 = .ok (.iconst 0, 1) := by decide +kernel
theorem dL_law_1492 : decode cL_law 1492 = .ok (.ireturn, 1) := by decide +kernel
theorem dL_law_1493 : decode cL_law 1493 = .ok (.goto 1489, 3) := by decide +kernel
theorem dL_law_1496 : decode cL_law 1496 = .ok (.aload_n 1, 1) := by decide +kernel
theorem dL_law_1497 : decode cL_law 1497 = .ok (.aload_n 0, 1) := by decide +kernel
theorem dL_law_1498 : decode cL_law 1498 = .ok (.iload 5, 2) := by decide +kernel
theorem dL_law_1500 : decode cL_law 1500 = .ok (.iconst 1, 1) := by decide +kernel
theorem dL_law_1501 : decode cL_law 1501 = .ok (.iadd, 1) := by decide +kernel
theorem dL_law_1502 : decode cL_law 1502 = .ok (.iaload, 1) := by decide +kernel
theorem dL_law_1503 : decode cL_law 1503 = .ok (.aload_n 3, 1) := by decide +kernel
theorem dL_law_1504 : decode cL_law 1504 = .ok (.invokestatic 258, 3) := by decide +kernel
theorem dL_law_1507 : decode cL_law 1507 = .ok (.istore 6, 2) := by decide +kernel
theorem dL_law_1509 : decode cL_law 1509 = .ok (.aload_n 2, 1) := by decide +kernel
theorem dL_law_1510 : decode cL_law 1510 = .ok (.aload_n 0, 1) := by decide +kernel
theorem dL_law_1511 : decode cL_law 1511 = .ok (.iload 5, 2) := by decide +kernel
theorem dL_law_1513 : decode cL_law 1513 = .ok (.iconst 1, 1) := by decide +kernel
theorem dL_law_1514 : decode cL_law 1514 = .ok (.iadd, 1) := by decide +kernel
theorem dL_law_1515 : decode cL_law 1515 = .ok (.iaload, 1) := by decide +kernel
theorem dL_law_1516 : decode cL_law 1516 = .ok (.invokevirtual 260, 3) := by decide +kernel
theorem dL_law_1519 : decode cL_law 1519 = .ok (.istore 7, 2) := by decide +kernel
theorem dL_law_1521 : decode cL_law 1521 = .ok (.aload_n 2, 1) := by decide +kernel
theorem dL_law_1522 : decode cL_law 1522 = .ok (.invokevirtual 175, 3) := by decide +kernel
theorem dL_law_1525 : decode cL_law 1525 = .ok (.iload 6, 2) := by decide +kernel
theorem dL_law_1527 : decode cL_law 1527 = .ok (.if_icmp .eq 5, 3) := by decide +kernel
theorem dL_law_1530 : decode cL_law 1530 = .ok (.iconst 0, 1) := by decide +kernel
theorem dL_law_1531 : decode cL_law 1531 = .ok (.ireturn, 1) := by decide +kernel
theorem dL_law_1532 : decode cL_law 1532 = .ok (.iload 6, 2) := by decide +kernel
theorem dL_law_1534 : decode cL_law 1534 = .ok (.ifCond .ne 22, 3) := by decide +kernel
theorem dL_law_1537 : decode cL_law 1537 = .ok (.aload_n 3, 1) := by decide +kernel
theorem dL_law_1538 : decode cL_law 1538 = .ok (.iconst 0, 1) := by decide +kernel
theorem dL_law_1539 : decode cL_law 1539 = .ok (.laload, 1) := by decide +kernel
theorem dL_law_1540 : decode cL_law 1540 = .ok (.iload 7, 2) := by decide +kernel
theorem dL_law_1542 : decode cL_law 1542 = .ok (.ifCond .eq 7, 3) := by decide +kernel
theorem dL_law_1545 : decode cL_law 1545 = .ok (.lconst 1, 1) := by decide +kernel
theorem dL_law_1546 : decode cL_law 1546 = .ok (.goto 4, 3) := by decide +kernel
theorem dL_law_1549 : decode cL_law 1549 = .ok (.lconst 0, 1) := by decide +kernel
theorem dL_law_1550 : decode cL_law 1550 = .ok (.lcmp, 1) := by decide +kernel
theorem dL_law_1551 : decode cL_law 1551 = .ok (.ifCond .eq 5, 3) := by decide +kernel
theorem dL_law_1554 : decode cL_law 1554 = .ok (.iconst 0, 1) := by decide +kernel
theorem dL_law_1555 : decode cL_law 1555 = .ok (.ireturn, 1) := by decide +kernel
theorem dL_law_1556 : decode cL_law 1556 = .ok (.goto 1426, 3) := by decide +kernel
theorem dL_law_1559 : decode cL_law 1559 = .ok (.aload_n 1, 1) := by decide +kernel
theorem dL_law_1560 : decode cL_law 1560 = .ok (.aload_n 0, 1) := by decide +kernel
theorem dL_law_1561 : decode cL_law 1561 = .ok (.iload 5, 2) := by decide +kernel
theorem dL_law_1563 : decode cL_law 1563 = .ok (.iconst 1, 1) := by decide +kernel
theorem dL_law_1564 : decode cL_law 1564 = .ok (.iadd, 1) := by decide +kernel
theorem dL_law_1565 : decode cL_law 1565 = .ok (.iaload, 1) := by decide +kernel
theorem dL_law_1566 : decode cL_law 1566 = .ok (.aload_n 3, 1) := by decide +kernel
theorem dL_law_1567 : decode cL_law 1567 = .ok (.invokestatic 261, 3) := by decide +kernel
theorem dL_law_1570 : decode cL_law 1570 = .ok (.istore 6, 2) := by decide +kernel
theorem dL_law_1572 : decode cL_law 1572 = .ok (.aload_n 2, 1) := by decide +kernel
theorem dL_law_1573 : decode cL_law 1573 = .ok (.aload_n 0, 1) := by decide +kernel
theorem dL_law_1574 : decode cL_law 1574 = .ok (.iload 5, 2) := by decide +kernel
theorem dL_law_1576 : decode cL_law 1576 = .ok (.iconst 1, 1) := by decide +kernel
theorem dL_law_1577 : decode cL_law 1577 = .ok (.iadd, 1) := by decide +kernel
theorem dL_law_1578 : decode cL_law 1578 = .ok (.iaload, 1) := by decide +kernel
theorem dL_law_1579 : decode cL_law 1579 = .ok (.invokevirtual 263, 3) := by decide +kernel
theorem dL_law_1582 : decode cL_law 1582 = .ok (.istore 7, 2) := by decide +kernel
theorem dL_law_1584 : decode cL_law 1584 = .ok (.aload_n 2, 1) := by decide +kernel
theorem dL_law_1585 : decode cL_law 1585 = .ok (.invokevirtual 175, 3) := by decide +kernel
theorem dL_law_1588 : decode cL_law 1588 = .ok (.iload 6, 2) := by decide +kernel
theorem dL_law_1590 : decode cL_law 1590 = .ok (.if_icmp .eq 5, 3) := by decide +kernel
theorem dL_law_1593 : decode cL_law 1593 = .ok (.iconst 0, 1) := by decide +kernel
theorem dL_law_1594 : decode cL_law 1594 = .ok (.ireturn, 1) := by decide +kernel
theorem dL_law_1595 : decode cL_law 1595 = .ok (.iload 6, 2) := by decide +kernel
theorem dL_law_1597 : decode cL_law 1597 = .ok (.ifCond .ne 22, 3) := by decide +kernel
theorem dL_law_1600 : decode cL_law 1600 = .ok (.aload_n 3, 1) := by decide +kernel
theorem dL_law_1601 : decode cL_law 1601 = .ok (.iconst 0, 1) := by decide +kernel
theorem dL_law_1602 : decode cL_law 1602 = .ok (.laload, 1) := by decide +kernel
theorem dL_law_1603 : decode cL_law 1603 = .ok (.iload 7, 2) := by decide +kernel
theorem dL_law_1605 : decode cL_law 1605 = .ok (.ifCond .eq 7, 3) := by decide +kernel
theorem dL_law_1608 : decode cL_law 1608 = .ok (.lconst 1, 1) := by decide +kernel
theorem dL_law_1609 : decode cL_law 1609 = .ok (.goto 4, 3) := by decide +kernel
theorem dL_law_1612 : decode cL_law 1612 = .ok (.lconst 0, 1) := by decide +kernel
theorem dL_law_1613 : decode cL_law 1613 = .ok (.lcmp, 1) := by decide +kernel
theorem dL_law_1614 : decode cL_law 1614 = .ok (.ifCond .eq 5, 3) := by decide +kernel
theorem dL_law_1617 : decode cL_law 1617 = .ok (.iconst 0, 1) := by decide +kernel
theorem dL_law_1618 : decode cL_law 1618 = .ok (.ireturn, 1) := by decide +kernel
theorem dL_law_1619 : decode cL_law 1619 = .ok (.goto 1363, 3) := by decide +kernel
theorem dL_law_1622 : decode cL_law 1622 = .ok (.aload_n 1, 1) := by decide +kernel
theorem dL_law_1623 : decode cL_law 1623 = .ok (.aload_n 0, 1) := by decide +kernel
theorem dL_law_1624 : decode cL_law 1624 = .ok (.iload 5, 2) := by decide +kernel
theorem dL_law_1626 : decode cL_law 1626 = .ok (.iconst 1, 1) := by decide +kernel
theorem dL_law_1627 : decode cL_law 1627 = .ok (.iadd, 1) := by decide +kernel
theorem dL_law_1628 : decode cL_law 1628 = .ok (.iaload, 1) := by decide +kernel
theorem dL_law_1629 : decode cL_law 1629 = .ok (.aload_n 3, 1) := by decide +kernel
theorem dL_law_1630 : decode cL_law 1630 = .ok (.invokestatic 264, 3) := by decide +kernel
theorem dL_law_1633 : decode cL_law 1633 = .ok (.istore 6, 2) := by decide +kernel
theorem dL_law_1635 : decode cL_law 1635 = .ok (.aload_n 2, 1) := by decide +kernel
theorem dL_law_1636 : decode cL_law 1636 = .ok (.aload_n 0, 1) := by decide +kernel
theorem dL_law_1637 : decode cL_law 1637 = .ok (.iload 5, 2) := by decide +kernel
theorem dL_law_1639 : decode cL_law 1639 = .ok (.iconst 1, 1) := by decide +kernel
theorem dL_law_1640 : decode cL_law 1640 = .ok (.iadd, 1) := by decide +kernel
theorem dL_law_1641 : decode cL_law 1641 = .ok (.iaload, 1) := by decide +kernel
theorem dL_law_1642 : decode cL_law 1642 = .ok (.invokevirtual 266, 3) := by decide +kernel
theorem dL_law_1645 : decode cL_law 1645 = .ok (.istore 7, 2) := by decide +kernel
theorem dL_law_1647 : decode cL_law 1647 = .ok (.aload_n 2, 1) := by decide +kernel
theorem dL_law_1648 : decode cL_law 1648 = .ok (.invokevirtual 175, 3) := by decide +kernel
theorem dL_law_1651 : decode cL_law 1651 = .ok (.iload 6, 2) := by decide +kernel
theorem dL_law_1653 : decode cL_law 1653 = .ok (.if_icmp .eq 5, 3) := by decide +kernel
theorem dL_law_1656 : decode cL_law 1656 = .ok (.iconst 0, 1) := by decide +kernel
theorem dL_law_1657 : decode cL_law 1657 = .ok (.ireturn, 1) := by decide +kernel
theorem dL_law_1658 : decode cL_law 1658 = .ok (.iload 6, 2) := by decide +kernel
theorem dL_law_1660 : decode cL_law 1660 = .ok (.ifCond .ne 15, 3) := by decide +kernel
theorem dL_law_1663 : decode cL_law 1663 = .ok (.aload_n 3, 1) := by decide +kernel
theorem dL_law_1664 : decode cL_law 1664 = .ok (.iconst 0, 1) := by decide +kernel
theorem dL_law_1665 : decode cL_law 1665 = .ok (.laload, 1) := by decide +kernel
theorem dL_law_1666 : decode cL_law 1666 = .ok (.iload 7, 2) := by decide +kernel
theorem dL_law_1668 : decode cL_law 1668 = .ok (.i2l, 1) := by decide +kernel
theorem dL_law_1669 : decode cL_law 1669 = .ok (.lcmp, 1) := by decide +kernel
theorem dL_law_1670 : decode cL_law 1670 = .ok (.ifCond .eq 5, 3) := by decide +kernel
theorem dL_law_1673 : decode cL_law 1673 = .ok (.iconst 0, 1) := by decide +kernel
theorem dL_law_1674 : decode cL_law 1674 = .ok (.ireturn, 1) := by decide +kernel
theorem dL_law_1675 : decode cL_law 1675 = .ok (.goto 1307, 3) := by decide +kernel
theorem dL_law_1678 : decode cL_law 1678 = .ok (.aload_n 1, 1) := by decide +kernel
theorem dL_law_1679 : decode cL_law 1679 = .ok (.aload_n 0, 1) := by decide +kernel
theorem dL_law_1680 : decode cL_law 1680 = .ok (.iload 5, 2) := by decide +kernel
theorem dL_law_1682 : decode cL_law 1682 = .ok (.iconst 1, 1) := by decide +kernel
theorem dL_law_1683 : decode cL_law 1683 = .ok (.iadd, 1) := by decide +kernel
theorem dL_law_1684 : decode cL_law 1684 = .ok (.iaload, 1) := by decide +kernel
theorem dL_law_1685 : decode cL_law 1685 = .ok (.aload_n 3, 1) := by decide +kernel
theorem dL_law_1686 : decode cL_law 1686 = .ok (.invokestatic 267, 3) := by decide +kernel
theorem dL_law_1689 : decode cL_law 1689 = .ok (.istore 6, 2) := by decide +kernel
theorem dL_law_1691 : decode cL_law 1691 = .ok (.aload_n 2, 1) := by decide +kernel
theorem dL_law_1692 : decode cL_law 1692 = .ok (.aload_n 0, 1) := by decide +kernel
theorem dL_law_1693 : decode cL_law 1693 = .ok (.iload 5, 2) := by decide +kernel
theorem dL_law_1695 : decode cL_law 1695 = .ok (.iconst 1, 1) := by decide +kernel
theorem dL_law_1696 : decode cL_law 1696 = .ok (.iadd, 1) := by decide +kernel
theorem dL_law_1697 : decode cL_law 1697 = .ok (.iaload, 1) := by decide +kernel
theorem dL_law_1698 : decode cL_law 1698 = .ok (.invokevirtual 269, 3) := by decide +kernel
theorem dL_law_1701 : decode cL_law 1701 = .ok (.istore 7, 2) := by decide +kernel
theorem dL_law_1703 : decode cL_law 1703 = .ok (.aload_n 2, 1) := by decide +kernel
theorem dL_law_1704 : decode cL_law 1704 = .ok (.invokevirtual 175, 3) := by decide +kernel
theorem dL_law_1707 : decode cL_law 1707 = .ok (.iload 6, 2) := by decide +kernel
theorem dL_law_1709 : decode cL_law 1709 = .ok (.if_icmp .eq 5, 3) := by decide +kernel
theorem dL_law_1712 : decode cL_law 1712 = .ok (.iconst 0, 1) := by decide +kernel
theorem dL_law_1713 : decode cL_law 1713 = .ok (.ireturn, 1) := by decide +kernel
theorem dL_law_1714 : decode cL_law 1714 = .ok (.iload 6, 2) := by decide +kernel
theorem dL_law_1716 : decode cL_law 1716 = .ok (.ifCond .ne 15, 3) := by decide +kernel
theorem dL_law_1719 : decode cL_law 1719 = .ok (.aload_n 3, 1) := by decide +kernel
theorem dL_law_1720 : decode cL_law 1720 = .ok (.iconst 0, 1) := by decide +kernel
theorem dL_law_1721 : decode cL_law 1721 = .ok (.laload, 1) := by decide +kernel
theorem dL_law_1722 : decode cL_law 1722 = .ok (.iload 7, 2) := by decide +kernel
theorem dL_law_1724 : decode cL_law 1724 = .ok (.i2l, 1) := by decide +kernel
theorem dL_law_1725 : decode cL_law 1725 = .ok (.lcmp, 1) := by decide +kernel
theorem dL_law_1726 : decode cL_law 1726 = .ok (.ifCond .eq 5, 3) := by decide +kernel
theorem dL_law_1729 : decode cL_law 1729 = .ok (.iconst 0, 1) := by decide +kernel
theorem dL_law_1730 : decode cL_law 1730 = .ok (.ireturn, 1) := by decide +kernel
theorem dL_law_1731 : decode cL_law 1731 = .ok (.goto 1251, 3) := by decide +kernel
theorem dL_law_1734 : decode cL_law 1734 = .ok (.aload_n 1, 1) := by decide +kernel
theorem dL_law_1735 : decode cL_law 1735 = .ok (.aload_n 0, 1) := by decide +kernel
theorem dL_law_1736 : decode cL_law 1736 = .ok (.iload 5, 2) := by decide +kernel
theorem dL_law_1738 : decode cL_law 1738 = .ok (.iconst 1, 1) := by decide +kernel
theorem dL_law_1739 : decode cL_law 1739 = .ok (.iadd, 1) := by decide +kernel
theorem dL_law_1740 : decode cL_law 1740 = .ok (.iaload, 1) := by decide +kernel
theorem dL_law_1741 : decode cL_law 1741 = .ok (.aload_n 3, 1) := by decide +kernel
theorem dL_law_1742 : decode cL_law 1742 = .ok (.invokestatic 270, 3) := by decide +kernel
theorem dL_law_1745 : decode cL_law 1745 = .ok (.istore 6, 2) := by decide +kernel
theorem dL_law_1747 : decode cL_law 1747 = .ok (.aload_n 2, 1) := by decide +kernel
theorem dL_law_1748 : decode cL_law 1748 = .ok (.aload_n 0, 1) := by decide +kernel
theorem dL_law_1749 : decode cL_law 1749 = .ok (.iload 5, 2) := by decide +kernel
theorem dL_law_1751 : decode cL_law 1751 = .ok (.iconst 1, 1) := by decide +kernel
theorem dL_law_1752 : decode cL_law 1752 = .ok (.iadd, 1) := by decide +kernel
theorem dL_law_1753 : decode cL_law 1753 = .ok (.iaload, 1) := by decide +kernel
theorem dL_law_1754 : decode cL_law 1754 = .ok (.invokevirtual 272, 3) := by decide +kernel
theorem dL_law_1757 : decode cL_law 1757 = .ok (.istore 7, 2) := by decide +kernel
theorem dL_law_1759 : decode cL_law 1759 = .ok (.aload_n 2, 1) := by decide +kernel
theorem dL_law_1760 : decode cL_law 1760 = .ok (.invokevirtual 175, 3) := by decide +kernel
theorem dL_law_1763 : decode cL_law 1763 = .ok (.iload 6, 2) := by decide +kernel
theorem dL_law_1765 : decode cL_law 1765 = .ok (.if_icmp .eq 5, 3) := by decide +kernel
theorem dL_law_1768 : decode cL_law 1768 = .ok (.iconst 0, 1) := by decide +kernel
theorem dL_law_1769 : decode cL_law 1769 = .ok (.ireturn, 1) := by decide +kernel
theorem dL_law_1770 : decode cL_law 1770 = .ok (.iload 6, 2) := by decide +kernel
theorem dL_law_1772 : decode cL_law 1772 = .ok (.ifCond .ne 15, 3) := by decide +kernel
theorem dL_law_1775 : decode cL_law 1775 = .ok (.aload_n 3, 1) := by decide +kernel
theorem dL_law_1776 : decode cL_law 1776 = .ok (.iconst 0, 1) := by decide +kernel
theorem dL_law_1777 : decode cL_law 1777 = .ok (.laload, 1) := by decide +kernel
theorem dL_law_1778 : decode cL_law 1778 = .ok (.iload 7, 2) := by decide +kernel
theorem dL_law_1780 : decode cL_law 1780 = .ok (.i2l, 1) := by decide +kernel
theorem dL_law_1781 : decode cL_law 1781 = .ok (.lcmp, 1) := by decide +kernel
theorem dL_law_1782 : decode cL_law 1782 = .ok (.ifCond .eq 5, 3) := by decide +kernel
theorem dL_law_1785 : decode cL_law 1785 = .ok (.iconst 0, 1) := by decide +kernel
theorem dL_law_1786 : decode cL_law 1786 = .ok (.ireturn, 1) := by decide +kernel
theorem dL_law_1787 : decode cL_law 1787 = .ok (.goto 1195, 3) := by decide +kernel
theorem dL_law_1790 : decode cL_law 1790 = .ok (.aload_n 1, 1) := by decide +kernel
theorem dL_law_1791 : decode cL_law 1791 = .ok (.aload_n 0, 1) := by decide +kernel
theorem dL_law_1792 : decode cL_law 1792 = .ok (.iload 5, 2) := by decide +kernel
theorem dL_law_1794 : decode cL_law 1794 = .ok (.iconst 1, 1) := by decide +kernel
theorem dL_law_1795 : decode cL_law 1795 = .ok (.iadd, 1) := by decide +kernel
theorem dL_law_1796 : decode cL_law 1796 = .ok (.iaload, 1) := by decide +kernel
theorem dL_law_1797 : decode cL_law 1797 = .ok (.aload_n 3, 1) := by decide +kernel
theorem dL_law_1798 : decode cL_law 1798 = .ok (.invokestatic 273, 3) := by decide +kernel
theorem dL_law_1801 : decode cL_law 1801 = .ok (.istore 6, 2) := by decide +kernel
theorem dL_law_1803 : decode cL_law 1803 = .ok (.aload_n 2, 1) := by decide +kernel
theorem dL_law_1804 : decode cL_law 1804 = .ok (.aload_n 0, 1) := by decide +kernel
theorem dL_law_1805 : decode cL_law 1805 = .ok (.iload 5, 2) := by decide +kernel
theorem dL_law_1807 : decode cL_law 1807 = .ok (.iconst 1, 1) := by decide +kernel
theorem dL_law_1808 : decode cL_law 1808 = .ok (.iadd, 1) := by decide +kernel
theorem dL_law_1809 : decode cL_law 1809 = .ok (.iaload, 1) := by decide +kernel
theorem dL_law_1810 : decode cL_law 1810 = .ok (.invokevirtual 275, 3) := by decide +kernel
theorem dL_law_1813 : decode cL_law 1813 = .ok (.istore 7, 2) := by decide +kernel
theorem dL_law_1815 : decode cL_law 1815 = .ok (.aload_n 2, 1) := by decide +kernel
theorem dL_law_1816 : decode cL_law 1816 = .ok (.invokevirtual 175, 3) := by decide +kernel
theorem dL_law_1819 : decode cL_law 1819 = .ok (.iload 6, 2) := by decide +kernel
theorem dL_law_1821 : decode cL_law 1821 = .ok (.if_icmp .eq 5, 3) := by decide +kernel
theorem dL_law_1824 : decode cL_law 1824 = .ok (.iconst 0, 1) := by decide +kernel
theorem dL_law_1825 : decode cL_law 1825 = .ok (.ireturn, 1) := by decide +kernel
theorem dL_law_1826 : decode cL_law 1826 = .ok (.iload 6, 2) := by decide +kernel
theorem dL_law_1828 : decode cL_law 1828 = .ok (.ifCond .ne 15, 3) := by decide +kernel
theorem dL_law_1831 : decode cL_law 1831 = .ok (.aload_n 3, 1) := by decide +kernel
theorem dL_law_1832 : decode cL_law 1832 = .ok (.iconst 0, 1) := by decide +kernel
theorem dL_law_1833 : decode cL_law 1833 = .ok (.laload, 1) := by decide +kernel
theorem dL_law_1834 : decode cL_law 1834 = .ok (.iload 7, 2) := by decide +kernel
theorem dL_law_1836 : decode cL_law 1836 = .ok (.i2l, 1) := by decide +kernel
theorem dL_law_1837 : decode cL_law 1837 = .ok (.lcmp, 1) := by decide +kernel
theorem dL_law_1838 : decode cL_law 1838 = .ok (.ifCond .eq 5, 3) := by decide +kernel
theorem dL_law_1841 : decode cL_law 1841 = .ok (.iconst 0, 1) := by decide +kernel
theorem dL_law_1842 : decode cL_law 1842 = .ok (.ireturn, 1) := by decide +kernel
theorem dL_law_1843 : decode cL_law 1843 = .ok (.goto 1139, 3) := by decide +kernel
theorem dL_law_1846 : decode cL_law 1846 = .ok (.aload_n 1, 1) := by decide +kernel
theorem dL_law_1847 : decode cL_law 1847 = .ok (.aload_n 0, 1) := by decide +kernel
theorem dL_law_1848 : decode cL_law 1848 = .ok (.iload 5, 2) := by decide +kernel
theorem dL_law_1850 : decode cL_law 1850 = .ok (.iconst 1, 1) := by decide +kernel
theorem dL_law_1851 : decode cL_law 1851 = .ok (.iadd, 1) := by decide +kernel
theorem dL_law_1852 : decode cL_law 1852 = .ok (.iaload, 1) := by decide +kernel
theorem dL_law_1853 : decode cL_law 1853 = .ok (.aload_n 3, 1) := by decide +kernel
theorem dL_law_1854 : decode cL_law 1854 = .ok (.invokestatic 276, 3) := by decide +kernel
theorem dL_law_1857 : decode cL_law 1857 = .ok (.istore 6, 2) := by decide +kernel
theorem dL_law_1859 : decode cL_law 1859 = .ok (.aload_n 2, 1) := by decide +kernel
theorem dL_law_1860 : decode cL_law 1860 = .ok (.aload_n 0, 1) := by decide +kernel
theorem dL_law_1861 : decode cL_law 1861 = .ok (.iload 5, 2) := by decide +kernel
theorem dL_law_1863 : decode cL_law 1863 = .ok (.iconst 1, 1) := by decide +kernel
theorem dL_law_1864 : decode cL_law 1864 = .ok (.iadd, 1) := by decide +kernel
theorem dL_law_1865 : decode cL_law 1865 = .ok (.iaload, 1) := by decide +kernel
theorem dL_law_1866 : decode cL_law 1866 = .ok (.invokevirtual 278, 3) := by decide +kernel
theorem dL_law_1869 : decode cL_law 1869 = .ok (.istore 7, 2) := by decide +kernel
theorem dL_law_1871 : decode cL_law 1871 = .ok (.aload_n 2, 1) := by decide +kernel
theorem dL_law_1872 : decode cL_law 1872 = .ok (.invokevirtual 175, 3) := by decide +kernel
theorem dL_law_1875 : decode cL_law 1875 = .ok (.iload 6, 2) := by decide +kernel
theorem dL_law_1877 : decode cL_law 1877 = .ok (.if_icmp .eq 5, 3) := by decide +kernel
theorem dL_law_1880 : decode cL_law 1880 = .ok (.iconst 0, 1) := by decide +kernel
theorem dL_law_1881 : decode cL_law 1881 = .ok (.ireturn, 1) := by decide +kernel
theorem dL_law_1882 : decode cL_law 1882 = .ok (.iload 6, 2) := by decide +kernel
theorem dL_law_1884 : decode cL_law 1884 = .ok (.ifCond .ne 15, 3) := by decide +kernel
theorem dL_law_1887 : decode cL_law 1887 = .ok (.aload_n 3, 1) := by decide +kernel
theorem dL_law_1888 : decode cL_law 1888 = .ok (.iconst 0, 1) := by decide +kernel
theorem dL_law_1889 : decode cL_law 1889 = .ok (.laload, 1) := by decide +kernel
theorem dL_law_1890 : decode cL_law 1890 = .ok (.iload 7, 2) := by decide +kernel
theorem dL_law_1892 : decode cL_law 1892 = .ok (.i2l, 1) := by decide +kernel
theorem dL_law_1893 : decode cL_law 1893 = .ok (.lcmp, 1) := by decide +kernel
theorem dL_law_1894 : decode cL_law 1894 = .ok (.ifCond .eq 5, 3) := by decide +kernel
theorem dL_law_1897 : decode cL_law 1897 = .ok (.iconst 0, 1) := by decide +kernel
theorem dL_law_1898 : decode cL_law 1898 = .ok (.ireturn, 1) := by decide +kernel
theorem dL_law_1899 : decode cL_law 1899 = .ok (.goto 1083, 3) := by decide +kernel
theorem dL_law_1902 : decode cL_law 1902 = .ok (.aload_n 1, 1) := by decide +kernel
theorem dL_law_1903 : decode cL_law 1903 = .ok (.aload_n 0, 1) := by decide +kernel
theorem dL_law_1904 : decode cL_law 1904 = .ok (.iload 5, 2) := by decide +kernel
theorem dL_law_1906 : decode cL_law 1906 = .ok (.iconst 1, 1) := by decide +kernel
theorem dL_law_1907 : decode cL_law 1907 = .ok (.iadd, 1) := by decide +kernel
theorem dL_law_1908 : decode cL_law 1908 = .ok (.iaload, 1) := by decide +kernel
theorem dL_law_1909 : decode cL_law 1909 = .ok (.aload_n 3, 1) := by decide +kernel
theorem dL_law_1910 : decode cL_law 1910 = .ok (.invokestatic 279, 3) := by decide +kernel
theorem dL_law_1913 : decode cL_law 1913 = .ok (.istore 6, 2) := by decide +kernel
theorem dL_law_1915 : decode cL_law 1915 = .ok (.aload_n 2, 1) := by decide +kernel
theorem dL_law_1916 : decode cL_law 1916 = .ok (.aload_n 0, 1) := by decide +kernel
theorem dL_law_1917 : decode cL_law 1917 = .ok (.iload 5, 2) := by decide +kernel
theorem dL_law_1919 : decode cL_law 1919 = .ok (.iconst 1, 1) := by decide +kernel
theorem dL_law_1920 : decode cL_law 1920 = .ok (.iadd, 1) := by decide +kernel
theorem dL_law_1921 : decode cL_law 1921 = .ok (.iaload, 1) := by decide +kernel
theorem dL_law_1922 : decode cL_law 1922 = .ok (.invokevirtual 281, 3) := by decide +kernel
theorem dL_law_1925 : decode cL_law 1925 = .ok (.istore 7, 2) := by decide +kernel
theorem dL_law_1927 : decode cL_law 1927 = .ok (.aload_n 2, 1) := by decide +kernel
theorem dL_law_1928 : decode cL_law 1928 = .ok (.invokevirtual 175, 3) := by decide +kernel
theorem dL_law_1931 : decode cL_law 1931 = .ok (.iload 6, 2) := by decide +kernel
theorem dL_law_1933 : decode cL_law 1933 = .ok (.if_icmp .eq 5, 3) := by decide +kernel
theorem dL_law_1936 : decode cL_law 1936 = .ok (.iconst 0, 1) := by decide +kernel
theorem dL_law_1937 : decode cL_law 1937 = .ok (.ireturn, 1) := by decide +kernel
theorem dL_law_1938 : decode cL_law 1938 = .ok (.iload 6, 2) := by decide +kernel
theorem dL_law_1940 : decode cL_law 1940 = .ok (.ifCond .ne 15, 3) := by decide +kernel
theorem dL_law_1943 : decode cL_law 1943 = .ok (.aload_n 3, 1) := by decide +kernel
theorem dL_law_1944 : decode cL_law 1944 = .ok (.iconst 0, 1) := by decide +kernel
theorem dL_law_1945 : decode cL_law 1945 = .ok (.laload, 1) := by decide +kernel
theorem dL_law_1946 : decode cL_law 1946 = .ok (.iload 7, 2) := by decide +kernel
theorem dL_law_1948 : decode cL_law 1948 = .ok (.i2l, 1) := by decide +kernel
theorem dL_law_1949 : decode cL_law 1949 = .ok (.lcmp, 1) := by decide +kernel
theorem dL_law_1950 : decode cL_law 1950 = .ok (.ifCond .eq 5, 3) := by decide +kernel
theorem dL_law_1953 : decode cL_law 1953 = .ok (.iconst 0, 1) := by decide +kernel
theorem dL_law_1954 : decode cL_law 1954 = .ok (.ireturn, 1) := by decide +kernel
theorem dL_law_1955 : decode cL_law 1955 = .ok (.goto 1027, 3) := by decide +kernel
theorem dL_law_1958 : decode cL_law 1958 = .ok (.aload_n 1, 1) := by decide +kernel
theorem dL_law_1959 : decode cL_law 1959 = .ok (.aload_n 0, 1) := by decide +kernel
theorem dL_law_1960 : decode cL_law 1960 = .ok (.iload 5, 2) := by decide +kernel
theorem dL_law_1962 : decode cL_law 1962 = .ok (.iconst 1, 1) := by decide +kernel
theorem dL_law_1963 : decode cL_law 1963 = .ok (.iadd, 1) := by decide +kernel
theorem dL_law_1964 : decode cL_law 1964 = .ok (.iaload, 1) := by decide +kernel
theorem dL_law_1965 : decode cL_law 1965 = .ok (.aload_n 3, 1) := by decide +kernel
theorem dL_law_1966 : decode cL_law 1966 = .ok (.invokestatic 282, 3) := by decide +kernel
theorem dL_law_1969 : decode cL_law 1969 = .ok (.istore 6, 2) := by decide +kernel
theorem dL_law_1971 : decode cL_law 1971 = .ok (.aload_n 2, 1) := by decide +kernel
theorem dL_law_1972 : decode cL_law 1972 = .ok (.aload_n 0, 1) := by decide +kernel
theorem dL_law_1973 : decode cL_law 1973 = .ok (.iload 5, 2) := by decide +kernel
theorem dL_law_1975 : decode cL_law 1975 = .ok (.iconst 1, 1) := by decide +kernel
theorem dL_law_1976 : decode cL_law 1976 = .ok (.iadd, 1) := by decide +kernel
theorem dL_law_1977 : decode cL_law 1977 = .ok (.iaload, 1) := by decide +kernel
theorem dL_law_1978 : decode cL_law 1978 = .ok (.invokevirtual 284, 3) := by decide +kernel
theorem dL_law_1981 : decode cL_law 1981 = .ok (.istore 7, 2) := by decide +kernel
theorem dL_law_1983 : decode cL_law 1983 = .ok (.aload_n 2, 1) := by decide +kernel
theorem dL_law_1984 : decode cL_law 1984 = .ok (.invokevirtual 175, 3) := by decide +kernel
theorem dL_law_1987 : decode cL_law 1987 = .ok (.iload 6, 2) := by decide +kernel
theorem dL_law_1989 : decode cL_law 1989 = .ok (.if_icmp .eq 5, 3) := by decide +kernel
theorem dL_law_1992 : decode cL_law 1992 = .ok (.iconst 0, 1) := by decide +kernel
theorem dL_law_1993 : decode cL_law 1993 = .ok (.ireturn, 1) := by decide +kernel
theorem dL_law_1994 : decode cL_law 1994 = .ok (.iload 6, 2) := by decide +kernel
theorem dL_law_1996 : decode cL_law 1996 = .ok (.ifCond .ne 15, 3) := by decide +kernel
theorem dL_law_1999 : decode cL_law 1999 = .ok (.aload_n 3, 1) := by decide +kernel
theorem dL_law_2000 : decode cL_law 2000 = .ok (.iconst 0, 1) := by decide +kernel
theorem dL_law_2001 : decode cL_law 2001 = .ok (.laload, 1) := by decide +kernel
theorem dL_law_2002 : decode cL_law 2002 = .ok (.iload 7, 2) := by decide +kernel
theorem dL_law_2004 : decode cL_law 2004 = .ok (.i2l, 1) := by decide +kernel
theorem dL_law_2005 : decode cL_law 2005 = .ok (.lcmp, 1) := by decide +kernel
theorem dL_law_2006 : decode cL_law 2006 = .ok (.ifCond .eq 5, 3) := by decide +kernel
theorem dL_law_2009 : decode cL_law 2009 = .ok (.iconst 0, 1) := by decide +kernel
theorem dL_law_2010 : decode cL_law 2010 = .ok (.ireturn, 1) := by decide +kernel
theorem dL_law_2011 : decode cL_law 2011 = .ok (.goto 971, 3) := by decide +kernel
theorem dL_law_2014 : decode cL_law 2014 = .ok (.aload_n 1, 1) := by decide +kernel
theorem dL_law_2015 : decode cL_law 2015 = .ok (.aload_n 0, 1) := by decide +kernel
theorem dL_law_2016 : decode cL_law 2016 = .ok (.iload 5, 2) := by decide +kernel
theorem dL_law_2018 : decode cL_law 2018 = .ok (.iconst 1, 1) := by decide +kernel
theorem dL_law_2019 : decode cL_law 2019 = .ok (.iadd, 1) := by decide +kernel
theorem dL_law_2020 : decode cL_law 2020 = .ok (.iaload, 1) := by decide +kernel
theorem dL_law_2021 : decode cL_law 2021 = .ok (.aload_n 3, 1) := by decide +kernel
theorem dL_law_2022 : decode cL_law 2022 = .ok (.invokestatic 285, 3) := by decide +kernel
theorem dL_law_2025 : decode cL_law 2025 = .ok (.istore 6, 2) := by decide +kernel
theorem dL_law_2027 : decode cL_law 2027 = .ok (.aload_n 2, 1) := by decide +kernel
theorem dL_law_2028 : decode cL_law 2028 = .ok (.aload_n 0, 1) := by decide +kernel
theorem dL_law_2029 : decode cL_law 2029 = .ok (.iload 5, 2) := by decide +kernel
theorem dL_law_2031 : decode cL_law 2031 = .ok (.iconst 1, 1) := by decide +kernel
theorem dL_law_2032 : decode cL_law 2032 = .ok (.iadd, 1) := by decide +kernel
theorem dL_law_2033 : decode cL_law 2033 = .ok (.iaload, 1) := by decide +kernel
theorem dL_law_2034 : decode cL_law 2034 = .ok (.invokevirtual 287, 3) := by decide +kernel
theorem dL_law_2037 : decode cL_law 2037 = .ok (.istore 7, 2) := by decide +kernel
theorem dL_law_2039 : decode cL_law 2039 = .ok (.aload_n 2, 1) := by decide +kernel
theorem dL_law_2040 : decode cL_law 2040 = .ok (.invokevirtual 175, 3) := by decide +kernel
theorem dL_law_2043 : decode cL_law 2043 = .ok (.iload 6, 2) := by decide +kernel
theorem dL_law_2045 : decode cL_law 2045 = .ok (.if_icmp .eq 5, 3) := by decide +kernel
theorem dL_law_2048 : decode cL_law 2048 = .ok (.iconst 0, 1) := by decide +kernel
theorem dL_law_2049 : decode cL_law 2049 = .ok (.ireturn, 1) := by decide +kernel
theorem dL_law_2050 : decode cL_law 2050 = .ok (.iload 6, 2) := by decide +kernel
theorem dL_law_2052 : decode cL_law 2052 = .ok (.ifCond .ne 15, 3) := by decide +kernel
theorem dL_law_2055 : decode cL_law 2055 = .ok (.aload_n 3, 1) := by decide +kernel
theorem dL_law_2056 : decode cL_law 2056 = .ok (.iconst 0, 1) := by decide +kernel
theorem dL_law_2057 : decode cL_law 2057 = .ok (.laload, 1) := by decide +kernel
theorem dL_law_2058 : decode cL_law 2058 = .ok (.iload 7, 2) := by decide +kernel
theorem dL_law_2060 : decode cL_law 2060 = .ok (.i2l, 1) := by decide +kernel
theorem dL_law_2061 : decode cL_law 2061 = .ok (.lcmp, 1) := by decide +kernel
theorem dL_law_2062 : decode cL_law 2062 = .ok (.ifCond .eq 5, 3) := by decide +kernel
theorem dL_law_2065 : decode cL_law 2065 = .ok (.iconst 0, 1) := by decide +kernel
theorem dL_law_2066 : decode cL_law 2066 = .ok (.ireturn, 1) := by decide +kernel
theorem dL_law_2067 : decode cL_law 2067 = .ok (.goto 915, 3) := by decide +kernel
theorem dL_law_2070 : decode cL_law 2070 = .ok (.aload_n 1, 1) := by decide +kernel
theorem dL_law_2071 : decode cL_law 2071 = .ok (.aload_n 0, 1) := by decide +kernel
theorem dL_law_2072 : decode cL_law 2072 = .ok (.iload 5, 2) := by decide +kernel
theorem dL_law_2074 : decode cL_law 2074 = .ok (.iconst 1, 1) := by decide +kernel
theorem dL_law_2075 : decode cL_law 2075 = .ok (.iadd, 1) := by decide +kernel
theorem dL_law_2076 : decode cL_law 2076 = .ok (.iaload, 1) := by decide +kernel
theorem dL_law_2077 : decode cL_law 2077 = .ok (.aload_n 3, 1) := by decide +kernel
theorem dL_law_2078 : decode cL_law 2078 = .ok (.invokestatic 288, 3) := by decide +kernel
theorem dL_law_2081 : decode cL_law 2081 = .ok (.istore 6, 2) := by decide +kernel
theorem dL_law_2083 : decode cL_law 2083 = .ok (.aload_n 2, 1) := by decide +kernel
theorem dL_law_2084 : decode cL_law 2084 = .ok (.aload_n 0, 1) := by decide +kernel
theorem dL_law_2085 : decode cL_law 2085 = .ok (.iload 5, 2) := by decide +kernel
theorem dL_law_2087 : decode cL_law 2087 = .ok (.iconst 1, 1) := by decide +kernel
theorem dL_law_2088 : decode cL_law 2088 = .ok (.iadd, 1) := by decide +kernel
theorem dL_law_2089 : decode cL_law 2089 = .ok (.iaload, 1) := by decide +kernel
theorem dL_law_2090 : decode cL_law 2090 = .ok (.invokevirtual 290, 3) := by decide +kernel
theorem dL_law_2093 : decode cL_law 2093 = .ok (.istore 7, 2) := by decide +kernel
theorem dL_law_2095 : decode cL_law 2095 = .ok (.aload_n 2, 1) := by decide +kernel
theorem dL_law_2096 : decode cL_law 2096 = .ok (.invokevirtual 175, 3) := by decide +kernel
theorem dL_law_2099 : decode cL_law 2099 = .ok (.iload 6, 2) := by decide +kernel
theorem dL_law_2101 : decode cL_law 2101 = .ok (.if_icmp .eq 5, 3) := by decide +kernel
theorem dL_law_2104 : decode cL_law 2104 = .ok (.iconst 0, 1) := by decide +kernel
theorem dL_law_2105 : decode cL_law 2105 = .ok (.ireturn, 1) := by decide +kernel
theorem dL_law_2106 : decode cL_law 2106 = .ok (.iload 6, 2) := by decide +kernel
theorem dL_law_2108 : decode cL_law 2108 = .ok (.ifCond .ne 22, 3) := by decide +kernel
theorem dL_law_2111 : decode cL_law 2111 = .ok (.aload_n 3, 1) := by decide +kernel
theorem dL_law_2112 : decode cL_law 2112 = .ok (.iconst 0, 1) := by decide +kernel
theorem dL_law_2113 : decode cL_law 2113 = .ok (.laload, 1) := by decide +kernel
theorem dL_law_2114 : decode cL_law 2114 = .ok (.iload 7, 2) := by decide +kernel
theorem dL_law_2116 : decode cL_law 2116 = .ok (.ifCond .eq 7, 3) := by decide +kernel
theorem dL_law_2119 : decode cL_law 2119 = .ok (.lconst 1, 1) := by decide +kernel
theorem dL_law_2120 : decode cL_law 2120 = .ok (.goto 4, 3) := by decide +kernel
theorem dL_law_2123 : decode cL_law 2123 = .ok (.lconst 0, 1) := by decide +kernel
theorem dL_law_2124 : decode cL_law 2124 = .ok (.lcmp, 1) := by decide +kernel
theorem dL_law_2125 : decode cL_law 2125 = .ok (.ifCond .eq 5, 3) := by decide +kernel
theorem dL_law_2128 : decode cL_law 2128 = .ok (.iconst 0, 1) := by decide +kernel
theorem dL_law_2129 : decode cL_law 2129 = .ok (.ireturn, 1) := by decide +kernel
theorem dL_law_2130 : decode cL_law 2130 = .ok (.goto 852, 3) := by decide +kernel
theorem dL_law_2133 : decode cL_law 2133 = .ok (.aload_n 1, 1) := by decide +kernel
theorem dL_law_2134 : decode cL_law 2134 = .ok (.aload_n 0, 1) := by decide +kernel
theorem dL_law_2135 : decode cL_law 2135 = .ok (.iload 5, 2) := by decide +kernel
theorem dL_law_2137 : decode cL_law 2137 = .ok (.iconst 1, 1) := by decide +kernel
theorem dL_law_2138 : decode cL_law 2138 = .ok (.iadd, 1) := by decide +kernel
theorem dL_law_2139 : decode cL_law 2139 = .ok (.iaload, 1) := by decide +kernel
theorem dL_law_2140 : decode cL_law 2140 = .ok (.aload_n 3, 1) := by decide +kernel
theorem dL_law_2141 : decode cL_law 2141 = .ok (.invokestatic 291, 3) := by decide +kernel
theorem dL_law_2144 : decode cL_law 2144 = .ok (.istore 6, 2) := by decide +kernel
theorem dL_law_2146 : decode cL_law 2146 = .ok (.aload_n 2, 1) := by decide +kernel
theorem dL_law_2147 : decode cL_law 2147 = .ok (.aload_n 0, 1) := by decide +kernel
theorem dL_law_2148 : decode cL_law 2148 = .ok (.iload 5, 2) := by decide +kernel
theorem dL_law_2150 : decode cL_law 2150 = .ok (.iconst 1, 1) := by decide +kernel
theorem dL_law_2151 : decode cL_law 2151 = .ok (.iadd, 1) := by decide +kernel
theorem dL_law_2152 : decode cL_law 2152 = .ok (.iaload, 1) := by decide +kernel
theorem dL_law_2153 : decode cL_law 2153 = .ok (.invokevirtual 293, 3) := by decide +kernel
theorem dL_law_2156 : decode cL_law 2156 = .ok (.istore 7, 2) := by decide +kernel
theorem dL_law_2158 : decode cL_law 2158 = .ok (.aload_n 2, 1) := by decide +kernel
theorem dL_law_2159 : decode cL_law 2159 = .ok (.invokevirtual 175, 3) := by decide +kernel
theorem dL_law_2162 : decode cL_law 2162 = .ok (.iload 6, 2) := by decide +kernel
theorem dL_law_2164 : decode cL_law 2164 = .ok (.if_icmp .eq 5, 3) := by decide +kernel
theorem dL_law_2167 : decode cL_law 2167 = .ok (.iconst 0, 1) := by decide +kernel
theorem dL_law_2168 : decode cL_law 2168 = .ok (.ireturn, 1) := by decide +kernel
theorem dL_law_2169 : decode cL_law 2169 = .ok (.iload 6, 2) := by decide +kernel
theorem dL_law_2171 : decode cL_law 2171 = .ok (.ifCond .ne 22, 3) := by decide +kernel
theorem dL_law_2174 : decode cL_law 2174 = .ok (.aload_n 3, 1) := by decide +kernel
theorem dL_law_2175 : decode cL_law 2175 = .ok (.iconst 0, 1) := by decide +kernel
theorem dL_law_2176 : decode cL_law 2176 = .ok (.laload, 1) := by decide +kernel
theorem dL_law_2177 : decode cL_law 2177 = .ok (.iload 7, 2) := by decide +kernel
theorem dL_law_2179 : decode cL_law 2179 = .ok (.ifCond .eq 7, 3) := by decide +kernel
theorem dL_law_2182 : decode cL_law 2182 = .ok (.lconst 1, 1) := by decide +kernel
theorem dL_law_2183 : decode cL_law 2183 = .ok (.goto 4, 3) := by decide +kernel
theorem dL_law_2186 : decode cL_law 2186 = .ok (.lconst 0, 1) := by decide +kernel
theorem dL_law_2187 : decode cL_law 2187 = .ok (.lcmp, 1) := by decide +kernel
theorem dL_law_2188 : decode cL_law 2188 = .ok (.ifCond .eq 5, 3) := by decide +kernel
theorem dL_law_2191 : decode cL_law 2191 = .ok (.iconst 0, 1) := by decide +kernel
theorem dL_law_2192 : decode cL_law 2192 = .ok (.ireturn, 1) := by decide +kernel
theorem dL_law_2193 : decode cL_law 2193 = .ok (.goto 789, 3) := by decide +kernel
theorem dL_law_2196 : decode cL_law 2196 = .ok (.aload_n 1, 1) := by decide +kernel
theorem dL_law_2197 : decode cL_law 2197 = .ok (.aload_n 0, 1) := by decide +kernel
theorem dL_law_2198 : decode cL_law 2198 = .ok (.iload 5, 2) := by decide +kernel
theorem dL_law_2200 : decode cL_law 2200 = .ok (.iconst 1, 1) := by decide +kernel
theorem dL_law_2201 : decode cL_law 2201 = .ok (.iadd, 1) := by decide +kernel
theorem dL_law_2202 : decode cL_law 2202 = .ok (.iaload, 1) := by decide +kernel
theorem dL_law_2203 : decode cL_law 2203 = .ok (.aload_n 3, 1) := by decide +kernel
theorem dL_law_2204 : decode cL_law 2204 = .ok (.invokestatic 294, 3) := by decide +kernel
theorem dL_law_2207 : decode cL_law 2207 = .ok (.istore 6, 2) := by decide +kernel
theorem dL_law_2209 : decode cL_law 2209 = .ok (.aload_n 2, 1) := by decide +kernel
theorem dL_law_2210 : decode cL_law 2210 = .ok (.aload_n 0, 1) := by decide +kernel
theorem dL_law_2211 : decode cL_law 2211 = .ok (.iload 5, 2) := by decide +kernel
theorem dL_law_2213 : decode cL_law 2213 = .ok (.iconst 1, 1) := by decide +kernel
theorem dL_law_2214 : decode cL_law 2214 = .ok (.iadd, 1) := by decide +kernel
theorem dL_law_2215 : decode cL_law 2215 = .ok (.iaload, 1) := by decide +kernel
theorem dL_law_2216 : decode cL_law 2216 = .ok (.invokevirtual 296, 3) := by decide +kernel
theorem dL_law_2219 : decode cL_law 2219 = .ok (.istore 7, 2) := by decide +kernel
theorem dL_law_2221 : decode cL_law 2221 = .ok (.aload_n 2, 1) := by decide +kernel
theorem dL_law_2222 : decode cL_law 2222 = .ok (.invokevirtual 175, 3) := by decide +kernel
theorem dL_law_2225 : decode cL_law 2225 = .ok (.iload 6, 2) := by decide +kernel
theorem dL_law_2227 : decode cL_law 2227 = .ok (.if_icmp .eq 5, 3) := by decide +kernel
theorem dL_law_2230 : decode cL_law 2230 = .ok (.iconst 0, 1) := by decide +kernel
theorem dL_law_2231 : decode cL_law 2231 = .ok (.ireturn, 1) := by decide +kernel
theorem dL_law_2232 : decode cL_law 2232 = .ok (.iload 6, 2) := by decide +kernel
theorem dL_law_2234 : decode cL_law 2234 = .ok (.ifCond .ne 15, 3) := by decide +kernel
theorem dL_law_2237 : decode cL_law 2237 = .ok (.aload_n 3, 1) := by decide +kernel
theorem dL_law_2238 : decode cL_law 2238 = .ok (.iconst 0, 1) := by decide +kernel
theorem dL_law_2239 : decode cL_law 2239 = .ok (.laload, 1) := by decide +kernel
theorem dL_law_2240 : decode cL_law 2240 = .ok (.iload 7, 2) := by decide +kernel
theorem dL_law_2242 : decode cL_law 2242 = .ok (.i2l, 1) := by decide +kernel
theorem dL_law_2243 : decode cL_law 2243 = .ok (.lcmp, 1) := by decide +kernel
theorem dL_law_2244 : decode cL_law 2244 = .ok (.ifCond .eq 5, 3) := by decide +kernel
theorem dL_law_2247 : decode cL_law 2247 = .ok (.iconst 0, 1) := by decide +kernel
theorem dL_law_2248 : decode cL_law 2248 = .ok (.ireturn, 1) := by decide +kernel
theorem dL_law_2249 : decode cL_law 2249 = .ok (.goto 733, 3) := by decide +kernel
theorem dL_law_2252 : decode cL_law 2252 = .ok (.aload_n 1, 1) := by decide +kernel
theorem dL_law_2253 : decode cL_law 2253 = .ok (.aload_n 0, 1) := by decide +kernel
theorem dL_law_2254 : decode cL_law 2254 = .ok (.iload 5, 2) := by decide +kernel
theorem dL_law_2256 : decode cL_law 2256 = .ok (.iconst 1, 1) := by decide +kernel
theorem dL_law_2257 : decode cL_law 2257 = .ok (.iadd, 1) := by decide +kernel
theorem dL_law_2258 : decode cL_law 2258 = .ok (.iaload, 1) := by decide +kernel
theorem dL_law_2259 : decode cL_law 2259 = .ok (.aload_n 3, 1) := by decide +kernel
theorem dL_law_2260 : decode cL_law 2260 = .ok (.invokestatic 297, 3) := by decide +kernel
theorem dL_law_2263 : decode cL_law 2263 = .ok (.istore 6, 2) := by decide +kernel
theorem dL_law_2265 : decode cL_law 2265 = .ok (.aload_n 2, 1) := by decide +kernel
theorem dL_law_2266 : decode cL_law 2266 = .ok (.aload_n 0, 1) := by decide +kernel
theorem dL_law_2267 : decode cL_law 2267 = .ok (.iload 5, 2) := by decide +kernel
theorem dL_law_2269 : decode cL_law 2269 = .ok (.iconst 1, 1) := by decide +kernel
theorem dL_law_2270 : decode cL_law 2270 = .ok (.iadd, 1) := by decide +kernel
theorem dL_law_2271 : decode cL_law 2271 = .ok (.iaload, 1) := by decide +kernel
theorem dL_law_2272 : decode cL_law 2272 = .ok (.invokevirtual 299, 3) := by decide +kernel
theorem dL_law_2275 : decode cL_law 2275 = .ok (.istore 7, 2) := by decide +kernel
theorem dL_law_2277 : decode cL_law 2277 = .ok (.aload_n 2, 1) := by decide +kernel
theorem dL_law_2278 : decode cL_law 2278 = .ok (.invokevirtual 175, 3) := by decide +kernel
theorem dL_law_2281 : decode cL_law 2281 = .ok (.iload 6, 2) := by decide +kernel
theorem dL_law_2283 : decode cL_law 2283 = .ok (.if_icmp .eq 5, 3) := by decide +kernel
theorem dL_law_2286 : decode cL_law 2286 = .ok (.iconst 0, 1) := by decide +kernel
theorem dL_law_2287 : decode cL_law 2287 = .ok (.ireturn, 1) := by decide +kernel
theorem dL_law_2288 : decode cL_law 2288 = .ok (.iload 6, 2) := by decide +kernel
theorem dL_law_2290 : decode cL_law 2290 = .ok (.ifCond .ne 15, 3) := by decide +kernel
theorem dL_law_2293 : decode cL_law 2293 = .ok (.aload_n 3, 1) := by decide +kernel
theorem dL_law_2294 : decode cL_law 2294 = .ok (.iconst 0, 1) := by decide +kernel
theorem dL_law_2295 : decode cL_law 2295 = .ok (.laload, 1) := by decide +kernel
theorem dL_law_2296 : decode cL_law 2296 = .ok (.iload 7, 2) := by decide +kernel
theorem dL_law_2298 : decode cL_law 2298 = .ok (.i2l, 1) := by decide +kernel
theorem dL_law_2299 : decode cL_law 2299 = .ok (.lcmp, 1) := by decide +kernel
theorem dL_law_2300 : decode cL_law 2300 = .ok (.ifCond .eq 5, 3) := by decide +kernel
theorem dL_law_2303 : decode cL_law 2303 = .ok (.iconst 0, 1) := by decide +kernel
theorem dL_law_2304 : decode cL_law 2304 = .ok (.ireturn, 1) := by decide +kernel
theorem dL_law_2305 : decode cL_law 2305 = .ok (.goto 677, 3) := by decide +kernel
theorem dL_law_2308 : decode cL_law 2308 = .ok (.aload_n 1, 1) := by decide +kernel
theorem dL_law_2309 : decode cL_law 2309 = .ok (.aload_n 0, 1) := by decide +kernel
theorem dL_law_2310 : decode cL_law 2310 = .ok (.iload 5, 2) := by decide +kernel
theorem dL_law_2312 : decode cL_law 2312 = .ok (.iconst 1, 1) := by decide +kernel
theorem dL_law_2313 : decode cL_law 2313 = .ok (.iadd, 1) := by decide +kernel
theorem dL_law_2314 : decode cL_law 2314 = .ok (.iaload, 1) := by decide +kernel
theorem dL_law_2315 : decode cL_law 2315 = .ok (.aload_n 3, 1) := by decide +kernel
theorem dL_law_2316 : decode cL_law 2316 = .ok (.invokestatic 300, 3) := by decide +kernel
theorem dL_law_2319 : decode cL_law 2319 = .ok (.istore 6, 2) := by decide +kernel
theorem dL_law_2321 : decode cL_law 2321 = .ok (.aload_n 2, 1) := by decide +kernel
theorem dL_law_2322 : decode cL_law 2322 = .ok (.aload_n 0, 1) := by decide +kernel
theorem dL_law_2323 : decode cL_law 2323 = .ok (.iload 5, 2) := by decide +kernel
theorem dL_law_2325 : decode cL_law 2325 = .ok (.iconst 1, 1) := by decide +kernel
theorem dL_law_2326 : decode cL_law 2326 = .ok (.iadd, 1) := by decide +kernel
theorem dL_law_2327 : decode cL_law 2327 = .ok (.iaload, 1) := by decide +kernel
theorem dL_law_2328 : decode cL_law 2328 = .ok (.invokevirtual 302, 3) := by decide +kernel
theorem dL_law_2331 : decode cL_law 2331 = .ok (.lstore 7, 2) := by decide +kernel
theorem dL_law_2333 : decode cL_law 2333 = .ok (.aload_n 2, 1) := by decide +kernel
theorem dL_law_2334 : decode cL_law 2334 = .ok (.invokevirtual 175, 3) := by decide +kernel
theorem dL_law_2337 : decode cL_law 2337 = .ok (.iload 6, 2) := by decide +kernel
theorem dL_law_2339 : decode cL_law 2339 = .ok (.if_icmp .eq 5, 3) := by decide +kernel
theorem dL_law_2342 : decode cL_law 2342 = .ok (.iconst 0, 1) := by decide +kernel
theorem dL_law_2343 : decode cL_law 2343 = .ok (.ireturn, 1) := by decide +kernel
theorem dL_law_2344 : decode cL_law 2344 = .ok (.iload 6, 2) := by decide +kernel
theorem dL_law_2346 : decode cL_law 2346 = .ok (.ifCond .ne 14, 3) := by decide +kernel
theorem dL_law_2349 : decode cL_law 2349 = .ok (.aload_n 3, 1) := by decide +kernel
theorem dL_law_2350 : decode cL_law 2350 = .ok (.iconst 0, 1) := by decide +kernel
theorem dL_law_2351 : decode cL_law 2351 = .ok (.laload, 1) := by decide +kernel
theorem dL_law_2352 : decode cL_law 2352 = .ok (.lload 7, 2) := by decide +kernel
theorem dL_law_2354 : decode cL_law 2354 = .ok (.lcmp, 1) := by decide +kernel
theorem dL_law_2355 : decode cL_law 2355 = .ok (.ifCond .eq 5, 3) := by decide +kernel
theorem dL_law_2358 : decode cL_law 2358 = .ok (.iconst 0, 1) := by decide +kernel
theorem dL_law_2359 : decode cL_law 2359 = .ok (.ireturn, 1) := by decide +kernel
theorem dL_law_2360 : decode cL_law 2360 = .ok (.goto 622, 3) := by decide +kernel
theorem dL_law_2363 : decode cL_law 2363 = .ok (.aload_n 1, 1) := by decide +kernel
theorem dL_law_2364 : decode cL_law 2364 = .ok (.aload_n 0, 1) := by decide +kernel
theorem dL_law_2365 : decode cL_law 2365 = .ok (.iload 5, 2) := by decide +kernel
theorem dL_law_2367 : decode cL_law 2367 = .ok (.iconst 1, 1) := by decide +kernel
theorem dL_law_2368 : decode cL_law 2368 = .ok (.iadd, 1) := by decide +kernel
theorem dL_law_2369 : decode cL_law 2369 = .ok (.iaload, 1) := by decide +kernel
theorem dL_law_2370 : decode cL_law 2370 = .ok (.aload_n 3, 1) := by decide +kernel
theorem dL_law_2371 : decode cL_law 2371 = .ok (.invokestatic 303, 3) := by decide +kernel
theorem dL_law_2374 : decode cL_law 2374 = .ok (.istore 6, 2) := by decide +kernel
theorem dL_law_2376 : decode cL_law 2376 = .ok (.aload_n 2, 1) := by decide +kernel
theorem dL_law_2377 : decode cL_law 2377 = .ok (.aload_n 0, 1) := by decide +kernel
theorem dL_law_2378 : decode cL_law 2378 = .ok (.iload 5, 2) := by decide +kernel
theorem dL_law_2380 : decode cL_law 2380 = .ok (.iconst 1, 1) := by decide +kernel
theorem dL_law_2381 : decode cL_law 2381 = .ok (.iadd, 1) := by decide +kernel
theorem dL_law_2382 : decode cL_law 2382 = .ok (.iaload, 1) := by decide +kernel
theorem dL_law_2383 : decode cL_law 2383 = .ok (.invokevirtual 305, 3) := by decide +kernel
theorem dL_law_2386 : decode cL_law 2386 = .ok (.istore 7, 2) := by decide +kernel
theorem dL_law_2388 : decode cL_law 2388 = .ok (.aload_n 2, 1) := by decide +kernel
theorem dL_law_2389 : decode cL_law 2389 = .ok (.invokevirtual 175, 3) := by decide +kernel
theorem dL_law_2392 : decode cL_law 2392 = .ok (.iload 6, 2) := by decide +kernel
theorem dL_law_2394 : decode cL_law 2394 = .ok (.if_icmp .eq 5, 3) := by decide +kernel
theorem dL_law_2397 : decode cL_law 2397 = .ok (.iconst 0, 1) := by decide +kernel
theorem dL_law_2398 : decode cL_law 2398 = .ok (.ireturn, 1) := by decide +kernel
theorem dL_law_2399 : decode cL_law 2399 = .ok (.iload 6, 2) := by decide +kernel
theorem dL_law_2401 : decode cL_law 2401 = .ok (.ifCond .ne 15, 3) := by decide +kernel
theorem dL_law_2404 : decode cL_law 2404 = .ok (.aload_n 3, 1) := by decide +kernel
theorem dL_law_2405 : decode cL_law 2405 = .ok (.iconst 0, 1) := by decide +kernel
theorem dL_law_2406 : decode cL_law 2406 = .ok (.laload, 1) := by decide +kernel
theorem dL_law_2407 : decode cL_law 2407 = .ok (.iload 7, 2) := by decide +kernel
theorem dL_law_2409 : decode cL_law 2409 = .ok (.i2l, 1) := by decide +kernel
theorem dL_law_2410 : decode cL_law 2410 = .ok (.lcmp, 1) := by decide +kernel
theorem dL_law_2411 : decode cL_law 2411 = .ok (.ifCond .eq 5, 3) := by decide +kernel
theorem dL_law_2414 : decode cL_law 2414 = .ok (.iconst 0, 1) := by decide +kernel
theorem dL_law_2415 : decode cL_law 2415 = .ok (.ireturn, 1) := by decide +kernel
theorem dL_law_2416 : decode cL_law 2416 = .ok (.goto 566, 3) := by decide +kernel
theorem dL_law_2419 : decode cL_law 2419 = .ok (.aload_n 1, 1) := by decide +kernel
theorem dL_law_2420 : decode cL_law 2420 = .ok (.invokevirtual 306, 3) := by decide +kernel
theorem dL_law_2423 : decode cL_law 2423 = .ok (.aload_n 2, 1) := by decide +kernel
theorem dL_law_2424 : decode cL_law 2424 = .ok (.invokevirtual 309, 3) := by decide +kernel
theorem dL_law_2427 : decode cL_law 2427 = .ok (.if_icmp .eq 555, 3) := by decide +kernel
theorem dL_law_2430 : decode cL_law 2430 = .ok (.iconst 0, 1) := by decide +kernel
theorem dL_law_2431 : decode cL_law 2431 = .ok (.ireturn, 1) := by decide +kernel
theorem dL_law_2432 : decode cL_law 2432 = .ok (.aload_n 1, 1) := by decide +kernel
theorem dL_law_2433 : decode cL_law 2433 = .ok (.aload_n 0, 1) := by decide +kernel
theorem dL_law_2434 : decode cL_law 2434 = .ok (.iload 5, 2) := by decide +kernel
theorem dL_law_2436 : decode cL_law 2436 = .ok (.iconst 1, 1) := by decide +kernel
theorem dL_law_2437 : decode cL_law 2437 = .ok (.iadd, 1) := by decide +kernel
theorem dL_law_2438 : decode cL_law 2438 = .ok (.iaload, 1) := by decide +kernel
theorem dL_law_2439 : decode cL_law 2439 = .ok (.aload 4, 2) := by decide +kernel
theorem dL_law_2441 : decode cL_law 2441 = .ok (.invokestatic 310, 3) := by decide +kernel
theorem dL_law_2444 : decode cL_law 2444 = .ok (.istore 6, 2) := by decide +kernel
theorem dL_law_2446 : decode cL_law 2446 = .ok (.aload_n 2, 1) := by decide +kernel
theorem dL_law_2447 : decode cL_law 2447 = .ok (.aload_n 0, 1) := by decide +kernel
theorem dL_law_2448 : decode cL_law 2448 = .ok (.iload 5, 2) := by decide +kernel
theorem dL_law_2450 : decode cL_law 2450 = .ok (.iconst 1, 1) := by decide +kernel
theorem dL_law_2451 : decode cL_law 2451 = .ok (.iadd, 1) := by decide +kernel
theorem dL_law_2452 : decode cL_law 2452 = .ok (.iaload, 1) := by decide +kernel
theorem dL_law_2453 : decode cL_law 2453 = .ok (.invokevirtual 313, 3) := by decide +kernel
theorem dL_law_2456 : decode cL_law 2456 = .ok (.fstore 7, 2) := by decide +kernel
theorem dL_law_2458 : decode cL_law 2458 = .ok (.aload_n 2, 1) := by decide +kernel
theorem dL_law_2459 : decode cL_law 2459 = .ok (.invokevirtual 175, 3) := by decide +kernel
theorem dL_law_2462 : decode cL_law 2462 = .ok (.iload 6, 2) := by decide +kernel
theorem dL_law_2464 : decode cL_law 2464 = .ok (.if_icmp .eq 5, 3) := by decide +kernel
theorem dL_law_2467 : decode cL_law 2467 = .ok (.iconst 0, 1) := by decide +kernel
theorem dL_law_2468 : decode cL_law 2468 = .ok (.ireturn, 1) := by decide +kernel
theorem dL_law_2469 : decode cL_law 2469 = .ok (.iload 6, 2) := by decide +kernel
theorem dL_law_2471 : decode cL_law 2471 = .ok (.ifCond .ne 36, 3) := by decide +kernel
theorem dL_law_2474 : decode cL_law 2474 = .ok (.aload 4, 2) := by decide +kernel
theorem dL_law_2476 : decode cL_law 2476 = .ok (.iconst 0, 1) := by decide +kernel
theorem dL_law_2477 : decode cL_law 2477 = .ok (.daload, 1) := by decide +kernel
theorem dL_law_2478 : decode cL_law 2478 = .ok (.fload 7, 2) := by decide +kernel
theorem dL_law_2480 : decode cL_law 2480 = .ok (.f2d, 1) := by decide +kernel
theorem dL_law_2481 : decode cL_law 2481 = .ok (.dcmp .l, 1) := by decide +kernel
theorem dL_law_2482 : decode cL_law 2482 = .ok (.ifCond .eq 25, 3) := by decide +kernel
theorem dL_law_2485 : decode cL_law 2485 = .ok (.aload 4, 2) := by decide +kernel
theorem dL_law_2487 : decode cL_law 2487 = .ok (.iconst 0, 1) := by decide +kernel
theorem dL_law_2488 : decode cL_law 2488 = .ok (.daload, 1) := by decide +kernel
theorem dL_law_2489 : decode cL_law 2489 = .ok (.aload 4, 2) := by decide +kernel
theorem dL_law_2491 : decode cL_law 2491 = .ok (.iconst 0, 1) := by decide +kernel
theorem dL_law_2492 : decode cL_law 2492 = .ok (.daload, 1) := by decide +kernel
theorem dL_law_2493 : decode cL_law 2493 = .ok (.dcmp .l, 1) := by decide +kernel
theorem dL_law_2494 : decode cL_law 2494 = .ok (.ifCond .eq 11, 3) := by decide +kernel
theorem dL_law_2497 : decode cL_law 2497 = .ok (.fload 7, 2) := by decide +kernel
theorem dL_law_2499 : decode cL_law 2499 = .ok (.fload 7, 2) := by decide +kernel
theorem dL_law_2501 : decode cL_law 2501 = .ok (.fcmp .l, 1) := by decide +kernel
theorem dL_law_2502 : decode cL_law 2502 = .ok (.ifCond .ne 5, 3) := by decide +kernel
theorem dL_law_2505 : decode cL_law 2505 = .ok (.iconst 0, 1) := by decide +kernel
theorem dL_law_2506 : decode cL_law 2506 = .ok (.ireturn, 1) := by decide +kernel
theorem dL_law_2507 : decode cL_law 2507 = .ok (.goto 475, 3) := by decide +kernel
theorem dL_law_2510 : decode cL_law 2510 = .ok (.aload_n 1, 1) := by decide +kernel
theorem dL_law_2511 : decode cL_law 2511 = .ok (.aload 4, 2) := by decide +kernel
theorem dL_law_2513 : decode cL_law 2513 = .ok (.invokestatic 314, 3) := by decide +kernel
theorem dL_law_2516 : decode cL_law 2516 = .ok (.istore 6, 2) := by decide +kernel
theorem dL_law_2518 : decode cL_law 2518 = .ok (.aload_n 2, 1) := by decide +kernel
theorem dL_law_2519 : decode cL_law 2519 = .ok (.invokevirtual 317, 3) := by decide +kernel
theorem dL_law_2522 : decode cL_law 2522 = .ok (.dstore 7, 2) := by decide +kernel
theorem dL_law_2524 : decode cL_law 2524 = .ok (.aload_n 2, 1) := by decide +kernel
theorem dL_law_2525 : decode cL_law 2525 = .ok (.invokevirtual 175, 3) := by decide +kernel
theorem dL_law_2528 : decode cL_law 2528 = .ok (.iload 6, 2) := by decide +kernel
theorem dL_law_2530 : decode cL_law 2530 = .ok (.if_icmp .eq 5, 3) := by decide +kernel
theorem dL_law_2533 : decode cL_law 2533 = .ok (.iconst 0, 1) := by decide +kernel
theorem dL_law_2534 : decode cL_law 2534 = .ok (.ireturn, 1) := by decide +kernel
theorem dL_law_2535 : decode cL_law 2535 = .ok (.iload 6, 2) := by decide +kernel
theorem dL_law_2537 : decode cL_law 2537 = .ok (.ifCond .ne 35, 3) := by decide +kernel
theorem dL_law_2540 : decode cL_law 2540 = .ok (.aload 4, 2) := by decide +kernel
theorem dL_law_2542 : decode cL_law 2542 = .ok (.iconst 0, 1) := by decide +kernel
theorem dL_law_2543 : decode cL_law 2543 = .ok (.daload, 1) := by decide +kernel
theorem dL_law_2544 : decode cL_law 2544 = .ok (.dload 7, 2) := by decide +kernel
theorem dL_law_2546 : decode cL_law 2546 = .ok (.dcmp .l, 1) := by decide +kernel
theorem dL_law_2547 : decode cL_law 2547 = .ok (.ifCond .eq 25, 3) := by decide +kernel
theorem dL_law_2550 : decode cL_law 2550 = .ok (.aload 4, 2) := by decide +kernel
theorem dL_law_2552 : decode cL_law 2552 = .ok (.iconst 0, 1) := by decide +kernel
theorem dL_law_2553 : decode cL_law 2553 = .ok (.daload, 1) := by decide +kernel
theorem dL_law_2554 : decode cL_law 2554 = .ok (.aload 4, 2) := by decide +kernel
theorem dL_law_2556 : decode cL_law 2556 = .ok (.iconst 0, 1) := by decide +kernel
theorem dL_law_2557 : decode cL_law 2557 = .ok (.daload, 1) := by decide +kernel
theorem dL_law_2558 : decode cL_law 2558 = .ok (.dcmp .l, 1) := by decide +kernel
theorem dL_law_2559 : decode cL_law 2559 = .ok (.ifCond .eq 11, 3) := by decide +kernel
theorem dL_law_2562 : decode cL_law 2562 = .ok (.dload 7, 2) := by decide +kernel
theorem dL_law_2564 : decode cL_law 2564 = .ok (.dload 7, 2) := by decide +kernel
theorem dL_law_2566 : decode cL_law 2566 = .ok (.dcmp .l, 1) := by decide +kernel
theorem dL_law_2567 : decode cL_law 2567 = .ok (.ifCond .ne 5, 3) := by decide +kernel
theorem dL_law_2570 : decode cL_law 2570 = .ok (.iconst 0, 1) := by decide +kernel
theorem dL_law_2571 : decode cL_law 2571 = .ok (.ireturn, 1) := by decide +kernel
theorem dL_law_2572 : decode cL_law 2572 = .ok (.goto 410, 3) := by decide +kernel
theorem dL_law_2575 : decode cL_law 2575 = .ok (.aload_n 1, 1) := by decide +kernel
theorem dL_law_2576 : decode cL_law 2576 = .ok (.invokevirtual 318, 3) := by decide +kernel
theorem dL_law_2579 : decode cL_law 2579 = .ok (.aload_n 2, 1) := by decide +kernel
theorem dL_law_2580 : decode cL_law 2580 = .ok (.invokevirtual 321, 3) := by decide +kernel
theorem dL_law_2583 : decode cL_law 2583 = .ok (.if_icmp .eq 399, 3) := by decide +kernel
theorem dL_law_2586 : decode cL_law 2586 = .ok (.iconst 0, 1) := by decide +kernel
theorem dL_law_2587 : decode cL_law 2587 = .ok (.ireturn, 1) := by decide +kernel
theorem dL_law_2588 : decode cL_law 2588 = .ok (.aload_n 1, 1) := by decide +kernel
theorem dL_law_2589 : decode cL_law 2589 = .ok (.aload_n 0, 1) := by decide +kernel
theorem dL_law_2590 : decode cL_law 2590 = .ok (.iload 5, 2) := by decide +kernel
theorem dL_law_2592 : decode cL_law 2592 = .ok (.iconst 1, 1) := by decide +kernel
theorem dL_law_2593 : decode cL_law 2593 = .ok (.iadd, 1) := by decide +kernel
theorem dL_law_2594 : decode cL_law 2594 = .ok (.iaload, 1) := by decide +kernel
theorem dL_law_2595 : decode cL_law 2595 = .ok (.i2c, 1) := by decide +kernel
theorem dL_law_2596 : decode cL_law 2596 = .ok (.aload_n 3, 1) := by decide +kernel
theorem dL_law_2597 : decode cL_law 2597 = .ok (.invokestatic 322, 3) := by decide +kernel
theorem dL_law_2600 : decode cL_law 2600 = .ok (.istore 6, 2) := by decide +kernel
theorem dL_law_2602 : decode cL_law 2602 = .ok (.aload_n 2, 1) := by decide +kernel
theorem dL_law_2603 : decode cL_law 2603 = .ok (.aload_n 0, 1) := by decide +kernel
theorem dL_law_2604 : decode cL_law 2604 = .ok (.iload 5, 2) := by decide +kernel
theorem dL_law_2606 : decode cL_law 2606 = .ok (.iconst 1, 1) := by decide +kernel
theorem dL_law_2607 : decode cL_law 2607 = .ok (.iadd, 1) := by decide +kernel
theorem dL_law_2608 : decode cL_law 2608 = .ok (.iaload, 1) := by decide +kernel
theorem dL_law_2609 : decode cL_law 2609 = .ok (.i2c, 1) := by decide +kernel
theorem dL_law_2610 : decode cL_law 2610 = .ok (.invokevirtual 325, 3) := by decide +kernel
theorem dL_law_2613 : decode cL_law 2613 = .ok (.istore 7, 2) := by decide +kernel
theorem dL_law_2615 : decode cL_law 2615 = .ok (.aload_n 2, 1) := by decide +kernel
theorem dL_law_2616 : decode cL_law 2616 = .ok (.invokevirtual 175, 3) := by decide +kernel
theorem dL_law_2619 : decode cL_law 2619 = .ok (.iload 6, 2) := by decide +kernel
theorem dL_law_2621 : decode cL_law 2621 = .ok (.if_icmp .eq 5, 3) := by decide +kernel
theorem dL_law_2624 : decode cL_law 2624 = .ok (.iconst 0, 1) := by decide +kernel
theorem dL_law_2625 : decode cL_law 2625 = .ok (.ireturn, 1) := by decide +kernel
theorem dL_law_2626 : decode cL_law 2626 = .ok (.iload 6, 2) := by decide +kernel
theorem dL_law_2628 : decode cL_law 2628 = .ok (.ifCond .ne 15, 3) := by decide +kernel
theorem dL_law_2631 : decode cL_law 2631 = .ok (.aload_n 3, 1) := by decide +kernel
theorem dL_law_2632 : decode cL_law 2632 = .ok (.iconst 0, 1) := by decide +kernel
theorem dL_law_2633 : decode cL_law 2633 = .ok (.laload, 1) := by decide +kernel
theorem dL_law_2634 : decode cL_law 2634 = .ok (.iload 7, 2) := by decide +kernel
theorem dL_law_2636 : decode cL_law 2636 = .ok (.i2l, 1) := by decide +kernel
theorem dL_law_2637 : decode cL_law 2637 = .ok (.lcmp, 1) := by decide +kernel
theorem dL_law_2638 : decode cL_law 2638 = .ok (.ifCond .eq 5, 3) := by decide +kernel
theorem dL_law_2641 : decode cL_law 2641 = .ok (.iconst 0, 1) := by decide +kernel
theorem dL_law_2642 : decode cL_law 2642 = .ok (.ireturn, 1) := by decide +kernel
theorem dL_law_2643 : decode cL_law 2643 = .ok (.goto 339, 3) := by decide +kernel
theorem dL_law_2646 : decode cL_law 2646 = .ok (.aload_n 1, 1) := by decide +kernel
theorem dL_law_2647 : decode cL_law 2647 = .ok (.aload_n 3, 1) := by decide +kernel
theorem dL_law_2648 : decode cL_law 2648 = .ok (.invokestatic 326, 3) := by decide +kernel
theorem dL_law_2651 : decode cL_law 2651 = .ok (.istore 6, 2) := by decide +kernel
theorem dL_law_2653 : decode cL_law 2653 = .ok (.aload_n 2, 1) := by decide +kernel
theorem dL_law_2654 : decode cL_law 2654 = .ok (.invokevirtual 328, 3) := by decide +kernel
theorem dL_law_2657 : decode cL_law 2657 = .ok (.istore 7, 2) := by decide +kernel
theorem dL_law_2659 : decode cL_law 2659 = .ok (.aload_n 2, 1) := by decide +kernel
theorem dL_law_2660 : decode cL_law 2660 = .ok (.invokevirtual 175, 3) := by decide +kernel
theorem dL_law_2663 : decode cL_law 2663 = .ok (.iload 6, 2) := by decide +kernel
theorem dL_law_2665 : decode cL_law 2665 = .ok (.if_icmp .eq 5, 3) := by decide +kernel
theorem dL_law_2668 : decode cL_law 2668 = .ok (.iconst 0, 1) := by decide +kernel
theorem dL_law_2669 : decode cL_law 2669 = .ok (.ireturn, 1) := by decide +kernel
theorem dL_law_2670 : decode cL_law 2670 = .ok (.iload 6, 2) := by decide +kernel
theorem dL_law_2672 : decode cL_law 2672 = .ok (.ifCond .ne 15, 3) := by decide +kernel
theorem dL_law_2675 : decode cL_law 2675 = .ok (.aload_n 3, 1) := by decide +kernel
theorem dL_law_2676 : decode cL_law 2676 = .ok (.iconst 0, 1) := by decide +kernel
theorem dL_law_2677 : decode cL_law 2677 = .ok (.laload, 1) := by decide +kernel
theorem dL_law_2678 : decode cL_law 2678 = .ok (.iload 7, 2) := by decide +kernel
theorem dL_law_2680 : decode cL_law 2680 = .ok (.i2l, 1) := by decide +kernel
theorem dL_law_2681 : decode cL_law 2681 = .ok (.lcmp, 1) := by decide +kernel
theorem dL_law_2682 : decode cL_law 2682 = .ok (.ifCond .eq 5, 3) := by decide +kernel
theorem dL_law_2685 : decode cL_law 2685 = .ok (.iconst 0, 1) := by decide +kernel
theorem dL_law_2686 : decode cL_law 2686 = .ok (.ireturn, 1) := by decide +kernel
theorem dL_law_2687 : decode cL_law 2687 = .ok (.goto 295, 3) := by decide +kernel
theorem dL_law_2690 : decode cL_law 2690 = .ok (.aload_n 1, 1) := by decide +kernel
theorem dL_law_2691 : decode cL_law 2691 = .ok (.aload_n 3, 1) := by decide +kernel
theorem dL_law_2692 : decode cL_law 2692 = .ok (.invokestatic 329, 3) := by decide +kernel
theorem dL_law_2695 : decode cL_law 2695 = .ok (.istore 6, 2) := by decide +kernel
theorem dL_law_2697 : decode cL_law 2697 = .ok (.aload_n 2, 1) := by decide +kernel
theorem dL_law_2698 : decode cL_law 2698 = .ok (.invokevirtual 331, 3) := by decide +kernel
theorem dL_law_2701 : decode cL_law 2701 = .ok (.istore 7, 2) := by decide +kernel
theorem dL_law_2703 : decode cL_law 2703 = .ok (.aload_n 2, 1) := by decide +kernel
theorem dL_law_2704 : decode cL_law 2704 = .ok (.invokevirtual 175, 3) := by decide +kernel
theorem dL_law_2707 : decode cL_law 2707 = .ok (.iload 6, 2) := by decide +kernel
theorem dL_law_2709 : decode cL_law 2709 = .ok (.if_icmp .eq 5, 3) := by decide +kernel
theorem dL_law_2712 : decode cL_law 2712 = .ok (.iconst 0, 1) := by decide +kernel
theorem dL_law_2713 : decode cL_law 2713 = .ok (.ireturn, 1) := by decide +kernel
theorem dL_law_2714 : decode cL_law 2714 = .ok (.iload 6, 2) := by decide +kernel
theorem dL_law_2716 : decode cL_law 2716 = .ok (.ifCond .ne 15, 3) := by decide +kernel
theorem dL_law_2719 : decode cL_law 2719 = .ok (.aload_n 3, 1) := by decide +kernel
theorem dL_law_2720 : decode cL_law 2720 = .ok (.iconst 0, 1) := by decide +kernel
theorem dL_law_2721 : decode cL_law 2721 = .ok (.laload, 1) := by decide +kernel
theorem dL_law_2722 : decode cL_law 2722 = .ok (.iload 7, 2) := by decide +kernel
theorem dL_law_2724 : decode cL_law 2724 = .ok (.i2l, 1) := by decide +kernel
theorem dL_law_2725 : decode cL_law 2725 = .ok (.lcmp, 1) := by decide +kernel
theorem dL_law_2726 : decode cL_law 2726 = .ok (.ifCond .eq 5, 3) := by decide +kernel
theorem dL_law_2729 : decode cL_law 2729 = .ok (.iconst 0, 1) := by decide +kernel
theorem dL_law_2730 : decode cL_law 2730 = .ok (.ireturn, 1) := by decide +kernel
theorem dL_law_2731 : decode cL_law 2731 = .ok (.goto 251, 3) := by decide +kernel
theorem dL_law_2734 : decode cL_law 2734 = .ok (.aload_n 1, 1) := by decide +kernel
theorem dL_law_2735 : decode cL_law 2735 = .ok (.aload_n 3, 1) := by decide +kernel
theorem dL_law_2736 : decode cL_law 2736 = .ok (.invokestatic 332, 3) := by decide +kernel
theorem dL_law_2739 : decode cL_law 2739 = .ok (.istore 6, 2) := by decide +kernel
theorem dL_law_2741 : decode cL_law 2741 = .ok (.aload_n 2, 1) := by decide +kernel
theorem dL_law_2742 : decode cL_law 2742 = .ok (.invokevirtual 334, 3) := by decide +kernel
theorem dL_law_2745 : decode cL_law 2745 = .ok (.istore 7, 2) := by decide +kernel
theorem dL_law_2747 : decode cL_law 2747 = .ok (.aload_n 2, 1) := by decide +kernel
theorem dL_law_2748 : decode cL_law 2748 = .ok (.invokevirtual 175, 3) := by decide +kernel
theorem dL_law_2751 : decode cL_law 2751 = .ok (.iload 6, 2) := by decide +kernel
theorem dL_law_2753 : decode cL_law 2753 = .ok (.if_icmp .eq 5, 3) := by decide +kernel
theorem dL_law_2756 : decode cL_law 2756 = .ok (.iconst 0, 1) := by decide +kernel
theorem dL_law_2757 : decode cL_law 2757 = .ok (.ireturn, 1) := by decide +kernel
theorem dL_law_2758 : decode cL_law 2758 = .ok (.iload 6, 2) := by decide +kernel
theorem dL_law_2760 : decode cL_law 2760 = .ok (.ifCond .ne 15, 3) := by decide +kernel
theorem dL_law_2763 : decode cL_law 2763 = .ok (.aload_n 3, 1) := by decide +kernel
theorem dL_law_2764 : decode cL_law 2764 = .ok (.iconst 0, 1) := by decide +kernel
theorem dL_law_2765 : decode cL_law 2765 = .ok (.laload, 1) := by decide +kernel
theorem dL_law_2766 : decode cL_law 2766 = .ok (.iload 7, 2) := by decide +kernel
theorem dL_law_2768 : decode cL_law 2768 = .ok (.i2l, 1) := by decide +kernel
theorem dL_law_2769 : decode cL_law 2769 = .ok (.lcmp, 1) := by decide +kernel
theorem dL_law_2770 : decode cL_law 2770 = .ok (.ifCond .eq 5, 3) := by decide +kernel
theorem dL_law_2773 : decode cL_law 2773 = .ok (.iconst 0, 1) := by decide +kernel
theorem dL_law_2774 : decode cL_law 2774 = .ok (.ireturn, 1) := by decide +kernel
theorem dL_law_2775 : decode cL_law 2775 = .ok (.goto 207, 3) := by decide +kernel
theorem dL_law_2778 : decode cL_law 2778 = .ok (.aload_n 1, 1) := by decide +kernel
theorem dL_law_2779 : decode cL_law 2779 = .ok (.aload_n 0, 1) := by decide +kernel
theorem dL_law_2780 : decode cL_law 2780 = .ok (.iload 5, 2) := by decide +kernel
theorem dL_law_2782 : decode cL_law 2782 = .ok (.iconst 1, 1) := by decide +kernel
theorem dL_law_2783 : decode cL_law 2783 = .ok (.iadd, 1) := by decide +kernel
theorem dL_law_2784 : decode cL_law 2784 = .ok (.iaload, 1) := by decide +kernel
theorem dL_law_2785 : decode cL_law 2785 = .ok (.aload_n 3, 1) := by decide +kernel
theorem dL_law_2786 : decode cL_law 2786 = .ok (.invokestatic 335, 3) := by decide +kernel
theorem dL_law_2789 : decode cL_law 2789 = .ok (.istore 6, 2) := by decide +kernel
theorem dL_law_2791 : decode cL_law 2791 = .ok (.aload_n 2, 1) := by decide +kernel
theorem dL_law_2792 : decode cL_law 2792 = .ok (.aload_n 0, 1) := by decide +kernel
theorem dL_law_2793 : decode cL_law 2793 = .ok (.iload 5, 2) := by decide +kernel
theorem dL_law_2795 : decode cL_law 2795 = .ok (.iconst 1, 1) := by decide +kernel
theorem dL_law_2796 : decode cL_law 2796 = .ok (.iadd, 1) := by decide +kernel
theorem dL_law_2797 : decode cL_law 2797 = .ok (.iaload, 1) := by decide +kernel
theorem dL_law_2798 : decode cL_law 2798 = .ok (.invokevirtual 337, 3) := by decide +kernel
theorem dL_law_2801 : decode cL_law 2801 = .ok (.istore 7, 2) := by decide +kernel
theorem dL_law_2803 : decode cL_law 2803 = .ok (.aload_n 2, 1) := by decide +kernel
theorem dL_law_2804 : decode cL_law 2804 = .ok (.invokevirtual 175, 3) := by decide +kernel
theorem dL_law_2807 : decode cL_law 2807 = .ok (.iload 6, 2) := by decide +kernel
theorem dL_law_2809 : decode cL_law 2809 = .ok (.if_icmp .eq 5, 3) := by decide +kernel
theorem dL_law_2812 : decode cL_law 2812 = .ok (.iconst 0, 1) := by decide +kernel
theorem dL_law_2813 : decode cL_law 2813 = .ok (.ireturn, 1) := by decide +kernel
theorem dL_law_2814 : decode cL_law 2814 = .ok (.iload 6, 2) := by decide +kernel
theorem dL_law_2816 : decode cL_law 2816 = .ok (.ifCond .ne 15, 3) := by decide +kernel
theorem dL_law_2819 : decode cL_law 2819 = .ok (.aload_n 3, 1) := by decide +kernel
theorem dL_law_2820 : decode cL_law 2820 = .ok (.iconst 0, 1) := by decide +kernel
theorem dL_law_2821 : decode cL_law 2821 = .ok (.laload, 1) := by decide +kernel
theorem dL_law_2822 : decode cL_law 2822 = .ok (.iload 7, 2) := by decide +kernel
theorem dL_law_2824 : decode cL_law 2824 = .ok (.i2l, 1) := by decide +kernel
theorem dL_law_2825 : decode cL_law 2825 = .ok (.lcmp, 1) := by decide +kernel
theorem dL_law_2826 : decode cL_law 2826 = .ok (.ifCond .eq 5, 3) := by decide +kernel
theorem dL_law_2829 : decode cL_law 2829 = .ok (.iconst 0, 1) := by decide +kernel
theorem dL_law_2830 : decode cL_law 2830 = .ok (.ireturn, 1) := by decide +kernel
theorem dL_law_2831 : decode cL_law 2831 = .ok (.goto 151, 3) := by decide +kernel
theorem dL_law_2834 : decode cL_law 2834 = .ok (.aload_n 1, 1) := by decide +kernel
theorem dL_law_2835 : decode cL_law 2835 = .ok (.invokevirtual 338, 3) := by decide +kernel
theorem dL_law_2838 : decode cL_law 2838 = .ok (.aload_n 2, 1) := by decide +kernel
theorem dL_law_2839 : decode cL_law 2839 = .ok (.invokevirtual 341, 3) := by decide +kernel
theorem dL_law_2842 : decode cL_law 2842 = .ok (.if_icmp .eq 140, 3) := by decide +kernel
theorem dL_law_2845 : decode cL_law 2845 = .ok (.iconst 0, 1) := by decide +kernel
theorem dL_law_2846 : decode cL_law 2846 = .ok (.ireturn, 1) := by decide +kernel
theorem dL_law_2847 : decode cL_law 2847 = .ok (.aload_n 1, 1) := by decide +kernel
theorem dL_law_2848 : decode cL_law 2848 = .ok (.aload_n 0, 1) := by decide +kernel
theorem dL_law_2849 : decode cL_law 2849 = .ok (.iload 5, 2) := by decide +kernel
theorem dL_law_2851 : decode cL_law 2851 = .ok (.iconst 1, 1) := by decide +kernel
theorem dL_law_2852 : decode cL_law 2852 = .ok (.iadd, 1) := by decide +kernel
theorem dL_law_2853 : decode cL_law 2853 = .ok (.iaload, 1) := by decide +kernel
theorem dL_law_2854 : decode cL_law 2854 = .ok (.aload_n 3, 1) := by decide +kernel
theorem dL_law_2855 : decode cL_law 2855 = .ok (.invokestatic 342, 3) := by decide +kernel
theorem dL_law_2858 : decode cL_law 2858 = .ok (.istore 6, 2) := by decide +kernel
theorem dL_law_2860 : decode cL_law 2860 = .ok (.aload_n 2, 1) := by decide +kernel
theorem dL_law_2861 : decode cL_law 2861 = .ok (.aload_n 0, 1) := by decide +kernel
theorem dL_law_2862 : decode cL_law 2862 = .ok (.iload 5, 2) := by decide +kernel
theorem dL_law_2864 : decode cL_law 2864 = .ok (.iconst 1, 1) := by decide +kernel
theorem dL_law_2865 : decode cL_law 2865 = .ok (.iadd, 1) := by decide +kernel
theorem dL_law_2866 : decode cL_law 2866 = .ok (.iaload, 1) := by decide +kernel
theorem dL_law_2867 : decode cL_law 2867 = .ok (.invokevirtual 344, 3) := by decide +kernel
theorem dL_law_2870 : decode cL_law 2870 = .ok (.istore 7, 2) := by decide +kernel
theorem dL_law_2872 : decode cL_law 2872 = .ok (.aload_n 2, 1) := by decide +kernel
theorem dL_law_2873 : decode cL_law 2873 = .ok (.invokevirtual 175, 3) := by decide +kernel
theorem dL_law_2876 : decode cL_law 2876 = .ok (.iload 6, 2) := by decide +kernel
theorem dL_law_2878 : decode cL_law 2878 = .ok (.if_icmp .eq 5, 3) := by decide +kernel
theorem dL_law_2881 : decode cL_law 2881 = .ok (.iconst 0, 1) := by decide +kernel
theorem dL_law_2882 : decode cL_law 2882 = .ok (.ireturn, 1) := by decide +kernel
theorem dL_law_2883 : decode cL_law 2883 = .ok (.iload 6, 2) := by decide +kernel
theorem dL_law_2885 : decode cL_law 2885 = .ok (.ifCond .ne 15, 3) := by decide +kernel
theorem dL_law_2888 : decode cL_law 2888 = .ok (.aload_n 3, 1) := by decide +kernel
theorem dL_law_2889 : decode cL_law 2889 = .ok (.iconst 0, 1) := by decide +kernel
theorem dL_law_2890 : decode cL_law 2890 = .ok (.laload, 1) := by decide +kernel
theorem dL_law_2891 : decode cL_law 2891 = .ok (.iload 7, 2) := by decide +kernel
theorem dL_law_2893 : decode cL_law 2893 = .ok (.i2l, 1) := by decide +kernel
theorem dL_law_2894 : decode cL_law 2894 = .ok (.lcmp, 1) := by decide +kernel
theorem dL_law_2895 : decode cL_law 2895 = .ok (.ifCond .eq 5, 3) := by decide +kernel
theorem dL_law_2898 : decode cL_law 2898 = .ok (.iconst 0, 1) := by decide +kernel
theorem dL_law_2899 : decode cL_law 2899 = .ok (.ireturn, 1) := by decide +kernel
theorem dL_law_2900 : decode cL_law 2900 = .ok (.goto 82, 3) := by decide +kernel
theorem dL_law_2903 : decode cL_law 2903 = .ok (.aload_n 1, 1) := by decide +kernel
theorem dL_law_2904 : decode cL_law 2904 = .ok (.aload_n 3, 1) := by decide +kernel
theorem dL_law_2905 : decode cL_law 2905 = .ok (.invokestatic 345, 3) := by decide +kernel
theorem dL_law_2908 : decode cL_law 2908 = .ok (.istore 6, 2) := by decide +kernel
theorem dL_law_2910 : decode cL_law 2910 = .ok (.aload_n 2, 1) := by decide +kernel
theorem dL_law_2911 : decode cL_law 2911 = .ok (.invokevirtual 347, 3) := by decide +kernel
theorem dL_law_2914 : decode cL_law 2914 = .ok (.istore 7, 2) := by decide +kernel
theorem dL_law_2916 : decode cL_law 2916 = .ok (.aload_n 2, 1) := by decide +kernel
theorem dL_law_2917 : decode cL_law 2917 = .ok (.invokevirtual 175, 3) := by decide +kernel
theorem dL_law_2920 : decode cL_law 2920 = .ok (.iload 6, 2) := by decide +kernel
theorem dL_law_2922 : decode cL_law 2922 = .ok (.if_icmp .eq 5, 3) := by decide +kernel
theorem dL_law_2925 : decode cL_law 2925 = .ok (.iconst 0, 1) := by decide +kernel
theorem dL_law_2926 : decode cL_law 2926 = .ok (.ireturn, 1) := by decide +kernel
theorem dL_law_2927 : decode cL_law 2927 = .ok (.iload 6, 2) := by decide +kernel
theorem dL_law_2929 : decode cL_law 2929 = .ok (.ifCond .ne 15, 3) := by decide +kernel
theorem dL_law_2932 : decode cL_law 2932 = .ok (.aload_n 3, 1) := by decide +kernel
theorem dL_law_2933 : decode cL_law 2933 = .ok (.iconst 0, 1) := by decide +kernel
theorem dL_law_2934 : decode cL_law 2934 = .ok (.laload, 1) := by decide +kernel
theorem dL_law_2935 : decode cL_law 2935 = .ok (.iload 7, 2) := by decide +kernel
theorem dL_law_2937 : decode cL_law 2937 = .ok (.i2l, 1) := by decide +kernel
theorem dL_law_2938 : decode cL_law 2938 = .ok (.lcmp, 1) := by decide +kernel
theorem dL_law_2939 : decode cL_law 2939 = .ok (.ifCond .eq 5, 3) := by decide +kernel
theorem dL_law_2942 : decode cL_law 2942 = .ok (.iconst 0, 1) := by decide +kernel
theorem dL_law_2943 : decode cL_law 2943 = .ok (.ireturn, 1) := by decide +kernel
theorem dL_law_2944 : decode cL_law 2944 = .ok (.goto 38, 3) := by decide +kernel
theorem dL_law_2947 : decode cL_law 2947 = .ok (.aload_n 1, 1) := by decide +kernel
theorem dL_law_2948 : decode cL_law 2948 = .ok (.invokevirtual 348, 3) := by decide +kernel
theorem dL_law_2951 : decode cL_law 2951 = .ok (.aload_n 2, 1) := by decide +kernel
theorem dL_law_2952 : decode cL_law 2952 = .ok (.invokevirtual 351, 3) := by decide +kernel
theorem dL_law_2955 : decode cL_law 2955 = .ok (.goto 27, 3) := by decide +kernel
theorem dL_law_2958 : decode cL_law 2958 = .ok (.aload_n 1, 1) := by decide +kernel
theorem dL_law_2959 : decode cL_law 2959 = .ok (.invokestatic 352, 3) := by decide +kernel
theorem dL_law_2962 : decode cL_law 2962 = .ok (.istore 6, 2) := by decide +kernel
theorem dL_law_2964 : decode cL_law 2964 = .ok (.aload_n 2, 1) := by decide +kernel
theorem dL_law_2965 : decode cL_law 2965 = .ok (.invokevirtual 355, 3) := by decide +kernel
theorem dL_law_2968 : decode cL_law 2968 = .ok (.aload_n 2, 1) := by decide +kernel
theorem dL_law_2969 : decode cL_law 2969 = .ok (.invokevirtual 175, 3) := by decide +kernel
theorem dL_law_2972 : decode cL_law 2972 = .ok (.iload 6, 2) := by decide +kernel
theorem dL_law_2974 : decode cL_law 2974 = .ok (.if_icmp .eq 5, 3) := by decide +kernel
theorem dL_law_2977 : decode cL_law 2977 = .ok (.iconst 0, 1) := by decide +kernel
theorem dL_law_2978 : decode cL_law 2978 = .ok (.ireturn, 1) := by decide +kernel
theorem dL_law_2979 : decode cL_law 2979 = .ok (.goto 3, 3) := by decide +kernel
theorem dL_law_2982 : decode cL_law 2982 = .ok (.iinc 5 5, 3) := by decide +kernel
theorem dL_law_2985 : decode cL_law 2985 = .ok (.goto (-2957), 3) := by decide +kernel
theorem dL_law_2988 : decode cL_law 2988 = .ok (.iconst 1, 1) := by decide +kernel
theorem dL_law_2989 : decode cL_law 2989 = .ok (.ireturn, 1) := by decide +kernel
