theorem wd1282 : Cond.methodLink RL 88 yJ0_length_8abf5 ∈ gW := gW_in 1282 (by decide +kernel) (by decide +kernel)
theorem wd1283 : Cond.methodLink RL 93 yJ0_charAt_5068e ∈ gW := gW_in 1283 (by decide +kernel) (by decide +kernel)
theorem wd1301 : Cond.code yX9_append cX9_append 2 (some .int) ∈ gW := gW_in 1301 (by decide +kernel) (by decide +kernel)
theorem mvX9_append : MV yX9_append cX9_append 2 (some .int) 1 := ⟨wd1301, wd23, by decide +kernel, by decide +kernel, by decide +kernel, by decide⟩
theorem wd1299 : Cond.instanceMethod yX9_append ∈ gW := gW_in 1299 (by decide +kernel) (by decide +kernel)
theorem wd1300 : Cond.selects yX9_append.cls yX9_append yX9_append ∈ gW := gW_in 1300 (by decide +kernel) (by decide +kernel)
theorem wd1298 : Cond.methodLink RL 97 yX9_append ∈ gW := gW_in 1298 (by decide +kernel) (by decide +kernel)
theorem wd1314 : Cond.codeWith yL_run cL_run 2 (some .int) [(0, 4, 5, 15), (0, 4, 9, 27)] ∈ gW := gW_in 1314 (by decide +kernel) (by decide +kernel)
theorem mvwL_run : MVW yL_run cL_run 2 (some .int) [(0, 4, 5, 15), (0, 4, 9, 27)] 1 := ⟨wd1314, wd22, by decide +kernel, by decide +kernel, by decide +kernel, by decide⟩
theorem wd1313 : Cond.static yL_run ∈ gW := gW_in 1313 (by decide +kernel) (by decide +kernel)
theorem wd1312 : Cond.methodLink RL 102 yL_run ∈ gW := gW_in 1312 (by decide +kernel) (by decide +kernel)
theorem wd1243 : Cond.constant RL 101 (-900009 : Int32) ∈ gW := gW_in 1243 (by decide +kernel) (by decide +kernel)
theorem dL_does_0 : decode cL_does 0 = .ok (.iconst 0, 1) := by decide +kernel
theorem dL_does_1 : decode cL_does 1 = .ok (.istore_n 2, 1) := by decide +kernel
theorem dL_does_2 : decode cL_does 2 = .ok (.iconst 0, 1) := by decide +kernel
theorem dL_does_3 : decode cL_does 3 = .ok (.istore_n 3, 1) := by decide +kernel
theorem dL_does_4 : decode cL_does 4 = .ok (.iload_n 3, 1) := by decide +kernel
theorem dL_does_5 : decode cL_does 5 = .ok (.aload_n 1, 1) := by decide +kernel
theorem dL_does_6 : decode cL_does 6 = .ok (.invokevirtual 88, 3) := by decide +kernel
theorem dL_does_9 : decode cL_does 9 = .ok (.if_icmp .ge 21, 3) := by decide +kernel
theorem dL_does_12 : decode cL_does 12 = .ok (.iload_n 2, 1) := by decide +kernel
theorem dL_does_13 : decode cL_does 13 = .ok (.aload_n 0, 1) := by decide +kernel
theorem dL_does_14 : decode cL_does 14 = .ok (.aload_n 1, 1) := by decide +kernel
theorem dL_does_15 : decode cL_does 15 = .ok (.iload_n 3, 1) := by decide +kernel
theorem dL_does_16 : decode cL_does 16 = .ok (.invokevirtual 93, 3) := by decide +kernel
theorem dL_does_19 : decode cL_does 19 = .ok (.invokevirtual 97, 3) := by decide +kernel
theorem dL_does_22 : decode cL_does 22 = .ok (.iadd, 1) := by decide +kernel
theorem dL_does_23 : decode cL_does 23 = .ok (.istore_n 2, 1) := by decide +kernel
theorem dL_does_24 : decode cL_does 24 = .ok (.iinc 3 1, 3) := by decide +kernel
theorem dL_does_27 : decode cL_does 27 = .ok (.goto (-23), 3) := by decide +kernel
theorem dL_does_30 : decode cL_does 30 = .ok (.iload_n 2, 1) := by decide +kernel
theorem dL_does_31 : decode cL_does 31 = .ok (.ifCond .ge 8, 3) := by decide +kernel
theorem dL_does_34 : decode cL_does 34 = .ok (.ldc 101, 2) := by decide +kernel
theorem dL_does_36 : decode cL_does 36 = .ok (.goto 7, 3) := by decide +kernel
theorem dL_does_39 : decode cL_does 39 = .ok (.aload_n 0, 1) := by decide +kernel
theorem dL_does_40 : decode cL_does 40 = .ok (.invokestatic 102, 3) := by decide +kernel
theorem dL_does_43 : decode cL_does 43 = .ok (.ireturn, 1) := by decide +kernel
theorem wd885 : Cond.classLink RL 10 RX9 ∈ gW := gW_in 885 (by decide +kernel) (by decide +kernel)
theorem wd63 : Cond.instantiable RX9 9 ∈ gW := gW_in 63 (by decide +kernel) (by decide +kernel)
theorem hd12 {ad : Nat → Nat} : ∀ j, j < 9 → gm_val ad (gm_fty 12 j) (if gm_fty 12 j = 3 then -1 else 0) none = defaultValue (tyX9 j)
  | 0, _ => rfl
  | 1, _ => rfl
  | 2, _ => rfl
  | 3, _ => rfl
  | 4, _ => rfl
  | 5, _ => rfl
  | 6, _ => rfl
  | 7, _ => rfl
  | 8, _ => rfl
  | j + 9, h => absurd h (by omega)
theorem wd888 : Cond.code yX9_init cX9_init 1 none ∈ gW := gW_in 888 (by decide +kernel) (by decide +kernel)
theorem mvX9_init : MV yX9_init cX9_init 1 none 0 := ⟨wd888, wd23, by decide +kernel, by decide +kernel, by decide +kernel, by decide⟩
theorem wd887 : Cond.instanceMethod yX9_init ∈ gW := gW_in 887 (by decide +kernel) (by decide +kernel)
theorem wd886 : Cond.methodLink RL 105 yX9_init ∈ gW := gW_in 886 (by decide +kernel) (by decide +kernel)
theorem wd875 : Cond.code yL_in cL_in 3 (some .int) ∈ gW := gW_in 875 (by decide +kernel) (by decide +kernel)
theorem mvL_in : MV yL_in cL_in 3 (some .int) 3 := ⟨wd875, wd22, by decide +kernel, by decide +kernel, by decide +kernel, by decide⟩
theorem wd874 : Cond.static yL_in ∈ gW := gW_in 874 (by decide +kernel) (by decide +kernel)
theorem wd873 : Cond.methodLink RL 106 yL_in ∈ gW := gW_in 873 (by decide +kernel) (by decide +kernel)
theorem wd1147 : Cond.codeWith yL_addPoint cL_addPoint 4 (some .int) [(0, 6, 7, 15), (0, 6, 11, 18)] ∈ gW := gW_in 1147 (by decide +kernel) (by decide +kernel)
theorem mvwL_addPoint : MVW yL_addPoint cL_addPoint 4 (some .int) [(0, 6, 7, 15), (0, 6, 11, 18)] 3 := ⟨wd1147, wd22, by decide +kernel, by decide +kernel, by decide +kernel, by decide⟩
theorem wd1146 : Cond.static yL_addPoint ∈ gW := gW_in 1146 (by decide +kernel) (by decide +kernel)
theorem wd1145 : Cond.methodLink RL 110 yL_addPoint ∈ gW := gW_in 1145 (by decide +kernel) (by decide +kernel)
theorem wd1162 : Cond.codeWith yL_addTaskPoint cL_addTaskPoint 3 (some .int) [(0, 5, 6, 25), (0, 5, 10, 18), (0, 5, 14, 27)] ∈ gW := gW_in 1162 (by decide +kernel) (by decide +kernel)
theorem mvwL_addTaskPoint : MVW yL_addTaskPoint cL_addTaskPoint 3 (some .int) [(0, 5, 6, 25), (0, 5, 10, 18), (0, 5, 14, 27)] 2 := ⟨wd1162, wd22, by decide +kernel, by decide +kernel, by decide +kernel, by decide⟩
theorem wd1161 : Cond.static yL_addTaskPoint ∈ gW := gW_in 1161 (by decide +kernel) (by decide +kernel)
theorem wd1160 : Cond.methodLink RL 113 yL_addTaskPoint ∈ gW := gW_in 1160 (by decide +kernel) (by decide +kernel)
theorem wd1186 : Cond.codeWith yL_addThermal cL_addThermal 5 (some .int) [(0, 7, 8, 15), (0, 7, 13, 18)] ∈ gW := gW_in 1186 (by decide +kernel) (by decide +kernel)
theorem mvwL_addThermal : MVW yL_addThermal cL_addThermal 5 (some .int) [(0, 7, 8, 15), (0, 7, 13, 18)] 4 := ⟨wd1186, wd22, by decide +kernel, by decide +kernel, by decide +kernel, by decide⟩
theorem wd1185 : Cond.static yL_addThermal ∈ gW := gW_in 1185 (by decide +kernel) (by decide +kernel)
theorem wd1184 : Cond.methodLink RL 116 yL_addThermal ∈ gW := gW_in 1184 (by decide +kernel) (by decide +kernel)
theorem wd557 : Cond.codeWith yL_addPilot cL_addPilot 3 (some .int) [(0, 5, 6, 15), (0, 5, 10, 18)] ∈ gW := gW_in 557 (by decide +kernel) (by decide +kernel)
theorem mvwL_addPilot : MVW yL_addPilot cL_addPilot 3 (some .int) [(0, 5, 6, 15), (0, 5, 10, 18)] 2 := ⟨wd557, wd22, by decide +kernel, by decide +kernel, by decide +kernel, by decide⟩
theorem wd556 : Cond.static yL_addPilot ∈ gW := gW_in 556 (by decide +kernel) (by decide +kernel)
theorem wd555 : Cond.methodLink RL 119 yL_addPilot ∈ gW := gW_in 555 (by decide +kernel) (by decide +kernel)
theorem wd1201 : Cond.codeWith yL_addArea cL_addArea 6 (some .int) [(0, 9, 10, 15), (0, 9, 15, 18)] ∈ gW := gW_in 1201 (by decide +kernel) (by decide +kernel)
theorem mvwL_addArea : MVW yL_addArea cL_addArea 6 (some .int) [(0, 9, 10, 15), (0, 9, 15, 18)] 5 := ⟨wd1201, wd22, by decide +kernel, by decide +kernel, by decide +kernel, by decide⟩
theorem wd1200 : Cond.static yL_addArea ∈ gW := gW_in 1200 (by decide +kernel) (by decide +kernel)
theorem wd1199 : Cond.methodLink RL 121 yL_addArea ∈ gW := gW_in 1199 (by decide +kernel) (by decide +kernel)
theorem wd632 : Cond.codeWith yL_launch cL_launch 3 (some .int) [(0, 5, 6, 25), (0, 5, 10, 18), (0, 5, 14, 27)] ∈ gW := gW_in 632 (by decide +kernel) (by decide +kernel)
theorem mvwL_launch : MVW yL_launch cL_launch 3 (some .int) [(0, 5, 6, 25), (0, 5, 10, 18), (0, 5, 14, 27)] 2 := ⟨wd632, wd22, by decide +kernel, by decide +kernel, by decide +kernel, by decide⟩
theorem wd631 : Cond.static yL_launch ∈ gW := gW_in 631 (by decide +kernel) (by decide +kernel)
theorem wd630 : Cond.methodLink RL 126 yL_launch ∈ gW := gW_in 630 (by decide +kernel) (by decide +kernel)
theorem wd1214 : Cond.constant RL 128 (-90000000 : Int32) ∈ gW := gW_in 1214 (by decide +kernel) (by decide +kernel)
theorem wd535 : Cond.codeWith yL_setCloudBase cL_setCloudBase 3 (some .int) [(0, 5, 6, 15)] ∈ gW := gW_in 535 (by decide +kernel) (by decide +kernel)
theorem mvwL_setCloudBase : MVW yL_setCloudBase cL_setCloudBase 3 (some .int) [(0, 5, 6, 15)] 2 := ⟨wd535, wd22, by decide +kernel, by decide +kernel, by decide +kernel, by decide⟩
theorem wd534 : Cond.static yL_setCloudBase ∈ gW := gW_in 534 (by decide +kernel) (by decide +kernel)
theorem wd533 : Cond.methodLink RL 124 yL_setCloudBase ∈ gW := gW_in 533 (by decide +kernel) (by decide +kernel)
theorem dL_begun_0 : decode cL_begun 0 = .ok (.new 10, 3) := by decide +kernel
theorem dL_begun_3 : decode cL_begun 3 = .ok (.dup, 1) := by decide +kernel
theorem dL_begun_4 : decode cL_begun 4 = .ok (.invokespecial 105, 3) := by decide +kernel
theorem dL_begun_7 : decode cL_begun 7 = .ok (.astore_n 1, 1) := by decide +kernel
theorem dL_begun_8 : decode cL_begun 8 = .ok (.aload_n 0, 1) := by decide +kernel
theorem dL_begun_9 : decode cL_begun 9 = .ok (.iconst 0, 1) := by decide +kernel
theorem dL_begun_10 : decode cL_begun 10 = .ok (.iconst 2, 1) := by decide +kernel
theorem dL_begun_11 : decode cL_begun 11 = .ok (.invokestatic 106, 3) := by decide +kernel
theorem dL_begun_14 : decode cL_begun 14 = .ok (.ifCond .ne 8, 3) := by decide +kernel
theorem dL_begun_17 : decode cL_begun 17 = .ok (.bipush 14, 2) := by decide +kernel
theorem dL_begun_19 : decode cL_begun 19 = .ok (.goto 5, 3) := by decide +kernel
theorem dL_begun_22 : decode cL_begun 22 = .ok (.bipush 61, 2) := by decide +kernel
theorem dL_begun_24 : decode cL_begun 24 = .ok (.istore_n 2, 1) := by decide +kernel
theorem dL_begun_25 : decode cL_begun 25 = .ok (.iconst 0, 1) := by decide +kernel
theorem dL_begun_26 : decode cL_begun 26 = .ok (.istore_n 3, 1) := by decide +kernel
theorem dL_begun_27 : decode cL_begun 27 = .ok (.iconst 0, 1) := by decide +kernel
theorem dL_begun_28 : decode cL_begun 28 = .ok (.istore 4, 2) := by decide +kernel
theorem dL_begun_30 : decode cL_begun 30 = .ok (.iload 4, 2) := by decide +kernel
theorem dL_begun_32 : decode cL_begun 32 = .ok (.iconst 5, 1) := by decide +kernel
theorem dL_begun_33 : decode cL_begun 33 = .ok (.if_icmp .ge 35, 3) := by decide +kernel
theorem dL_begun_36 : decode cL_begun 36 = .ok (.iload_n 3, 1) := by decide +kernel
theorem dL_begun_37 : decode cL_begun 37 = .ok (.aload_n 1, 1) := by decide +kernel
theorem dL_begun_38 : decode cL_begun 38 = .ok (.aload_n 0, 1) := by decide +kernel
theorem dL_begun_39 : decode cL_begun 39 = .ok (.iconst 1, 1) := by decide +kernel
theorem dL_begun_40 : decode cL_begun 40 = .ok (.iload 4, 2) := by decide +kernel
theorem dL_begun_42 : decode cL_begun 42 = .ok (.iadd, 1) := by decide +kernel
theorem dL_begun_43 : decode cL_begun 43 = .ok (.iload_n 2, 1) := by decide +kernel
theorem dL_begun_44 : decode cL_begun 44 = .ok (.invokestatic 106, 3) := by decide +kernel
theorem dL_begun_47 : decode cL_begun 47 = .ok (.aload_n 0, 1) := by decide +kernel
theorem dL_begun_48 : decode cL_begun 48 = .ok (.bipush 6, 2) := by decide +kernel
theorem dL_begun_50 : decode cL_begun 50 = .ok (.iload 4, 2) := by decide +kernel
theorem dL_begun_52 : decode cL_begun 52 = .ok (.iadd, 1) := by decide +kernel
theorem dL_begun_53 : decode cL_begun 53 = .ok (.iload_n 2, 1) := by decide +kernel
theorem dL_begun_54 : decode cL_begun 54 = .ok (.invokestatic 106, 3) := by decide +kernel
theorem dL_begun_57 : decode cL_begun 57 = .ok (.invokestatic 110, 3) := by decide +kernel
theorem dL_begun_60 : decode cL_begun 60 = .ok (.iadd, 1) := by decide +kernel
theorem dL_begun_61 : decode cL_begun 61 = .ok (.istore_n 3, 1) := by decide +kernel
theorem dL_begun_62 : decode cL_begun 62 = .ok (.iinc 4 1, 3) := by decide +kernel
theorem dL_begun_65 : decode cL_begun 65 = .ok (.goto (-35), 3) := by decide +kernel
theorem dL_begun_68 : decode cL_begun 68 = .ok (.iconst 0, 1) := by decide +kernel
theorem dL_begun_69 : decode cL_begun 69 = .ok (.istore 4, 2) := by decide +kernel
theorem dL_begun_71 : decode cL_begun 71 = .ok (.iload 4, 2) := by decide +kernel
theorem dL_begun_73 : decode cL_begun 73 = .ok (.iconst 4, 1) := by decide +kernel
theorem dL_begun_74 : decode cL_begun 74 = .ok (.if_icmp .ge 86, 3) := by decide +kernel
theorem dL_begun_77 : decode cL_begun 77 = .ok (.iload_n 3, 1) := by decide +kernel
theorem dL_begun_78 : decode cL_begun 78 = .ok (.aload_n 1, 1) := by decide +kernel
theorem dL_begun_79 : decode cL_begun 79 = .ok (.aload_n 0, 1) := by decide +kernel
theorem dL_begun_80 : decode cL_begun 80 = .ok (.bipush 11, 2) := by decide +kernel
theorem dL_begun_82 : decode cL_begun 82 = .ok (.iload 4, 2) := by decide +kernel
theorem dL_begun_84 : decode cL_begun 84 = .ok (.iadd, 1) := by decide +kernel
theorem dL_begun_85 : decode cL_begun 85 = .ok (.iconst 5, 1) := by decide +kernel
theorem dL_begun_86 : decode cL_begun 86 = .ok (.invokestatic 106, 3) := by decide +kernel
theorem dL_begun_89 : decode cL_begun 89 = .ok (.invokestatic 113, 3) := by decide +kernel
theorem dL_begun_92 : decode cL_begun 92 = .ok (.iadd, 1) := by decide +kernel
theorem dL_begun_93 : decode cL_begun 93 = .ok (.istore_n 3, 1) := by decide +kernel
theorem dL_begun_94 : decode cL_begun 94 = .ok (.iload_n 3, 1) := by decide +kernel
theorem dL_begun_95 : decode cL_begun 95 = .ok (.aload_n 1, 1) := by decide +kernel
theorem dL_begun_96 : decode cL_begun 96 = .ok (.aload_n 0, 1) := by decide +kernel
theorem dL_begun_97 : decode cL_begun 97 = .ok (.bipush 15, 2) := by decide +kernel
theorem dL_begun_99 : decode cL_begun 99 = .ok (.iload 4, 2) := by decide +kernel
theorem dL_begun_101 : decode cL_begun 101 = .ok (.iadd, 1) := by decide +kernel
theorem dL_begun_102 : decode cL_begun 102 = .ok (.iload_n 2, 1) := by decide +kernel
theorem dL_begun_103 : decode cL_begun 103 = .ok (.invokestatic 106, 3) := by decide +kernel
theorem dL_begun_106 : decode cL_begun 106 = .ok (.aload_n 0, 1) := by decide +kernel
theorem dL_begun_107 : decode cL_begun 107 = .ok (.bipush 19, 2) := by decide +kernel
theorem dL_begun_109 : decode cL_begun 109 = .ok (.iload 4, 2) := by decide +kernel
theorem dL_begun_111 : decode cL_begun 111 = .ok (.iadd, 1) := by decide +kernel
theorem dL_begun_112 : decode cL_begun 112 = .ok (.iload_n 2, 1) := by decide +kernel
theorem dL_begun_113 : decode cL_begun 113 = .ok (.invokestatic 106, 3) := by decide +kernel
theorem dL_begun_116 : decode cL_begun 116 = .ok (.iconst 1, 1) := by decide +kernel
theorem dL_begun_117 : decode cL_begun 117 = .ok (.aload_n 0, 1) := by decide +kernel
theorem dL_begun_118 : decode cL_begun 118 = .ok (.bipush 23, 2) := by decide +kernel
theorem dL_begun_120 : decode cL_begun 120 = .ok (.iload 4, 2) := by decide +kernel
theorem dL_begun_122 : decode cL_begun 122 = .ok (.iadd, 1) := by decide +kernel
theorem dL_begun_123 : decode cL_begun 123 = .ok (.iconst 5, 1) := by decide +kernel
theorem dL_begun_124 : decode cL_begun 124 = .ok (.invokestatic 106, 3) := by decide +kernel
theorem dL_begun_127 : decode cL_begun 127 = .ok (.iadd, 1) := by decide +kernel
theorem dL_begun_128 : decode cL_begun 128 = .ok (.invokestatic 116, 3) := by decide +kernel
theorem dL_begun_131 : decode cL_begun 131 = .ok (.iadd, 1) := by decide +kernel
theorem dL_begun_132 : decode cL_begun 132 = .ok (.istore_n 3, 1) := by decide +kernel
theorem dL_begun_133 : decode cL_begun 133 = .ok (.iload_n 3, 1) := by decide +kernel
theorem dL_begun_134 : decode cL_begun 134 = .ok (.aload_n 1, 1) := by decide +kernel
theorem dL_begun_135 : decode cL_begun 135 = .ok (.bipush 20, 2) := by decide +kernel
theorem dL_begun_137 : decode cL_begun 137 = .ok (.aload_n 0, 1) := by decide +kernel
theorem dL_begun_138 : decode cL_begun 138 = .ok (.bipush 27, 2) := by decide +kernel
theorem dL_begun_140 : decode cL_begun 140 = .ok (.iload 4, 2) := by decide +kernel
theorem dL_begun_142 : decode cL_begun 142 = .ok (.iadd, 1) := by decide +kernel
theorem dL_begun_143 : decode cL_begun 143 = .ok (.bipush 41, 2) := by decide +kernel
theorem dL_begun_145 : decode cL_begun 145 = .ok (.invokestatic 106, 3) := by decide +kernel
theorem dL_begun_148 : decode cL_begun 148 = .ok (.iadd, 1) := by decide +kernel
theorem dL_begun_149 : decode cL_begun 149 = .ok (.invokestatic 119, 3) := by decide +kernel
theorem dL_begun_152 : decode cL_begun 152 = .ok (.iadd, 1) := by decide +kernel
theorem dL_begun_153 : decode cL_begun 153 = .ok (.istore_n 3, 1) := by decide +kernel
theorem dL_begun_154 : decode cL_begun 154 = .ok (.iinc 4 1, 3) := by decide +kernel
theorem dL_begun_157 : decode cL_begun 157 = .ok (.goto (-86), 3) := by decide +kernel
theorem dL_begun_160 : decode cL_begun 160 = .ok (.iload_n 3, 1) := by decide +kernel
theorem dL_begun_161 : decode cL_begun 161 = .ok (.aload_n 1, 1) := by decide +kernel
theorem dL_begun_162 : decode cL_begun 162 = .ok (.aload_n 0, 1) := by decide +kernel
theorem dL_begun_163 : decode cL_begun 163 = .ok (.bipush 31, 2) := by decide +kernel
theorem dL_begun_165 : decode cL_begun 165 = .ok (.iload_n 2, 1) := by decide +kernel
theorem dL_begun_166 : decode cL_begun 166 = .ok (.invokestatic 106, 3) := by decide +kernel
theorem dL_begun_169 : decode cL_begun 169 = .ok (.aload_n 0, 1) := by decide +kernel
theorem dL_begun_170 : decode cL_begun 170 = .ok (.bipush 32, 2) := by decide +kernel
theorem dL_begun_172 : decode cL_begun 172 = .ok (.iload_n 2, 1) := by decide +kernel
theorem dL_begun_173 : decode cL_begun 173 = .ok (.invokestatic 106, 3) := by decide +kernel
theorem dL_begun_176 : decode cL_begun 176 = .ok (.bipush 60, 2) := by decide +kernel
theorem dL_begun_178 : decode cL_begun 178 = .ok (.bipush 60, 2) := by decide +kernel
theorem dL_begun_180 : decode cL_begun 180 = .ok (.invokestatic 121, 3) := by decide +kernel
theorem dL_begun_183 : decode cL_begun 183 = .ok (.aload_n 1, 1) := by decide +kernel
theorem dL_begun_184 : decode cL_begun 184 = .ok (.iconst 0, 1) := by decide +kernel
theorem dL_begun_185 : decode cL_begun 185 = .ok (.iconst 3, 1) := by decide +kernel
theorem dL_begun_186 : decode cL_begun 186 = .ok (.aload_n 0, 1) := by decide +kernel
theorem dL_begun_187 : decode cL_begun 187 = .ok (.bipush 33, 2) := by decide +kernel
theorem dL_begun_189 : decode cL_begun 189 = .ok (.iload_n 2, 1) := by decide +kernel
theorem dL_begun_190 : decode cL_begun 190 = .ok (.invokestatic 106, 3) := by decide +kernel
theorem dL_begun_193 : decode cL_begun 193 = .ok (.iconst 3, 1) := by decide +kernel
theorem dL_begun_194 : decode cL_begun 194 = .ok (.aload_n 0, 1) := by decide +kernel
theorem dL_begun_195 : decode cL_begun 195 = .ok (.bipush 34, 2) := by decide +kernel
theorem dL_begun_197 : decode cL_begun 197 = .ok (.bipush 9, 2) := by decide +kernel
theorem dL_begun_199 : decode cL_begun 199 = .ok (.invokestatic 106, 3) := by decide +kernel
theorem dL_begun_202 : decode cL_begun 202 = .ok (.iadd, 1) := by decide +kernel
theorem dL_begun_203 : decode cL_begun 203 = .ok (.invokestatic 121, 3) := by decide +kernel
theorem dL_begun_206 : decode cL_begun 206 = .ok (.iadd, 1) := by decide +kernel
theorem dL_begun_207 : decode cL_begun 207 = .ok (.iadd, 1) := by decide +kernel
theorem dL_begun_208 : decode cL_begun 208 = .ok (.istore_n 3, 1) := by decide +kernel
theorem dL_begun_209 : decode cL_begun 209 = .ok (.iload_n 3, 1) := by decide +kernel
theorem dL_begun_210 : decode cL_begun 210 = .ok (.aload_n 0, 1) := by decide +kernel
theorem dL_begun_211 : decode cL_begun 211 = .ok (.bipush 35, 2) := by decide +kernel
theorem dL_begun_213 : decode cL_begun 213 = .ok (.iconst 3, 1) := by decide +kernel
theorem dL_begun_214 : decode cL_begun 214 = .ok (.invokestatic 106, 3) := by decide +kernel
theorem dL_begun_217 : decode cL_begun 217 = .ok (.ifCond .ne 23, 3) := by decide +kernel
theorem dL_begun_220 : decode cL_begun 220 = .ok (.aload_n 1, 1) := by decide +kernel
theorem dL_begun_221 : decode cL_begun 221 = .ok (.sipush 500, 3) := by decide +kernel
theorem dL_begun_224 : decode cL_begun 224 = .ok (.aload_n 0, 1) := by decide +kernel
theorem dL_begun_225 : decode cL_begun 225 = .ok (.bipush 36, 2) := by decide +kernel
theorem dL_begun_227 : decode cL_begun 227 = .ok (.sipush 1500, 3) := by decide +kernel
theorem dL_begun_230 : decode cL_begun 230 = .ok (.invokestatic 106, 3) := by decide +kernel
theorem dL_begun_233 : decode cL_begun 233 = .ok (.iadd, 1) := by decide +kernel
theorem dL_begun_234 : decode cL_begun 234 = .ok (.invokestatic 124, 3) := by decide +kernel
theorem dL_begun_237 : decode cL_begun 237 = .ok (.goto 4, 3) := by decide +kernel
theorem dL_begun_240 : decode cL_begun 240 = .ok (.iconst 0, 1) := by decide +kernel
theorem dL_begun_241 : decode cL_begun 241 = .ok (.iadd, 1) := by decide +kernel
theorem dL_begun_242 : decode cL_begun 242 = .ok (.istore_n 3, 1) := by decide +kernel
theorem dL_begun_243 : decode cL_begun 243 = .ok (.iconst 0, 1) := by decide +kernel
theorem dL_begun_244 : decode cL_begun 244 = .ok (.istore 4, 2) := by decide +kernel
theorem dL_begun_246 : decode cL_begun 246 = .ok (.iload 4, 2) := by decide +kernel
theorem dL_begun_248 : decode cL_begun 248 = .ok (.iconst 3, 1) := by decide +kernel
theorem dL_begun_249 : decode cL_begun 249 = .ok (.if_icmp .ge 35, 3) := by decide +kernel
theorem dL_begun_252 : decode cL_begun 252 = .ok (.iload_n 3, 1) := by decide +kernel
theorem dL_begun_253 : decode cL_begun 253 = .ok (.aload_n 0, 1) := by decide +kernel
theorem dL_begun_254 : decode cL_begun 254 = .ok (.bipush 37, 2) := by decide +kernel
theorem dL_begun_256 : decode cL_begun 256 = .ok (.iload 4, 2) := by decide +kernel
theorem dL_begun_258 : decode cL_begun 258 = .ok (.iadd, 1) := by decide +kernel
theorem dL_begun_259 : decode cL_begun 259 = .ok (.iconst 5, 1) := by decide +kernel
theorem dL_begun_260 : decode cL_begun 260 = .ok (.invokestatic 106, 3) := by decide +kernel
theorem dL_begun_263 : decode cL_begun 263 = .ok (.ifCond .le 12, 3) := by decide +kernel
theorem dL_begun_266 : decode cL_begun 266 = .ok (.aload_n 1, 1) := by decide +kernel
theorem dL_begun_267 : decode cL_begun 267 = .ok (.iload 4, 2) := by decide +kernel
theorem dL_begun_269 : decode cL_begun 269 = .ok (.invokestatic 126, 3) := by decide +kernel
theorem dL_begun_272 : decode cL_begun 272 = .ok (.goto 4, 3) := by decide +kernel
theorem dL_begun_275 : decode cL_begun 275 = .ok (.iconst 0, 1) := by decide +kernel
theorem dL_begun_276 : decode cL_begun 276 = .ok (.iadd, 1) := by decide +kernel
theorem dL_begun_277 : decode cL_begun 277 = .ok (.istore_n 3, 1) := by decide +kernel
theorem dL_begun_278 : decode cL_begun 278 = .ok (.iinc 4 1, 3) := by decide +kernel
theorem dL_begun_281 : decode cL_begun 281 = .ok (.goto (-35), 3) := by decide +kernel
theorem dL_begun_284 : decode cL_begun 284 = .ok (.iload_n 3, 1) := by decide +kernel
theorem dL_begun_285 : decode cL_begun 285 = .ok (.ldc 128, 2) := by decide +kernel
theorem dL_begun_287 : decode cL_begun 287 = .ok (.if_icmp .ge 7, 3) := by decide +kernel
theorem dL_begun_290 : decode cL_begun 290 = .ok (.aconst_null, 1) := by decide +kernel
theorem dL_begun_291 : decode cL_begun 291 = .ok (.goto 4, 3) := by decide +kernel
theorem dL_begun_294 : decode cL_begun 294 = .ok (.aload_n 1, 1) := by decide +kernel
theorem dL_begun_295 : decode cL_begun 295 = .ok (.areturn, 1) := by decide +kernel
theorem wd1242 : Cond.code yX9_isFlying cX9_isFlying 2 (some .boolean) ∈ gW := gW_in 1242 (by decide +kernel) (by decide +kernel)
theorem mvX9_isFlying : MV yX9_isFlying cX9_isFlying 2 (some .boolean) 1 := ⟨wd1242, wd23, by decide +kernel, by decide +kernel, by decide +kernel, by decide⟩
theorem wd1240 : Cond.instanceMethod yX9_isFlying ∈ gW := gW_in 1240 (by decide +kernel) (by decide +kernel)
theorem wd1241 : Cond.selects yX9_isFlying.cls yX9_isFlying yX9_isFlying ∈ gW := gW_in 1241 (by decide +kernel) (by decide +kernel)
theorem wd1239 : Cond.methodLink RL 129 yX9_isFlying ∈ gW := gW_in 1239 (by decide +kernel) (by decide +kernel)
theorem wd818 : Cond.codeWith yL_remainingDistance cL_remainingDistance 3 (some .int) [(0, 5, 6, 25), (0, 5, 10, 18)] ∈ gW := gW_in 818 (by decide +kernel) (by decide +kernel)
theorem mvwL_remainingDistance : MVW yL_remainingDistance cL_remainingDistance 3 (some .int) [(0, 5, 6, 25), (0, 5, 10, 18)] 2 := ⟨wd818, wd22, by decide +kernel, by decide +kernel, by decide +kernel, by decide⟩
theorem wd817 : Cond.static yL_remainingDistance ∈ gW := gW_in 817 (by decide +kernel) (by decide +kernel)
theorem wd816 : Cond.methodLink RL 135 yL_remainingDistance ∈ gW := gW_in 816 (by decide +kernel) (by decide +kernel)
theorem wd673 : Cond.codeWith yL_fly cL_fly 5 (some .int) [(0, 7, 8, 25), (0, 7, 13, 15), (0, 7, 18, 18), (0, 7, 23, 27)] ∈ gW := gW_in 673 (by decide +kernel) (by decide +kernel)
theorem mvwL_fly : MVW yL_fly cL_fly 5 (some .int) [(0, 7, 8, 25), (0, 7, 13, 15), (0, 7, 18, 18), (0, 7, 23, 27)] 4 := ⟨wd673, wd22, by decide +kernel, by decide +kernel, by decide +kernel, by decide⟩
theorem wd672 : Cond.static yL_fly ∈ gW := gW_in 672 (by decide +kernel) (by decide +kernel)
theorem wd671 : Cond.methodLink RL 133 yL_fly ∈ gW := gW_in 671 (by decide +kernel) (by decide +kernel)
theorem wd855 : Cond.codeWith yL_undo cL_undo 2 (some .int) [(0, 4, 5, 18)] ∈ gW := gW_in 855 (by decide +kernel) (by decide +kernel)
theorem mvwL_undo : MVW yL_undo cL_undo 2 (some .int) [(0, 4, 5, 18)] 1 := ⟨wd855, wd22, by decide +kernel, by decide +kernel, by decide +kernel, by decide⟩
theorem wd854 : Cond.static yL_undo ∈ gW := gW_in 854 (by decide +kernel) (by decide +kernel)
theorem wd853 : Cond.methodLink RL 137 yL_undo ∈ gW := gW_in 853 (by decide +kernel) (by decide +kernel)
theorem dL_heads_0 : decode cL_heads 0 = .ok (.aload_n 0, 1) := by decide +kernel
theorem dL_heads_1 : decode cL_heads 1 = .ok (.iload_n 1, 1) := by decide +kernel
theorem dL_heads_2 : decode cL_heads 2 = .ok (.invokevirtual 129, 3) := by decide +kernel
theorem dL_heads_5 : decode cL_heads 5 = .ok (.ifCond .ne 11, 3) := by decide +kernel
theorem dL_heads_8 : decode cL_heads 8 = .ok (.aload_n 0, 1) := by decide +kernel
theorem dL_heads_9 : decode cL_heads 9 = .ok (.iload_n 1, 1) := by decide +kernel
theorem dL_heads_10 : decode cL_heads 10 = .ok (.iconst 0, 1) := by decide +kernel
theorem dL_heads_11 : decode cL_heads 11 = .ok (.iload_n 2, 1) := by decide +kernel
theorem dL_heads_12 : decode cL_heads 12 = .ok (.invokestatic 133, 3) := by decide +kernel
theorem dL_heads_15 : decode cL_heads 15 = .ok (.ireturn, 1) := by decide +kernel
theorem dL_heads_16 : decode cL_heads 16 = .ok (.iload_n 2, 1) := by decide +kernel
theorem dL_heads_17 : decode cL_heads 17 = .ok (.iconst 4, 1) := by decide +kernel
theorem dL_heads_18 : decode cL_heads 18 = .ok (.irem, 1) := by decide +kernel
theorem dL_heads_19 : decode cL_heads 19 = .ok (.istore_n 3, 1) := by decide +kernel
theorem dL_heads_20 : decode cL_heads 20 = .ok (.aload_n 0, 1) := by decide +kernel
theorem dL_heads_21 : decode cL_heads 21 = .ok (.iload_n 1, 1) := by decide +kernel
theorem dL_heads_22 : decode cL_heads 22 = .ok (.invokestatic 135, 3) := by decide +kernel
theorem dL_heads_25 : decode cL_heads 25 = .ok (.istore 4, 2) := by decide +kernel
theorem dL_heads_27 : decode cL_heads 27 = .ok (.iconst 0, 1) := by decide +kernel
theorem dL_heads_28 : decode cL_heads 28 = .ok (.istore 5, 2) := by decide +kernel
theorem dL_heads_30 : decode cL_heads 30 = .ok (.iload 5, 2) := by decide +kernel
theorem dL_heads_32 : decode cL_heads 32 = .ok (.iconst 4, 1) := by decide +kernel
theorem dL_heads_33 : decode cL_heads 33 = .ok (.if_icmp .ge 73, 3) := by decide +kernel
theorem dL_heads_36 : decode cL_heads 36 = .ok (.iconst 1, 1) := by decide +kernel
theorem dL_heads_37 : decode cL_heads 37 = .ok (.iload_n 2, 1) := by decide +kernel
theorem dL_heads_38 : decode cL_heads 38 = .ok (.bipush 9, 2) := by decide +kernel
theorem dL_heads_40 : decode cL_heads 40 = .ok (.irem, 1) := by decide +kernel
theorem dL_heads_41 : decode cL_heads 41 = .ok (.iadd, 1) := by decide +kernel
theorem dL_heads_42 : decode cL_heads 42 = .ok (.istore 6, 2) := by decide +kernel
theorem dL_heads_44 : decode cL_heads 44 = .ok (.aload_n 0, 1) := by decide +kernel
theorem dL_heads_45 : decode cL_heads 45 = .ok (.iload_n 1, 1) := by decide +kernel
theorem dL_heads_46 : decode cL_heads 46 = .ok (.iload_n 3, 1) := by decide +kernel
theorem dL_heads_47 : decode cL_heads 47 = .ok (.iload 5, 2) := by decide +kernel
theorem dL_heads_49 : decode cL_heads 49 = .ok (.iadd, 1) := by decide +kernel
theorem dL_heads_50 : decode cL_heads 50 = .ok (.iconst 4, 1) := by decide +kernel
theorem dL_heads_51 : decode cL_heads 51 = .ok (.irem, 1) := by decide +kernel
theorem dL_heads_52 : decode cL_heads 52 = .ok (.iload 6, 2) := by decide +kernel
theorem dL_heads_54 : decode cL_heads 54 = .ok (.invokestatic 133, 3) := by decide +kernel
theorem dL_heads_57 : decode cL_heads 57 = .ok (.istore 7, 2) := by decide +kernel
theorem dL_heads_59 : decode cL_heads 59 = .ok (.iload 7, 2) := by decide +kernel
theorem dL_heads_61 : decode cL_heads 61 = .ok (.ifCond .le 24, 3) := by decide +kernel
theorem dL_heads_64 : decode cL_heads 64 = .ok (.aload_n 0, 1) := by decide +kernel
theorem dL_heads_65 : decode cL_heads 65 = .ok (.iload_n 1, 1) := by decide +kernel
theorem dL_heads_66 : decode cL_heads 66 = .ok (.invokevirtual 129, 3) := by decide +kernel
theorem dL_heads_69 : decode cL_heads 69 = .ok (.ifCond .eq 13, 3) := by decide +kernel
theorem dL_heads_72 : decode cL_heads 72 = .ok (.aload_n 0, 1) := by decide +kernel
theorem dL_heads_73 : decode cL_heads 73 = .ok (.iload_n 1, 1) := by decide +kernel
theorem dL_heads_74 : decode cL_heads 74 = .ok (.invokestatic 135, 3) := by decide +kernel
theorem dL_heads_77 : decode cL_heads 77 = .ok (.iload 4, 2) := by decide +kernel
theorem dL_heads_79 : decode cL_heads 79 = .ok (.if_icmp .ge 6, 3) := by decide +kernel
theorem dL_heads_82 : decode cL_heads 82 = .ok (.iload 7, 2) := by decide +kernel
theorem dL_heads_84 : decode cL_heads 84 = .ok (.ireturn, 1) := by decide +kernel
theorem dL_heads_85 : decode cL_heads 85 = .ok (.iload 7, 2) := by decide +kernel
theorem dL_heads_87 : decode cL_heads 87 = .ok (.ifCond .le 13, 3) := by decide +kernel
theorem dL_heads_90 : decode cL_heads 90 = .ok (.aload_n 0, 1) := by decide +kernel
theorem dL_heads_91 : decode cL_heads 91 = .ok (.invokestatic 137, 3) := by decide +kernel
theorem dL_heads_94 : decode cL_heads 94 = .ok (.ifCond .ge 6, 3) := by decide +kernel
theorem dL_heads_97 : decode cL_heads 97 = .ok (.ldc 101, 2) := by decide +kernel
theorem dL_heads_99 : decode cL_heads 99 = .ok (.ireturn, 1) := by decide +kernel
theorem dL_heads_100 : decode cL_heads 100 = .ok (.iinc 5 1, 3) := by decide +kernel
theorem dL_heads_103 : decode cL_heads 103 = .ok (.goto (-73), 3) := by decide +kernel
theorem dL_heads_106 : decode cL_heads 106 = .ok (.aload_n 0, 1) := by decide +kernel
theorem dL_heads_107 : decode cL_heads 107 = .ok (.iload_n 1, 1) := by decide +kernel
theorem dL_heads_108 : decode cL_heads 108 = .ok (.iload_n 3, 1) := by decide +kernel
theorem dL_heads_109 : decode cL_heads 109 = .ok (.iconst 1, 1) := by decide +kernel
theorem dL_heads_110 : decode cL_heads 110 = .ok (.invokestatic 133, 3) := by decide +kernel
theorem dL_heads_113 : decode cL_heads 113 = .ok (.ireturn, 1) := by decide +kernel
theorem wd1265 : Cond.classLink RL 156 RJ4 ∈ gW := gW_in 1265 (by decide +kernel) (by decide +kernel)
theorem wd1266 : Cond.methodLink RL 158 yJ4_init_da8c8 ∈ gW := gW_in 1266 (by decide +kernel) (by decide +kernel)
theorem wd1268 : Cond.methodLink RL 161 yJ4_append_15ec4 ∈ gW := gW_in 1268 (by decide +kernel) (by decide +kernel)
theorem wd1269 : Cond.methodLink RL 164 yJ4_append_bf812 ∈ gW := gW_in 1269 (by decide +kernel) (by decide +kernel)
theorem wd336 : Cond.code yJ4_toString_0e30d cJ4_toString_0e30d 1 (some (.object "java/lang/String")) ∈ gW := gW_in 336 (by decide +kernel) (by decide +kernel)
theorem mvJ4_toString_0e30d : MV yJ4_toString_0e30d cJ4_toString_0e30d 1 (some (.object "java/lang/String")) 0 := ⟨wd336, wd34, by decide +kernel, by decide +kernel, by decide +kernel, by decide⟩
theorem wd334 : Cond.instanceMethod yJ4_toString_0e30d ∈ gW := gW_in 334 (by decide +kernel) (by decide +kernel)
theorem wd335 : Cond.selects yJ4_toString_0e30d.cls yJ4_toString_0e30d yJ4_toString_0e30d ∈ gW := gW_in 335 (by decide +kernel) (by decide +kernel)
theorem wd1271 : Cond.methodLink RL 169 yJ4_toString_0e30d ∈ gW := gW_in 1271 (by decide +kernel) (by decide +kernel)
theorem wd1281 : Cond.code yL_does cL_does 4 (some .int) ∈ gW := gW_in 1281 (by decide +kernel) (by decide +kernel)
theorem mvL_does : MV yL_does cL_does 4 (some .int) 2 := ⟨wd1281, wd22, by decide +kernel, by decide +kernel, by decide +kernel, by decide⟩
theorem wd1280 : Cond.static yL_does ∈ gW := gW_in 1280 (by decide +kernel) (by decide +kernel)
theorem wd1279 : Cond.methodLink RL 187 yL_does ∈ gW := gW_in 1279 (by decide +kernel) (by decide +kernel)
theorem wd736 : Cond.codeWith yL_endDay cL_endDay 2 (some .int) [(0, 4, 5, 18)] ∈ gW := gW_in 736 (by decide +kernel) (by decide +kernel)
theorem mvwL_endDay : MVW yL_endDay cL_endDay 2 (some .int) [(0, 4, 5, 18)] 1 := ⟨wd736, wd22, by decide +kernel, by decide +kernel, by decide +kernel, by decide⟩
theorem wd735 : Cond.static yL_endDay ∈ gW := gW_in 735 (by decide +kernel) (by decide +kernel)
theorem wd734 : Cond.methodLink RL 154 yL_endDay ∈ gW := gW_in 734 (by decide +kernel) (by decide +kernel)
theorem wd1246 : Cond.codeWith yL_climb cL_climb 4 (some .int) [(0, 6, 7, 25), (0, 6, 11, 15), (0, 6, 15, 18), (0, 6, 19, 27)] ∈ gW := gW_in 1246 (by decide +kernel) (by decide +kernel)
theorem mvwL_climb : MVW yL_climb cL_climb 4 (some .int) [(0, 6, 7, 25), (0, 6, 11, 15), (0, 6, 15, 18), (0, 6, 19, 27)] 3 := ⟨wd1246, wd22, by decide +kernel, by decide +kernel, by decide +kernel, by decide⟩
theorem wd1245 : Cond.static yL_climb ∈ gW := gW_in 1245 (by decide +kernel) (by decide +kernel)
theorem wd1244 : Cond.methodLink RL 152 yL_climb ∈ gW := gW_in 1244 (by decide +kernel) (by decide +kernel)
theorem wd1234 : Cond.code yX9_pilotCount cX9_pilotCount 1 (some .int) ∈ gW := gW_in 1234 (by decide +kernel) (by decide +kernel)
theorem mvX9_pilotCount : MV yX9_pilotCount cX9_pilotCount 1 (some .int) 0 := ⟨wd1234, wd23, by decide +kernel, by decide +kernel, by decide +kernel, by decide⟩
theorem wd1232 : Cond.instanceMethod yX9_pilotCount ∈ gW := gW_in 1232 (by decide +kernel) (by decide +kernel)
theorem wd1233 : Cond.selects yX9_pilotCount.cls yX9_pilotCount yX9_pilotCount ∈ gW := gW_in 1233 (by decide +kernel) (by decide +kernel)
theorem wd1231 : Cond.methodLink RL 141 yX9_pilotCount ∈ gW := gW_in 1231 (by decide +kernel) (by decide +kernel)
theorem wd1235 : Cond.methodLink RL 144 Lib.Math.max.name ∈ gW := gW_in 1235 (by decide +kernel) (by decide +kernel)
theorem wd1238 : Cond.code yL_heads cL_heads 8 (some .int) ∈ gW := gW_in 1238 (by decide +kernel) (by decide +kernel)
theorem mvL_heads : MV yL_heads cL_heads 8 (some .int) 3 := ⟨wd1238, wd22, by decide +kernel, by decide +kernel, by decide +kernel, by decide⟩
theorem wd1237 : Cond.static yL_heads ∈ gW := gW_in 1237 (by decide +kernel) (by decide +kernel)
theorem wd1236 : Cond.methodLink RL 149 yL_heads ∈ gW := gW_in 1236 (by decide +kernel) (by decide +kernel)
theorem wd1220 : Cond.codeWith yL_clearTask cL_clearTask 2 (some .int) [(0, 4, 5, 18)] ∈ gW := gW_in 1220 (by decide +kernel) (by decide +kernel)
theorem mvwL_clearTask : MVW yL_clearTask cL_clearTask 2 (some .int) [(0, 4, 5, 18)] 1 := ⟨wd1220, wd22, by decide +kernel, by decide +kernel, by decide +kernel, by decide⟩
theorem wd1219 : Cond.static yL_clearTask ∈ gW := gW_in 1219 (by decide +kernel) (by decide +kernel)
theorem wd1218 : Cond.methodLink RL 139 yL_clearTask ∈ gW := gW_in 1218 (by decide +kernel) (by decide +kernel)
theorem dL_acts_0 : decode cL_acts 0 = .ok (.aload_n 1, 1) := by decide +kernel
theorem dL_acts_1 : decode cL_acts 1 = .ok (.iload_n 2, 1) := by decide +kernel
theorem dL_acts_2 : decode cL_acts 2 = .ok (.iconst 1, 1) := by decide +kernel
theorem dL_acts_3 : decode cL_acts 3 = .ok (.iadd, 1) := by decide +kernel
theorem dL_acts_4 : decode cL_acts 4 = .ok (.bipush 7, 2) := by decide +kernel
theorem dL_acts_6 : decode cL_acts 6 = .ok (.invokestatic 106, 3) := by decide +kernel
theorem dL_acts_9 : decode cL_acts 9 = .ok (.istore_n 3, 1) := by decide +kernel
theorem dL_acts_10 : decode cL_acts 10 = .ok (.aload_n 1, 1) := by decide +kernel
theorem dL_acts_11 : decode cL_acts 11 = .ok (.iload_n 2, 1) := by decide +kernel
theorem dL_acts_12 : decode cL_acts 12 = .ok (.iconst 2, 1) := by decide +kernel
theorem dL_acts_13 : decode cL_acts 13 = .ok (.iadd, 1) := by decide +kernel
theorem dL_acts_14 : decode cL_acts 14 = .ok (.bipush 62, 2) := by decide +kernel
theorem dL_acts_16 : decode cL_acts 16 = .ok (.invokestatic 106, 3) := by decide +kernel
theorem dL_acts_19 : decode cL_acts 19 = .ok (.istore 4, 2) := by decide +kernel
theorem dL_acts_21 : decode cL_acts 21 = .ok (.aload_n 1, 1) := by decide +kernel
theorem dL_acts_22 : decode cL_acts 22 = .ok (.iload_n 2, 1) := by decide +kernel
theorem dL_acts_23 : decode cL_acts 23 = .ok (.iconst 3, 1) := by decide +kernel
theorem dL_acts_24 : decode cL_acts 24 = .ok (.iadd, 1) := by decide +kernel
theorem dL_acts_25 : decode cL_acts 25 = .ok (.bipush 30, 2) := by decide +kernel
theorem dL_acts_27 : decode cL_acts 27 = .ok (.invokestatic 106, 3) := by decide +kernel
theorem dL_acts_30 : decode cL_acts 30 = .ok (.istore 5, 2) := by decide +kernel
theorem dL_acts_32 : decode cL_acts 32 = .ok (.aload_n 1, 1) := by decide +kernel
theorem dL_acts_33 : decode cL_acts 33 = .ok (.iload_n 2, 1) := by decide +kernel
theorem dL_acts_34 : decode cL_acts 34 = .ok (.bipush 26, 2) := by decide +kernel
theorem dL_acts_36 : decode cL_acts 36 = .ok (.invokestatic 106, 3) := by decide +kernel
theorem dL_acts_39 : decode cL_acts 39 = .ok (.tableswitch 228 0 21 #[101, 112, 112, 118, 123, 133, 147, 166, 178, 178, 178, 184, 184, 184, 196, 196, 196, 196, 215, 215, 215, 223], 101) := by decide +kernel
theorem dL_acts_140 : decode cL_acts 140 = .ok (.aload_n 0, 1) := by decide +kernel
theorem dL_acts_141 : decode cL_acts 141 = .ok (.iload 4, 2) := by decide +kernel
theorem dL_acts_143 : decode cL_acts 143 = .ok (.iconst 2, 1) := by decide +kernel
theorem dL_acts_144 : decode cL_acts 144 = .ok (.iload 5, 2) := by decide +kernel
theorem dL_acts_146 : decode cL_acts 146 = .ok (.imul, 1) := by decide +kernel
theorem dL_acts_147 : decode cL_acts 147 = .ok (.invokestatic 110, 3) := by decide +kernel
theorem dL_acts_150 : decode cL_acts 150 = .ok (.ireturn, 1) := by decide +kernel
theorem dL_acts_151 : decode cL_acts 151 = .ok (.aload_n 0, 1) := by decide +kernel
theorem dL_acts_152 : decode cL_acts 152 = .ok (.iload_n 3, 1) := by decide +kernel
theorem dL_acts_153 : decode cL_acts 153 = .ok (.invokestatic 113, 3) := by decide +kernel
theorem dL_acts_156 : decode cL_acts 156 = .ok (.ireturn, 1) := by decide +kernel
theorem dL_acts_157 : decode cL_acts 157 = .ok (.aload_n 0, 1) := by decide +kernel
theorem dL_acts_158 : decode cL_acts 158 = .ok (.invokestatic 139, 3) := by decide +kernel
theorem dL_acts_161 : decode cL_acts 161 = .ok (.ireturn, 1) := by decide +kernel
theorem dL_acts_162 : decode cL_acts 162 = .ok (.aload_n 0, 1) := by decide +kernel
theorem dL_acts_163 : decode cL_acts 163 = .ok (.iload 4, 2) := by decide +kernel
theorem dL_acts_165 : decode cL_acts 165 = .ok (.iload 5, 2) := by decide +kernel
theorem dL_acts_167 : decode cL_acts 167 = .ok (.iload_n 3, 1) := by decide +kernel
theorem dL_acts_168 : decode cL_acts 168 = .ok (.invokestatic 116, 3) := by decide +kernel
theorem dL_acts_171 : decode cL_acts 171 = .ok (.ireturn, 1) := by decide +kernel
theorem dL_acts_172 : decode cL_acts 172 = .ok (.aload_n 0, 1) := by decide +kernel
theorem dL_acts_173 : decode cL_acts 173 = .ok (.bipush 100, 2) := by decide +kernel
theorem dL_acts_175 : decode cL_acts 175 = .ok (.iload 5, 2) := by decide +kernel
theorem dL_acts_177 : decode cL_acts 177 = .ok (.imul, 1) := by decide +kernel
theorem dL_acts_178 : decode cL_acts 178 = .ok (.sipush 300, 3) := by decide +kernel
theorem dL_acts_181 : decode cL_acts 181 = .ok (.iadd, 1) := by decide +kernel
theorem dL_acts_182 : decode cL_acts 182 = .ok (.invokestatic 124, 3) := by decide +kernel
theorem dL_acts_185 : decode cL_acts 185 = .ok (.ireturn, 1) := by decide +kernel
theorem dL_acts_186 : decode cL_acts 186 = .ok (.aload_n 0, 1) := by decide +kernel
theorem dL_acts_187 : decode cL_acts 187 = .ok (.iload 4, 2) := by decide +kernel
theorem dL_acts_189 : decode cL_acts 189 = .ok (.iload 5, 2) := by decide +kernel
theorem dL_acts_191 : decode cL_acts 191 = .ok (.iload 4, 2) := by decide +kernel
theorem dL_acts_193 : decode cL_acts 193 = .ok (.iload_n 3, 1) := by decide +kernel
theorem dL_acts_194 : decode cL_acts 194 = .ok (.iadd, 1) := by decide +kernel
theorem dL_acts_195 : decode cL_acts 195 = .ok (.iconst 1, 1) := by decide +kernel
theorem dL_acts_196 : decode cL_acts 196 = .ok (.isub, 1) := by decide +kernel
theorem dL_acts_197 : decode cL_acts 197 = .ok (.iload 5, 2) := by decide +kernel
theorem dL_acts_199 : decode cL_acts 199 = .ok (.iload_n 3, 1) := by decide +kernel
theorem dL_acts_200 : decode cL_acts 200 = .ok (.iadd, 1) := by decide +kernel
theorem dL_acts_201 : decode cL_acts 201 = .ok (.invokestatic 121, 3) := by decide +kernel
theorem dL_acts_204 : decode cL_acts 204 = .ok (.ireturn, 1) := by decide +kernel
theorem dL_acts_205 : decode cL_acts 205 = .ok (.aload_n 0, 1) := by decide +kernel
theorem dL_acts_206 : decode cL_acts 206 = .ok (.iconst 2, 1) := by decide +kernel
theorem dL_acts_207 : decode cL_acts 207 = .ok (.iload 5, 2) := by decide +kernel
theorem dL_acts_209 : decode cL_acts 209 = .ok (.imul, 1) := by decide +kernel
theorem dL_acts_210 : decode cL_acts 210 = .ok (.bipush 10, 2) := by decide +kernel
theorem dL_acts_212 : decode cL_acts 212 = .ok (.iadd, 1) := by decide +kernel
theorem dL_acts_213 : decode cL_acts 213 = .ok (.invokestatic 119, 3) := by decide +kernel
theorem dL_acts_216 : decode cL_acts 216 = .ok (.ireturn, 1) := by decide +kernel
theorem dL_acts_217 : decode cL_acts 217 = .ok (.aload_n 0, 1) := by decide +kernel
theorem dL_acts_218 : decode cL_acts 218 = .ok (.iload_n 3, 1) := by decide +kernel
theorem dL_acts_219 : decode cL_acts 219 = .ok (.invokestatic 126, 3) := by decide +kernel
theorem dL_acts_222 : decode cL_acts 222 = .ok (.ireturn, 1) := by decide +kernel
theorem dL_acts_223 : decode cL_acts 223 = .ok (.aload_n 0, 1) := by decide +kernel
theorem dL_acts_224 : decode cL_acts 224 = .ok (.iload_n 3, 1) := by decide +kernel
theorem dL_acts_225 : decode cL_acts 225 = .ok (.iload 4, 2) := by decide +kernel
theorem dL_acts_227 : decode cL_acts 227 = .ok (.iconst 5, 1) := by decide +kernel
theorem dL_acts_228 : decode cL_acts 228 = .ok (.irem, 1) := by decide +kernel
theorem dL_acts_229 : decode cL_acts 229 = .ok (.iload 5, 2) := by decide +kernel
theorem dL_acts_231 : decode cL_acts 231 = .ok (.invokestatic 133, 3) := by decide +kernel
theorem dL_acts_234 : decode cL_acts 234 = .ok (.ireturn, 1) := by decide +kernel
theorem dL_acts_235 : decode cL_acts 235 = .ok (.aload_n 0, 1) := by decide +kernel
theorem dL_acts_236 : decode cL_acts 236 = .ok (.iload_n 3, 1) := by decide +kernel
theorem dL_acts_237 : decode cL_acts 237 = .ok (.iconst 5, 1) := by decide +kernel
theorem dL_acts_238 : decode cL_acts 238 = .ok (.irem, 1) := by decide +kernel
theorem dL_acts_239 : decode cL_acts 239 = .ok (.iconst 1, 1) := by decide +kernel
theorem dL_acts_240 : decode cL_acts 240 = .ok (.aload_n 0, 1) := by decide +kernel
theorem dL_acts_241 : decode cL_acts 241 = .ok (.invokevirtual 141, 3) := by decide +kernel
theorem dL_acts_244 : decode cL_acts 244 = .ok (.invokestatic 144, 3) := by decide +kernel
theorem dL_acts_247 : decode cL_acts 247 = .ok (.irem, 1) := by decide +kernel
theorem dL_acts_248 : decode cL_acts 248 = .ok (.iload 5, 2) := by decide +kernel
theorem dL_acts_250 : decode cL_acts 250 = .ok (.invokestatic 149, 3) := by decide +kernel
theorem dL_acts_253 : decode cL_acts 253 = .ok (.ireturn, 1) := by decide +kernel
theorem dL_acts_254 : decode cL_acts 254 = .ok (.aload_n 0, 1) := by decide +kernel
theorem dL_acts_255 : decode cL_acts 255 = .ok (.iload_n 3, 1) := by decide +kernel
theorem dL_acts_256 : decode cL_acts 256 = .ok (.iload 5, 2) := by decide +kernel
theorem dL_acts_258 : decode cL_acts 258 = .ok (.invokestatic 152, 3) := by decide +kernel
theorem dL_acts_261 : decode cL_acts 261 = .ok (.ireturn, 1) := by decide +kernel
theorem dL_acts_262 : decode cL_acts 262 = .ok (.aload_n 0, 1) := by decide +kernel
theorem dL_acts_263 : decode cL_acts 263 = .ok (.invokestatic 154, 3) := by decide +kernel
theorem dL_acts_266 : decode cL_acts 266 = .ok (.ireturn, 1) := by decide +kernel
theorem dL_acts_267 : decode cL_acts 267 = .ok (.aload_n 0, 1) := by decide +kernel
theorem dL_acts_268 : decode cL_acts 268 = .ok (.new 156, 3) := by decide +kernel
theorem dL_acts_271 : decode cL_acts 271 = .ok (.dup, 1) := by decide +kernel
theorem dL_acts_272 : decode cL_acts 272 = .ok (.invokespecial 158, 3) := by decide +kernel
theorem dL_acts_275 : decode cL_acts 275 = .ok (.iload 5, 2) := by decide +kernel
theorem dL_acts_277 : decode cL_acts 277 = .ok (.iconst 2, 1) := by decide +kernel
theorem dL_acts_278 : decode cL_acts 278 = .ok (.irem, 1) := by decide +kernel
theorem dL_acts_279 : decode cL_acts 279 = .ok (.ifCond .ne 30, 3) := by decide +kernel
theorem dL_acts_282 : decode cL_acts 282 = .ok (.new 156, 3) := by decide +kernel
theorem dL_acts_285 : decode cL_acts 285 = .ok (.dup, 1) := by decide +kernel
theorem dL_acts_286 : decode cL_acts 286 = .ok (.invokespecial 158, 3) := by decide +kernel
theorem dL_acts_289 : decode cL_acts 289 = .ok (.ldc 159, 2) := by decide +kernel
theorem dL_acts_291 : decode cL_acts 291 = .ok (.invokevirtual 161, 3) := by decide +kernel
theorem dL_acts_294 : decode cL_acts 294 = .ok (.iload_n 3, 1) := by decide +kernel
theorem dL_acts_295 : decode cL_acts 295 = .ok (.invokevirtual 164, 3) := by decide +kernel
theorem dL_acts_298 : decode cL_acts 298 = .ok (.ldc 167, 2) := by decide +kernel
theorem dL_acts_300 : decode cL_acts 300 = .ok (.invokevirtual 161, 3) := by decide +kernel
theorem dL_acts_303 : decode cL_acts 303 = .ok (.invokevirtual 169, 3) := by decide +kernel
theorem dL_acts_306 : decode cL_acts 306 = .ok (.goto 37, 3) := by decide +kernel
theorem dL_acts_309 : decode cL_acts 309 = .ok (.new 156, 3) := by decide +kernel
theorem dL_acts_312 : decode cL_acts 312 = .ok (.dup, 1) := by decide +kernel
theorem dL_acts_313 : decode cL_acts 313 = .ok (.invokespecial 158, 3) := by decide +kernel
theorem dL_acts_316 : decode cL_acts 316 = .ok (.ldc 173, 2) := by decide +kernel
theorem dL_acts_318 : decode cL_acts 318 = .ok (.invokevirtual 161, 3) := by decide +kernel
theorem dL_acts_321 : decode cL_acts 321 = .ok (.iload_n 3, 1) := by decide +kernel
theorem dL_acts_322 : decode cL_acts 322 = .ok (.invokevirtual 164, 3) := by decide +kernel
theorem dL_acts_325 : decode cL_acts 325 = .ok (.ldc 175, 2) := by decide +kernel
theorem dL_acts_327 : decode cL_acts 327 = .ok (.invokevirtual 161, 3) := by decide +kernel
theorem dL_acts_330 : decode cL_acts 330 = .ok (.iload 5, 2) := by decide +kernel
theorem dL_acts_332 : decode cL_acts 332 = .ok (.invokevirtual 164, 3) := by decide +kernel
theorem dL_acts_335 : decode cL_acts 335 = .ok (.ldc 167, 2) := by decide +kernel
theorem dL_acts_337 : decode cL_acts 337 = .ok (.invokevirtual 161, 3) := by decide +kernel
theorem dL_acts_340 : decode cL_acts 340 = .ok (.invokevirtual 169, 3) := by decide +kernel
theorem dL_acts_343 : decode cL_acts 343 = .ok (.invokevirtual 161, 3) := by decide +kernel
theorem dL_acts_346 : decode cL_acts 346 = .ok (.iload 4, 2) := by decide +kernel
theorem dL_acts_348 : decode cL_acts 348 = .ok (.iconst 3, 1) := by decide +kernel
theorem dL_acts_349 : decode cL_acts 349 = .ok (.irem, 1) := by decide +kernel
theorem dL_acts_350 : decode cL_acts 350 = .ok (.ifCond .ne 35, 3) := by decide +kernel
theorem dL_acts_353 : decode cL_acts 353 = .ok (.new 156, 3) := by decide +kernel
theorem dL_acts_356 : decode cL_acts 356 = .ok (.dup, 1) := by decide +kernel
theorem dL_acts_357 : decode cL_acts 357 = .ok (.invokespecial 158, 3) := by decide +kernel
theorem dL_acts_360 : decode cL_acts 360 = .ok (.ldc 177, 2) := by decide +kernel
theorem dL_acts_362 : decode cL_acts 362 = .ok (.invokevirtual 161, 3) := by decide +kernel
theorem dL_acts_365 : decode cL_acts 365 = .ok (.iload_n 3, 1) := by decide +kernel
theorem dL_acts_366 : decode cL_acts 366 = .ok (.invokevirtual 164, 3) := by decide +kernel
theorem dL_acts_369 : decode cL_acts 369 = .ok (.ldc 179, 2) := by decide +kernel
theorem dL_acts_371 : decode cL_acts 371 = .ok (.invokevirtual 161, 3) := by decide +kernel
theorem dL_acts_374 : decode cL_acts 374 = .ok (.iload 5, 2) := by decide +kernel
theorem dL_acts_376 : decode cL_acts 376 = .ok (.invokevirtual 164, 3) := by decide +kernel
theorem dL_acts_379 : decode cL_acts 379 = .ok (.invokevirtual 169, 3) := by decide +kernel
theorem dL_acts_382 : decode cL_acts 382 = .ok (.goto 71, 3) := by decide +kernel
theorem dL_acts_385 : decode cL_acts 385 = .ok (.iload 4, 2) := by decide +kernel
theorem dL_acts_387 : decode cL_acts 387 = .ok (.iconst 3, 1) := by decide +kernel
theorem dL_acts_388 : decode cL_acts 388 = .ok (.irem, 1) := by decide +kernel
theorem dL_acts_389 : decode cL_acts 389 = .ok (.iconst 1, 1) := by decide +kernel
theorem dL_acts_390 : decode cL_acts 390 = .ok (.if_icmp .ne 40, 3) := by decide +kernel
theorem dL_acts_393 : decode cL_acts 393 = .ok (.new 156, 3) := by decide +kernel
theorem dL_acts_396 : decode cL_acts 396 = .ok (.dup, 1) := by decide +kernel
theorem dL_acts_397 : decode cL_acts 397 = .ok (.invokespecial 158, 3) := by decide +kernel
theorem dL_acts_400 : decode cL_acts 400 = .ok (.ldc 177, 2) := by decide +kernel
theorem dL_acts_402 : decode cL_acts 402 = .ok (.invokevirtual 161, 3) := by decide +kernel
theorem dL_acts_405 : decode cL_acts 405 = .ok (.iload_n 3, 1) := by decide +kernel
theorem dL_acts_406 : decode cL_acts 406 = .ok (.invokevirtual 164, 3) := by decide +kernel
theorem dL_acts_409 : decode cL_acts 409 = .ok (.ldc 181, 2) := by decide +kernel
theorem dL_acts_411 : decode cL_acts 411 = .ok (.invokevirtual 161, 3) := by decide +kernel
theorem dL_acts_414 : decode cL_acts 414 = .ok (.iload 5, 2) := by decide +kernel
theorem dL_acts_416 : decode cL_acts 416 = .ok (.invokevirtual 164, 3) := by decide +kernel
theorem dL_acts_419 : decode cL_acts 419 = .ok (.ldc 183, 2) := by decide +kernel
theorem dL_acts_421 : decode cL_acts 421 = .ok (.invokevirtual 161, 3) := by decide +kernel
theorem dL_acts_424 : decode cL_acts 424 = .ok (.invokevirtual 169, 3) := by decide +kernel
theorem dL_acts_427 : decode cL_acts 427 = .ok (.goto 26, 3) := by decide +kernel
theorem dL_acts_430 : decode cL_acts 430 = .ok (.new 156, 3) := by decide +kernel
theorem dL_acts_433 : decode cL_acts 433 = .ok (.dup, 1) := by decide +kernel
theorem dL_acts_434 : decode cL_acts 434 = .ok (.invokespecial 158, 3) := by decide +kernel
theorem dL_acts_437 : decode cL_acts 437 = .ok (.ldc 185, 2) := by decide +kernel
theorem dL_acts_439 : decode cL_acts 439 = .ok (.invokevirtual 161, 3) := by decide +kernel
theorem dL_acts_442 : decode cL_acts 442 = .ok (.bipush 20, 2) := by decide +kernel
theorem dL_acts_444 : decode cL_acts 444 = .ok (.iload 5, 2) := by decide +kernel
theorem dL_acts_446 : decode cL_acts 446 = .ok (.iadd, 1) := by decide +kernel
theorem dL_acts_447 : decode cL_acts 447 = .ok (.invokevirtual 164, 3) := by decide +kernel
theorem dL_acts_450 : decode cL_acts 450 = .ok (.invokevirtual 169, 3) := by decide +kernel
theorem dL_acts_453 : decode cL_acts 453 = .ok (.invokevirtual 161, 3) := by decide +kernel
theorem dL_acts_456 : decode cL_acts 456 = .ok (.invokevirtual 169, 3) := by decide +kernel
theorem dL_acts_459 : decode cL_acts 459 = .ok (.invokestatic 187, 3) := by decide +kernel
theorem dL_acts_462 : decode cL_acts 462 = .ok (.ireturn, 1) := by decide +kernel
theorem wd1391 : Cond.code yX9_pointCount cX9_pointCount 1 (some .int) ∈ gW := gW_in 1391 (by decide +kernel) (by decide +kernel)
theorem mvX9_pointCount : MV yX9_pointCount cX9_pointCount 1 (some .int) 0 := ⟨wd1391, wd23, by decide +kernel, by decide +kernel, by decide +kernel, by decide⟩
theorem wd1389 : Cond.instanceMethod yX9_pointCount ∈ gW := gW_in 1389 (by decide +kernel) (by decide +kernel)
theorem wd1390 : Cond.selects yX9_pointCount.cls yX9_pointCount yX9_pointCount ∈ gW := gW_in 1390 (by decide +kernel) (by decide +kernel)
theorem wd1388 : Cond.methodLink RL 191 yX9_pointCount ∈ gW := gW_in 1388 (by decide +kernel) (by decide +kernel)
theorem wd1395 : Cond.code yX9_taskLength cX9_taskLength 1 (some .int) ∈ gW := gW_in 1395 (by decide +kernel) (by decide +kernel)
theorem mvX9_taskLength : MV yX9_taskLength cX9_taskLength 1 (some .int) 0 := ⟨wd1395, wd23, by decide +kernel, by decide +kernel, by decide +kernel, by decide⟩
theorem wd1393 : Cond.instanceMethod yX9_taskLength ∈ gW := gW_in 1393 (by decide +kernel) (by decide +kernel)
theorem wd1394 : Cond.selects yX9_taskLength.cls yX9_taskLength yX9_taskLength ∈ gW := gW_in 1394 (by decide +kernel) (by decide +kernel)
theorem wd1392 : Cond.methodLink RL 194 yX9_taskLength ∈ gW := gW_in 1392 (by decide +kernel) (by decide +kernel)
theorem wd1399 : Cond.code yX9_cloudBase cX9_cloudBase 1 (some .int) ∈ gW := gW_in 1399 (by decide +kernel) (by decide +kernel)
theorem mvX9_cloudBase : MV yX9_cloudBase cX9_cloudBase 1 (some .int) 0 := ⟨wd1399, wd23, by decide +kernel, by decide +kernel, by decide +kernel, by decide⟩
theorem wd1397 : Cond.instanceMethod yX9_cloudBase ∈ gW := gW_in 1397 (by decide +kernel) (by decide +kernel)
theorem wd1398 : Cond.selects yX9_cloudBase.cls yX9_cloudBase yX9_cloudBase ∈ gW := gW_in 1398 (by decide +kernel) (by decide +kernel)
theorem wd1396 : Cond.methodLink RL 197 yX9_cloudBase ∈ gW := gW_in 1396 (by decide +kernel) (by decide +kernel)
theorem wd1403 : Cond.code yX9_days cX9_days 1 (some .int) ∈ gW := gW_in 1403 (by decide +kernel) (by decide +kernel)
theorem mvX9_days : MV yX9_days cX9_days 1 (some .int) 0 := ⟨wd1403, wd23, by decide +kernel, by decide +kernel, by decide +kernel, by decide⟩
theorem wd1401 : Cond.instanceMethod yX9_days ∈ gW := gW_in 1401 (by decide +kernel) (by decide +kernel)
theorem wd1402 : Cond.selects yX9_days.cls yX9_days yX9_days ∈ gW := gW_in 1402 (by decide +kernel) (by decide +kernel)
theorem wd1400 : Cond.methodLink RL 200 yX9_days ∈ gW := gW_in 1400 (by decide +kernel) (by decide +kernel)
theorem wd1407 : Cond.code yX9_taskDistance cX9_taskDistance 1 (some .int) ∈ gW := gW_in 1407 (by decide +kernel) (by decide +kernel)
theorem mvX9_taskDistance : MV yX9_taskDistance cX9_taskDistance 1 (some .int) 0 := ⟨wd1407, wd23, by decide +kernel, by decide +kernel, by decide +kernel, by decide⟩
theorem wd1405 : Cond.instanceMethod yX9_taskDistance ∈ gW := gW_in 1405 (by decide +kernel) (by decide +kernel)
theorem wd1406 : Cond.selects yX9_taskDistance.cls yX9_taskDistance yX9_taskDistance ∈ gW := gW_in 1406 (by decide +kernel) (by decide +kernel)
theorem wd1404 : Cond.methodLink RL 203 yX9_taskDistance ∈ gW := gW_in 1404 (by decide +kernel) (by decide +kernel)
theorem wd1418 : Cond.code yX9_sink cX9_sink 2 (some .int) ∈ gW := gW_in 1418 (by decide +kernel) (by decide +kernel)
theorem mvX9_sink : MV yX9_sink cX9_sink 2 (some .int) 1 := ⟨wd1418, wd23, by decide +kernel, by decide +kernel, by decide +kernel, by decide⟩
theorem wd1416 : Cond.instanceMethod yX9_sink ∈ gW := gW_in 1416 (by decide +kernel) (by decide +kernel)
theorem wd1417 : Cond.selects yX9_sink.cls yX9_sink yX9_sink ∈ gW := gW_in 1417 (by decide +kernel) (by decide +kernel)
theorem wd1415 : Cond.methodLink RL 209 yX9_sink ∈ gW := gW_in 1415 (by decide +kernel) (by decide +kernel)
theorem wd1423 : Cond.code yX9_isLanded cX9_isLanded 2 (some .boolean) ∈ gW := gW_in 1423 (by decide +kernel) (by decide +kernel)
theorem mvX9_isLanded : MV yX9_isLanded cX9_isLanded 2 (some .boolean) 1 := ⟨wd1423, wd23, by decide +kernel, by decide +kernel, by decide +kernel, by decide⟩
theorem wd1421 : Cond.instanceMethod yX9_isLanded ∈ gW := gW_in 1421 (by decide +kernel) (by decide +kernel)
theorem wd1422 : Cond.selects yX9_isLanded.cls yX9_isLanded yX9_isLanded ∈ gW := gW_in 1422 (by decide +kernel) (by decide +kernel)
theorem wd1420 : Cond.methodLink RL 212 yX9_isLanded ∈ gW := gW_in 1420 (by decide +kernel) (by decide +kernel)
theorem wd1428 : Cond.code yX9_isFinished cX9_isFinished 2 (some .boolean) ∈ gW := gW_in 1428 (by decide +kernel) (by decide +kernel)
theorem mvX9_isFinished : MV yX9_isFinished cX9_isFinished 2 (some .boolean) 1 := ⟨wd1428, wd23, by decide +kernel, by decide +kernel, by decide +kernel, by decide⟩
theorem wd1426 : Cond.instanceMethod yX9_isFinished ∈ gW := gW_in 1426 (by decide +kernel) (by decide +kernel)
theorem wd1427 : Cond.selects yX9_isFinished.cls yX9_isFinished yX9_isFinished ∈ gW := gW_in 1427 (by decide +kernel) (by decide +kernel)
theorem wd1425 : Cond.methodLink RL 215 yX9_isFinished ∈ gW := gW_in 1425 (by decide +kernel) (by decide +kernel)
theorem wd1433 : Cond.code yX9_total cX9_total 2 (some .long) ∈ gW := gW_in 1433 (by decide +kernel) (by decide +kernel)
theorem mvX9_total : MV yX9_total cX9_total 2 (some .long) 1 := ⟨wd1433, wd23, by decide +kernel, by decide +kernel, by decide +kernel, by decide⟩
theorem wd1431 : Cond.instanceMethod yX9_total ∈ gW := gW_in 1431 (by decide +kernel) (by decide +kernel)
theorem wd1432 : Cond.selects yX9_total.cls yX9_total yX9_total ∈ gW := gW_in 1432 (by decide +kernel) (by decide +kernel)
theorem wd1430 : Cond.methodLink RL 218 yX9_total ∈ gW := gW_in 1430 (by decide +kernel) (by decide +kernel)
theorem wd1437 : Cond.code yX9_reached cX9_reached 2 (some .int) ∈ gW := gW_in 1437 (by decide +kernel) (by decide +kernel)
theorem mvX9_reached : MV yX9_reached cX9_reached 2 (some .int) 1 := ⟨wd1437, wd23, by decide +kernel, by decide +kernel, by decide +kernel, by decide⟩
theorem wd1435 : Cond.instanceMethod yX9_reached ∈ gW := gW_in 1435 (by decide +kernel) (by decide +kernel)
theorem wd1436 : Cond.selects yX9_reached.cls yX9_reached yX9_reached ∈ gW := gW_in 1436 (by decide +kernel) (by decide +kernel)
theorem wd1434 : Cond.methodLink RL 222 yX9_reached ∈ gW := gW_in 1434 (by decide +kernel) (by decide +kernel)
theorem wd1441 : Cond.code yX9_x cX9_x 2 (some .int) ∈ gW := gW_in 1441 (by decide +kernel) (by decide +kernel)
theorem mvX9_x : MV yX9_x cX9_x 2 (some .int) 1 := ⟨wd1441, wd23, by decide +kernel, by decide +kernel, by decide +kernel, by decide⟩
theorem wd1439 : Cond.instanceMethod yX9_x ∈ gW := gW_in 1439 (by decide +kernel) (by decide +kernel)
theorem wd1440 : Cond.selects yX9_x.cls yX9_x yX9_x ∈ gW := gW_in 1440 (by decide +kernel) (by decide +kernel)
theorem wd1438 : Cond.methodLink RL 225 yX9_x ∈ gW := gW_in 1438 (by decide +kernel) (by decide +kernel)
theorem wd1450 : Cond.code yX9_y cX9_y 2 (some .int) ∈ gW := gW_in 1450 (by decide +kernel) (by decide +kernel)
theorem mvX9_y : MV yX9_y cX9_y 2 (some .int) 1 := ⟨wd1450, wd23, by decide +kernel, by decide +kernel, by decide +kernel, by decide⟩
theorem wd1448 : Cond.instanceMethod yX9_y ∈ gW := gW_in 1448 (by decide +kernel) (by decide +kernel)
theorem wd1449 : Cond.selects yX9_y.cls yX9_y yX9_y ∈ gW := gW_in 1449 (by decide +kernel) (by decide +kernel)
theorem wd1447 : Cond.methodLink RL 228 yX9_y ∈ gW := gW_in 1447 (by decide +kernel) (by decide +kernel)
theorem wd1454 : Cond.code yX9_height cX9_height 2 (some .int) ∈ gW := gW_in 1454 (by decide +kernel) (by decide +kernel)
theorem mvX9_height : MV yX9_height cX9_height 2 (some .int) 1 := ⟨wd1454, wd23, by decide +kernel, by decide +kernel, by decide +kernel, by decide⟩
theorem wd1452 : Cond.instanceMethod yX9_height ∈ gW := gW_in 1452 (by decide +kernel) (by decide +kernel)
theorem wd1453 : Cond.selects yX9_height.cls yX9_height yX9_height ∈ gW := gW_in 1453 (by decide +kernel) (by decide +kernel)
theorem wd1451 : Cond.methodLink RL 231 yX9_height ∈ gW := gW_in 1451 (by decide +kernel) (by decide +kernel)
theorem wd1458 : Cond.code yX9_minutes cX9_minutes 2 (some .int) ∈ gW := gW_in 1458 (by decide +kernel) (by decide +kernel)
theorem mvX9_minutes : MV yX9_minutes cX9_minutes 2 (some .int) 1 := ⟨wd1458, wd23, by decide +kernel, by decide +kernel, by decide +kernel, by decide⟩
theorem wd1456 : Cond.instanceMethod yX9_minutes ∈ gW := gW_in 1456 (by decide +kernel) (by decide +kernel)
theorem wd1457 : Cond.selects yX9_minutes.cls yX9_minutes yX9_minutes ∈ gW := gW_in 1457 (by decide +kernel) (by decide +kernel)
theorem wd1455 : Cond.methodLink RL 234 yX9_minutes ∈ gW := gW_in 1455 (by decide +kernel) (by decide +kernel)
theorem wd1462 : Cond.code yX9_penalty cX9_penalty 2 (some .int) ∈ gW := gW_in 1462 (by decide +kernel) (by decide +kernel)
theorem mvX9_penalty : MV yX9_penalty cX9_penalty 2 (some .int) 1 := ⟨wd1462, wd23, by decide +kernel, by decide +kernel, by decide +kernel, by decide⟩
theorem wd1460 : Cond.instanceMethod yX9_penalty ∈ gW := gW_in 1460 (by decide +kernel) (by decide +kernel)
theorem wd1461 : Cond.selects yX9_penalty.cls yX9_penalty yX9_penalty ∈ gW := gW_in 1461 (by decide +kernel) (by decide +kernel)
theorem wd1459 : Cond.methodLink RL 237 yX9_penalty ∈ gW := gW_in 1459 (by decide +kernel) (by decide +kernel)
theorem wd1466 : Cond.code yX9_restrictedInRow cX9_restrictedInRow 2 (some .int) ∈ gW := gW_in 1466 (by decide +kernel) (by decide +kernel)
theorem mvX9_restrictedInRow : MV yX9_restrictedInRow cX9_restrictedInRow 2 (some .int) 1 := ⟨wd1466, wd23, by decide +kernel, by decide +kernel, by decide +kernel, by decide⟩
theorem wd1464 : Cond.instanceMethod yX9_restrictedInRow ∈ gW := gW_in 1464 (by decide +kernel) (by decide +kernel)
theorem wd1465 : Cond.selects yX9_restrictedInRow.cls yX9_restrictedInRow yX9_restrictedInRow ∈ gW := gW_in 1465 (by decide +kernel) (by decide +kernel)
theorem wd1463 : Cond.methodLink RL 240 yX9_restrictedInRow ∈ gW := gW_in 1463 (by decide +kernel) (by decide +kernel)
theorem dL_seen_0 : decode cL_seen 0 = .ok (.sipush 130, 3) := by decide +kernel
theorem dL_seen_3 : decode cL_seen 3 = .ok (.newarray .int, 2) := by decide +kernel
theorem dL_seen_5 : decode cL_seen 5 = .ok (.astore_n 1, 1) := by decide +kernel
theorem dL_seen_6 : decode cL_seen 6 = .ok (.aload_n 1, 1) := by decide +kernel
theorem dL_seen_7 : decode cL_seen 7 = .ok (.iconst 0, 1) := by decide +kernel
theorem dL_seen_8 : decode cL_seen 8 = .ok (.aload_n 0, 1) := by decide +kernel
theorem dL_seen_9 : decode cL_seen 9 = .ok (.invokevirtual 191, 3) := by decide +kernel
theorem dL_seen_12 : decode cL_seen 12 = .ok (.iastore, 1) := by decide +kernel
theorem dL_seen_13 : decode cL_seen 13 = .ok (.aload_n 1, 1) := by decide +kernel
theorem dL_seen_14 : decode cL_seen 14 = .ok (.iconst 1, 1) := by decide +kernel
theorem dL_seen_15 : decode cL_seen 15 = .ok (.aload_n 0, 1) := by decide +kernel
theorem dL_seen_16 : decode cL_seen 16 = .ok (.invokevirtual 194, 3) := by decide +kernel
theorem dL_seen_19 : decode cL_seen 19 = .ok (.iastore, 1) := by decide +kernel
theorem dL_seen_20 : decode cL_seen 20 = .ok (.aload_n 1, 1) := by decide +kernel
theorem dL_seen_21 : decode cL_seen 21 = .ok (.iconst 2, 1) := by decide +kernel
theorem dL_seen_22 : decode cL_seen 22 = .ok (.aload_n 0, 1) := by decide +kernel
theorem dL_seen_23 : decode cL_seen 23 = .ok (.invokevirtual 141, 3) := by decide +kernel
theorem dL_seen_26 : decode cL_seen 26 = .ok (.iastore, 1) := by decide +kernel
theorem dL_seen_27 : decode cL_seen 27 = .ok (.aload_n 1, 1) := by decide +kernel
theorem dL_seen_28 : decode cL_seen 28 = .ok (.iconst 3, 1) := by decide +kernel
theorem dL_seen_29 : decode cL_seen 29 = .ok (.aload_n 0, 1) := by decide +kernel
theorem dL_seen_30 : decode cL_seen 30 = .ok (.invokevirtual 197, 3) := by decide +kernel
theorem dL_seen_33 : decode cL_seen 33 = .ok (.iastore, 1) := by decide +kernel
theorem dL_seen_34 : decode cL_seen 34 = .ok (.aload_n 1, 1) := by decide +kernel
theorem dL_seen_35 : decode cL_seen 35 = .ok (.iconst 4, 1) := by decide +kernel
theorem dL_seen_36 : decode cL_seen 36 = .ok (.aload_n 0, 1) := by decide +kernel
theorem dL_seen_37 : decode cL_seen 37 = .ok (.invokevirtual 200, 3) := by decide +kernel
theorem dL_seen_40 : decode cL_seen 40 = .ok (.iastore, 1) := by decide +kernel
theorem dL_seen_41 : decode cL_seen 41 = .ok (.aload_n 1, 1) := by decide +kernel
theorem dL_seen_42 : decode cL_seen 42 = .ok (.iconst 5, 1) := by decide +kernel
theorem dL_seen_43 : decode cL_seen 43 = .ok (.aload_n 0, 1) := by decide +kernel
theorem dL_seen_44 : decode cL_seen 44 = .ok (.invokevirtual 203, 3) := by decide +kernel
theorem dL_seen_47 : decode cL_seen 47 = .ok (.iastore, 1) := by decide +kernel
theorem dL_seen_48 : decode cL_seen 48 = .ok (.iconst 0, 1) := by decide +kernel
theorem dL_seen_49 : decode cL_seen 49 = .ok (.istore_n 2, 1) := by decide +kernel
theorem dL_seen_50 : decode cL_seen 50 = .ok (.iload_n 2, 1) := by decide +kernel
theorem dL_seen_51 : decode cL_seen 51 = .ok (.aload_n 0, 1) := by decide +kernel
theorem dL_seen_52 : decode cL_seen 52 = .ok (.invokevirtual 194, 3) := by decide +kernel
theorem dL_seen_55 : decode cL_seen 55 = .ok (.if_icmp .ge 20, 3) := by decide +kernel
theorem dL_seen_58 : decode cL_seen 58 = .ok (.aload_n 1, 1) := by decide +kernel
theorem dL_seen_59 : decode cL_seen 59 = .ok (.bipush 6, 2) := by decide +kernel
theorem dL_seen_61 : decode cL_seen 61 = .ok (.iload_n 2, 1) := by decide +kernel
theorem dL_seen_62 : decode cL_seen 62 = .ok (.iadd, 1) := by decide +kernel
theorem dL_seen_63 : decode cL_seen 63 = .ok (.aload_n 0, 1) := by decide +kernel
theorem dL_seen_64 : decode cL_seen 64 = .ok (.iload_n 2, 1) := by decide +kernel
theorem dL_seen_65 : decode cL_seen 65 = .ok (.invokevirtual 206, 3) := by decide +kernel
theorem dL_seen_68 : decode cL_seen 68 = .ok (.iastore, 1) := by decide +kernel
theorem dL_seen_69 : decode cL_seen 69 = .ok (.iinc 2 1, 3) := by decide +kernel
theorem dL_seen_72 : decode cL_seen 72 = .ok (.goto (-22), 3) := by decide +kernel
theorem dL_seen_75 : decode cL_seen 75 = .ok (.iconst 0, 1) := by decide +kernel
theorem dL_seen_76 : decode cL_seen 76 = .ok (.istore_n 2, 1) := by decide +kernel
theorem dL_seen_77 : decode cL_seen 77 = .ok (.iload_n 2, 1) := by decide +kernel
theorem dL_seen_78 : decode cL_seen 78 = .ok (.aload_n 0, 1) := by decide +kernel
theorem dL_seen_79 : decode cL_seen 79 = .ok (.invokevirtual 141, 3) := by decide +kernel
theorem dL_seen_82 : decode cL_seen 82 = .ok (.if_icmp .ge 149, 3) := by decide +kernel
theorem dL_seen_85 : decode cL_seen 85 = .ok (.bipush 14, 2) := by decide +kernel
theorem dL_seen_87 : decode cL_seen 87 = .ok (.bipush 10, 2) := by decide +kernel
theorem dL_seen_89 : decode cL_seen 89 = .ok (.iload_n 2, 1) := by decide +kernel
theorem dL_seen_90 : decode cL_seen 90 = .ok (.imul, 1) := by decide +kernel
theorem dL_seen_91 : decode cL_seen 91 = .ok (.iadd, 1) := by decide +kernel
theorem dL_seen_92 : decode cL_seen 92 = .ok (.istore_n 3, 1) := by decide +kernel
theorem dL_seen_93 : decode cL_seen 93 = .ok (.aload_n 1, 1) := by decide +kernel
theorem dL_seen_94 : decode cL_seen 94 = .ok (.iload_n 3, 1) := by decide +kernel
theorem dL_seen_95 : decode cL_seen 95 = .ok (.aload_n 0, 1) := by decide +kernel
theorem dL_seen_96 : decode cL_seen 96 = .ok (.iload_n 2, 1) := by decide +kernel
theorem dL_seen_97 : decode cL_seen 97 = .ok (.invokevirtual 209, 3) := by decide +kernel
theorem dL_seen_100 : decode cL_seen 100 = .ok (.iastore, 1) := by decide +kernel
theorem dL_seen_101 : decode cL_seen 101 = .ok (.aload_n 1, 1) := by decide +kernel
theorem dL_seen_102 : decode cL_seen 102 = .ok (.iload_n 3, 1) := by decide +kernel
theorem dL_seen_103 : decode cL_seen 103 = .ok (.iconst 1, 1) := by decide +kernel
theorem dL_seen_104 : decode cL_seen 104 = .ok (.iadd, 1) := by decide +kernel
theorem dL_seen_105 : decode cL_seen 105 = .ok (.aload_n 0, 1) := by decide +kernel
theorem dL_seen_106 : decode cL_seen 106 = .ok (.iload_n 2, 1) := by decide +kernel
theorem dL_seen_107 : decode cL_seen 107 = .ok (.invokevirtual 129, 3) := by decide +kernel
theorem dL_seen_110 : decode cL_seen 110 = .ok (.ifCond .eq 7, 3) := by decide +kernel
theorem dL_seen_113 : decode cL_seen 113 = .ok (.iconst 1, 1) := by decide +kernel
theorem dL_seen_114 : decode cL_seen 114 = .ok (.goto 28, 3) := by decide +kernel
theorem dL_seen_117 : decode cL_seen 117 = .ok (.aload_n 0, 1) := by decide +kernel
theorem dL_seen_118 : decode cL_seen 118 = .ok (.iload_n 2, 1) := by decide +kernel
theorem dL_seen_119 : decode cL_seen 119 = .ok (.invokevirtual 212, 3) := by decide +kernel
theorem dL_seen_122 : decode cL_seen 122 = .ok (.ifCond .eq 7, 3) := by decide +kernel
theorem dL_seen_125 : decode cL_seen 125 = .ok (.iconst 2, 1) := by decide +kernel
theorem dL_seen_126 : decode cL_seen 126 = .ok (.goto 16, 3) := by decide +kernel
theorem dL_seen_129 : decode cL_seen 129 = .ok (.aload_n 0, 1) := by decide +kernel
theorem dL_seen_130 : decode cL_seen 130 = .ok (.iload_n 2, 1) := by decide +kernel
theorem dL_seen_131 : decode cL_seen 131 = .ok (.invokevirtual 215, 3) := by decide +kernel
theorem dL_seen_134 : decode cL_seen 134 = .ok (.ifCond .eq 7, 3) := by decide +kernel
theorem dL_seen_137 : decode cL_seen 137 = .ok (.iconst 3, 1) := by decide +kernel
theorem dL_seen_138 : decode cL_seen 138 = .ok (.goto 4, 3) := by decide +kernel
theorem dL_seen_141 : decode cL_seen 141 = .ok (.iconst 0, 1) := by decide +kernel
theorem dL_seen_142 : decode cL_seen 142 = .ok (.iastore, 1) := by decide +kernel
theorem dL_seen_143 : decode cL_seen 143 = .ok (.aload_n 1, 1) := by decide +kernel
theorem dL_seen_144 : decode cL_seen 144 = .ok (.iload_n 3, 1) := by decide +kernel
theorem dL_seen_145 : decode cL_seen 145 = .ok (.iconst 2, 1) := by decide +kernel
theorem dL_seen_146 : decode cL_seen 146 = .ok (.iadd, 1) := by decide +kernel
theorem dL_seen_147 : decode cL_seen 147 = .ok (.aload_n 0, 1) := by decide +kernel
theorem dL_seen_148 : decode cL_seen 148 = .ok (.iload_n 2, 1) := by decide +kernel
theorem dL_seen_149 : decode cL_seen 149 = .ok (.invokevirtual 218, 3) := by decide +kernel
theorem dL_seen_152 : decode cL_seen 152 = .ok (.l2i, 1) := by decide +kernel
theorem dL_seen_153 : decode cL_seen 153 = .ok (.iastore, 1) := by decide +kernel
theorem dL_seen_154 : decode cL_seen 154 = .ok (.aload_n 1, 1) := by decide +kernel
theorem dL_seen_155 : decode cL_seen 155 = .ok (.iload_n 3, 1) := by decide +kernel
theorem dL_seen_156 : decode cL_seen 156 = .ok (.iconst 3, 1) := by decide +kernel
theorem dL_seen_157 : decode cL_seen 157 = .ok (.iadd, 1) := by decide +kernel
theorem dL_seen_158 : decode cL_seen 158 = .ok (.aload_n 0, 1) := by decide +kernel
theorem dL_seen_159 : decode cL_seen 159 = .ok (.iload_n 2, 1) := by decide +kernel
theorem dL_seen_160 : decode cL_seen 160 = .ok (.invokevirtual 222, 3) := by decide +kernel
theorem dL_seen_163 : decode cL_seen 163 = .ok (.iastore, 1) := by decide +kernel
theorem dL_seen_164 : decode cL_seen 164 = .ok (.aload_n 1, 1) := by decide +kernel
theorem dL_seen_165 : decode cL_seen 165 = .ok (.iload_n 3, 1) := by decide +kernel
theorem dL_seen_166 : decode cL_seen 166 = .ok (.iconst 1, 1) := by decide +kernel
theorem dL_seen_167 : decode cL_seen 167 = .ok (.iadd, 1) := by decide +kernel
theorem dL_seen_168 : decode cL_seen 168 = .ok (.iaload, 1) := by decide +kernel
theorem dL_seen_169 : decode cL_seen 169 = .ok (.ifCond .le 56, 3) := by decide +kernel
theorem dL_seen_172 : decode cL_seen 172 = .ok (.aload_n 1, 1) := by decide +kernel
theorem dL_seen_173 : decode cL_seen 173 = .ok (.iload_n 3, 1) := by decide +kernel
theorem dL_seen_174 : decode cL_seen 174 = .ok (.iconst 4, 1) := by decide +kernel
theorem dL_seen_175 : decode cL_seen 175 = .ok (.iadd, 1) := by decide +kernel
theorem dL_seen_176 : decode cL_seen 176 = .ok (.aload_n 0, 1) := by decide +kernel
theorem dL_seen_177 : decode cL_seen 177 = .ok (.iload_n 2, 1) := by decide +kernel
theorem dL_seen_178 : decode cL_seen 178 = .ok (.invokevirtual 225, 3) := by decide +kernel
theorem dL_seen_181 : decode cL_seen 181 = .ok (.iastore, 1) := by decide +kernel
theorem dL_seen_182 : decode cL_seen 182 = .ok (.aload_n 1, 1) := by decide +kernel
theorem dL_seen_183 : decode cL_seen 183 = .ok (.iload_n 3, 1) := by decide +kernel
theorem dL_seen_184 : decode cL_seen 184 = .ok (.iconst 5, 1) := by decide +kernel
theorem dL_seen_185 : decode cL_seen 185 = .ok (.iadd, 1) := by decide +kernel
theorem dL_seen_186 : decode cL_seen 186 = .ok (.aload_n 0, 1) := by decide +kernel
theorem dL_seen_187 : decode cL_seen 187 = .ok (.iload_n 2, 1) := by decide +kernel
theorem dL_seen_188 : decode cL_seen 188 = .ok (.invokevirtual 228, 3) := by decide +kernel
theorem dL_seen_191 : decode cL_seen 191 = .ok (.iastore, 1) := by decide +kernel
theorem dL_seen_192 : decode cL_seen 192 = .ok (.aload_n 1, 1) := by decide +kernel
theorem dL_seen_193 : decode cL_seen 193 = .ok (.iload_n 3, 1) := by decide +kernel
theorem dL_seen_194 : decode cL_seen 194 = .ok (.bipush 6, 2) := by decide +kernel
theorem dL_seen_196 : decode cL_seen 196 = .ok (.iadd, 1) := by decide +kernel
theorem dL_seen_197 : decode cL_seen 197 = .ok (.aload_n 0, 1) := by decide +kernel
theorem dL_seen_198 : decode cL_seen 198 = .ok (.iload_n 2, 1) := by decide +kernel
theorem dL_seen_199 : decode cL_seen 199 = .ok (.invokevirtual 231, 3) := by decide +kernel
theorem dL_seen_202 : decode cL_seen 202 = .ok (.iastore, 1) := by decide +kernel
theorem dL_seen_203 : decode cL_seen 203 = .ok (.aload_n 1, 1) := by decide +kernel
theorem dL_seen_204 : decode cL_seen 204 = .ok (.iload_n 3, 1) := by decide +kernel
theorem dL_seen_205 : decode cL_seen 205 = .ok (.bipush 7, 2) := by decide +kernel
theorem dL_seen_207 : decode cL_seen 207 = .ok (.iadd, 1) := by decide +kernel
theorem dL_seen_208 : decode cL_seen 208 = .ok (.aload_n 0, 1) := by decide +kernel
theorem dL_seen_209 : decode cL_seen 209 = .ok (.iload_n 2, 1) := by decide +kernel
theorem dL_seen_210 : decode cL_seen 210 = .ok (.invokevirtual 234, 3) := by decide +kernel
theorem dL_seen_213 : decode cL_seen 213 = .ok (.iastore, 1) := by decide +kernel
theorem dL_seen_214 : decode cL_seen 214 = .ok (.aload_n 1, 1) := by decide +kernel
theorem dL_seen_215 : decode cL_seen 215 = .ok (.iload_n 3, 1) := by decide +kernel
theorem dL_seen_216 : decode cL_seen 216 = .ok (.bipush 8, 2) := by decide +kernel
theorem dL_seen_218 : decode cL_seen 218 = .ok (.iadd, 1) := by decide +kernel
theorem dL_seen_219 : decode cL_seen 219 = .ok (.aload_n 0, 1) := by decide +kernel
theorem dL_seen_220 : decode cL_seen 220 = .ok (.iload_n 2, 1) := by decide +kernel
theorem dL_seen_221 : decode cL_seen 221 = .ok (.invokevirtual 237, 3) := by decide +kernel
theorem dL_seen_224 : decode cL_seen 224 = .ok (.iastore, 1) := by decide +kernel
theorem dL_seen_225 : decode cL_seen 225 = .ok (.iinc 2 1, 3) := by decide +kernel
theorem dL_seen_228 : decode cL_seen 228 = .ok (.goto (-151), 3) := by decide +kernel
theorem dL_seen_231 : decode cL_seen 231 = .ok (.iconst 0, 1) := by decide +kernel
theorem dL_seen_232 : decode cL_seen 232 = .ok (.istore_n 2, 1) := by decide +kernel
theorem dL_seen_233 : decode cL_seen 233 = .ok (.iload_n 2, 1) := by decide +kernel
theorem dL_seen_234 : decode cL_seen 234 = .ok (.bipush 45, 2) := by decide +kernel
theorem dL_seen_236 : decode cL_seen 236 = .ok (.if_icmp .ge 20, 3) := by decide +kernel
theorem dL_seen_239 : decode cL_seen 239 = .ok (.aload_n 1, 1) := by decide +kernel
theorem dL_seen_240 : decode cL_seen 240 = .ok (.bipush 80, 2) := by decide +kernel
theorem dL_seen_242 : decode cL_seen 242 = .ok (.iload_n 2, 1) := by decide +kernel
theorem dL_seen_243 : decode cL_seen 243 = .ok (.iadd, 1) := by decide +kernel
theorem dL_seen_244 : decode cL_seen 244 = .ok (.aload_n 0, 1) := by decide +kernel
theorem dL_seen_245 : decode cL_seen 245 = .ok (.iload_n 2, 1) := by decide +kernel
theorem dL_seen_246 : decode cL_seen 246 = .ok (.invokevirtual 240, 3) := by decide +kernel
theorem dL_seen_249 : decode cL_seen 249 = .ok (.iastore, 1) := by decide +kernel
theorem dL_seen_250 : decode cL_seen 250 = .ok (.iinc 2 1, 3) := by decide +kernel
theorem dL_seen_253 : decode cL_seen 253 = .ok (.goto (-20), 3) := by decide +kernel
theorem dL_seen_256 : decode cL_seen 256 = .ok (.aload_n 1, 1) := by decide +kernel
theorem dL_seen_257 : decode cL_seen 257 = .ok (.areturn, 1) := by decide +kernel
theorem wd1480 : Cond.code yL_legs cL_legs 4 (some .int) ∈ gW := gW_in 1480 (by decide +kernel) (by decide +kernel)
theorem mvL_legs : MV yL_legs cL_legs 4 (some .int) 2 := ⟨wd1480, wd22, by decide +kernel, by decide +kernel, by decide +kernel, by decide⟩
theorem wd1479 : Cond.static yL_legs ∈ gW := gW_in 1479 (by decide +kernel) (by decide +kernel)
theorem wd1478 : Cond.methodLink RL 246 yL_legs ∈ gW := gW_in 1478 (by decide +kernel) (by decide +kernel)
theorem wd1491 : Cond.code yX9_achievedDistance cX9_achievedDistance 2 (some .int) ∈ gW := gW_in 1491 (by decide +kernel) (by decide +kernel)
theorem mvX9_achievedDistance : MV yX9_achievedDistance cX9_achievedDistance 2 (some .int) 1 := ⟨wd1491, wd23, by decide +kernel, by decide +kernel, by decide +kernel, by decide⟩
theorem wd1489 : Cond.instanceMethod yX9_achievedDistance ∈ gW := gW_in 1489 (by decide +kernel) (by decide +kernel)
theorem wd1490 : Cond.selects yX9_achievedDistance.cls yX9_achievedDistance yX9_achievedDistance ∈ gW := gW_in 1490 (by decide +kernel) (by decide +kernel)
theorem wd1488 : Cond.methodLink RL 249 yX9_achievedDistance ∈ gW := gW_in 1488 (by decide +kernel) (by decide +kernel)
theorem wd1496 : Cond.code yX9_dayScore cX9_dayScore 2 (some .int) ∈ gW := gW_in 1496 (by decide +kernel) (by decide +kernel)
theorem mvX9_dayScore : MV yX9_dayScore cX9_dayScore 2 (some .int) 1 := ⟨wd1496, wd23, by decide +kernel, by decide +kernel, by decide +kernel, by decide⟩
theorem wd1494 : Cond.instanceMethod yX9_dayScore ∈ gW := gW_in 1494 (by decide +kernel) (by decide +kernel)
theorem wd1495 : Cond.selects yX9_dayScore.cls yX9_dayScore yX9_dayScore ∈ gW := gW_in 1495 (by decide +kernel) (by decide +kernel)
theorem wd1493 : Cond.methodLink RL 252 yX9_dayScore ∈ gW := gW_in 1493 (by decide +kernel) (by decide +kernel)
theorem wd1501 : Cond.code yX9_canFinish cX9_canFinish 2 (some .boolean) ∈ gW := gW_in 1501 (by decide +kernel) (by decide +kernel)
theorem mvX9_canFinish : MV yX9_canFinish cX9_canFinish 2 (some .boolean) 1 := ⟨wd1501, wd23, by decide +kernel, by decide +kernel, by decide +kernel, by decide⟩
theorem wd1499 : Cond.instanceMethod yX9_canFinish ∈ gW := gW_in 1499 (by decide +kernel) (by decide +kernel)
theorem wd1500 : Cond.selects yX9_canFinish.cls yX9_canFinish yX9_canFinish ∈ gW := gW_in 1500 (by decide +kernel) (by decide +kernel)
theorem wd1498 : Cond.methodLink RL 255 yX9_canFinish ∈ gW := gW_in 1498 (by decide +kernel) (by decide +kernel)
theorem wd1511 : Cond.code yX9_canFinishBySimulation cX9_canFinishBySimulation 2 (some .boolean) ∈ gW := gW_in 1511 (by decide +kernel) (by decide +kernel)
theorem mvX9_canFinishBySimulation : MV yX9_canFinishBySimulation cX9_canFinishBySimulation 2 (some .boolean) 1 := ⟨wd1511, wd23, by decide +kernel, by decide +kernel, by decide +kernel, by decide⟩
theorem wd1509 : Cond.instanceMethod yX9_canFinishBySimulation ∈ gW := gW_in 1509 (by decide +kernel) (by decide +kernel)
theorem wd1510 : Cond.selects yX9_canFinishBySimulation.cls yX9_canFinishBySimulation yX9_canFinishBySimulation ∈ gW := gW_in 1510 (by decide +kernel) (by decide +kernel)
theorem wd1508 : Cond.methodLink RL 258 yX9_canFinishBySimulation ∈ gW := gW_in 1508 (by decide +kernel) (by decide +kernel)
theorem wd1523 : Cond.code yX9_isRestricted cX9_isRestricted 3 (some .boolean) ∈ gW := gW_in 1523 (by decide +kernel) (by decide +kernel)
theorem mvX9_isRestricted : MV yX9_isRestricted cX9_isRestricted 3 (some .boolean) 2 := ⟨wd1523, wd23, by decide +kernel, by decide +kernel, by decide +kernel, by decide⟩
theorem wd1521 : Cond.instanceMethod yX9_isRestricted ∈ gW := gW_in 1521 (by decide +kernel) (by decide +kernel)
theorem wd1522 : Cond.selects yX9_isRestricted.cls yX9_isRestricted yX9_isRestricted ∈ gW := gW_in 1522 (by decide +kernel) (by decide +kernel)
theorem wd1520 : Cond.methodLink RL 261 yX9_isRestricted ∈ gW := gW_in 1520 (by decide +kernel) (by decide +kernel)
theorem wd1528 : Cond.code yX9_restrictedInRowByRanges cX9_restrictedInRowByRanges 2 (some .int) ∈ gW := gW_in 1528 (by decide +kernel) (by decide +kernel)
theorem mvX9_restrictedInRowByRanges : MV yX9_restrictedInRowByRanges cX9_restrictedInRowByRanges 2 (some .int) 1 := ⟨wd1528, wd23, by decide +kernel, by decide +kernel, by decide +kernel, by decide⟩
theorem wd1526 : Cond.instanceMethod yX9_restrictedInRowByRanges ∈ gW := gW_in 1526 (by decide +kernel) (by decide +kernel)
theorem wd1527 : Cond.selects yX9_restrictedInRowByRanges.cls yX9_restrictedInRowByRanges yX9_restrictedInRowByRanges ∈ gW := gW_in 1527 (by decide +kernel) (by decide +kernel)
theorem wd1525 : Cond.methodLink RL 265 yX9_restrictedInRowByRanges ∈ gW := gW_in 1525 (by decide +kernel) (by decide +kernel)
theorem wd1545 : Cond.code yX9_isPlanning cX9_isPlanning 1 (some .boolean) ∈ gW := gW_in 1545 (by decide +kernel) (by decide +kernel)
theorem mvX9_isPlanning : MV yX9_isPlanning cX9_isPlanning 1 (some .boolean) 0 := ⟨wd1545, wd23, by decide +kernel, by decide +kernel, by decide +kernel, by decide⟩
theorem wd1543 : Cond.instanceMethod yX9_isPlanning ∈ gW := gW_in 1543 (by decide +kernel) (by decide +kernel)
theorem wd1544 : Cond.selects yX9_isPlanning.cls yX9_isPlanning yX9_isPlanning ∈ gW := gW_in 1544 (by decide +kernel) (by decide +kernel)
theorem wd1542 : Cond.methodLink RL 268 yX9_isPlanning ∈ gW := gW_in 1542 (by decide +kernel) (by decide +kernel)
theorem wd1549 : Cond.code yX9_isConsistent cX9_isConsistent 1 (some .boolean) ∈ gW := gW_in 1549 (by decide +kernel) (by decide +kernel)
theorem mvX9_isConsistent : MV yX9_isConsistent cX9_isConsistent 1 (some .boolean) 0 := ⟨wd1549, wd23, by decide +kernel, by decide +kernel, by decide +kernel, by decide⟩
theorem wd1547 : Cond.instanceMethod yX9_isConsistent ∈ gW := gW_in 1547 (by decide +kernel) (by decide +kernel)
theorem wd1548 : Cond.selects yX9_isConsistent.cls yX9_isConsistent yX9_isConsistent ∈ gW := gW_in 1548 (by decide +kernel) (by decide +kernel)
theorem wd1546 : Cond.methodLink RL 272 yX9_isConsistent ∈ gW := gW_in 1546 (by decide +kernel) (by decide +kernel)
theorem dL_isWell_0 : decode cL_isWell 0 = .ok (.aload_n 0, 1) := by decide +kernel
theorem dL_isWell_1 : decode cL_isWell 1 = .ok (.invokevirtual 194, 3) := by decide +kernel
theorem dL_isWell_4 : decode cL_isWell 4 = .ok (.iconst 2, 1) := by decide +kernel
theorem dL_isWell_5 : decode cL_isWell 5 = .ok (.if_icmp .ge 7, 3) := by decide +kernel
theorem dL_isWell_8 : decode cL_isWell 8 = .ok (.iconst 0, 1) := by decide +kernel
theorem dL_isWell_9 : decode cL_isWell 9 = .ok (.goto 13, 3) := by decide +kernel
theorem dL_isWell_12 : decode cL_isWell 12 = .ok (.aload_n 0, 1) := by decide +kernel
theorem dL_isWell_13 : decode cL_isWell 13 = .ok (.aload_n 0, 1) := by decide +kernel
theorem dL_isWell_14 : decode cL_isWell 14 = .ok (.invokevirtual 194, 3) := by decide +kernel
theorem dL_isWell_17 : decode cL_isWell 17 = .ok (.iconst 1, 1) := by decide +kernel
theorem dL_isWell_18 : decode cL_isWell 18 = .ok (.isub, 1) := by decide +kernel
theorem dL_isWell_19 : decode cL_isWell 19 = .ok (.invokestatic 246, 3) := by decide +kernel
theorem dL_isWell_22 : decode cL_isWell 22 = .ok (.istore_n 1, 1) := by decide +kernel
theorem dL_isWell_23 : decode cL_isWell 23 = .ok (.iconst 0, 1) := by decide +kernel
theorem dL_isWell_24 : decode cL_isWell 24 = .ok (.istore_n 2, 1) := by decide +kernel
theorem dL_isWell_25 : decode cL_isWell 25 = .ok (.iconst 0, 1) := by decide +kernel
theorem dL_isWell_26 : decode cL_isWell 26 = .ok (.istore_n 3, 1) := by decide +kernel
theorem dL_isWell_27 : decode cL_isWell 27 = .ok (.iconst 0, 1) := by decide +kernel
theorem dL_isWell_28 : decode cL_isWell 28 = .ok (.istore 4, 2) := by decide +kernel
theorem dL_isWell_30 : decode cL_isWell 30 = .ok (.iload 4, 2) := by decide +kernel
theorem dL_isWell_32 : decode cL_isWell 32 = .ok (.aload_n 0, 1) := by decide +kernel
theorem dL_isWell_33 : decode cL_isWell 33 = .ok (.invokevirtual 141, 3) := by decide +kernel
theorem dL_isWell_36 : decode cL_isWell 36 = .ok (.if_icmp .ge 43, 3) := by decide +kernel
theorem dL_isWell_39 : decode cL_isWell 39 = .ok (.aload_n 0, 1) := by decide +kernel
theorem dL_isWell_40 : decode cL_isWell 40 = .ok (.iload 4, 2) := by decide +kernel
theorem dL_isWell_42 : decode cL_isWell 42 = .ok (.invokevirtual 215, 3) := by decide +kernel
theorem dL_isWell_45 : decode cL_isWell 45 = .ok (.ifCond .eq 26, 3) := by decide +kernel
theorem dL_isWell_48 : decode cL_isWell 48 = .ok (.iload_n 3, 1) := by decide +kernel
theorem dL_isWell_49 : decode cL_isWell 49 = .ok (.ifCond .eq 13, 3) := by decide +kernel
theorem dL_isWell_52 : decode cL_isWell 52 = .ok (.aload_n 0, 1) := by decide +kernel
theorem dL_isWell_53 : decode cL_isWell 53 = .ok (.iload 4, 2) := by decide +kernel
theorem dL_isWell_55 : decode cL_isWell 55 = .ok (.invokevirtual 234, 3) := by decide +kernel
theorem dL_isWell_58 : decode cL_isWell 58 = .ok (.iload_n 3, 1) := by decide +kernel
theorem dL_isWell_59 : decode cL_isWell 59 = .ok (.if_icmp .ge 12, 3) := by decide +kernel
theorem dL_isWell_62 : decode cL_isWell 62 = .ok (.aload_n 0, 1) := by decide +kernel
theorem dL_isWell_63 : decode cL_isWell 63 = .ok (.iload 4, 2) := by decide +kernel
theorem dL_isWell_65 : decode cL_isWell 65 = .ok (.invokevirtual 234, 3) := by decide +kernel
theorem dL_isWell_68 : decode cL_isWell 68 = .ok (.goto 4, 3) := by decide +kernel
theorem dL_isWell_71 : decode cL_isWell 71 = .ok (.iload_n 3, 1) := by decide +kernel
theorem dL_isWell_72 : decode cL_isWell 72 = .ok (.istore_n 3, 1) := by decide +kernel
theorem dL_isWell_73 : decode cL_isWell 73 = .ok (.iinc 4 1, 3) := by decide +kernel
theorem dL_isWell_76 : decode cL_isWell 76 = .ok (.goto (-46), 3) := by decide +kernel
theorem dL_isWell_79 : decode cL_isWell 79 = .ok (.iconst 0, 1) := by decide +kernel
theorem dL_isWell_80 : decode cL_isWell 80 = .ok (.istore 4, 2) := by decide +kernel
theorem dL_isWell_82 : decode cL_isWell 82 = .ok (.iload 4, 2) := by decide +kernel
theorem dL_isWell_84 : decode cL_isWell 84 = .ok (.aload_n 0, 1) := by decide +kernel
theorem dL_isWell_85 : decode cL_isWell 85 = .ok (.invokevirtual 141, 3) := by decide +kernel
theorem dL_isWell_88 : decode cL_isWell 88 = .ok (.if_icmp .ge 410, 3) := by decide +kernel
theorem dL_isWell_91 : decode cL_isWell 91 = .ok (.aload_n 0, 1) := by decide +kernel
theorem dL_isWell_92 : decode cL_isWell 92 = .ok (.iload 4, 2) := by decide +kernel
theorem dL_isWell_94 : decode cL_isWell 94 = .ok (.invokevirtual 129, 3) := by decide +kernel
theorem dL_isWell_97 : decode cL_isWell 97 = .ok (.istore 5, 2) := by decide +kernel
theorem dL_isWell_99 : decode cL_isWell 99 = .ok (.aload_n 0, 1) := by decide +kernel
theorem dL_isWell_100 : decode cL_isWell 100 = .ok (.iload 4, 2) := by decide +kernel
theorem dL_isWell_102 : decode cL_isWell 102 = .ok (.invokevirtual 212, 3) := by decide +kernel
theorem dL_isWell_105 : decode cL_isWell 105 = .ok (.istore 6, 2) := by decide +kernel
theorem dL_isWell_107 : decode cL_isWell 107 = .ok (.aload_n 0, 1) := by decide +kernel
theorem dL_isWell_108 : decode cL_isWell 108 = .ok (.iload 4, 2) := by decide +kernel
theorem dL_isWell_110 : decode cL_isWell 110 = .ok (.invokevirtual 215, 3) := by decide +kernel
theorem dL_isWell_113 : decode cL_isWell 113 = .ok (.istore 7, 2) := by decide +kernel
theorem dL_isWell_115 : decode cL_isWell 115 = .ok (.aload_n 0, 1) := by decide +kernel
theorem dL_isWell_116 : decode cL_isWell 116 = .ok (.iload 4, 2) := by decide +kernel
theorem dL_isWell_118 : decode cL_isWell 118 = .ok (.invokevirtual 249, 3) := by decide +kernel
theorem dL_isWell_121 : decode cL_isWell 121 = .ok (.istore 8, 2) := by decide +kernel
theorem dL_isWell_123 : decode cL_isWell 123 = .ok (.iload 5, 2) := by decide +kernel
theorem dL_isWell_125 : decode cL_isWell 125 = .ok (.ifCond .eq 7, 3) := by decide +kernel
theorem dL_isWell_128 : decode cL_isWell 128 = .ok (.iconst 1, 1) := by decide +kernel
theorem dL_isWell_129 : decode cL_isWell 129 = .ok (.goto 4, 3) := by decide +kernel
theorem dL_isWell_132 : decode cL_isWell 132 = .ok (.iconst 0, 1) := by decide +kernel
theorem dL_isWell_133 : decode cL_isWell 133 = .ok (.iload 6, 2) := by decide +kernel
theorem dL_isWell_135 : decode cL_isWell 135 = .ok (.ifCond .eq 7, 3) := by decide +kernel
theorem dL_isWell_138 : decode cL_isWell 138 = .ok (.iconst 1, 1) := by decide +kernel
theorem dL_isWell_139 : decode cL_isWell 139 = .ok (.goto 4, 3) := by decide +kernel
theorem dL_isWell_142 : decode cL_isWell 142 = .ok (.iconst 0, 1) := by decide +kernel
theorem dL_isWell_143 : decode cL_isWell 143 = .ok (.iadd, 1) := by decide +kernel
theorem dL_isWell_144 : decode cL_isWell 144 = .ok (.iload 7, 2) := by decide +kernel
theorem dL_isWell_146 : decode cL_isWell 146 = .ok (.ifCond .eq 7, 3) := by decide +kernel
theorem dL_isWell_149 : decode cL_isWell 149 = .ok (.iconst 1, 1) := by decide +kernel
theorem dL_isWell_150 : decode cL_isWell 150 = .ok (.goto 4, 3) := by decide +kernel
theorem dL_isWell_153 : decode cL_isWell 153 = .ok (.iconst 0, 1) := by decide +kernel
theorem dL_isWell_154 : decode cL_isWell 154 = .ok (.iadd, 1) := by decide +kernel
theorem dL_isWell_155 : decode cL_isWell 155 = .ok (.iconst 1, 1) := by decide +kernel
theorem dL_isWell_156 : decode cL_isWell 156 = .ok (.if_icmp .le 5, 3) := by decide +kernel
theorem dL_isWell_159 : decode cL_isWell 159 = .ok (.iconst 0, 1) := by decide +kernel
theorem dL_isWell_160 : decode cL_isWell 160 = .ok (.ireturn, 1) := by decide +kernel
theorem dL_isWell_161 : decode cL_isWell 161 = .ok (.iload 5, 2) := by decide +kernel
theorem dL_isWell_163 : decode cL_isWell 163 = .ok (.ifCond .ne 41, 3) := by decide +kernel
theorem dL_isWell_166 : decode cL_isWell 166 = .ok (.iload 6, 2) := by decide +kernel
theorem dL_isWell_168 : decode cL_isWell 168 = .ok (.ifCond .ne 36, 3) := by decide +kernel
theorem dL_isWell_171 : decode cL_isWell 171 = .ok (.iload 7, 2) := by decide +kernel
theorem dL_isWell_173 : decode cL_isWell 173 = .ok (.ifCond .ne 31, 3) := by decide +kernel
theorem dL_isWell_176 : decode cL_isWell 176 = .ok (.iinc 2 1, 3) := by decide +kernel
theorem dL_isWell_179 : decode cL_isWell 179 = .ok (.aload_n 0, 1) := by decide +kernel
theorem dL_isWell_180 : decode cL_isWell 180 = .ok (.iload 4, 2) := by decide +kernel
theorem dL_isWell_182 : decode cL_isWell 182 = .ok (.invokevirtual 222, 3) := by decide +kernel
theorem dL_isWell_185 : decode cL_isWell 185 = .ok (.ifCond .ne 17, 3) := by decide +kernel
theorem dL_isWell_188 : decode cL_isWell 188 = .ok (.iload 8, 2) := by decide +kernel
theorem dL_isWell_190 : decode cL_isWell 190 = .ok (.ifCond .ne 12, 3) := by decide +kernel
theorem dL_isWell_193 : decode cL_isWell 193 = .ok (.aload_n 0, 1) := by decide +kernel
theorem dL_isWell_194 : decode cL_isWell 194 = .ok (.iload 4, 2) := by decide +kernel
theorem dL_isWell_196 : decode cL_isWell 196 = .ok (.invokevirtual 252, 3) := by decide +kernel
theorem dL_isWell_199 : decode cL_isWell 199 = .ok (.ifCond .eq 293, 3) := by decide +kernel
theorem dL_isWell_202 : decode cL_isWell 202 = .ok (.iconst 0, 1) := by decide +kernel
theorem dL_isWell_203 : decode cL_isWell 203 = .ok (.ireturn, 1) := by decide +kernel
theorem dL_isWell_204 : decode cL_isWell 204 = .ok (.sipush 1000, 3) := by decide +kernel
theorem dL_isWell_207 : decode cL_isWell 207 = .ok (.iload 8, 2) := by decide +kernel
theorem dL_isWell_209 : decode cL_isWell 209 = .ok (.imul, 1) := by decide +kernel
theorem dL_isWell_210 : decode cL_isWell 210 = .ok (.iload_n 1, 1) := by decide +kernel
theorem dL_isWell_211 : decode cL_isWell 211 = .ok (.idiv, 1) := by decide +kernel
theorem dL_isWell_212 : decode cL_isWell 212 = .ok (.iload 7, 2) := by decide +kernel
theorem dL_isWell_214 : decode cL_isWell 214 = .ok (.ifCond .eq 18, 3) := by decide +kernel
theorem dL_isWell_217 : decode cL_isWell 217 = .ok (.sipush 500, 3) := by decide +kernel
theorem dL_isWell_220 : decode cL_isWell 220 = .ok (.iload_n 3, 1) := by decide +kernel
theorem dL_isWell_221 : decode cL_isWell 221 = .ok (.imul, 1) := by decide +kernel
theorem dL_isWell_222 : decode cL_isWell 222 = .ok (.aload_n 0, 1) := by decide +kernel
theorem dL_isWell_223 : decode cL_isWell 223 = .ok (.iload 4, 2) := by decide +kernel
theorem dL_isWell_225 : decode cL_isWell 225 = .ok (.invokevirtual 234, 3) := by decide +kernel
theorem dL_isWell_228 : decode cL_isWell 228 = .ok (.idiv, 1) := by decide +kernel
theorem dL_isWell_229 : decode cL_isWell 229 = .ok (.goto 4, 3) := by decide +kernel
theorem dL_isWell_232 : decode cL_isWell 232 = .ok (.iconst 0, 1) := by decide +kernel
theorem dL_isWell_233 : decode cL_isWell 233 = .ok (.iadd, 1) := by decide +kernel
theorem dL_isWell_234 : decode cL_isWell 234 = .ok (.aload_n 0, 1) := by decide +kernel
theorem dL_isWell_235 : decode cL_isWell 235 = .ok (.iload 4, 2) := by decide +kernel
theorem dL_isWell_237 : decode cL_isWell 237 = .ok (.invokevirtual 237, 3) := by decide +kernel
theorem dL_isWell_240 : decode cL_isWell 240 = .ok (.isub, 1) := by decide +kernel
theorem dL_isWell_241 : decode cL_isWell 241 = .ok (.istore 9, 2) := by decide +kernel
theorem dL_isWell_243 : decode cL_isWell 243 = .ok (.iload 8, 2) := by decide +kernel
theorem dL_isWell_245 : decode cL_isWell 245 = .ok (.ifCond .lt 99, 3) := by decide +kernel
theorem dL_isWell_248 : decode cL_isWell 248 = .ok (.iload 8, 2) := by decide +kernel
theorem dL_isWell_250 : decode cL_isWell 250 = .ok (.iload_n 1, 1) := by decide +kernel
theorem dL_isWell_251 : decode cL_isWell 251 = .ok (.if_icmp .gt 93, 3) := by decide +kernel
theorem dL_isWell_254 : decode cL_isWell 254 = .ok (.iload 7, 2) := by decide +kernel
theorem dL_isWell_256 : decode cL_isWell 256 = .ok (.aload_n 0, 1) := by decide +kernel
theorem dL_isWell_257 : decode cL_isWell 257 = .ok (.iload 4, 2) := by decide +kernel
theorem dL_isWell_259 : decode cL_isWell 259 = .ok (.invokevirtual 222, 3) := by decide +kernel
theorem dL_isWell_262 : decode cL_isWell 262 = .ok (.aload_n 0, 1) := by decide +kernel
theorem dL_isWell_263 : decode cL_isWell 263 = .ok (.invokevirtual 194, 3) := by decide +kernel
theorem dL_isWell_266 : decode cL_isWell 266 = .ok (.if_icmp .ne 7, 3) := by decide +kernel
theorem dL_isWell_269 : decode cL_isWell 269 = .ok (.iconst 1, 1) := by decide +kernel
theorem dL_isWell_270 : decode cL_isWell 270 = .ok (.goto 4, 3) := by decide +kernel
theorem dL_isWell_273 : decode cL_isWell 273 = .ok (.iconst 0, 1) := by decide +kernel
theorem dL_isWell_274 : decode cL_isWell 274 = .ok (.if_icmp .ne 70, 3) := by decide +kernel
theorem dL_isWell_277 : decode cL_isWell 277 = .ok (.iload 7, 2) := by decide +kernel
theorem dL_isWell_279 : decode cL_isWell 279 = .ok (.ifCond .eq 9, 3) := by decide +kernel
theorem dL_isWell_282 : decode cL_isWell 282 = .ok (.iload 8, 2) := by decide +kernel
theorem dL_isWell_284 : decode cL_isWell 284 = .ok (.iload_n 1, 1) := by decide +kernel
theorem dL_isWell_285 : decode cL_isWell 285 = .ok (.if_icmp .ne 59, 3) := by decide +kernel
theorem dL_isWell_288 : decode cL_isWell 288 = .ok (.iload 6, 2) := by decide +kernel
theorem dL_isWell_290 : decode cL_isWell 290 = .ok (.ifCond .eq 12, 3) := by decide +kernel
theorem dL_isWell_293 : decode cL_isWell 293 = .ok (.aload_n 0, 1) := by decide +kernel
theorem dL_isWell_294 : decode cL_isWell 294 = .ok (.iload 4, 2) := by decide +kernel
theorem dL_isWell_296 : decode cL_isWell 296 = .ok (.invokevirtual 231, 3) := by decide +kernel
theorem dL_isWell_299 : decode cL_isWell 299 = .ok (.ifCond .ne 45, 3) := by decide +kernel
theorem dL_isWell_302 : decode cL_isWell 302 = .ok (.iload 5, 2) := by decide +kernel
theorem dL_isWell_304 : decode cL_isWell 304 = .ok (.ifCond .eq 13, 3) := by decide +kernel
theorem dL_isWell_307 : decode cL_isWell 307 = .ok (.aload_n 0, 1) := by decide +kernel
theorem dL_isWell_308 : decode cL_isWell 308 = .ok (.iload 4, 2) := by decide +kernel
theorem dL_isWell_310 : decode cL_isWell 310 = .ok (.invokevirtual 231, 3) := by decide +kernel
theorem dL_isWell_313 : decode cL_isWell 313 = .ok (.iconst 1, 1) := by decide +kernel
theorem dL_isWell_314 : decode cL_isWell 314 = .ok (.if_icmp .lt 30, 3) := by decide +kernel
theorem dL_isWell_317 : decode cL_isWell 317 = .ok (.aload_n 0, 1) := by decide +kernel
theorem dL_isWell_318 : decode cL_isWell 318 = .ok (.iload 4, 2) := by decide +kernel
theorem dL_isWell_320 : decode cL_isWell 320 = .ok (.invokevirtual 252, 3) := by decide +kernel
theorem dL_isWell_323 : decode cL_isWell 323 = .ok (.iconst 0, 1) := by decide +kernel
theorem dL_isWell_324 : decode cL_isWell 324 = .ok (.iload 9, 2) := by decide +kernel
theorem dL_isWell_326 : decode cL_isWell 326 = .ok (.invokestatic 144, 3) := by decide +kernel
theorem dL_isWell_329 : decode cL_isWell 329 = .ok (.if_icmp .ne 15, 3) := by decide +kernel
theorem dL_isWell_332 : decode cL_isWell 332 = .ok (.aload_n 0, 1) := by decide +kernel
theorem dL_isWell_333 : decode cL_isWell 333 = .ok (.iload 4, 2) := by decide +kernel
theorem dL_isWell_335 : decode cL_isWell 335 = .ok (.invokevirtual 237, 3) := by decide +kernel
theorem dL_isWell_338 : decode cL_isWell 338 = .ok (.bipush 10, 2) := by decide +kernel
theorem dL_isWell_340 : decode cL_isWell 340 = .ok (.irem, 1) := by decide +kernel
theorem dL_isWell_341 : decode cL_isWell 341 = .ok (.ifCond .eq 5, 3) := by decide +kernel
theorem dL_isWell_344 : decode cL_isWell 344 = .ok (.iconst 0, 1) := by decide +kernel
theorem dL_isWell_345 : decode cL_isWell 345 = .ok (.ireturn, 1) := by decide +kernel
theorem dL_isWell_346 : decode cL_isWell 346 = .ok (.iload 5, 2) := by decide +kernel
theorem dL_isWell_348 : decode cL_isWell 348 = .ok (.ifCond .eq 144, 3) := by decide +kernel
theorem dL_isWell_351 : decode cL_isWell 351 = .ok (.aload_n 0, 1) := by decide +kernel
theorem dL_isWell_352 : decode cL_isWell 352 = .ok (.iload 4, 2) := by decide +kernel
theorem dL_isWell_354 : decode cL_isWell 354 = .ok (.invokestatic 135, 3) := by decide +kernel
theorem dL_isWell_357 : decode cL_isWell 357 = .ok (.istore 10, 2) := by decide +kernel
theorem dL_isWell_359 : decode cL_isWell 359 = .ok (.iload_n 1, 1) := by decide +kernel
theorem dL_isWell_360 : decode cL_isWell 360 = .ok (.aload_n 0, 1) := by decide +kernel
theorem dL_isWell_361 : decode cL_isWell 361 = .ok (.aload_n 0, 1) := by decide +kernel
theorem dL_isWell_362 : decode cL_isWell 362 = .ok (.iload 4, 2) := by decide +kernel
theorem dL_isWell_364 : decode cL_isWell 364 = .ok (.invokevirtual 222, 3) := by decide +kernel
theorem dL_isWell_367 : decode cL_isWell 367 = .ok (.invokestatic 246, 3) := by decide +kernel
theorem dL_isWell_370 : decode cL_isWell 370 = .ok (.isub, 1) := by decide +kernel
theorem dL_isWell_371 : decode cL_isWell 371 = .ok (.istore 11, 2) := by decide +kernel
theorem dL_isWell_373 : decode cL_isWell 373 = .ok (.iload 10, 2) := by decide +kernel
theorem dL_isWell_375 : decode cL_isWell 375 = .ok (.iload 11, 2) := by decide +kernel
theorem dL_isWell_377 : decode cL_isWell 377 = .ok (.isub, 1) := by decide +kernel
theorem dL_isWell_378 : decode cL_isWell 378 = .ok (.istore 12, 2) := by decide +kernel
theorem dL_isWell_380 : decode cL_isWell 380 = .ok (.aload_n 0, 1) := by decide +kernel
theorem dL_isWell_381 : decode cL_isWell 381 = .ok (.aload_n 0, 1) := by decide +kernel
theorem dL_isWell_382 : decode cL_isWell 382 = .ok (.aload_n 0, 1) := by decide +kernel
theorem dL_isWell_383 : decode cL_isWell 383 = .ok (.iload 4, 2) := by decide +kernel
theorem dL_isWell_385 : decode cL_isWell 385 = .ok (.invokevirtual 222, 3) := by decide +kernel
theorem dL_isWell_388 : decode cL_isWell 388 = .ok (.iconst 1, 1) := by decide +kernel
theorem dL_isWell_389 : decode cL_isWell 389 = .ok (.isub, 1) := by decide +kernel
theorem dL_isWell_390 : decode cL_isWell 390 = .ok (.invokevirtual 206, 3) := by decide +kernel
theorem dL_isWell_393 : decode cL_isWell 393 = .ok (.aload_n 0, 1) := by decide +kernel
theorem dL_isWell_394 : decode cL_isWell 394 = .ok (.aload_n 0, 1) := by decide +kernel
theorem dL_isWell_395 : decode cL_isWell 395 = .ok (.iload 4, 2) := by decide +kernel
theorem dL_isWell_397 : decode cL_isWell 397 = .ok (.invokevirtual 222, 3) := by decide +kernel
theorem dL_isWell_400 : decode cL_isWell 400 = .ok (.invokevirtual 206, 3) := by decide +kernel
theorem dL_isWell_403 : decode cL_isWell 403 = .ok (.invokevirtual 243, 3) := by decide +kernel
theorem dL_isWell_406 : decode cL_isWell 406 = .ok (.istore 13, 2) := by decide +kernel
theorem dL_isWell_408 : decode cL_isWell 408 = .ok (.iload 12, 2) := by decide +kernel
theorem dL_isWell_410 : decode cL_isWell 410 = .ok (.iconst 1, 1) := by decide +kernel
theorem dL_isWell_411 : decode cL_isWell 411 = .ok (.if_icmp .lt 79, 3) := by decide +kernel
theorem dL_isWell_414 : decode cL_isWell 414 = .ok (.iload 8, 2) := by decide +kernel
theorem dL_isWell_416 : decode cL_isWell 416 = .ok (.aload_n 0, 1) := by decide +kernel
theorem dL_isWell_417 : decode cL_isWell 417 = .ok (.aload_n 0, 1) := by decide +kernel
theorem dL_isWell_418 : decode cL_isWell 418 = .ok (.iload 4, 2) := by decide +kernel
theorem dL_isWell_420 : decode cL_isWell 420 = .ok (.invokevirtual 222, 3) := by decide +kernel
theorem dL_isWell_423 : decode cL_isWell 423 = .ok (.iconst 1, 1) := by decide +kernel
theorem dL_isWell_424 : decode cL_isWell 424 = .ok (.isub, 1) := by decide +kernel
theorem dL_isWell_425 : decode cL_isWell 425 = .ok (.invokestatic 246, 3) := by decide +kernel
theorem dL_isWell_428 : decode cL_isWell 428 = .ok (.iconst 0, 1) := by decide +kernel
theorem dL_isWell_429 : decode cL_isWell 429 = .ok (.iload 13, 2) := by decide +kernel
theorem dL_isWell_431 : decode cL_isWell 431 = .ok (.iload 12, 2) := by decide +kernel
theorem dL_isWell_433 : decode cL_isWell 433 = .ok (.isub, 1) := by decide +kernel
theorem dL_isWell_434 : decode cL_isWell 434 = .ok (.invokestatic 144, 3) := by decide +kernel
theorem dL_isWell_437 : decode cL_isWell 437 = .ok (.iadd, 1) := by decide +kernel
theorem dL_isWell_438 : decode cL_isWell 438 = .ok (.if_icmp .ne 52, 3) := by decide +kernel
theorem dL_isWell_441 : decode cL_isWell 441 = .ok (.aload_n 0, 1) := by decide +kernel
theorem dL_isWell_442 : decode cL_isWell 442 = .ok (.iload 4, 2) := by decide +kernel
theorem dL_isWell_444 : decode cL_isWell 444 = .ok (.invokevirtual 255, 3) := by decide +kernel
theorem dL_isWell_447 : decode cL_isWell 447 = .ok (.aload_n 0, 1) := by decide +kernel
theorem dL_isWell_448 : decode cL_isWell 448 = .ok (.iload 4, 2) := by decide +kernel
theorem dL_isWell_450 : decode cL_isWell 450 = .ok (.invokevirtual 231, 3) := by decide +kernel
theorem dL_isWell_453 : decode cL_isWell 453 = .ok (.iload 10, 2) := by decide +kernel
theorem dL_isWell_455 : decode cL_isWell 455 = .ok (.iconst 1, 1) := by decide +kernel
theorem dL_isWell_456 : decode cL_isWell 456 = .ok (.isub, 1) := by decide +kernel
theorem dL_isWell_457 : decode cL_isWell 457 = .ok (.aload_n 0, 1) := by decide +kernel
theorem dL_isWell_458 : decode cL_isWell 458 = .ok (.iload 4, 2) := by decide +kernel
theorem dL_isWell_460 : decode cL_isWell 460 = .ok (.invokevirtual 209, 3) := by decide +kernel
theorem dL_isWell_463 : decode cL_isWell 463 = .ok (.imul, 1) := by decide +kernel
theorem dL_isWell_464 : decode cL_isWell 464 = .ok (.if_icmp .le 7, 3) := by decide +kernel
theorem dL_isWell_467 : decode cL_isWell 467 = .ok (.iconst 1, 1) := by decide +kernel
theorem dL_isWell_468 : decode cL_isWell 468 = .ok (.goto 4, 3) := by decide +kernel
theorem dL_isWell_471 : decode cL_isWell 471 = .ok (.iconst 0, 1) := by decide +kernel
theorem dL_isWell_472 : decode cL_isWell 472 = .ok (.if_icmp .ne 18, 3) := by decide +kernel
theorem dL_isWell_475 : decode cL_isWell 475 = .ok (.aload_n 0, 1) := by decide +kernel
theorem dL_isWell_476 : decode cL_isWell 476 = .ok (.iload 4, 2) := by decide +kernel
theorem dL_isWell_478 : decode cL_isWell 478 = .ok (.invokevirtual 258, 3) := by decide +kernel
theorem dL_isWell_481 : decode cL_isWell 481 = .ok (.aload_n 0, 1) := by decide +kernel
theorem dL_isWell_482 : decode cL_isWell 482 = .ok (.iload 4, 2) := by decide +kernel
theorem dL_isWell_484 : decode cL_isWell 484 = .ok (.invokevirtual 255, 3) := by decide +kernel
theorem dL_isWell_487 : decode cL_isWell 487 = .ok (.if_icmp .eq 5, 3) := by decide +kernel
theorem dL_isWell_490 : decode cL_isWell 490 = .ok (.iconst 0, 1) := by decide +kernel
theorem dL_isWell_491 : decode cL_isWell 491 = .ok (.ireturn, 1) := by decide +kernel
theorem dL_isWell_492 : decode cL_isWell 492 = .ok (.iinc 4 1, 3) := by decide +kernel
theorem dL_isWell_495 : decode cL_isWell 495 = .ok (.goto (-413), 3) := by decide +kernel
theorem dL_isWell_498 : decode cL_isWell 498 = .ok (.iconst 0, 1) := by decide +kernel
theorem dL_isWell_499 : decode cL_isWell 499 = .ok (.istore 4, 2) := by decide +kernel
theorem dL_isWell_501 : decode cL_isWell 501 = .ok (.iload 4, 2) := by decide +kernel
theorem dL_isWell_503 : decode cL_isWell 503 = .ok (.bipush 60, 2) := by decide +kernel
theorem dL_isWell_505 : decode cL_isWell 505 = .ok (.if_icmp .gt 73, 3) := by decide +kernel
theorem dL_isWell_508 : decode cL_isWell 508 = .ok (.iconst 0, 1) := by decide +kernel
theorem dL_isWell_509 : decode cL_isWell 509 = .ok (.istore 5, 2) := by decide +kernel
theorem dL_isWell_511 : decode cL_isWell 511 = .ok (.iconst 0, 1) := by decide +kernel
theorem dL_isWell_512 : decode cL_isWell 512 = .ok (.istore 6, 2) := by decide +kernel
theorem dL_isWell_514 : decode cL_isWell 514 = .ok (.iload 6, 2) := by decide +kernel
theorem dL_isWell_516 : decode cL_isWell 516 = .ok (.bipush 60, 2) := by decide +kernel
theorem dL_isWell_518 : decode cL_isWell 518 = .ok (.if_icmp .gt 30, 3) := by decide +kernel
theorem dL_isWell_521 : decode cL_isWell 521 = .ok (.iload 5, 2) := by decide +kernel
theorem dL_isWell_523 : decode cL_isWell 523 = .ok (.aload_n 0, 1) := by decide +kernel
theorem dL_isWell_524 : decode cL_isWell 524 = .ok (.iload 6, 2) := by decide +kernel
theorem dL_isWell_526 : decode cL_isWell 526 = .ok (.iload 4, 2) := by decide +kernel
theorem dL_isWell_528 : decode cL_isWell 528 = .ok (.invokevirtual 261, 3) := by decide +kernel
theorem dL_isWell_531 : decode cL_isWell 531 = .ok (.ifCond .eq 7, 3) := by decide +kernel
theorem dL_isWell_534 : decode cL_isWell 534 = .ok (.iconst 1, 1) := by decide +kernel
theorem dL_isWell_535 : decode cL_isWell 535 = .ok (.goto 4, 3) := by decide +kernel
theorem dL_isWell_538 : decode cL_isWell 538 = .ok (.iconst 0, 1) := by decide +kernel
theorem dL_isWell_539 : decode cL_isWell 539 = .ok (.iadd, 1) := by decide +kernel
theorem dL_isWell_540 : decode cL_isWell 540 = .ok (.istore 5, 2) := by decide +kernel
theorem dL_isWell_542 : decode cL_isWell 542 = .ok (.iinc 6 1, 3) := by decide +kernel
theorem dL_isWell_545 : decode cL_isWell 545 = .ok (.goto (-31), 3) := by decide +kernel
theorem dL_isWell_548 : decode cL_isWell 548 = .ok (.aload_n 0, 1) := by decide +kernel
theorem dL_isWell_549 : decode cL_isWell 549 = .ok (.iload 4, 2) := by decide +kernel
theorem dL_isWell_551 : decode cL_isWell 551 = .ok (.invokevirtual 240, 3) := by decide +kernel
theorem dL_isWell_554 : decode cL_isWell 554 = .ok (.iload 5, 2) := by decide +kernel
theorem dL_isWell_556 : decode cL_isWell 556 = .ok (.if_icmp .ne 14, 3) := by decide +kernel
theorem dL_isWell_559 : decode cL_isWell 559 = .ok (.aload_n 0, 1) := by decide +kernel
theorem dL_isWell_560 : decode cL_isWell 560 = .ok (.iload 4, 2) := by decide +kernel
theorem dL_isWell_562 : decode cL_isWell 562 = .ok (.invokevirtual 265, 3) := by decide +kernel
theorem dL_isWell_565 : decode cL_isWell 565 = .ok (.iload 5, 2) := by decide +kernel
theorem dL_isWell_567 : decode cL_isWell 567 = .ok (.if_icmp .eq 5, 3) := by decide +kernel
theorem dL_isWell_570 : decode cL_isWell 570 = .ok (.iconst 0, 1) := by decide +kernel
theorem dL_isWell_571 : decode cL_isWell 571 = .ok (.ireturn, 1) := by decide +kernel
theorem dL_isWell_572 : decode cL_isWell 572 = .ok (.iinc 4 5, 3) := by decide +kernel
theorem dL_isWell_575 : decode cL_isWell 575 = .ok (.goto (-74), 3) := by decide +kernel
theorem dL_isWell_578 : decode cL_isWell 578 = .ok (.aload_n 0, 1) := by decide +kernel
theorem dL_isWell_579 : decode cL_isWell 579 = .ok (.invokevirtual 203, 3) := by decide +kernel
theorem dL_isWell_582 : decode cL_isWell 582 = .ok (.iload_n 1, 1) := by decide +kernel
theorem dL_isWell_583 : decode cL_isWell 583 = .ok (.if_icmp .ne 34, 3) := by decide +kernel
theorem dL_isWell_586 : decode cL_isWell 586 = .ok (.aload_n 0, 1) := by decide +kernel
theorem dL_isWell_587 : decode cL_isWell 587 = .ok (.invokevirtual 268, 3) := by decide +kernel
theorem dL_isWell_590 : decode cL_isWell 590 = .ok (.iload_n 2, 1) := by decide +kernel
theorem dL_isWell_591 : decode cL_isWell 591 = .ok (.aload_n 0, 1) := by decide +kernel
theorem dL_isWell_592 : decode cL_isWell 592 = .ok (.invokevirtual 141, 3) := by decide +kernel
theorem dL_isWell_595 : decode cL_isWell 595 = .ok (.if_icmp .ne 7, 3) := by decide +kernel
theorem dL_isWell_598 : decode cL_isWell 598 = .ok (.iconst 1, 1) := by decide +kernel
theorem dL_isWell_599 : decode cL_isWell 599 = .ok (.goto 4, 3) := by decide +kernel
theorem dL_isWell_602 : decode cL_isWell 602 = .ok (.iconst 0, 1) := by decide +kernel
theorem dL_isWell_603 : decode cL_isWell 603 = .ok (.if_icmp .ne 14, 3) := by decide +kernel
theorem dL_isWell_606 : decode cL_isWell 606 = .ok (.aload_n 0, 1) := by decide +kernel
theorem dL_isWell_607 : decode cL_isWell 607 = .ok (.invokevirtual 272, 3) := by decide +kernel
theorem dL_isWell_610 : decode cL_isWell 610 = .ok (.ifCond .eq 7, 3) := by decide +kernel
theorem dL_isWell_613 : decode cL_isWell 613 = .ok (.iconst 1, 1) := by decide +kernel
theorem dL_isWell_614 : decode cL_isWell 614 = .ok (.goto 4, 3) := by decide +kernel
theorem dL_isWell_617 : decode cL_isWell 617 = .ok (.iconst 0, 1) := by decide +kernel
theorem dL_isWell_618 : decode cL_isWell 618 = .ok (.ireturn, 1) := by decide +kernel
def fL_does_L4 (ad : Nat → Nat) (S : (Nat → Nat)) (Ln : (Nat → Nat)) (R4 : gR) (l0_4 : Nat) (l1_4 : Nat) (s4 : Int × Int × gM) : Option ((Int × Int × gM) ⊕ ((Int × gM) ⊕ (Int × gM × gR))) :=
  bd (fJ0_length_8abf5 ad S Ln R4 s4.2.2 l1_4) fun q1 => if q1 ≤ s4.2.1 then (some (.inr (.inl (s4.1, s4.2.2)))) else (bd (fJ0_charAt_5068e ad S Ln R4 s4.2.2 l1_4 s4.2.1) fun q2 => bd (fX9_append ad S Ln R4 s4.2.2 l0_4 q2) fun q3 => Sum.elim (fun v3 => some (.inl (w32 (s4.1 + v3.1), w32 (s4.2.1 + 1), v3.2))) (fun e3 => none) q3)
def fL_does (ad S Ln : Nat → Nat) (R : gR) (M : gM) (x0 : Nat) (x1 : Nat) : Option (Int × gM × gR) :=
  bd (lp (fL_does_L4 ad S Ln R x0 x1) FU (0, 0, M)) fun q6 => Sum.elim (fun e4_4 => if 0 ≤ e4_4.1 then (bd (fL_run ad S Ln R e4_4.2 x0) fun q5 => some ((q5.1, q5.2.1, q5.2.2))) else (some (((-900009), e4_4.2, R)))) (fun c6 => some c6) q6
theorem xL_does {l : Launch} {G : gE} {sz : Nat} {S Ln : Nat → Nat} {M : gM} {R : gR} (hl : l.stackTraces = false) {x0 : Nat} (hp0 : S x0 = 12) {x1 : Nat} (hp1 : S x1 = 1) {r : Int × gM × gR} (h : fL_does G.2.2.2.2 S Ln R M x0 x1 = some r) : Ct l G yL_does cL_does 4 (some .int) 19 1 256 [.ref x0, .ref x1] sz S Ln M R (poW r.1 S Ln S Ln r.2.1 r.2.2) noX := by
  refine jj_start (own := RL) (lv0 := [(0, .ref x0), (1, .ref x1)]) hl (by decide +kernel) rfl rfl (c_le rfl) (fun C hCl hC => ?_)
  have hL4 : ∀ (sz4 : Nat) (R4 : gR) (l0_4 : Nat) (l1_4 : Nat), Ex2 S Ln S Ln → S l0_4 = 12 → S l1_4 = 1 → ∀ (n : Nat) (s4 : Int × Int × gM) (q : (Int × gM) ⊕ (Int × gM × gR)), lp (fL_does_L4 G.2.2.2.2 S Ln R4 l0_4 l1_4) n s4 = some q → (-2147483648 ≤ s4.1 ∧ s4.1 < 2147483648) ∧ (-2147483648 ≤ s4.2.1 ∧ s4.2.1 < 2147483648) → (∀ e4, q = .inl e4 → (-2147483648 ≤ e4.1 ∧ e4.1 < 2147483648) → JJ G C 0 0 sz4 S Ln e4.2 R4 30 [(0, .ref l0_4), (2, .int (iI e4.1))] []) → (∀ c, q = .inr c → c = r) → JJ G C 0 0 sz4 S Ln s4.2.2 R4 4 [(0, .ref l0_4), (1, .ref l1_4), (2, .int (iI s4.1)), (3, .int (iI s4.2.1))] [] := by
    intro sz4 R4 l0_4 l1_4 hx4 hl0_4 hl1_4
    refine lp_ind ?_
    intro s4 r4 hI4 h hJ4 hE4 hR4
    obtain ⟨hs4_0, hs4_1⟩ := hI4
    unfold fL_does_L4 at h
    refine jj_iload_n hC dL_does_4 rfl 3 rfl ?_
    refine jj_aload_n hC dL_does_5 rfl 1 rfl ?_
    obtain ⟨q1, hq1, h⟩ := bd_e h
    refine jj_invV hC mvJ0_length_8abf5 wd266 wd267 wd1282 hl1_4 (by decide) rfl (xJ0_length_8abf5 (OKC.tr hC) hl1_4 hq1) rfl rfl (c_le rfl) (c_le rfl) (by omega) (by omega) dL_does_6 noXk (po_kI (fun hr1 => ?_))
    refine jj_icmp_ge (tgt := 30) hC dL_does_9 rfl hs4_1 hr1 (fun hc => ?_) (fun hc => ?_)
    · replace h := (if_pos hc).symm.trans h
      refine jj_lv (lv' := [(0, .ref l0_4), (2, .int (iI s4.1))]) [0, 2] rfl ?_
      exact hE4 _ (Option.some.inj h).symm hs4_0
    · replace h := (if_neg (Int.not_le.mpr hc)).symm.trans h
      refine jj_iload_n hC dL_does_12 rfl 2 rfl ?_
      refine jj_aload_n hC dL_does_13 rfl 0 rfl ?_
      refine jj_aload_n hC dL_does_14 rfl 1 rfl ?_
      refine jj_iload_n hC dL_does_15 rfl 3 rfl ?_
      obtain ⟨q2, hq2, h⟩ := bd_e h
      refine jj_invV hC mvJ0_charAt_5068e wd1284 wd1285 wd1283 hl1_4 (by decide) rfl (xJ0_charAt_5068e (OKC.tr hC) hl1_4 hs4_1 hq2) rfl rfl (c_le rfl) (c_le rfl) (by omega) (by omega) dL_does_16 noXk (po_kC (fun hr2 => ?_))
      obtain ⟨q3, hq3, h⟩ := bd_e h
      obtain ⟨v3, hv3, h⟩ := el_n h
      subst hv3
      refine jj_invV hC mvX9_append wd1299 wd1300 wd1298 hl0_4 (by decide) rfl (xX9_append_n (OKC.tr hC) hl0_4 hr2 hq3) rfl rfl (c_le rfl) (c_le rfl) (by omega) (by omega) dL_does_19 noXk (po_kI (fun hr3 => ?_))
      refine jg_iadd hC dL_does_22 ?_
      refine jj_istore_n (lv' := [(2, .int (iI (w32 (s4.1 + v3.1)))), (0, .ref l0_4), (1, .ref l1_4), (3, .int (iI s4.2.1))]) hC dL_does_23 rfl (by decide) rfl ?_
      refine jg_iinc (q := 3) (lv' := [(3, .int (iI (w32 (s4.2.1 + 1)))), (2, .int (iI (w32 (s4.1 + v3.1)))), (0, .ref l0_4), (1, .ref l1_4)]) hC dL_does_24 rfl (by decide) rfl ?_
      refine jj_goto (tgt := 4) hC dL_does_27 rfl ?_
      refine jj_lv (lv' := [(0, .ref l0_4), (1, .ref l1_4), (2, .int (iI (w32 (s4.1 + v3.1)))), (3, .int (iI (w32 (s4.2.1 + 1))))]) [2, 3, 1, 0] rfl ?_
      exact hJ4 _ (Option.some.inj h).symm ⟨(w32_r _), (w32_r _)⟩
  unfold fL_does at h
  refine jj_iconst hC dL_does_0 ?_
  refine jj_istore_n (lv' := [(2, .int (iI 0)), (0, .ref x0), (1, .ref x1)]) hC dL_does_1 rfl (by decide) rfl ?_
  refine jj_iconst hC dL_does_2 ?_
  refine jj_istore_n (lv' := [(3, .int (iI 0)), (2, .int (iI 0)), (0, .ref x0), (1, .ref x1)]) hC dL_does_3 rfl (by decide) rfl ?_
  obtain ⟨q6, hq6, h⟩ := bd_e h
  refine jj_lv (lv' := [(0, .ref x0), (1, .ref x1), (2, .int (iI 0)), (3, .int (iI 0))]) [2, 3, 1, 0] rfl ?_
  refine hL4 sz R x0 x1 ex2_r hp0 hp1 FU _ q6 hq6 ⟨(show (-2147483648 ≤ (0 : Int) ∧ (0 : Int) < 2147483648) from by decide), (show (-2147483648 ≤ (0 : Int) ∧ (0 : Int) < 2147483648) from by decide)⟩ (fun e4_4 he6 hIE6 => ?_) (fun c6 hc6 => ?_)
  · subst he6
    replace h := el_l h
    have he4_4_0 := hIE6
    refine jj_iload_n hC dL_does_30 rfl 1 rfl ?_
    refine jj_if_ge (tgt := 39) hC dL_does_31 rfl he4_4_0 (fun hc => ?_) (fun hc => ?_)
    · replace h := (if_pos hc).symm.trans h
      refine jj_aload_n hC dL_does_39 rfl 0 rfl ?_
      obtain ⟨q5, hq5, h⟩ := bd_e h
      refine jj_invSW hC mvwL_run wd1313 wd1312 (xL_run (OKC.tr hC) hp0 hq5) rfl rfl (c_le rfl) (c_le rfl) (by omega) (by omega) dL_does_40 (po_kW (fun hr5 hx5 sz5 => ?_))
      refine jj_widen (k' := 1) (n' := 256) (by omega) (by omega) ?_
      cases h
      exact jj_iret hC (by omega) (by omega) dL_does_43 ⟨rfl, hr5, ex2_r, rfl, rfl, rfl, rfl⟩
    · replace h := (if_neg (Int.not_le.mpr hc)).symm.trans h
      refine jj_ldcI (v := (-900009)) hC rfl wd1243 dL_does_34 ?_
      refine jj_goto (tgt := 43) hC dL_does_36 rfl ?_
      cases h
      exact jj_iret hC (by omega) (by omega) dL_does_43 ⟨rfl, (show (-2147483648 ≤ ((-900009) : Int) ∧ ((-900009) : Int) < 2147483648) from by decide), ex2_r, rfl, rfl, rfl, rfl⟩
  · subst hc6
    replace h := el_r h
    exact Option.some.inj h
def fL_begun_L30 (ad : Nat → Nat) (S30 : (Nat → Nat)) (Ln30 : (Nat → Nat)) (l0_30 : Nat) (l1_30 : Nat) (l2_30 : Int) (s30 : Int × Int × gM × gR × Nat) : Option ((Int × Int × gM × gR × Nat) ⊕ ((Int × gM × gR) ⊕ (Nat × (Nat → Nat) × (Nat → Nat) × gM × gR))) :=
  gd (s30.2.2.2.2 ≤ 8) (if 5 ≤ s30.2.1 then (some (.inr (.inl (s30.1, s30.2.2.1, s30.2.2.2.1)))) else (bd (fL_in ad S30 Ln30 s30.2.2.2.1 s30.2.2.1 l0_30 (w32 (1 + s30.2.1)) l2_30) fun q4 => bd (fL_in ad S30 Ln30 s30.2.2.2.1 s30.2.2.1 l0_30 (w32 (6 + s30.2.1)) l2_30) fun q5 => bd (fL_addPoint ad S30 Ln30 s30.2.2.2.1 s30.2.2.1 l1_30 q4 q5) fun q6 => some (.inl (w32 (s30.1 + q6.1), w32 (s30.2.1 + 1), q6.2.1, q6.2.2, s30.2.2.2.2 + 1))))
def fL_begun_L71 (ad : Nat → Nat) (S71 : (Nat → Nat)) (Ln71 : (Nat → Nat)) (l0_71 : Nat) (l1_71 : Nat) (l2_71 : Int) (s71 : Int × Int × gM × gR × Nat) : Option ((Int × Int × gM × gR × Nat) ⊕ ((Int × gM × gR) ⊕ (Nat × (Nat → Nat) × (Nat → Nat) × gM × gR))) :=
  gd (s71.2.2.2.2 ≤ 8) (if 4 ≤ s71.2.1 then (some (.inr (.inl (s71.1, s71.2.2.1, s71.2.2.2.1)))) else (bd (fL_in ad S71 Ln71 s71.2.2.2.1 s71.2.2.1 l0_71 (w32 (11 + s71.2.1)) 5) fun q8 => bd (fL_addTaskPoint ad S71 Ln71 s71.2.2.2.1 s71.2.2.1 l1_71 q8) fun q9 => bd (fL_in ad S71 Ln71 q9.2.2 q9.2.1 l0_71 (w32 (15 + s71.2.1)) l2_71) fun q10 => bd (fL_in ad S71 Ln71 q9.2.2 q9.2.1 l0_71 (w32 (19 + s71.2.1)) l2_71) fun q11 => bd (fL_in ad S71 Ln71 q9.2.2 q9.2.1 l0_71 (w32 (23 + s71.2.1)) 5) fun q12 => bd (fL_addThermal ad S71 Ln71 q9.2.2 q9.2.1 l1_71 q10 q11 (w32 (1 + q12))) fun q13 => bd (fL_in ad S71 Ln71 q13.2.2 q13.2.1 l0_71 (w32 (27 + s71.2.1)) 41) fun q14 => bd (fL_addPilot ad S71 Ln71 q13.2.2 q13.2.1 l1_71 (w32 (20 + q14))) fun q15 => some (.inl (w32 ((w32 ((w32 (s71.1 + q9.1)) + q13.1)) + q15.1), w32 (s71.2.1 + 1), q15.2.1, q15.2.2, s71.2.2.2.2 + 1))))
def fL_begun_B276 (ad : Nat → Nat) (S246 Ln246 : Nat → Nat) (R276 : gR) (M276 : gM) (l0_246 : Nat) (l1_246 : Nat) (l4_276 : Int) (s0_276 : Int) (s1_276 : Int) (ccj : Nat) : Option ((Int × Int × gM × gR × Nat) ⊕ ((Int × gM × gR) ⊕ (Nat × (Nat → Nat) × (Nat → Nat) × gM × gR))) :=
  some (.inl (w32 (s1_276 + s0_276), w32 (l4_276 + 1), M276, R276, ccj + 1))
def fL_begun_L246 (ad : Nat → Nat) (S246 : (Nat → Nat)) (Ln246 : (Nat → Nat)) (l0_246 : Nat) (l1_246 : Nat) (s246 : Int × Int × gM × gR × Nat) : Option ((Int × Int × gM × gR × Nat) ⊕ ((Int × gM × gR) ⊕ (Nat × (Nat → Nat) × (Nat → Nat) × gM × gR))) :=
  gd (s246.2.2.2.2 ≤ 8) (if 3 ≤ s246.2.1 then (some (.inr (.inl (s246.1, s246.2.2.1, s246.2.2.2.1)))) else (bd (fL_in ad S246 Ln246 s246.2.2.2.1 s246.2.2.1 l0_246 (w32 (37 + s246.2.1)) 5) fun q24 => if q24 ≤ 0 then (fL_begun_B276 ad S246 Ln246 s246.2.2.2.1 s246.2.2.1 l0_246 l1_246 s246.2.1 0 s246.1 s246.2.2.2.2) else (bd (fL_launch ad S246 Ln246 s246.2.2.2.1 s246.2.2.1 l1_246 s246.2.1) fun q25 => fL_begun_B276 ad S246 Ln246 q25.2.2 q25.2.1 l0_246 l1_246 s246.2.1 q25.1 s246.1 s246.2.2.2.2)))
def fL_begun_B241 (ad : Nat → Nat) (S241 Ln241 : Nat → Nat) (R241 : gR) (M241 : gM) (l0_241 : Nat) (l1_241 : Nat) (s0_241 : Int) (s1_241 : Int) : Option (Nat × (Nat → Nat) × (Nat → Nat) × gM × gR) :=
  bd (lp (fL_begun_L246 ad S241 Ln241 l0_241 l1_241) FU (w32 (s1_241 + s0_241), 0, M241, R241, 0)) fun q27 => Sum.elim (fun e246_26 => if (-90000000) ≤ e246_26.1 then (some ((l1_241, S241, Ln241, e246_26.2.1, e246_26.2.2))) else (none)) (fun c27 => some c27) q27
def fL_begun_B24 (ad : Nat → Nat) (sz24 : Nat) (S24 Ln24 : Nat → Nat) (R24 : gR) (M24 : gM) (l0_24 : Nat) (l1_24 : Nat) (s0_24 : Int) : Option (Nat × (Nat → Nat) × (Nat → Nat) × gM × gR) :=
  bd (lp (fL_begun_L30 ad S24 Ln24 l0_24 l1_24 s0_24) FU (0, 0, M24, R24, 0)) fun q31 => Sum.elim (fun e30_7 => bd (lp (fL_begun_L71 ad S24 Ln24 l0_24 l1_24 s0_24) FU (e30_7.1, 0, e30_7.2.1, e30_7.2.2, 0)) fun q30 => Sum.elim (fun e71_16 => bd (fL_in ad S24 Ln24 e71_16.2.2 e71_16.2.1 l0_24 31 s0_24) fun q17 => bd (fL_in ad S24 Ln24 e71_16.2.2 e71_16.2.1 l0_24 32 s0_24) fun q18 => bd (fL_addArea ad S24 Ln24 e71_16.2.2 e71_16.2.1 l1_24 q17 q18 60 60) fun q19 => bd (fL_in ad S24 Ln24 q19.2.2 q19.2.1 l0_24 33 s0_24) fun q20 => bd (fL_in ad S24 Ln24 q19.2.2 q19.2.1 l0_24 34 9) fun q21 => bd (fL_addArea ad S24 Ln24 q19.2.2 q19.2.1 l1_24 0 3 q20 (w32 (3 + q21))) fun q22 => bd (fL_in ad S24 Ln24 q22.2.2 q22.2.1 l0_24 35 3) fun q23 => if ¬ q23 = 0 then (fL_begun_B241 ad S24 Ln24 q22.2.2 q22.2.1 l0_24 l1_24 0 (w32 (e71_16.1 + (w32 (q19.1 + q22.1))))) else (bd (fL_in ad S24 Ln24 q22.2.2 q22.2.1 l0_24 36 1500) fun q28 => bd (fL_setCloudBase ad S24 Ln24 q22.2.2 q22.2.1 l1_24 (w32 (500 + q28))) fun q29 => fL_begun_B241 ad S24 Ln24 q29.2.2 q29.2.1 l0_24 l1_24 q29.1 (w32 (e71_16.1 + (w32 (q19.1 + q22.1)))))) (fun c30 => some c30) q30) (fun c31 => some c31) q31
def fL_begun (ad : Nat → Nat) (sz : Nat) (S Ln : Nat → Nat) (R : gR) (M : gM) (x0 : Nat) : Option (Nat × (Nat → Nat) × (Nat → Nat) × gM × gR) :=
  nam (ua S sz 12) fun S1 => nam (ua Ln sz 0) fun Ln1 => nam (ua M sz (gN 12)) fun M1 => nam (ua R sz gNo) fun R1 => bd (fX9_init ad (sz + 1) S1 Ln1 R1 M1 sz) fun q2 => bd (fL_in ad q2.2.1 q2.2.2.1 q2.2.2.2.2 q2.2.2.2.1 x0 0 2) fun q3 => if ¬ q3 = 0 then (fL_begun_B24 ad q2.1 q2.2.1 q2.2.2.1 q2.2.2.2.2 q2.2.2.2.1 x0 sz 61) else (fL_begun_B24 ad q2.1 q2.2.1 q2.2.2.1 q2.2.2.2.2 q2.2.2.2.1 x0 sz 14)
theorem xL_begun {l : Launch} {G : gE} {sz : Nat} {S Ln : Nat → Nat} {M : gM} {R : gR} (hl : l.stackTraces = false) {x0 : Nat} (hp0 : S x0 = 29) {r : Nat × (Nat → Nat) × (Nat → Nat) × gM × gR} (h : fL_begun G.2.2.2.2 sz S Ln R M x0 = some r) : Ct l G yL_begun cL_begun 5 (some (.object "GlidingContest")) 11 416 106496 [.ref x0] sz S Ln M R (poWA 12 r.1 S Ln r.2.1 r.2.2.1 r.2.2.2.1 r.2.2.2.2) noX := by
  refine jj_start (own := RL) (lv0 := [(0, .ref x0)]) hl (by decide +kernel) rfl rfl (c_le rfl) (fun C hCl hC => ?_)
  have hL30 : ∀ (S30 : (Nat → Nat)) (Ln30 : (Nat → Nat)) (l0_30 : Nat) (l1_30 : Nat) (l2_30 : Int), (-2147483648 ≤ l2_30 ∧ l2_30 < 2147483648) → ∀ (n : Nat) (s30 : Int × Int × gM × gR × Nat) (q : (Int × gM × gR) ⊕ (Nat × (Nat → Nat) × (Nat → Nat) × gM × gR)), lp (fL_begun_L30 G.2.2.2.2 S30 Ln30 l0_30 l1_30 l2_30) n s30 = some q → (-2147483648 ≤ s30.1 ∧ s30.1 < 2147483648) ∧ (-2147483648 ≤ s30.2.1 ∧ s30.2.1 < 2147483648) ∧ S30 l0_30 = 29 ∧ S30 l1_30 = 12 ∧ Ex2 S Ln S30 Ln30 → (∀ e30, q = .inl e30 → (-2147483648 ≤ e30.1 ∧ e30.1 < 2147483648) ∧ S30 l0_30 = 29 ∧ S30 l1_30 = 12 ∧ Ex2 S Ln S30 Ln30 → ∀ szE30, JJ G C 380 97280 szE30 S30 Ln30 e30.2.1 e30.2.2 68 [(0, .ref l0_30), (1, .ref l1_30), (2, .int (iI l2_30)), (3, .int (iI e30.1))] []) → (∀ c, q = .inr c → c = r) → ∀ sz30, JJ G C (372 + 1 * s30.2.2.2.2) (256 * (372 + 1 * s30.2.2.2.2)) sz30 S30 Ln30 s30.2.2.1 s30.2.2.2.1 30 [(0, .ref l0_30), (1, .ref l1_30), (2, .int (iI l2_30)), (3, .int (iI s30.1)), (4, .int (iI s30.2.1))] [] := by
    intro S30 Ln30 l0_30 l1_30 l2_30 hl2_30
    refine lp_ind ?_
    intro s30 r30 hI30 h hJ30 hE30 hR30 sz30
    obtain ⟨hs30_0, hs30_1, hl0_30, hl1_30, hx30⟩ := hI30
    unfold fL_begun_L30 at h
    obtain ⟨hcc30, h⟩ := gd_e h
    refine jj_iload hC dL_begun_30 4 rfl ?_
    refine jj_iconst hC dL_begun_32 ?_
    refine jj_icmp_ge (tgt := 68) hC dL_begun_33 rfl hs30_1 (show (-2147483648 ≤ (5 : Int) ∧ (5 : Int) < 2147483648) from by decide) (fun hc => ?_) (fun hc => ?_)
    · replace h := (if_pos hc).symm.trans h
      refine jj_widen (k' := 380) (n' := 97280) (by omega) (by omega) ?_
      refine jj_lv (lv' := [(0, .ref l0_30), (1, .ref l1_30), (2, .int (iI l2_30)), (3, .int (iI s30.1))]) [0, 1, 2, 3] rfl ?_
      exact hE30 _ (Option.some.inj h).symm ⟨hs30_0, hl0_30, hl1_30, hx30⟩ sz30
    · replace h := (if_neg (Int.not_le.mpr hc)).symm.trans h
      refine jj_iload_n hC dL_begun_36 rfl 3 rfl ?_
      refine jj_aload_n hC dL_begun_37 rfl 1 rfl ?_
      refine jj_aload_n hC dL_begun_38 rfl 0 rfl ?_
      refine jj_iconst hC dL_begun_39 ?_
      refine jj_iload hC dL_begun_40 4 rfl ?_
      refine jg_iadd hC dL_begun_42 ?_
      refine jj_iload_n hC dL_begun_43 rfl 2 rfl ?_
      obtain ⟨q4, hq4, h⟩ := bd_e h
      refine jj_invS hC mvL_in wd874 wd873 (xL_in (OKC.tr hC) hl0_30 (w32_r _) hl2_30 hq4) rfl rfl (c_le rfl) (c_le rfl) (by omega) (by omega) dL_begun_44 noXk (po_kI (fun hr4 => ?_))
      refine jj_aload_n hC dL_begun_47 rfl 0 rfl ?_
      refine jj_bipush hC dL_begun_48 (by decide) ?_
      refine jj_iload hC dL_begun_50 4 rfl ?_
      refine jg_iadd hC dL_begun_52 ?_
      refine jj_iload_n hC dL_begun_53 rfl 2 rfl ?_
      obtain ⟨q5, hq5, h⟩ := bd_e h
      refine jj_invS hC mvL_in wd874 wd873 (xL_in (OKC.tr hC) hl0_30 (w32_r _) hl2_30 hq5) rfl rfl (c_le rfl) (c_le rfl) (by omega) (by omega) dL_begun_54 noXk (po_kI (fun hr5 => ?_))
      obtain ⟨q6, hq6, h⟩ := bd_e h
      refine jj_invSW hC mvwL_addPoint wd1146 wd1145 (xL_addPoint (OKC.tr hC) hl1_30 hr4 hr5 hq6) rfl rfl (c_le rfl) (c_le rfl) (by omega) (by omega) dL_begun_57 (po_kW (fun hr6 hx6 sz6 => ?_))
      refine jj_widen (k' := 372 + 1 * s30.2.2.2.2 + 1) (n' := 256 * (372 + 1 * s30.2.2.2.2 + 1)) (by omega) (by omega) ?_
      refine jg_iadd hC dL_begun_60 ?_
      refine jj_istore_n (lv' := [(3, .int (iI (w32 (s30.1 + q6.1)))), (0, .ref l0_30), (1, .ref l1_30), (2, .int (iI l2_30)), (4, .int (iI s30.2.1))]) hC dL_begun_61 rfl (by decide) rfl ?_
      refine jg_iinc (q := 4) (lv' := [(4, .int (iI (w32 (s30.2.1 + 1)))), (3, .int (iI (w32 (s30.1 + q6.1)))), (0, .ref l0_30), (1, .ref l1_30), (2, .int (iI l2_30))]) hC dL_begun_62 rfl (by decide) rfl ?_
      refine jj_goto (tgt := 30) hC dL_begun_65 rfl ?_
      refine jj_widen (k' := 372 + 1 * (s30.2.2.2.2 + 1)) (n' := 256 * (372 + 1 * (s30.2.2.2.2 + 1))) (by omega) (by omega) ?_
      refine jj_lv (lv' := [(0, .ref l0_30), (1, .ref l1_30), (2, .int (iI l2_30)), (3, .int (iI (w32 (s30.1 + q6.1)))), (4, .int (iI (w32 (s30.2.1 + 1))))]) [2, 3, 4, 1, 0] rfl ?_
      exact hJ30 _ (Option.some.inj h).symm ⟨(w32_r _), (w32_r _), hl0_30, hl1_30, hx30⟩ sz6
  have hL71 : ∀ (S71 : (Nat → Nat)) (Ln71 : (Nat → Nat)) (l0_71 : Nat) (l1_71 : Nat) (l2_71 : Int), (-2147483648 ≤ l2_71 ∧ l2_71 < 2147483648) → ∀ (n : Nat) (s71 : Int × Int × gM × gR × Nat) (q : (Int × gM × gR) ⊕ (Nat × (Nat → Nat) × (Nat → Nat) × gM × gR)), lp (fL_begun_L71 G.2.2.2.2 S71 Ln71 l0_71 l1_71 l2_71) n s71 = some q → (-2147483648 ≤ s71.1 ∧ s71.1 < 2147483648) ∧ (-2147483648 ≤ s71.2.1 ∧ s71.2.1 < 2147483648) ∧ S71 l0_71 = 29 ∧ S71 l1_71 = 12 ∧ Ex2 S Ln S71 Ln71 → (∀ e71, q = .inl e71 → (-2147483648 ≤ e71.1 ∧ e71.1 < 2147483648) ∧ S71 l0_71 = 29 ∧ S71 l1_71 = 12 ∧ Ex2 S Ln S71 Ln71 → ∀ szE71, JJ G C 404 103424 szE71 S71 Ln71 e71.2.1 e71.2.2 160 [(0, .ref l0_71), (1, .ref l1_71), (2, .int (iI l2_71)), (3, .int (iI e71.1))] []) → (∀ c, q = .inr c → c = r) → ∀ sz71, JJ G C (380 + 3 * s71.2.2.2.2) (256 * (380 + 3 * s71.2.2.2.2)) sz71 S71 Ln71 s71.2.2.1 s71.2.2.2.1 71 [(0, .ref l0_71), (1, .ref l1_71), (2, .int (iI l2_71)), (3, .int (iI s71.1)), (4, .int (iI s71.2.1))] [] := by
    intro S71 Ln71 l0_71 l1_71 l2_71 hl2_71
    refine lp_ind ?_
    intro s71 r71 hI71 h hJ71 hE71 hR71 sz71
    obtain ⟨hs71_0, hs71_1, hl0_71, hl1_71, hx71⟩ := hI71
    unfold fL_begun_L71 at h
    obtain ⟨hcc71, h⟩ := gd_e h
    refine jj_iload hC dL_begun_71 4 rfl ?_
    refine jj_iconst hC dL_begun_73 ?_
    refine jj_icmp_ge (tgt := 160) hC dL_begun_74 rfl hs71_1 (show (-2147483648 ≤ (4 : Int) ∧ (4 : Int) < 2147483648) from by decide) (fun hc => ?_) (fun hc => ?_)
    · replace h := (if_pos hc).symm.trans h
      refine jj_widen (k' := 404) (n' := 103424) (by omega) (by omega) ?_
      refine jj_lv (lv' := [(0, .ref l0_71), (1, .ref l1_71), (2, .int (iI l2_71)), (3, .int (iI s71.1))]) [0, 1, 2, 3] rfl ?_
      exact hE71 _ (Option.some.inj h).symm ⟨hs71_0, hl0_71, hl1_71, hx71⟩ sz71
    · replace h := (if_neg (Int.not_le.mpr hc)).symm.trans h
      refine jj_iload_n hC dL_begun_77 rfl 3 rfl ?_
      refine jj_aload_n hC dL_begun_78 rfl 1 rfl ?_
      refine jj_aload_n hC dL_begun_79 rfl 0 rfl ?_
      refine jj_bipush hC dL_begun_80 (by decide) ?_
      refine jj_iload hC dL_begun_82 4 rfl ?_
      refine jg_iadd hC dL_begun_84 ?_
      refine jj_iconst hC dL_begun_85 ?_
      obtain ⟨q8, hq8, h⟩ := bd_e h
      refine jj_invS hC mvL_in wd874 wd873 (xL_in (OKC.tr hC) hl0_71 (w32_r _) (show (-2147483648 ≤ (5 : Int) ∧ (5 : Int) < 2147483648) from by decide) hq8) rfl rfl (c_le rfl) (c_le rfl) (by omega) (by omega) dL_begun_86 noXk (po_kI (fun hr8 => ?_))
      obtain ⟨q9, hq9, h⟩ := bd_e h
      refine jj_invSW hC mvwL_addTaskPoint wd1161 wd1160 (xL_addTaskPoint (OKC.tr hC) hl1_71 hr8 hq9) rfl rfl (c_le rfl) (c_le rfl) (by omega) (by omega) dL_begun_89 (po_kW (fun hr9 hx9 sz9 => ?_))
      refine jj_widen (k' := 380 + 3 * s71.2.2.2.2 + 1) (n' := 256 * (380 + 3 * s71.2.2.2.2 + 1)) (by omega) (by omega) ?_
      refine jg_iadd hC dL_begun_92 ?_
      refine jj_istore_n (lv' := [(3, .int (iI (w32 (s71.1 + q9.1)))), (0, .ref l0_71), (1, .ref l1_71), (2, .int (iI l2_71)), (4, .int (iI s71.2.1))]) hC dL_begun_93 rfl (by decide) rfl ?_
      refine jj_iload_n hC dL_begun_94 rfl 0 rfl ?_
      refine jj_aload_n hC dL_begun_95 rfl 2 rfl ?_
      refine jj_aload_n hC dL_begun_96 rfl 1 rfl ?_
      refine jj_bipush hC dL_begun_97 (by decide) ?_
      refine jj_iload hC dL_begun_99 4 rfl ?_
      refine jg_iadd hC dL_begun_101 ?_
      refine jj_iload_n hC dL_begun_102 rfl 3 rfl ?_
      obtain ⟨q10, hq10, h⟩ := bd_e h
      refine jj_invS hC mvL_in wd874 wd873 (xL_in (OKC.tr hC) hl0_71 (w32_r _) hl2_71 hq10) rfl rfl (c_le rfl) (c_le rfl) (by omega) (by omega) dL_begun_103 noXk (po_kI (fun hr10 => ?_))
      refine jj_aload_n hC dL_begun_106 rfl 1 rfl ?_
      refine jj_bipush hC dL_begun_107 (by decide) ?_
      refine jj_iload hC dL_begun_109 4 rfl ?_
      refine jg_iadd hC dL_begun_111 ?_
      refine jj_iload_n hC dL_begun_112 rfl 3 rfl ?_
      obtain ⟨q11, hq11, h⟩ := bd_e h
      refine jj_invS hC mvL_in wd874 wd873 (xL_in (OKC.tr hC) hl0_71 (w32_r _) hl2_71 hq11) rfl rfl (c_le rfl) (c_le rfl) (by omega) (by omega) dL_begun_113 noXk (po_kI (fun hr11 => ?_))
      refine jj_iconst hC dL_begun_116 ?_
      refine jj_aload_n hC dL_begun_117 rfl 1 rfl ?_
      refine jj_bipush hC dL_begun_118 (by decide) ?_
      refine jj_iload hC dL_begun_120 4 rfl ?_
      refine jg_iadd hC dL_begun_122 ?_
      refine jj_iconst hC dL_begun_123 ?_
      obtain ⟨q12, hq12, h⟩ := bd_e h
      refine jj_invS hC mvL_in wd874 wd873 (xL_in (OKC.tr hC) hl0_71 (w32_r _) (show (-2147483648 ≤ (5 : Int) ∧ (5 : Int) < 2147483648) from by decide) hq12) rfl rfl (c_le rfl) (c_le rfl) (by omega) (by omega) dL_begun_124 noXk (po_kI (fun hr12 => ?_))
      refine jg_iadd hC dL_begun_127 ?_
      obtain ⟨q13, hq13, h⟩ := bd_e h
      refine jj_invSW hC mvwL_addThermal wd1185 wd1184 (xL_addThermal (OKC.tr hC) hl1_71 hr10 hr11 (w32_r _) hq13) rfl rfl (c_le rfl) (c_le rfl) (by omega) (by omega) dL_begun_128 (po_kW (fun hr13 hx13 sz13 => ?_))
      refine jj_widen (k' := 380 + 3 * s71.2.2.2.2 + 2) (n' := 256 * (380 + 3 * s71.2.2.2.2 + 2)) (by omega) (by omega) ?_
      refine jg_iadd hC dL_begun_131 ?_
      refine jj_istore_n (lv' := [(3, .int (iI (w32 ((w32 (s71.1 + q9.1)) + q13.1)))), (0, .ref l0_71), (1, .ref l1_71), (2, .int (iI l2_71)), (4, .int (iI s71.2.1))]) hC dL_begun_132 rfl (by decide) rfl ?_
      refine jj_iload_n hC dL_begun_133 rfl 0 rfl ?_
      refine jj_aload_n hC dL_begun_134 rfl 2 rfl ?_
      refine jj_bipush hC dL_begun_135 (by decide) ?_
      refine jj_aload_n hC dL_begun_137 rfl 1 rfl ?_
      refine jj_bipush hC dL_begun_138 (by decide) ?_
      refine jj_iload hC dL_begun_140 4 rfl ?_
      refine jg_iadd hC dL_begun_142 ?_
      refine jj_bipush hC dL_begun_143 (by decide) ?_
      obtain ⟨q14, hq14, h⟩ := bd_e h
      refine jj_invS hC mvL_in wd874 wd873 (xL_in (OKC.tr hC) hl0_71 (w32_r _) (show (-2147483648 ≤ (41 : Int) ∧ (41 : Int) < 2147483648) from by decide) hq14) rfl rfl (c_le rfl) (c_le rfl) (by omega) (by omega) dL_begun_145 noXk (po_kI (fun hr14 => ?_))
      refine jg_iadd hC dL_begun_148 ?_
      obtain ⟨q15, hq15, h⟩ := bd_e h
      refine jj_invSW hC mvwL_addPilot wd556 wd555 (xL_addPilot (OKC.tr hC) hl1_71 (w32_r _) hq15) rfl rfl (c_le rfl) (c_le rfl) (by omega) (by omega) dL_begun_149 (po_kW (fun hr15 hx15 sz15 => ?_))
      refine jj_widen (k' := 380 + 3 * s71.2.2.2.2 + 3) (n' := 256 * (380 + 3 * s71.2.2.2.2 + 3)) (by omega) (by omega) ?_
      refine jg_iadd hC dL_begun_152 ?_
      refine jj_istore_n (lv' := [(3, .int (iI (w32 ((w32 ((w32 (s71.1 + q9.1)) + q13.1)) + q15.1)))), (0, .ref l0_71), (1, .ref l1_71), (2, .int (iI l2_71)), (4, .int (iI s71.2.1))]) hC dL_begun_153 rfl (by decide) rfl ?_
      refine jg_iinc (q := 4) (lv' := [(4, .int (iI (w32 (s71.2.1 + 1)))), (3, .int (iI (w32 ((w32 ((w32 (s71.1 + q9.1)) + q13.1)) + q15.1)))), (0, .ref l0_71), (1, .ref l1_71), (2, .int (iI l2_71))]) hC dL_begun_154 rfl (by decide) rfl ?_
      refine jj_goto (tgt := 71) hC dL_begun_157 rfl ?_
      refine jj_widen (k' := 380 + 3 * (s71.2.2.2.2 + 1)) (n' := 256 * (380 + 3 * (s71.2.2.2.2 + 1))) (by omega) (by omega) ?_
      refine jj_lv (lv' := [(0, .ref l0_71), (1, .ref l1_71), (2, .int (iI l2_71)), (3, .int (iI (w32 ((w32 ((w32 (s71.1 + q9.1)) + q13.1)) + q15.1)))), (4, .int (iI (w32 (s71.2.1 + 1))))]) [2, 3, 4, 1, 0] rfl ?_
      exact hJ71 _ (Option.some.inj h).symm ⟨(w32_r _), (w32_r _), hl0_71, hl1_71, hx71⟩ sz15
  have hL246 : ∀ (S246 : (Nat → Nat)) (Ln246 : (Nat → Nat)) (l0_246 : Nat) (l1_246 : Nat), ∀ (n : Nat) (s246 : Int × Int × gM × gR × Nat) (q : (Int × gM × gR) ⊕ (Nat × (Nat → Nat) × (Nat → Nat) × gM × gR)), lp (fL_begun_L246 G.2.2.2.2 S246 Ln246 l0_246 l1_246) n s246 = some q → (-2147483648 ≤ s246.1 ∧ s246.1 < 2147483648) ∧ (-2147483648 ≤ s246.2.1 ∧ s246.2.1 < 2147483648) ∧ S246 l0_246 = 29 ∧ S246 l1_246 = 12 ∧ Ex2 S Ln S246 Ln246 → (∀ e246, q = .inl e246 → (-2147483648 ≤ e246.1 ∧ e246.1 < 2147483648) ∧ S246 l1_246 = 12 ∧ Ex2 S Ln S246 Ln246 → ∀ szE246, JJ G C 415 106240 szE246 S246 Ln246 e246.2.1 e246.2.2 284 [(1, .ref l1_246), (3, .int (iI e246.1))] []) → (∀ c, q = .inr c → c = r) → ∀ sz246, JJ G C (407 + 1 * s246.2.2.2.2) (256 * (407 + 1 * s246.2.2.2.2)) sz246 S246 Ln246 s246.2.2.1 s246.2.2.2.1 246 [(0, .ref l0_246), (1, .ref l1_246), (3, .int (iI s246.1)), (4, .int (iI s246.2.1))] [] := by
    intro S246 Ln246 l0_246 l1_246
    refine lp_ind ?_
    intro s246 r246 hI246 h hJ246 hE246 hR246 sz246
    obtain ⟨hs246_0, hs246_1, hl0_246, hl1_246, hx246⟩ := hI246
    have hB276 : ∀ (sz276 : Nat) (M276 : gM) (R276 : gR) (l4_276 : Int) (s0_276 : Int) (s1_276 : Int), Ex2 S Ln S246 Ln246 → (-2147483648 ≤ l4_276 ∧ l4_276 < 2147483648) → (-2147483648 ≤ s0_276 ∧ s0_276 < 2147483648) → (-2147483648 ≤ s1_276 ∧ s1_276 < 2147483648) → S246 l0_246 = 29 → S246 l1_246 = 12 → s246.2.2.2.2 ≤ 8 → fL_begun_B276 G.2.2.2.2 S246 Ln246 R276 M276 l0_246 l1_246 l4_276 s0_276 s1_276 s246.2.2.2.2 = some r246 → JJ G C (407 + 1 * s246.2.2.2.2 + 1) (256 * (407 + 1 * s246.2.2.2.2 + 1)) sz276 S246 Ln246 M276 R276 276 [(0, .ref l0_246), (1, .ref l1_246), (4, .int (iI l4_276))] [.int (iI s0_276), .int (iI s1_276)] := by
      intro sz276 M276 R276 l4_276 s0_276 s1_276 hx276 hl4_276 hs0_276 hs1_276 hl0_246_276 hl1_246_276 hcc246 h
      unfold fL_begun_B276 at h
      refine jg_iadd hC dL_begun_276 ?_
      refine jj_istore_n (lv' := [(3, .int (iI (w32 (s1_276 + s0_276)))), (0, .ref l0_246), (1, .ref l1_246), (4, .int (iI l4_276))]) hC dL_begun_277 rfl (by decide) rfl ?_
      refine jg_iinc (q := 3) (lv' := [(4, .int (iI (w32 (l4_276 + 1)))), (3, .int (iI (w32 (s1_276 + s0_276)))), (0, .ref l0_246), (1, .ref l1_246)]) hC dL_begun_278 rfl (by decide) rfl ?_
      refine jj_goto (tgt := 246) hC dL_begun_281 rfl ?_
      refine jj_widen (k' := 407 + 1 * (s246.2.2.2.2 + 1)) (n' := 256 * (407 + 1 * (s246.2.2.2.2 + 1))) (by omega) (by omega) ?_
      refine jj_lv (lv' := [(0, .ref l0_246), (1, .ref l1_246), (3, .int (iI (w32 (s1_276 + s0_276)))), (4, .int (iI (w32 (l4_276 + 1))))]) [2, 3, 1, 0] rfl ?_
      exact hJ246 _ (Option.some.inj h).symm ⟨(w32_r _), (w32_r _), hl0_246_276, hl1_246_276, hx276⟩ sz276
    unfold fL_begun_L246 at h
    obtain ⟨hcc246, h⟩ := gd_e h
    refine jj_iload hC dL_begun_246 3 rfl ?_
    refine jj_iconst hC dL_begun_248 ?_
    refine jj_icmp_ge (tgt := 284) hC dL_begun_249 rfl hs246_1 (show (-2147483648 ≤ (3 : Int) ∧ (3 : Int) < 2147483648) from by decide) (fun hc => ?_) (fun hc => ?_)
    · replace h := (if_pos hc).symm.trans h
      refine jj_widen (k' := 415) (n' := 106240) (by omega) (by omega) ?_
      refine jj_lv (lv' := [(1, .ref l1_246), (3, .int (iI s246.1))]) [1, 2] rfl ?_
      exact hE246 _ (Option.some.inj h).symm ⟨hs246_0, hl1_246, hx246⟩ sz246
    · replace h := (if_neg (Int.not_le.mpr hc)).symm.trans h
      refine jj_iload_n hC dL_begun_252 rfl 2 rfl ?_
      refine jj_aload_n hC dL_begun_253 rfl 0 rfl ?_
      refine jj_bipush hC dL_begun_254 (by decide) ?_
      refine jj_iload hC dL_begun_256 3 rfl ?_
      refine jg_iadd hC dL_begun_258 ?_
      refine jj_iconst hC dL_begun_259 ?_
      obtain ⟨q24, hq24, h⟩ := bd_e h
      refine jj_invS hC mvL_in wd874 wd873 (xL_in (OKC.tr hC) hl0_246 (w32_r _) (show (-2147483648 ≤ (5 : Int) ∧ (5 : Int) < 2147483648) from by decide) hq24) rfl rfl (c_le rfl) (c_le rfl) (by omega) (by omega) dL_begun_260 noXk (po_kI (fun hr24 => ?_))
      refine jj_if_le (tgt := 275) hC dL_begun_263 rfl hr24 (fun hc => ?_) (fun hc => ?_)
      · replace h := (if_pos hc).symm.trans h
        refine jj_iconst hC dL_begun_275 ?_
        refine jj_widen (k' := 407 + 1 * s246.2.2.2.2 + 1) (n' := 256 * (407 + 1 * s246.2.2.2.2 + 1)) (by omega) (by omega) ?_
        refine jj_lv (lv' := [(0, .ref l0_246), (1, .ref l1_246), (4, .int (iI s246.2.1))]) [0, 1, 3] rfl ?_
        exact hB276 sz246 s246.2.2.1 s246.2.2.2.1 s246.2.1 0 s246.1 hx246 hs246_1 (show (-2147483648 ≤ (0 : Int) ∧ (0 : Int) < 2147483648) from by decide) hs246_0 hl0_246 hl1_246 hcc246 h
      · replace h := (if_neg (Int.not_le.mpr hc)).symm.trans h
        refine jj_aload_n hC dL_begun_266 rfl 1 rfl ?_
        refine jj_iload hC dL_begun_267 3 rfl ?_
        obtain ⟨q25, hq25, h⟩ := bd_e h
        refine jj_invSW hC mvwL_launch wd631 wd630 (xL_launch (OKC.tr hC) hl1_246 hs246_1 hq25) rfl rfl (c_le rfl) (c_le rfl) (by omega) (by omega) dL_begun_269 (po_kW (fun hr25 hx25 sz25 => ?_))
        refine jj_widen (k' := 407 + 1 * s246.2.2.2.2 + 1) (n' := 256 * (407 + 1 * s246.2.2.2.2 + 1)) (by omega) (by omega) ?_
        refine jj_goto (tgt := 276) hC dL_begun_272 rfl ?_
        refine jj_widen (k' := 407 + 1 * s246.2.2.2.2 + 1) (n' := 256 * (407 + 1 * s246.2.2.2.2 + 1)) (by omega) (by omega) ?_
        refine jj_lv (lv' := [(0, .ref l0_246), (1, .ref l1_246), (4, .int (iI s246.2.1))]) [0, 1, 3] rfl ?_
        exact hB276 sz25 q25.2.1 q25.2.2 s246.2.1 q25.1 s246.1 hx246 hs246_1 hr25 hs246_0 hl0_246 hl1_246 hcc246 h
  have hB241 : ∀ (sz241 : Nat) (S241 : (Nat → Nat)) (Ln241 : (Nat → Nat)) (M241 : gM) (R241 : gR) (l0_241 : Nat) (l1_241 : Nat) (s0_241 : Int) (s1_241 : Int), Ex2 S Ln S241 Ln241 → S241 l0_241 = 29 → S241 l1_241 = 12 → (-2147483648 ≤ s0_241 ∧ s0_241 < 2147483648) → (-2147483648 ≤ s1_241 ∧ s1_241 < 2147483648) → fL_begun_B241 G.2.2.2.2 S241 Ln241 R241 M241 l0_241 l1_241 s0_241 s1_241 = some r → JJ G C 407 104192 sz241 S241 Ln241 M241 R241 241 [(0, .ref l0_241), (1, .ref l1_241)] [.int (iI s0_241), .int (iI s1_241)] := by
    intro sz241 S241 Ln241 M241 R241 l0_241 l1_241 s0_241 s1_241 hx241 hl0_241 hl1_241 hs0_241 hs1_241 h
    unfold fL_begun_B241 at h
    refine jg_iadd hC dL_begun_241 ?_
    refine jj_istore_n (lv' := [(3, .int (iI (w32 (s1_241 + s0_241)))), (0, .ref l0_241), (1, .ref l1_241)]) hC dL_begun_242 rfl (by decide) rfl ?_
    refine jj_iconst hC dL_begun_243 ?_
    refine jj_istore (lv' := [(4, .int (iI 0)), (3, .int (iI (w32 (s1_241 + s0_241)))), (0, .ref l0_241), (1, .ref l1_241)]) hC dL_begun_244 (by decide) rfl ?_
    obtain ⟨q27, hq27, h⟩ := bd_e h
    refine jj_widen (k' := 407 + 1 * 0) (n' := 256 * (407 + 1 * 0)) (by omega) (by omega) ?_
    refine jj_lv (lv' := [(0, .ref l0_241), (1, .ref l1_241), (3, .int (iI (w32 (s1_241 + s0_241)))), (4, .int (iI 0))]) [2, 3, 1, 0] rfl ?_
    refine hL246 S241 Ln241 l0_241 l1_241  FU _ q27 hq27 ⟨(w32_r _), (show (-2147483648 ≤ (0 : Int) ∧ (0 : Int) < 2147483648) from by decide), hl0_241, hl1_241, hx241⟩ (fun e246_26 he27 hIE27 sze246_26 => ?_) (fun c27 hc27 => ?_) sz241
    · subst he27
      replace h := el_l h
      obtain ⟨he246_26_0, he246_26_c1, hxe246_26⟩ := hIE27
      refine jj_iload_n hC dL_begun_284 rfl 1 rfl ?_
      refine jj_ldcI (v := (-90000000)) hC rfl wd1214 dL_begun_285 ?_
      refine jj_icmp_ge (tgt := 294) hC dL_begun_287 rfl he246_26_0 (show (-2147483648 ≤ ((-90000000) : Int) ∧ ((-90000000) : Int) < 2147483648) from by decide) (fun hc => ?_) (fun hc => ?_)
      · replace h := (if_pos hc).symm.trans h
        refine jj_aload_n hC dL_begun_294 rfl 0 rfl ?_
        cases h
        exact jj_aret hC rfl (Or.inl ⟨_, rfl⟩) (by omega) (by omega) dL_begun_295 ⟨rfl, he246_26_c1, hxe246_26, rfl, rfl, rfl, rfl⟩
      · replace h := (if_neg (Int.not_le.mpr hc)).symm.trans h
        cases h
    · subst hc27
      replace h := el_r h
      exact Option.some.inj h
  have hB24 : ∀ (sz24 : Nat) (S24 : (Nat → Nat)) (Ln24 : (Nat → Nat)) (M24 : gM) (R24 : gR) (l0_24 : Nat) (l1_24 : Nat) (s0_24 : Int), Ex2 S Ln S24 Ln24 → S24 l0_24 = 29 → S24 l1_24 = 12 → (-2147483648 ≤ s0_24 ∧ s0_24 < 2147483648) → fL_begun_B24 G.2.2.2.2 sz24 S24 Ln24 R24 M24 l0_24 l1_24 s0_24 = some r → JJ G C 372 95232 sz24 S24 Ln24 M24 R24 24 [(0, .ref l0_24), (1, .ref l1_24)] [.int (iI s0_24)] := by
    intro sz24 S24 Ln24 M24 R24 l0_24 l1_24 s0_24 hx24 hl0_24 hl1_24 hs0_24 h
    unfold fL_begun_B24 at h
    refine jj_istore_n (lv' := [(2, .int (iI s0_24)), (0, .ref l0_24), (1, .ref l1_24)]) hC dL_begun_24 rfl (by decide) rfl ?_
    refine jj_iconst hC dL_begun_25 ?_
    refine jj_istore_n (lv' := [(3, .int (iI 0)), (2, .int (iI s0_24)), (0, .ref l0_24), (1, .ref l1_24)]) hC dL_begun_26 rfl (by decide) rfl ?_
    refine jj_iconst hC dL_begun_27 ?_
    refine jj_istore (lv' := [(4, .int (iI 0)), (3, .int (iI 0)), (2, .int (iI s0_24)), (0, .ref l0_24), (1, .ref l1_24)]) hC dL_begun_28 (by decide) rfl ?_
    obtain ⟨q31, hq31, h⟩ := bd_e h
    refine jj_widen (k' := 372 + 1 * 0) (n' := 256 * (372 + 1 * 0)) (by omega) (by omega) ?_
    refine jj_lv (lv' := [(0, .ref l0_24), (1, .ref l1_24), (2, .int (iI s0_24)), (3, .int (iI 0)), (4, .int (iI 0))]) [3, 4, 2, 1, 0] rfl ?_
    refine hL30 S24 Ln24 l0_24 l1_24 s0_24 hs0_24 FU _ q31 hq31 ⟨(show (-2147483648 ≤ (0 : Int) ∧ (0 : Int) < 2147483648) from by decide), (show (-2147483648 ≤ (0 : Int) ∧ (0 : Int) < 2147483648) from by decide), hl0_24, hl1_24, hx24⟩ (fun e30_7 he31 hIE31 sze30_7 => ?_) (fun c31 hc31 => ?_) sz24
    · subst he31
      replace h := el_l h
      obtain ⟨he30_7_0, he30_7_c0, he30_7_c1, hxe30_7⟩ := hIE31
      refine jj_iconst hC dL_begun_68 ?_
      refine jj_istore (lv' := [(4, .int (iI 0)), (0, .ref l0_24), (1, .ref l1_24), (2, .int (iI s0_24)), (3, .int (iI e30_7.1))]) hC dL_begun_69 (by decide) rfl ?_
      obtain ⟨q30, hq30, h⟩ := bd_e h
      refine jj_widen (k' := 380 + 3 * 0) (n' := 256 * (380 + 3 * 0)) (by omega) (by omega) ?_
      refine jj_lv (lv' := [(0, .ref l0_24), (1, .ref l1_24), (2, .int (iI s0_24)), (3, .int (iI e30_7.1)), (4, .int (iI 0))]) [1, 2, 3, 4, 0] rfl ?_
      refine hL71 S24 Ln24 l0_24 l1_24 s0_24 hs0_24 FU _ q30 hq30 ⟨he30_7_0, (show (-2147483648 ≤ (0 : Int) ∧ (0 : Int) < 2147483648) from by decide), he30_7_c0, he30_7_c1, hxe30_7⟩ (fun e71_16 he30 hIE30 sze71_16 => ?_) (fun c30 hc30 => ?_) sze30_7
      · subst he30
        replace h := el_l h
        obtain ⟨he71_16_0, he71_16_c0, he71_16_c1, hxe71_16⟩ := hIE30
        refine jj_iload_n hC dL_begun_160 rfl 3 rfl ?_
        refine jj_aload_n hC dL_begun_161 rfl 1 rfl ?_
        refine jj_aload_n hC dL_begun_162 rfl 0 rfl ?_
        refine jj_bipush hC dL_begun_163 (by decide) ?_
        refine jj_iload_n hC dL_begun_165 rfl 2 rfl ?_
        obtain ⟨q17, hq17, h⟩ := bd_e h
        refine jj_invS hC mvL_in wd874 wd873 (xL_in (OKC.tr hC) he71_16_c0 (show (-2147483648 ≤ (31 : Int) ∧ (31 : Int) < 2147483648) from by decide) hs0_24 hq17) rfl rfl (c_le rfl) (c_le rfl) (by omega) (by omega) dL_begun_166 noXk (po_kI (fun hr17 => ?_))
        refine jj_aload_n hC dL_begun_169 rfl 0 rfl ?_
        refine jj_bipush hC dL_begun_170 (by decide) ?_
        refine jj_iload_n hC dL_begun_172 rfl 2 rfl ?_
        obtain ⟨q18, hq18, h⟩ := bd_e h
        refine jj_invS hC mvL_in wd874 wd873 (xL_in (OKC.tr hC) he71_16_c0 (show (-2147483648 ≤ (32 : Int) ∧ (32 : Int) < 2147483648) from by decide) hs0_24 hq18) rfl rfl (c_le rfl) (c_le rfl) (by omega) (by omega) dL_begun_173 noXk (po_kI (fun hr18 => ?_))
        refine jj_bipush hC dL_begun_176 (by decide) ?_
        refine jj_bipush hC dL_begun_178 (by decide) ?_
        obtain ⟨q19, hq19, h⟩ := bd_e h
        refine jj_invSW hC mvwL_addArea wd1200 wd1199 (xL_addArea (OKC.tr hC) he71_16_c1 hr17 hr18 (show (-2147483648 ≤ (60 : Int) ∧ (60 : Int) < 2147483648) from by decide) (show (-2147483648 ≤ (60 : Int) ∧ (60 : Int) < 2147483648) from by decide) hq19) rfl rfl (c_le rfl) (c_le rfl) (by omega) (by omega) dL_begun_180 (po_kW (fun hr19 hx19 sz19 => ?_))
        refine jj_widen (k' := 405) (n' := 103680) (by omega) (by omega) ?_
        refine jj_aload_n hC dL_begun_183 rfl 1 rfl ?_
        refine jj_iconst hC dL_begun_184 ?_
        refine jj_iconst hC dL_begun_185 ?_
        refine jj_aload_n hC dL_begun_186 rfl 0 rfl ?_
        refine jj_bipush hC dL_begun_187 (by decide) ?_
        refine jj_iload_n hC dL_begun_189 rfl 2 rfl ?_
        obtain ⟨q20, hq20, h⟩ := bd_e h
        refine jj_invS hC mvL_in wd874 wd873 (xL_in (OKC.tr hC) he71_16_c0 (show (-2147483648 ≤ (33 : Int) ∧ (33 : Int) < 2147483648) from by decide) hs0_24 hq20) rfl rfl (c_le rfl) (c_le rfl) (by omega) (by omega) dL_begun_190 noXk (po_kI (fun hr20 => ?_))
        refine jj_iconst hC dL_begun_193 ?_
        refine jj_aload_n hC dL_begun_194 rfl 0 rfl ?_
        refine jj_bipush hC dL_begun_195 (by decide) ?_
        refine jj_bipush hC dL_begun_197 (by decide) ?_
        obtain ⟨q21, hq21, h⟩ := bd_e h
        refine jj_invS hC mvL_in wd874 wd873 (xL_in (OKC.tr hC) he71_16_c0 (show (-2147483648 ≤ (34 : Int) ∧ (34 : Int) < 2147483648) from by decide) (show (-2147483648 ≤ (9 : Int) ∧ (9 : Int) < 2147483648) from by decide) hq21) rfl rfl (c_le rfl) (c_le rfl) (by omega) (by omega) dL_begun_199 noXk (po_kI (fun hr21 => ?_))
        refine jg_iadd hC dL_begun_202 ?_
        obtain ⟨q22, hq22, h⟩ := bd_e h
        refine jj_invSW hC mvwL_addArea wd1200 wd1199 (xL_addArea (OKC.tr hC) he71_16_c1 (show (-2147483648 ≤ (0 : Int) ∧ (0 : Int) < 2147483648) from by decide) (show (-2147483648 ≤ (3 : Int) ∧ (3 : Int) < 2147483648) from by decide) hr20 (w32_r _) hq22) rfl rfl (c_le rfl) (c_le rfl) (by omega) (by omega) dL_begun_203 (po_kW (fun hr22 hx22 sz22 => ?_))
        refine jj_widen (k' := 406) (n' := 103936) (by omega) (by omega) ?_
        refine jg_iadd hC dL_begun_206 ?_
        refine jg_iadd hC dL_begun_207 ?_
        refine jj_istore_n (lv' := [(3, .int (iI (w32 (e71_16.1 + (w32 (q19.1 + q22.1)))))), (0, .ref l0_24), (1, .ref l1_24), (2, .int (iI s0_24))]) hC dL_begun_208 rfl (by decide) rfl ?_
        refine jj_iload_n hC dL_begun_209 rfl 0 rfl ?_
        refine jj_aload_n hC dL_begun_210 rfl 1 rfl ?_
        refine jj_bipush hC dL_begun_211 (by decide) ?_
        refine jj_iconst hC dL_begun_213 ?_
        obtain ⟨q23, hq23, h⟩ := bd_e h
        refine jj_invS hC mvL_in wd874 wd873 (xL_in (OKC.tr hC) he71_16_c0 (show (-2147483648 ≤ (35 : Int) ∧ (35 : Int) < 2147483648) from by decide) (show (-2147483648 ≤ (3 : Int) ∧ (3 : Int) < 2147483648) from by decide) hq23) rfl rfl (c_le rfl) (c_le rfl) (by omega) (by omega) dL_begun_214 noXk (po_kI (fun hr23 => ?_))
        refine jj_if_ne (tgt := 240) hC dL_begun_217 rfl hr23 (fun hc => ?_) (fun hc => ?_)
        · replace h := (if_pos hc).symm.trans h
          refine jj_iconst hC dL_begun_240 ?_
          refine jj_widen (k' := 407) (n' := 104192) (by omega) (by omega) ?_
          refine jj_lv (lv' := [(0, .ref l0_24), (1, .ref l1_24)]) [1, 2] rfl ?_
          exact hB241 sz22 S24 Ln24 q22.2.1 q22.2.2 l0_24 l1_24 0 (w32 (e71_16.1 + (w32 (q19.1 + q22.1)))) hxe71_16 he71_16_c0 he71_16_c1 (show (-2147483648 ≤ (0 : Int) ∧ (0 : Int) < 2147483648) from by decide) (w32_r _) h
        · replace h := (if_neg (fun k => k hc)).symm.trans h
          refine jj_aload_n hC dL_begun_220 rfl 2 rfl ?_
          refine jj_sipush hC dL_begun_221 (by decide) ?_
          refine jj_aload_n hC dL_begun_224 rfl 1 rfl ?_
          refine jj_bipush hC dL_begun_225 (by decide) ?_
          refine jj_sipush hC dL_begun_227 (by decide) ?_
          obtain ⟨q28, hq28, h⟩ := bd_e h
          refine jj_invS hC mvL_in wd874 wd873 (xL_in (OKC.tr hC) he71_16_c0 (show (-2147483648 ≤ (36 : Int) ∧ (36 : Int) < 2147483648) from by decide) (show (-2147483648 ≤ (1500 : Int) ∧ (1500 : Int) < 2147483648) from by decide) hq28) rfl rfl (c_le rfl) (c_le rfl) (by omega) (by omega) dL_begun_230 noXk (po_kI (fun hr28 => ?_))
          refine jg_iadd hC dL_begun_233 ?_
          obtain ⟨q29, hq29, h⟩ := bd_e h
          refine jj_invSW hC mvwL_setCloudBase wd534 wd533 (xL_setCloudBase (OKC.tr hC) he71_16_c1 (w32_r _) hq29) rfl rfl (c_le rfl) (c_le rfl) (by omega) (by omega) dL_begun_234 (po_kW (fun hr29 hx29 sz29 => ?_))
          refine jj_widen (k' := 407) (n' := 104192) (by omega) (by omega) ?_
          refine jj_goto (tgt := 241) hC dL_begun_237 rfl ?_
          refine jj_widen (k' := 407) (n' := 104192) (by omega) (by omega) ?_
          refine jj_lv (lv' := [(0, .ref l0_24), (1, .ref l1_24)]) [1, 2] rfl ?_
          exact hB241 sz29 S24 Ln24 q29.2.1 q29.2.2 l0_24 l1_24 q29.1 (w32 (e71_16.1 + (w32 (q19.1 + q22.1)))) hxe71_16 he71_16_c0 he71_16_c1 hr29 (w32_r _) h
      · subst hc30
        replace h := el_r h
        exact Option.some.inj h
    · subst hc31
      replace h := el_r h
      exact Option.some.inj h
  unfold fL_begun at h
  obtain ⟨S1, hS91, h⟩ := nam_e h
  obtain ⟨Ln1, hLn91, h⟩ := nam_e h
  obtain ⟨M1, hM91, h⟩ := nam_e h
  obtain ⟨R1, hR91, h⟩ := nam_e h
  refine jj_newO hC kfX9 hd12 wd885 wd63 wd23 (by decide) (by omega) (by omega) dL_begun_0 (fun hx1 => ?_)
  rw [hS91, hLn91] at hx1
  refine jj_mem hS91 hLn91 hM91 hR91 ?_
  refine jj_widen (k' := 1) (n' := 256) (by omega) (by omega) ?_
  refine jj_dup hC dL_begun_3 rfl ?_
  obtain ⟨q2, hq2, h⟩ := bd_e h
  refine jj_invI hC mvX9_init rfl wd887 wd886 (xX9_init (OKC.tr hC) (show S1 sz = 12 by rw [← hS91]; exact ua_s) hq2) rfl rfl (c_le rfl) (c_le rfl) (by omega) (by omega) dL_begun_4 (poX_k (fun hx2 => po_kV ?_))
  refine jj_widen (k' := 372) (n' := 95232) (by omega) (by omega) ?_
  refine jj_astore_n (lv' := [(1, .ref sz), (0, .ref x0)]) hC dL_begun_7 rfl (by decide) rfl ?_
  refine jj_aload_n hC dL_begun_8 rfl 1 rfl ?_
  refine jj_iconst hC dL_begun_9 ?_
  refine jj_iconst hC dL_begun_10 ?_
  obtain ⟨q3, hq3, h⟩ := bd_e h
  refine jj_invS hC mvL_in wd874 wd873 (xL_in (OKC.tr hC) (ext_s hx2 (ext_s hx1 hp0 (by decide)) (by decide)) (show (-2147483648 ≤ (0 : Int) ∧ (0 : Int) < 2147483648) from by decide) (show (-2147483648 ≤ (2 : Int) ∧ (2 : Int) < 2147483648) from by decide) hq3) rfl rfl (c_le rfl) (c_le rfl) (by omega) (by omega) dL_begun_11 noXk (po_kI (fun hr3 => ?_))
  refine jj_if_ne (tgt := 22) hC dL_begun_14 rfl hr3 (fun hc => ?_) (fun hc => ?_)
  · replace h := (if_pos hc).symm.trans h
    refine jj_bipush hC dL_begun_22 (by decide) ?_
    refine jj_widen (k' := 372) (n' := 95232) (by omega) (by omega) ?_
    refine jj_lv (lv' := [(0, .ref x0), (1, .ref sz)]) [1, 0] rfl ?_
    exact hB24 q2.1 q2.2.1 q2.2.2.1 q2.2.2.2.1 q2.2.2.2.2 x0 sz 61 (ex2_t (ex2_t ex2_r hx1.2) hx2.2) (ext_s hx2 (ext_s hx1 hp0 (by decide)) (by decide)) (ext_s hx2 (show S1 sz = 12 by rw [← hS91]; exact ua_s) (by decide)) (show (-2147483648 ≤ (61 : Int) ∧ (61 : Int) < 2147483648) from by decide) h
  · replace h := (if_neg (fun k => k hc)).symm.trans h
    refine jj_bipush hC dL_begun_17 (by decide) ?_
    refine jj_goto (tgt := 24) hC dL_begun_19 rfl ?_
    refine jj_widen (k' := 372) (n' := 95232) (by omega) (by omega) ?_
    refine jj_lv (lv' := [(0, .ref x0), (1, .ref sz)]) [1, 0] rfl ?_
    exact hB24 q2.1 q2.2.1 q2.2.2.1 q2.2.2.2.1 q2.2.2.2.2 x0 sz 14 (ex2_t (ex2_t ex2_r hx1.2) hx2.2) (ext_s hx2 (ext_s hx1 hp0 (by decide)) (by decide)) (ext_s hx2 (show S1 sz = 12 by rw [← hS91]; exact ua_s) (by decide)) (show (-2147483648 ≤ (14 : Int) ∧ (14 : Int) < 2147483648) from by decide) h
def fL_heads_B100 (ad : Nat → Nat) (S Ln : Nat → Nat) (R100 : gR) (M100 : gM) (l0_30 : Nat) (l1_30 : Int) (l2_30 : Int) (l3_30 : Int) (l4_30 : Int) (l5_100 : Int) (ccj : Nat) : Option ((Int × gM × gR × Nat) ⊕ ((gM × gR) ⊕ (Int × gM × gR))) :=
  some (.inl (w32 (l5_100 + 1), M100, R100, ccj + 1))
def fL_heads_B85 (ad : Nat → Nat) (S Ln : Nat → Nat) (R85 : gR) (M85 : gM) (l0_30 : Nat) (l1_30 : Int) (l2_30 : Int) (l3_30 : Int) (l4_30 : Int) (l5_85 : Int) (l7_85 : Int) (ccj : Nat) : Option ((Int × gM × gR × Nat) ⊕ ((gM × gR) ⊕ (Int × gM × gR))) :=
  if l7_85 ≤ 0 then (fL_heads_B100 ad S Ln R85 M85 l0_30 l1_30 l2_30 l3_30 l4_30 l5_85 ccj) else (bd (fL_undo ad S Ln R85 M85 l0_30) fun q7 => if 0 ≤ q7.1 then (fL_heads_B100 ad S Ln R85 q7.2 l0_30 l1_30 l2_30 l3_30 l4_30 l5_85 ccj) else (some (.inr (.inr (((-900009), q7.2, R85))))))
def fL_heads_L30 (ad : Nat → Nat) (S : (Nat → Nat)) (Ln : (Nat → Nat)) (l0_30 : Nat) (l1_30 : Int) (l2_30 : Int) (l3_30 : Int) (l4_30 : Int) (s30 : Int × gM × gR × Nat) : Option ((Int × gM × gR × Nat) ⊕ ((gM × gR) ⊕ (Int × gM × gR))) :=
  gd (s30.2.2.2 ≤ 8) (if 4 ≤ s30.1 then (some (.inr (.inl (s30.2.1, s30.2.2.1)))) else (gd ((0 : Int) < 9) (gd ((0 : Int) < 4) (bd (fL_fly ad S Ln s30.2.2.1 s30.2.1 l0_30 l1_30 (Int.tmod (w32 (l3_30 + s30.1)) 4) (w32 (1 + (Int.tmod l2_30 9)))) fun q6 => if q6.1 ≤ 0 then (fL_heads_B85 ad S Ln q6.2.2 q6.2.1 l0_30 l1_30 l2_30 l3_30 l4_30 s30.1 q6.1 s30.2.2.2) else (bd (fX9_isFlying ad S Ln q6.2.2 q6.2.1 l0_30 l1_30) fun q8 => Sum.elim (fun v8 => if v8 = 0 then (some (.inr (.inr ((q6.1, q6.2.1, q6.2.2))))) else (bd (fL_remainingDistance ad S Ln q6.2.2 q6.2.1 l0_30 l1_30) fun q9 => if l4_30 ≤ q9 then (fL_heads_B85 ad S Ln q6.2.2 q6.2.1 l0_30 l1_30 l2_30 l3_30 l4_30 s30.1 q6.1 s30.2.2.2) else (some (.inr (.inr ((q6.1, q6.2.1, q6.2.2))))))) (fun e8 => none) q8)))))
def fL_heads (ad S Ln : Nat → Nat) (R : gR) (M : gM) (x0 : Nat) (x1 : Int) (x2 : Int) : Option (Int × gM × gR) :=
  bd (fX9_isFlying ad S Ln R M x0 x1) fun q1 => Sum.elim (fun v1 => if ¬ v1 = 0 then (gd ((0 : Int) < 4) (bd (fL_remainingDistance ad S Ln R M x0 x1) fun q3 => bd (lp (fL_heads_L30 ad S Ln x0 x1 x2 (Int.tmod x2 4) q3) FU (0, M, R, 0)) fun q12 => Sum.elim (fun e30_10 => bd (fL_fly ad S Ln e30_10.2 e30_10.1 x0 x1 (Int.tmod x2 4) 1) fun q11 => some ((q11.1, q11.2.1, q11.2.2))) (fun c12 => some c12) q12)) else (bd (fL_fly ad S Ln R M x0 x1 0 x2) fun q13 => some ((q13.1, q13.2.1, q13.2.2)))) (fun e1 => none) q1
theorem xL_heads {l : Launch} {G : gE} {sz : Nat} {S Ln : Nat → Nat} {M : gM} {R : gR} (hl : l.stackTraces = false) {x0 : Nat} (hp0 : S x0 = 12) {x1 : Int} (hp1 : (-2147483648 ≤ x1 ∧ x1 < 2147483648)) {x2 : Int} (hp2 : (-2147483648 ≤ x2 ∧ x2 < 2147483648)) {r : Int × gM × gR} (h : fL_heads G.2.2.2.2 S Ln R M x0 x1 x2 = some r) : Ct l G yL_heads cL_heads 8 (some .int) 12 38 9728 [.ref x0, .int (iI x1), .int (iI x2)] sz S Ln M R (poW r.1 S Ln S Ln r.2.1 r.2.2) noX := by
  refine jj_start (own := RL) (lv0 := [(0, .ref x0), (1, .int (iI x1)), (2, .int (iI x2))]) hl (by decide +kernel) rfl rfl (c_le rfl) (fun C hCl hC => ?_)
  have hL30 : ∀ (l0_30 : Nat) (l1_30 : Int) (l2_30 : Int) (l3_30 : Int) (l4_30 : Int), (-2147483648 ≤ l1_30 ∧ l1_30 < 2147483648) → (-2147483648 ≤ l2_30 ∧ l2_30 < 2147483648) → (-2147483648 ≤ l3_30 ∧ l3_30 < 2147483648) → (-2147483648 ≤ l4_30 ∧ l4_30 < 2147483648) → ∀ (n : Nat) (s30 : Int × gM × gR × Nat) (q : (gM × gR) ⊕ (Int × gM × gR)), lp (fL_heads_L30 G.2.2.2.2 S Ln l0_30 l1_30 l2_30 l3_30 l4_30) n s30 = some q → (-2147483648 ≤ s30.1 ∧ s30.1 < 2147483648) ∧ S l0_30 = 12 ∧ Ex2 S Ln S Ln → (∀ e30, q = .inl e30 → S l0_30 = 12 ∧ Ex2 S Ln S Ln → ∀ szE30, JJ G C 34 8704 szE30 S Ln e30.1 e30.2 106 [(0, .ref l0_30), (1, .int (iI l1_30)), (3, .int (iI l3_30))] []) → (∀ c, q = .inr c → c = r) → ∀ sz30, JJ G C (2 + 4 * s30.2.2.2) (256 * (2 + 4 * s30.2.2.2)) sz30 S Ln s30.2.1 s30.2.2.1 30 [(0, .ref l0_30), (1, .int (iI l1_30)), (2, .int (iI l2_30)), (3, .int (iI l3_30)), (4, .int (iI l4_30)), (5, .int (iI s30.1))] [] := by
    intro l0_30 l1_30 l2_30 l3_30 l4_30 hl1_30 hl2_30 hl3_30 hl4_30
    refine lp_ind ?_
    intro s30 r30 hI30 h hJ30 hE30 hR30 sz30
    obtain ⟨hs30_0, hl0_30, hx30⟩ := hI30
    have hB100 : ∀ (sz100 : Nat) (M100 : gM) (R100 : gR) (l5_100 : Int), Ex2 S Ln S Ln → (-2147483648 ≤ l5_100 ∧ l5_100 < 2147483648) → S l0_30 = 12 → s30.2.2.2 ≤ 8 → fL_heads_B100 G.2.2.2.2 S Ln R100 M100 l0_30 l1_30 l2_30 l3_30 l4_30 l5_100 s30.2.2.2 = some r30 → JJ G C (2 + 4 * s30.2.2.2 + 4) (256 * (2 + 4 * s30.2.2.2 + 4)) sz100 S Ln M100 R100 100 [(0, .ref l0_30), (1, .int (iI l1_30)), (2, .int (iI l2_30)), (3, .int (iI l3_30)), (4, .int (iI l4_30)), (5, .int (iI l5_100))] [] := by
      intro sz100 M100 R100 l5_100 hx100 hl5_100 hl0_30_100 hcc30 h
      unfold fL_heads_B100 at h
      refine jg_iinc (q := 5) (lv' := [(5, .int (iI (w32 (l5_100 + 1)))), (0, .ref l0_30), (1, .int (iI l1_30)), (2, .int (iI l2_30)), (3, .int (iI l3_30)), (4, .int (iI l4_30))]) hC dL_heads_100 rfl (by decide) rfl ?_
      refine jj_goto (tgt := 30) hC dL_heads_103 rfl ?_
      refine jj_widen (k' := 2 + 4 * (s30.2.2.2 + 1)) (n' := 256 * (2 + 4 * (s30.2.2.2 + 1))) (by omega) (by omega) ?_
      refine jj_lv (lv' := [(0, .ref l0_30), (1, .int (iI l1_30)), (2, .int (iI l2_30)), (3, .int (iI l3_30)), (4, .int (iI l4_30)), (5, .int (iI (w32 (l5_100 + 1))))]) [1, 2, 3, 4, 5, 0] rfl ?_
      exact hJ30 _ (Option.some.inj h).symm ⟨(w32_r _), hl0_30_100, hx100⟩ sz100
    have hB85 : ∀ (sz85 : Nat) (M85 : gM) (R85 : gR) (l5_85 : Int) (l7_85 : Int), Ex2 S Ln S Ln → (-2147483648 ≤ l5_85 ∧ l5_85 < 2147483648) → (-2147483648 ≤ l7_85 ∧ l7_85 < 2147483648) → S l0_30 = 12 → s30.2.2.2 ≤ 8 → fL_heads_B85 G.2.2.2.2 S Ln R85 M85 l0_30 l1_30 l2_30 l3_30 l4_30 l5_85 l7_85 s30.2.2.2 = some r30 → JJ G C (2 + 4 * s30.2.2.2 + 3) (256 * (2 + 4 * s30.2.2.2 + 3)) sz85 S Ln M85 R85 85 [(0, .ref l0_30), (1, .int (iI l1_30)), (2, .int (iI l2_30)), (3, .int (iI l3_30)), (4, .int (iI l4_30)), (5, .int (iI l5_85)), (7, .int (iI l7_85))] [] := by
      intro sz85 M85 R85 l5_85 l7_85 hx85 hl5_85 hl7_85 hl0_30_85 hcc30 h
      unfold fL_heads_B85 at h
      refine jj_iload hC dL_heads_85 6 rfl ?_
      refine jj_if_le (tgt := 100) hC dL_heads_87 rfl hl7_85 (fun hc => ?_) (fun hc => ?_)
      · replace h := (if_pos hc).symm.trans h
        refine jj_widen (k' := 2 + 4 * s30.2.2.2 + 4) (n' := 256 * (2 + 4 * s30.2.2.2 + 4)) (by omega) (by omega) ?_
        refine jj_lv (lv' := [(0, .ref l0_30), (1, .int (iI l1_30)), (2, .int (iI l2_30)), (3, .int (iI l3_30)), (4, .int (iI l4_30)), (5, .int (iI l5_85))]) [0, 1, 2, 3, 4, 5] rfl ?_
        exact hB100 sz85 M85 R85 l5_85 hx85 hl5_85 hl0_30_85 hcc30 h
      · replace h := (if_neg (Int.not_le.mpr hc)).symm.trans h
        refine jj_aload_n hC dL_heads_90 rfl 0 rfl ?_
        obtain ⟨q7, hq7, h⟩ := bd_e h
        refine jj_invSW hC mvwL_undo wd854 wd853 (xL_undo (OKC.tr hC) hl0_30_85 hq7) rfl rfl (c_le rfl) (c_le rfl) (by omega) (by omega) dL_heads_91 (po_kW (fun hr7 hx7 sz7 => ?_))
        refine jj_widen (k' := 2 + 4 * s30.2.2.2 + 4) (n' := 256 * (2 + 4 * s30.2.2.2 + 4)) (by omega) (by omega) ?_
        refine jj_if_ge (tgt := 100) hC dL_heads_94 rfl hr7 (fun hc => ?_) (fun hc => ?_)
        · replace h := (if_pos hc).symm.trans h
          refine jj_widen (k' := 2 + 4 * s30.2.2.2 + 4) (n' := 256 * (2 + 4 * s30.2.2.2 + 4)) (by omega) (by omega) ?_
          refine jj_lv (lv' := [(0, .ref l0_30), (1, .int (iI l1_30)), (2, .int (iI l2_30)), (3, .int (iI l3_30)), (4, .int (iI l4_30)), (5, .int (iI l5_85))]) [0, 1, 2, 3, 4, 5] rfl ?_
          exact hB100 sz7 q7.2 R85 l5_85 hx85 hl5_85 hl0_30_85 hcc30 h
        · replace h := (if_neg (Int.not_le.mpr hc)).symm.trans h
          refine jj_ldcI (v := (-900009)) hC rfl wd1243 dL_heads_97 ?_
          have h := hR30 _ (Option.some.inj h).symm
          subst h
          exact jj_iret hC (by omega) (by omega) dL_heads_99 ⟨rfl, (show (-2147483648 ≤ ((-900009) : Int) ∧ ((-900009) : Int) < 2147483648) from by decide), hx85, rfl, rfl, rfl, rfl⟩
    unfold fL_heads_L30 at h
    obtain ⟨hcc30, h⟩ := gd_e h
    refine jj_iload hC dL_heads_30 5 rfl ?_
    refine jj_iconst hC dL_heads_32 ?_
    refine jj_icmp_ge (tgt := 106) hC dL_heads_33 rfl hs30_0 (show (-2147483648 ≤ (4 : Int) ∧ (4 : Int) < 2147483648) from by decide) (fun hc => ?_) (fun hc => ?_)
    · replace h := (if_pos hc).symm.trans h
      refine jj_widen (k' := 34) (n' := 8704) (by omega) (by omega) ?_
      refine jj_lv (lv' := [(0, .ref l0_30), (1, .int (iI l1_30)), (3, .int (iI l3_30))]) [0, 1, 3] rfl ?_
      exact hE30 _ (Option.some.inj h).symm ⟨hl0_30, hx30⟩ sz30
    · replace h := (if_neg (Int.not_le.mpr hc)).symm.trans h
      refine jj_iconst hC dL_heads_36 ?_
      refine jj_iload_n hC dL_heads_37 rfl 2 rfl ?_
      refine jj_bipush hC dL_heads_38 (by decide) ?_
      obtain ⟨hg4, h⟩ := gd_e h
      refine jj_irem hC dL_heads_40 hl2_30 (show (-2147483648 ≤ (9 : Int) ∧ (9 : Int) < 2147483648) from by decide) hg4 ?_
      refine jg_iadd hC dL_heads_41 ?_
      refine jj_istore (lv' := [(6, .int (iI (w32 (1 + (Int.tmod l2_30 9))))), (0, .ref l0_30), (1, .int (iI l1_30)), (2, .int (iI l2_30)), (3, .int (iI l3_30)), (4, .int (iI l4_30)), (5, .int (iI s30.1))]) hC dL_heads_42 (by decide) rfl ?_
      refine jj_aload_n hC dL_heads_44 rfl 1 rfl ?_
      refine jj_iload_n hC dL_heads_45 rfl 2 rfl ?_
      refine jj_iload_n hC dL_heads_46 rfl 4 rfl ?_
      refine jj_iload hC dL_heads_47 6 rfl ?_
      refine jg_iadd hC dL_heads_49 ?_
      refine jj_iconst hC dL_heads_50 ?_
      obtain ⟨hg5, h⟩ := gd_e h
      refine jj_irem hC dL_heads_51 (w32_r _) (show (-2147483648 ≤ (4 : Int) ∧ (4 : Int) < 2147483648) from by decide) hg5 ?_
      refine jj_iload hC dL_heads_52 0 rfl ?_
      obtain ⟨q6, hq6, h⟩ := bd_e h
      refine jj_invSW hC mvwL_fly wd672 wd671 (xL_fly (OKC.tr hC) hl0_30 hl1_30 (i_tmod_r (w32_r _) (show (-2147483648 ≤ (4 : Int) ∧ (4 : Int) < 2147483648) from by decide) hg5) (w32_r _) hq6) rfl rfl (c_le rfl) (c_le rfl) (by omega) (by omega) dL_heads_54 (po_kW (fun hr6 hx6 sz6 => ?_))
      refine jj_widen (k' := 2 + 4 * s30.2.2.2 + 1) (n' := 256 * (2 + 4 * s30.2.2.2 + 1)) (by omega) (by omega) ?_
      refine jj_istore (lv' := [(7, .int (iI q6.1)), (6, .int (iI (w32 (1 + (Int.tmod l2_30 9))))), (0, .ref l0_30), (1, .int (iI l1_30)), (2, .int (iI l2_30)), (3, .int (iI l3_30)), (4, .int (iI l4_30)), (5, .int (iI s30.1))]) hC dL_heads_57 (by decide) rfl ?_
      refine jj_iload hC dL_heads_59 0 rfl ?_
      refine jj_if_le (tgt := 85) hC dL_heads_61 rfl hr6 (fun hc => ?_) (fun hc => ?_)
      · replace h := (if_pos hc).symm.trans h
        refine jj_widen (k' := 2 + 4 * s30.2.2.2 + 3) (n' := 256 * (2 + 4 * s30.2.2.2 + 3)) (by omega) (by omega) ?_
        refine jj_lv (lv' := [(0, .ref l0_30), (1, .int (iI l1_30)), (2, .int (iI l2_30)), (3, .int (iI l3_30)), (4, .int (iI l4_30)), (5, .int (iI s30.1)), (7, .int (iI q6.1))]) [2, 3, 4, 5, 6, 7, 0] rfl ?_
        exact hB85 sz6 q6.2.1 q6.2.2 s30.1 q6.1 hx30 hs30_0 hr6 hl0_30 hcc30 h
      · replace h := (if_neg (Int.not_le.mpr hc)).symm.trans h
        refine jj_aload_n hC dL_heads_64 rfl 2 rfl ?_
        refine jj_iload_n hC dL_heads_65 rfl 3 rfl ?_
        obtain ⟨q8, hq8, h⟩ := bd_e h
        obtain ⟨v8, hv8, h⟩ := el_n h
        subst hv8
        refine jj_invV hC mvX9_isFlying wd1240 wd1241 wd1239 hl0_30 (by decide) rfl (xX9_isFlying_n (OKC.tr hC) hl0_30 hl1_30 hq8) rfl rfl (c_le rfl) (c_le rfl) (by omega) (by omega) dL_heads_66 noXk (po_kZ (fun hr8 => ?_))
        refine jj_if_eq (tgt := 82) hC dL_heads_69 rfl (r_z hr8) (fun hc => ?_) (fun hc => ?_)
        · replace h := (if_pos hc).symm.trans h
          refine jj_iload hC dL_heads_82 0 rfl ?_
          have h := hR30 _ (Option.some.inj h).symm
          subst h
          exact jj_iret hC (by omega) (by omega) dL_heads_84 ⟨rfl, hr6, hx30, rfl, rfl, rfl, rfl⟩
        · replace h := (if_neg (hc)).symm.trans h
          refine jj_aload_n hC dL_heads_72 rfl 2 rfl ?_
          refine jj_iload_n hC dL_heads_73 rfl 3 rfl ?_
          obtain ⟨q9, hq9, h⟩ := bd_e h
          refine jj_invSW hC mvwL_remainingDistance wd817 wd816 (xL_remainingDistance (OKC.tr hC) hl0_30 hl1_30 hq9) rfl rfl (c_le rfl) (c_le rfl) (by omega) (by omega) dL_heads_74 (po_kW (fun hr9 hx9 sz9 => ?_))
          refine jj_widen (k' := 2 + 4 * s30.2.2.2 + 3) (n' := 256 * (2 + 4 * s30.2.2.2 + 3)) (by omega) (by omega) ?_
          refine jj_iload hC dL_heads_77 6 rfl ?_
          refine jj_icmp_ge (tgt := 85) hC dL_heads_79 rfl hr9 hl4_30 (fun hc => ?_) (fun hc => ?_)
          · replace h := (if_pos hc).symm.trans h
            refine jj_widen (k' := 2 + 4 * s30.2.2.2 + 3) (n' := 256 * (2 + 4 * s30.2.2.2 + 3)) (by omega) (by omega) ?_
            refine jj_lv (lv' := [(0, .ref l0_30), (1, .int (iI l1_30)), (2, .int (iI l2_30)), (3, .int (iI l3_30)), (4, .int (iI l4_30)), (5, .int (iI s30.1)), (7, .int (iI q6.1))]) [2, 3, 4, 5, 6, 7, 0] rfl ?_
            exact hB85 sz9 q6.2.1 q6.2.2 s30.1 q6.1 hx30 hs30_0 hr6 hl0_30 hcc30 h
          · replace h := (if_neg (Int.not_le.mpr hc)).symm.trans h
            refine jj_iload hC dL_heads_82 0 rfl ?_
            have h := hR30 _ (Option.some.inj h).symm
            subst h
            exact jj_iret hC (by omega) (by omega) dL_heads_84 ⟨rfl, hr6, hx30, rfl, rfl, rfl, rfl⟩
  unfold fL_heads at h
  refine jj_aload_n hC dL_heads_0 rfl 0 rfl ?_
  refine jj_iload_n hC dL_heads_1 rfl 1 rfl ?_
  obtain ⟨q1, hq1, h⟩ := bd_e h
  obtain ⟨v1, hv1, h⟩ := el_n h
  subst hv1
  refine jj_invV hC mvX9_isFlying wd1240 wd1241 wd1239 hp0 (by decide) rfl (xX9_isFlying_n (OKC.tr hC) hp0 hp1 hq1) rfl rfl (c_le rfl) (c_le rfl) (by omega) (by omega) dL_heads_2 noXk (po_kZ (fun hr1 => ?_))
  refine jj_if_ne (tgt := 16) hC dL_heads_5 rfl (r_z hr1) (fun hc => ?_) (fun hc => ?_)
  · replace h := (if_pos hc).symm.trans h
    refine jj_iload_n hC dL_heads_16 rfl 2 rfl ?_
    refine jj_iconst hC dL_heads_17 ?_
    obtain ⟨hg2, h⟩ := gd_e h
    refine jj_irem hC dL_heads_18 hp2 (show (-2147483648 ≤ (4 : Int) ∧ (4 : Int) < 2147483648) from by decide) hg2 ?_
    refine jj_istore_n (lv' := [(3, .int (iI (Int.tmod x2 4))), (0, .ref x0), (1, .int (iI x1)), (2, .int (iI x2))]) hC dL_heads_19 rfl (by decide) rfl ?_
    refine jj_aload_n hC dL_heads_20 rfl 1 rfl ?_
    refine jj_iload_n hC dL_heads_21 rfl 2 rfl ?_
    obtain ⟨q3, hq3, h⟩ := bd_e h
    refine jj_invSW hC mvwL_remainingDistance wd817 wd816 (xL_remainingDistance (OKC.tr hC) hp0 hp1 hq3) rfl rfl (c_le rfl) (c_le rfl) (by omega) (by omega) dL_heads_22 (po_kW (fun hr3 hx3 sz3 => ?_))
    refine jj_widen (k' := 2) (n' := 512) (by omega) (by omega) ?_
    refine jj_istore (lv' := [(4, .int (iI q3)), (3, .int (iI (Int.tmod x2 4))), (0, .ref x0), (1, .int (iI x1)), (2, .int (iI x2))]) hC dL_heads_25 (by decide) rfl ?_
    refine jj_iconst hC dL_heads_27 ?_
    refine jj_istore (lv' := [(5, .int (iI 0)), (4, .int (iI q3)), (3, .int (iI (Int.tmod x2 4))), (0, .ref x0), (1, .int (iI x1)), (2, .int (iI x2))]) hC dL_heads_28 (by decide) rfl ?_
    obtain ⟨q12, hq12, h⟩ := bd_e h
    refine jj_widen (k' := 2 + 4 * 0) (n' := 256 * (2 + 4 * 0)) (by omega) (by omega) ?_
    refine jj_lv (lv' := [(0, .ref x0), (1, .int (iI x1)), (2, .int (iI x2)), (3, .int (iI (Int.tmod x2 4))), (4, .int (iI q3)), (5, .int (iI 0))]) [3, 4, 5, 2, 1, 0] rfl ?_
    refine hL30 x0 x1 x2 (Int.tmod x2 4) q3 hp1 hp2 (i_tmod_r hp2 (show (-2147483648 ≤ (4 : Int) ∧ (4 : Int) < 2147483648) from by decide) hg2) hr3 FU _ q12 hq12 ⟨(show (-2147483648 ≤ (0 : Int) ∧ (0 : Int) < 2147483648) from by decide), hp0, ex2_r⟩ (fun e30_10 he12 hIE12 sze30_10 => ?_) (fun c12 hc12 => ?_) sz3
    · subst he12
      replace h := el_l h
      obtain ⟨he30_10_c0, hxe30_10⟩ := hIE12
      refine jj_aload_n hC dL_heads_106 rfl 0 rfl ?_
      refine jj_iload_n hC dL_heads_107 rfl 1 rfl ?_
      refine jj_iload_n hC dL_heads_108 rfl 2 rfl ?_
      refine jj_iconst hC dL_heads_109 ?_
      obtain ⟨q11, hq11, h⟩ := bd_e h
      refine jj_invSW hC mvwL_fly wd672 wd671 (xL_fly (OKC.tr hC) he30_10_c0 hp1 (i_tmod_r hp2 (show (-2147483648 ≤ (4 : Int) ∧ (4 : Int) < 2147483648) from by decide) hg2) (show (-2147483648 ≤ (1 : Int) ∧ (1 : Int) < 2147483648) from by decide) hq11) rfl rfl (c_le rfl) (c_le rfl) (by omega) (by omega) dL_heads_110 (po_kW (fun hr11 hx11 sz11 => ?_))
      refine jj_widen (k' := 35) (n' := 8960) (by omega) (by omega) ?_
      cases h
      exact jj_iret hC (by omega) (by omega) dL_heads_113 ⟨rfl, hr11, hxe30_10, rfl, rfl, rfl, rfl⟩
    · subst hc12
      replace h := el_r h
      exact Option.some.inj h
  · replace h := (if_neg (fun k => k hc)).symm.trans h
    refine jj_aload_n hC dL_heads_8 rfl 0 rfl ?_
    refine jj_iload_n hC dL_heads_9 rfl 1 rfl ?_
    refine jj_iconst hC dL_heads_10 ?_
    refine jj_iload_n hC dL_heads_11 rfl 2 rfl ?_
    obtain ⟨q13, hq13, h⟩ := bd_e h
    refine jj_invSW hC mvwL_fly wd672 wd671 (xL_fly (OKC.tr hC) hp0 hp1 (show (-2147483648 ≤ (0 : Int) ∧ (0 : Int) < 2147483648) from by decide) hp2 hq13) rfl rfl (c_le rfl) (c_le rfl) (by omega) (by omega) dL_heads_12 (po_kW (fun hr13 hx13 sz13 => ?_))
    refine jj_widen (k' := 1) (n' := 256) (by omega) (by omega) ?_
    cases h
    exact jj_iret hC (by omega) (by omega) dL_heads_15 ⟨rfl, hr13, ex2_r, rfl, rfl, rfl, rfl⟩
def fL_acts_B453 (ad : Nat → Nat) (sz453 : Nat) (S453 Ln453 : Nat → Nat) (R453 : gR) (M453 : gM) (s0_453 : Nat) (s1_453 : Nat) (s2_453 : Nat) : Option (Int × (Nat → Nat) × (Nat → Nat) × gM × gR) :=
  bd (fJ4_append_15ec4 ad sz453 S453 Ln453 R453 M453 s1_453 s0_453) fun q28 => bd (fJ4_toString_0e30d ad q28.2.1 q28.2.2.1 q28.2.2.2.1 q28.2.2.2.2.2 q28.2.2.2.2.1 q28.1) fun q29 => bd (fL_does ad q29.2.2.1 q29.2.2.2.1 q29.2.2.2.2.2 q29.2.2.2.2.1 s2_453 q29.1) fun q30 => some ((q30.1, q29.2.2.1, q29.2.2.2.1, q30.2.1, q30.2.2))
def fL_acts_B343 (ad : Nat → Nat) (sz343 : Nat) (S343 Ln343 : Nat → Nat) (R343 : gR) (M343 : gM) (l3_343 : Int) (l4_343 : Int) (l5_343 : Int) (s0_343 : Nat) (s1_343 : Nat) (s2_343 : Nat) : Option (Int × (Nat → Nat) × (Nat → Nat) × gM × gR) :=
  bd (fJ4_append_15ec4 ad sz343 S343 Ln343 R343 M343 s1_343 s0_343) fun q19 => gd ((0 : Int) < 3) (if ¬ (Int.tmod l4_343 3) = 0 then (gd ((0 : Int) < 3) (if ¬ (Int.tmod l4_343 3) = 1 then (nam (ua q19.2.2.1 q19.2.1 2) fun S22 => nam (ua q19.2.2.2.1 q19.2.1 0) fun Ln22 => nam (ua q19.2.2.2.2.1 q19.2.1 (gN 2)) fun M22 => nam (ua q19.2.2.2.2.2 q19.2.1 gNo) fun R22 => bd (fJ4_init_da8c8 ad (q19.2.1 + 1) S22 Ln22 R22 M22 q19.2.1) fun q23 => rf q23.2.1 (some (ad 36)) 1 fun b24 => bd (fJ4_append_15ec4 ad q23.1 q23.2.1 q23.2.2.1 q23.2.2.2.2 q23.2.2.2.1 q19.2.1 b24) fun q25 => bd (fJ4_append_bf812 ad q25.2.1 q25.2.2.1 q25.2.2.2.1 q25.2.2.2.2.2 q25.2.2.2.2.1 q25.1 (w32 (20 + l5_343))) fun q26 => bd (fJ4_toString_0e30d ad q26.2.1 q26.2.2.1 q26.2.2.2.1 q26.2.2.2.2.2 q26.2.2.2.2.1 q26.1) fun q27 => fL_acts_B453 ad q27.2.1 q27.2.2.1 q27.2.2.2.1 q27.2.2.2.2.2 q27.2.2.2.2.1 q27.1 q19.1 s2_343) else (nam (ua q19.2.2.1 q19.2.1 2) fun S31 => nam (ua q19.2.2.2.1 q19.2.1 0) fun Ln31 => nam (ua q19.2.2.2.2.1 q19.2.1 (gN 2)) fun M31 => nam (ua q19.2.2.2.2.2 q19.2.1 gNo) fun R31 => bd (fJ4_init_da8c8 ad (q19.2.1 + 1) S31 Ln31 R31 M31 q19.2.1) fun q32 => rf q32.2.1 (some (ad 32)) 1 fun b33 => bd (fJ4_append_15ec4 ad q32.1 q32.2.1 q32.2.2.1 q32.2.2.2.2 q32.2.2.2.1 q19.2.1 b33) fun q34 => bd (fJ4_append_bf812 ad q34.2.1 q34.2.2.1 q34.2.2.2.1 q34.2.2.2.2.2 q34.2.2.2.2.1 q34.1 l3_343) fun q35 => rf q35.2.2.1 (some (ad 34)) 1 fun b36 => bd (fJ4_append_15ec4 ad q35.2.1 q35.2.2.1 q35.2.2.2.1 q35.2.2.2.2.2 q35.2.2.2.2.1 q35.1 b36) fun q37 => bd (fJ4_append_bf812 ad q37.2.1 q37.2.2.1 q37.2.2.2.1 q37.2.2.2.2.2 q37.2.2.2.2.1 q37.1 l5_343) fun q38 => rf q38.2.2.1 (some (ad 35)) 1 fun b39 => bd (fJ4_append_15ec4 ad q38.2.1 q38.2.2.1 q38.2.2.2.1 q38.2.2.2.2.2 q38.2.2.2.2.1 q38.1 b39) fun q40 => bd (fJ4_toString_0e30d ad q40.2.1 q40.2.2.1 q40.2.2.2.1 q40.2.2.2.2.2 q40.2.2.2.2.1 q40.1) fun q41 => fL_acts_B453 ad q41.2.1 q41.2.2.1 q41.2.2.2.1 q41.2.2.2.2.2 q41.2.2.2.2.1 q41.1 q19.1 s2_343))) else (nam (ua q19.2.2.1 q19.2.1 2) fun S42 => nam (ua q19.2.2.2.1 q19.2.1 0) fun Ln42 => nam (ua q19.2.2.2.2.1 q19.2.1 (gN 2)) fun M42 => nam (ua q19.2.2.2.2.2 q19.2.1 gNo) fun R42 => bd (fJ4_init_da8c8 ad (q19.2.1 + 1) S42 Ln42 R42 M42 q19.2.1) fun q43 => rf q43.2.1 (some (ad 32)) 1 fun b44 => bd (fJ4_append_15ec4 ad q43.1 q43.2.1 q43.2.2.1 q43.2.2.2.2 q43.2.2.2.1 q19.2.1 b44) fun q45 => bd (fJ4_append_bf812 ad q45.2.1 q45.2.2.1 q45.2.2.2.1 q45.2.2.2.2.2 q45.2.2.2.2.1 q45.1 l3_343) fun q46 => rf q46.2.2.1 (some (ad 33)) 1 fun b47 => bd (fJ4_append_15ec4 ad q46.2.1 q46.2.2.1 q46.2.2.2.1 q46.2.2.2.2.2 q46.2.2.2.2.1 q46.1 b47) fun q48 => bd (fJ4_append_bf812 ad q48.2.1 q48.2.2.1 q48.2.2.2.1 q48.2.2.2.2.2 q48.2.2.2.2.1 q48.1 l5_343) fun q49 => bd (fJ4_toString_0e30d ad q49.2.1 q49.2.2.1 q49.2.2.2.1 q49.2.2.2.2.2 q49.2.2.2.2.1 q49.1) fun q50 => fL_acts_B453 ad q50.2.1 q50.2.2.1 q50.2.2.2.1 q50.2.2.2.2.2 q50.2.2.2.2.1 q50.1 q19.1 s2_343))
def fL_acts_B254 (ad : Nat → Nat) (sz254 : Nat) (S254 Ln254 : Nat → Nat) (R254 : gR) (M254 : gM) (l0_254 : Nat) (l3_254 : Int) (l5_254 : Int) : Option (Int × (Nat → Nat) × (Nat → Nat) × gM × gR) :=
  bd (fL_climb ad S254 Ln254 R254 M254 l0_254 l3_254 l5_254) fun q61 => some ((q61.1, S254, Ln254, q61.2.1, q61.2.2))
def fL_acts_B235 (ad : Nat → Nat) (sz235 : Nat) (S235 Ln235 : Nat → Nat) (R235 : gR) (M235 : gM) (l0_235 : Nat) (l3_235 : Int) (l5_235 : Int) : Option (Int × (Nat → Nat) × (Nat → Nat) × gM × gR) :=
  gd ((0 : Int) < 5) (bd (fX9_pilotCount ad S235 Ln235 R235 M235 l0_235) fun q63 => gd ((0 : Int) < (i_max 1 q63)) (bd (fL_heads ad S235 Ln235 R235 M235 l0_235 (Int.tmod (Int.tmod l3_235 5) (i_max 1 q63)) l5_235) fun q65 => some ((q65.1, S235, Ln235, q65.2.1, q65.2.2))))
def fL_acts_B223 (ad : Nat → Nat) (sz223 : Nat) (S223 Ln223 : Nat → Nat) (R223 : gR) (M223 : gM) (l0_223 : Nat) (l3_223 : Int) (l4_223 : Int) (l5_223 : Int) : Option (Int × (Nat → Nat) × (Nat → Nat) × gM × gR) :=
  gd ((0 : Int) < 5) (bd (fL_fly ad S223 Ln223 R223 M223 l0_223 l3_223 (Int.tmod l4_223 5) l5_223) fun q67 => some ((q67.1, S223, Ln223, q67.2.1, q67.2.2)))
def fL_acts_B217 (ad : Nat → Nat) (sz217 : Nat) (S217 Ln217 : Nat → Nat) (R217 : gR) (M217 : gM) (l0_217 : Nat) (l3_217 : Int) : Option (Int × (Nat → Nat) × (Nat → Nat) × gM × gR) :=
  bd (fL_launch ad S217 Ln217 R217 M217 l0_217 l3_217) fun q68 => some ((q68.1, S217, Ln217, q68.2.1, q68.2.2))
def fL_acts_B151 (ad : Nat → Nat) (sz151 : Nat) (S151 Ln151 : Nat → Nat) (R151 : gR) (M151 : gM) (l0_151 : Nat) (l3_151 : Int) : Option (Int × (Nat → Nat) × (Nat → Nat) × gM × gR) :=
  bd (fL_addTaskPoint ad S151 Ln151 R151 M151 l0_151 l3_151) fun q74 => some ((q74.1, S151, Ln151, q74.2.1, q74.2.2))
def fL_acts (ad : Nat → Nat) (sz : Nat) (S Ln : Nat → Nat) (R : gR) (M : gM) (x0 : Nat) (x1 : Nat) (x2 : Int) : Option (Int × (Nat → Nat) × (Nat → Nat) × gM × gR) :=
  bd (fL_in ad S Ln R M x1 (w32 (x2 + 1)) 7) fun q1 => bd (fL_in ad S Ln R M x1 (w32 (x2 + 2)) 62) fun q2 => bd (fL_in ad S Ln R M x1 (w32 (x2 + 3)) 30) fun q3 => bd (fL_in ad S Ln R M x1 x2 26) fun q4 => if q4 = 0 then (bd (fL_addPoint ad S Ln R M x0 q2 (w32 (2 * q3))) fun q75 => some ((q75.1, S, Ln, q75.2.1, q75.2.2))) else (if q4 = 1 then (fL_acts_B151 ad sz S Ln R M x0 q1) else (if q4 = 2 then (fL_acts_B151 ad sz S Ln R M x0 q1) else (if q4 = 3 then (bd (fL_clearTask ad S Ln R M x0) fun q73 => some ((q73.1, S, Ln, q73.2.1, q73.2.2))) else (if q4 = 4 then (bd (fL_addThermal ad S Ln R M x0 q2 q3 q1) fun q72 => some ((q72.1, S, Ln, q72.2.1, q72.2.2))) else (if q4 = 5 then (bd (fL_setCloudBase ad S Ln R M x0 (w32 ((w32 (100 * q3)) + 300))) fun q71 => some ((q71.1, S, Ln, q71.2.1, q71.2.2))) else (if q4 = 6 then (bd (fL_addArea ad S Ln R M x0 q2 q3 (w32 ((w32 (q2 + q1)) - 1)) (w32 (q3 + q1))) fun q70 => some ((q70.1, S, Ln, q70.2.1, q70.2.2))) else (if q4 = 7 then (bd (fL_addPilot ad S Ln R M x0 (w32 ((w32 (2 * q3)) + 10))) fun q69 => some ((q69.1, S, Ln, q69.2.1, q69.2.2))) else (if q4 = 8 then (fL_acts_B217 ad sz S Ln R M x0 q1) else (if q4 = 9 then (fL_acts_B217 ad sz S Ln R M x0 q1) else (if q4 = 10 then (fL_acts_B217 ad sz S Ln R M x0 q1) else (if q4 = 11 then (fL_acts_B223 ad sz S Ln R M x0 q1 q2 q3) else (if q4 = 12 then (fL_acts_B223 ad sz S Ln R M x0 q1 q2 q3) else (if q4 = 13 then (fL_acts_B223 ad sz S Ln R M x0 q1 q2 q3) else (if q4 = 14 then (fL_acts_B235 ad sz S Ln R M x0 q1 q3) else (if q4 = 15 then (fL_acts_B235 ad sz S Ln R M x0 q1 q3) else (if q4 = 16 then (fL_acts_B235 ad sz S Ln R M x0 q1 q3) else (if q4 = 17 then (fL_acts_B235 ad sz S Ln R M x0 q1 q3) else (if q4 = 18 then (fL_acts_B254 ad sz S Ln R M x0 q1 q3) else (if q4 = 19 then (fL_acts_B254 ad sz S Ln R M x0 q1 q3) else (if q4 = 20 then (fL_acts_B254 ad sz S Ln R M x0 q1 q3) else (if q4 = 21 then (bd (fL_endDay ad S Ln R M x0) fun q60 => some ((q60.1, S, Ln, q60.2.1, q60.2.2))) else (nam (ua S sz 2) fun S5 => nam (ua Ln sz 0) fun Ln5 => nam (ua M sz (gN 2)) fun M5 => nam (ua R sz gNo) fun R5 => bd (fJ4_init_da8c8 ad (sz + 1) S5 Ln5 R5 M5 sz) fun q6 => gd ((0 : Int) < 2) (if ¬ (Int.tmod q3 2) = 0 then (nam (ua q6.2.1 q6.1 2) fun S8 => nam (ua q6.2.2.1 q6.1 0) fun Ln8 => nam (ua q6.2.2.2.1 q6.1 (gN 2)) fun M8 => nam (ua q6.2.2.2.2 q6.1 gNo) fun R8 => bd (fJ4_init_da8c8 ad (q6.1 + 1) S8 Ln8 R8 M8 q6.1) fun q9 => rf q9.2.1 (some (ad 30)) 1 fun b10 => bd (fJ4_append_15ec4 ad q9.1 q9.2.1 q9.2.2.1 q9.2.2.2.2 q9.2.2.2.1 q6.1 b10) fun q11 => bd (fJ4_append_bf812 ad q11.2.1 q11.2.2.1 q11.2.2.2.1 q11.2.2.2.2.2 q11.2.2.2.2.1 q11.1 q1) fun q12 => rf q12.2.2.1 (some (ad 31)) 1 fun b13 => bd (fJ4_append_15ec4 ad q12.2.1 q12.2.2.1 q12.2.2.2.1 q12.2.2.2.2.2 q12.2.2.2.2.1 q12.1 b13) fun q14 => bd (fJ4_append_bf812 ad q14.2.1 q14.2.2.1 q14.2.2.2.1 q14.2.2.2.2.2 q14.2.2.2.2.1 q14.1 q3) fun q15 => rf q15.2.2.1 (some (ad 29)) 1 fun b16 => bd (fJ4_append_15ec4 ad q15.2.1 q15.2.2.1 q15.2.2.2.1 q15.2.2.2.2.2 q15.2.2.2.2.1 q15.1 b16) fun q17 => bd (fJ4_toString_0e30d ad q17.2.1 q17.2.2.1 q17.2.2.2.1 q17.2.2.2.2.2 q17.2.2.2.2.1 q17.1) fun q18 => fL_acts_B343 ad q18.2.1 q18.2.2.1 q18.2.2.2.1 q18.2.2.2.2.2 q18.2.2.2.2.1 q1 q2 q3 q18.1 sz x0) else (nam (ua q6.2.1 q6.1 2) fun S51 => nam (ua q6.2.2.1 q6.1 0) fun Ln51 => nam (ua q6.2.2.2.1 q6.1 (gN 2)) fun M51 => nam (ua q6.2.2.2.2 q6.1 gNo) fun R51 => bd (fJ4_init_da8c8 ad (q6.1 + 1) S51 Ln51 R51 M51 q6.1) fun q52 => rf q52.2.1 (some (ad 28)) 1 fun b53 => bd (fJ4_append_15ec4 ad q52.1 q52.2.1 q52.2.2.1 q52.2.2.2.2 q52.2.2.2.1 q6.1 b53) fun q54 => bd (fJ4_append_bf812 ad q54.2.1 q54.2.2.1 q54.2.2.2.1 q54.2.2.2.2.2 q54.2.2.2.2.1 q54.1 q1) fun q55 => rf q55.2.2.1 (some (ad 29)) 1 fun b56 => bd (fJ4_append_15ec4 ad q55.2.1 q55.2.2.1 q55.2.2.2.1 q55.2.2.2.2.2 q55.2.2.2.2.1 q55.1 b56) fun q57 => bd (fJ4_toString_0e30d ad q57.2.1 q57.2.2.1 q57.2.2.2.1 q57.2.2.2.2.2 q57.2.2.2.2.1 q57.1) fun q58 => fL_acts_B343 ad q58.2.1 q58.2.2.1 q58.2.2.2.1 q58.2.2.2.2.2 q58.2.2.2.2.1 q1 q2 q3 q58.1 sz x0))))))))))))))))))))))))
theorem xL_acts {l : Launch} {G : gE} {sz : Nat} {S Ln : Nat → Nat} {M : gM} {R : gR} (hl : l.stackTraces = false) {x0 : Nat} (hp0 : S x0 = 12) {x1 : Nat} (hp1 : S x1 = 29) {x2 : Int} (hp2 : (-2147483648 ≤ x2 ∧ x2 < 2147483648)) {r : Int × (Nat → Nat) × (Nat → Nat) × gM × gR} (h : fL_acts G.2.2.2.2 sz S Ln R M x0 x1 x2 = some r) : Ct l G yL_acts cL_acts 6 (some .int) 20 38 9728 [.ref x0, .ref x1, .int (iI x2)] sz S Ln M R (poW r.1 S Ln r.2.1 r.2.2.1 r.2.2.2.1 r.2.2.2.2) noX := by
  refine jj_start (own := RL) (lv0 := [(0, .ref x0), (1, .ref x1), (2, .int (iI x2))]) hl (by decide +kernel) rfl rfl (c_le rfl) (fun C hCl hC => ?_)
  have hB453 : ∀ (sz453 : Nat) (S453 : (Nat → Nat)) (Ln453 : (Nat → Nat)) (M453 : gM) (R453 : gR) (s0_453 : Nat) (s1_453 : Nat) (s2_453 : Nat), Ex2 S Ln S453 Ln453 → S453 s0_453 = 1 → S453 s1_453 = 2 → S453 s2_453 = 12 → fL_acts_B453 G.2.2.2.2 sz453 S453 Ln453 R453 M453 s0_453 s1_453 s2_453 = some r → JJ G C 21 5376 sz453 S453 Ln453 M453 R453 453 [] [.ref s0_453, .ref s1_453, .ref s2_453] := by
    intro sz453 S453 Ln453 M453 R453 s0_453 s1_453 s2_453 hx453 hs0_453 hs1_453 hs2_453 h
    unfold fL_acts_B453 at h
    obtain ⟨q28, hq28, h⟩ := bd_e h
    refine jj_invV hC mvJ4_append_15ec4 wd189 wd190 wd1268 hs1_453 (by decide) rfl (xJ4_append_15ec4 (OKC.tr hC) hs1_453 hs0_453 hq28) rfl rfl (c_le rfl) (c_le rfl) (by omega) (by omega) dL_acts_453 noXk (poX_k (fun hx28 => po_kA (fun hr28 => ?_)))
    refine jj_widen (k' := 22) (n' := 5632) (by omega) (by omega) ?_
    obtain ⟨q29, hq29, h⟩ := bd_e h
    refine jj_invV hC mvJ4_toString_0e30d wd334 wd335 wd1271 hr28 (by decide) rfl (xJ4_toString_0e30d (OKC.tr hC) hr28 hq29) rfl rfl (c_le rfl) (c_le rfl) (by omega) (by omega) dL_acts_456 noXk (poX_k (fun hx29 => po_kA (fun hr29 => ?_)))
    refine jj_widen (k' := 24) (n' := 6144) (by omega) (by omega) ?_
    obtain ⟨q30, hq30, h⟩ := bd_e h
    refine jj_invS hC mvL_does wd1280 wd1279 (xL_does (OKC.tr hC) (ext_s hx29 (ext_s hx28 hs2_453 (by decide)) (by decide)) hr29 hq30) rfl rfl (c_le rfl) (c_le rfl) (by omega) (by omega) dL_acts_459 noXk (po_kW (fun hr30 hx30 sz30 => ?_))
    refine jj_widen (k' := 25) (n' := 6400) (by omega) (by omega) ?_
    cases h
    exact jj_iret hC (by omega) (by omega) dL_acts_462 ⟨rfl, hr30, (ex2_t (ex2_t hx453 hx28.2) hx29.2), rfl, rfl, rfl, rfl⟩
  have hB343 : ∀ (sz343 : Nat) (S343 : (Nat → Nat)) (Ln343 : (Nat → Nat)) (M343 : gM) (R343 : gR) (l3_343 : Int) (l4_343 : Int) (l5_343 : Int) (s0_343 : Nat) (s1_343 : Nat) (s2_343 : Nat), Ex2 S Ln S343 Ln343 → (-2147483648 ≤ l3_343 ∧ l3_343 < 2147483648) → (-2147483648 ≤ l4_343 ∧ l4_343 < 2147483648) → (-2147483648 ≤ l5_343 ∧ l5_343 < 2147483648) → S343 s0_343 = 1 → S343 s1_343 = 2 → S343 s2_343 = 12 → fL_acts_B343 G.2.2.2.2 sz343 S343 Ln343 R343 M343 l3_343 l4_343 l5_343 s0_343 s1_343 s2_343 = some r → JJ G C 11 2816 sz343 S343 Ln343 M343 R343 343 [(3, .int (iI l3_343)), (4, .int (iI l4_343)), (5, .int (iI l5_343))] [.ref s0_343, .ref s1_343, .ref s2_343] := by
    intro sz343 S343 Ln343 M343 R343 l3_343 l4_343 l5_343 s0_343 s1_343 s2_343 hx343 hl3_343 hl4_343 hl5_343 hs0_343 hs1_343 hs2_343 h
    unfold fL_acts_B343 at h
    obtain ⟨q19, hq19, h⟩ := bd_e h
    refine jj_invV hC mvJ4_append_15ec4 wd189 wd190 wd1268 hs1_343 (by decide) rfl (xJ4_append_15ec4 (OKC.tr hC) hs1_343 hs0_343 hq19) rfl rfl (c_le rfl) (c_le rfl) (by omega) (by omega) dL_acts_343 noXk (poX_k (fun hx19 => po_kA (fun hr19 => ?_)))
    refine jj_widen (k' := 12) (n' := 3072) (by omega) (by omega) ?_
    refine jj_iload hC dL_acts_346 1 rfl ?_
    refine jj_iconst hC dL_acts_348 ?_
    obtain ⟨hg20, h⟩ := gd_e h
    refine jj_irem hC dL_acts_349 hl4_343 (show (-2147483648 ≤ (3 : Int) ∧ (3 : Int) < 2147483648) from by decide) hg20 ?_
    refine jj_if_ne (tgt := 385) hC dL_acts_350 rfl (i_tmod_r hl4_343 (show (-2147483648 ≤ (3 : Int) ∧ (3 : Int) < 2147483648) from by decide) hg20) (fun hc => ?_) (fun hc => ?_)
    · replace h := (if_pos hc).symm.trans h
      refine jj_iload hC dL_acts_385 1 rfl ?_
      refine jj_iconst hC dL_acts_387 ?_
      obtain ⟨hg21, h⟩ := gd_e h
      refine jj_irem hC dL_acts_388 hl4_343 (show (-2147483648 ≤ (3 : Int) ∧ (3 : Int) < 2147483648) from by decide) hg21 ?_
      refine jj_iconst hC dL_acts_389 ?_
      refine jj_icmp_ne (tgt := 430) hC dL_acts_390 rfl (i_tmod_r hl4_343 (show (-2147483648 ≤ (3 : Int) ∧ (3 : Int) < 2147483648) from by decide) hg21) (show (-2147483648 ≤ (1 : Int) ∧ (1 : Int) < 2147483648) from by decide) (fun hc => ?_) (fun hc => ?_)
      · replace h := (if_pos hc).symm.trans h
        obtain ⟨S22, hS922, h⟩ := nam_e h
        obtain ⟨Ln22, hLn922, h⟩ := nam_e h
        obtain ⟨M22, hM922, h⟩ := nam_e h
        obtain ⟨R22, hR922, h⟩ := nam_e h
        refine jj_newO hC kfJ4 hd2 wd1265 wd157 wd34 (by decide) (by omega) (by omega) dL_acts_430 (fun hx22 => ?_)
        rw [hS922, hLn922] at hx22
        refine jj_mem hS922 hLn922 hM922 hR922 ?_
        refine jj_widen (k' := 13) (n' := 3328) (by omega) (by omega) ?_
        refine jj_dup hC dL_acts_433 rfl ?_
        obtain ⟨q23, hq23, h⟩ := bd_e h
        refine jj_invI hC mvJ4_init_da8c8 rfl wd159 wd1266 (xJ4_init_da8c8 (OKC.tr hC) (show S22 q19.2.1 = 2 by rw [← hS922]; exact ua_s) hq23) rfl rfl (c_le rfl) (c_le rfl) (by omega) (by omega) dL_acts_434 (poX_k (fun hx23 => po_kV ?_))
        refine jj_widen (k' := 14) (n' := 3584) (by omega) (by omega) ?_
        obtain ⟨b24, hb24, hs24, h⟩ := rf_e h
        refine jg_ldcS hC 20 rfl (Option.some.inj hb24) dL_acts_437 ?_
        obtain ⟨q25, hq25, h⟩ := bd_e h
        refine jj_invV hC mvJ4_append_15ec4 wd189 wd190 wd1268 (ext_s hx23 (show S22 q19.2.1 = 2 by rw [← hS922]; exact ua_s) (by decide)) (by decide) rfl (xJ4_append_15ec4 (OKC.tr hC) (ext_s hx23 (show S22 q19.2.1 = 2 by rw [← hS922]; exact ua_s) (by decide)) hs24 hq25) rfl rfl (c_le rfl) (c_le rfl) (by omega) (by omega) dL_acts_439 noXk (poX_k (fun hx25 => po_kA (fun hr25 => ?_)))
        refine jj_widen (k' := 15) (n' := 3840) (by omega) (by omega) ?_
        refine jj_bipush hC dL_acts_442 (by decide) ?_
        refine jj_iload hC dL_acts_444 2 rfl ?_
        refine jg_iadd hC dL_acts_446 ?_
        obtain ⟨q26, hq26, h⟩ := bd_e h
        refine jj_invV hC mvJ4_append_bf812 wd309 wd310 wd1269 hr25 (by decide) rfl (xJ4_append_bf812 (OKC.tr hC) hr25 (w32_r _) hq26) rfl rfl (c_le rfl) (c_le rfl) (by omega) (by omega) dL_acts_447 noXk (poX_k (fun hx26 => po_kA (fun hr26 => ?_)))
        refine jj_widen (k' := 16) (n' := 4096) (by omega) (by omega) ?_
        obtain ⟨q27, hq27, h⟩ := bd_e h
        refine jj_invV hC mvJ4_toString_0e30d wd334 wd335 wd1271 hr26 (by decide) rfl (xJ4_toString_0e30d (OKC.tr hC) hr26 hq27) rfl rfl (c_le rfl) (c_le rfl) (by omega) (by omega) dL_acts_450 noXk (poX_k (fun hx27 => po_kA (fun hr27 => ?_)))
        refine jj_widen (k' := 18) (n' := 4608) (by omega) (by omega) ?_
        refine jj_widen (k' := 21) (n' := 5376) (by omega) (by omega) ?_
        refine jj_lv (lv' := []) [] rfl ?_
        exact hB453 q27.2.1 q27.2.2.1 q27.2.2.2.1 q27.2.2.2.2.1 q27.2.2.2.2.2 q27.1 q19.1 s2_343 (ex2_t (ex2_t (ex2_t (ex2_t (ex2_t (ex2_t hx343 hx19.2) hx22.2) hx23.2) hx25.2) hx26.2) hx27.2) hr27 (ext_s hx27 (ext_s hx26 (ext_s hx25 (ext_s hx23 (ext_s hx22 hr19 (by decide)) (by decide)) (by decide)) (by decide)) (by decide)) (ext_s hx27 (ext_s hx26 (ext_s hx25 (ext_s hx23 (ext_s hx22 (ext_s hx19 hs2_343 (by decide)) (by decide)) (by decide)) (by decide)) (by decide)) (by decide)) h
      · replace h := (if_neg (fun k => k hc)).symm.trans h
        obtain ⟨S31, hS931, h⟩ := nam_e h
        obtain ⟨Ln31, hLn931, h⟩ := nam_e h
        obtain ⟨M31, hM931, h⟩ := nam_e h
        obtain ⟨R31, hR931, h⟩ := nam_e h
        refine jj_newO hC kfJ4 hd2 wd1265 wd157 wd34 (by decide) (by omega) (by omega) dL_acts_393 (fun hx31 => ?_)
        rw [hS931, hLn931] at hx31
        refine jj_mem hS931 hLn931 hM931 hR931 ?_
        refine jj_widen (k' := 13) (n' := 3328) (by omega) (by omega) ?_
        refine jj_dup hC dL_acts_396 rfl ?_
        obtain ⟨q32, hq32, h⟩ := bd_e h
        refine jj_invI hC mvJ4_init_da8c8 rfl wd159 wd1266 (xJ4_init_da8c8 (OKC.tr hC) (show S31 q19.2.1 = 2 by rw [← hS931]; exact ua_s) hq32) rfl rfl (c_le rfl) (c_le rfl) (by omega) (by omega) dL_acts_397 (poX_k (fun hx32 => po_kV ?_))
        refine jj_widen (k' := 14) (n' := 3584) (by omega) (by omega) ?_
        obtain ⟨b33, hb33, hs33, h⟩ := rf_e h
        refine jg_ldcS hC 16 rfl (Option.some.inj hb33) dL_acts_400 ?_
        obtain ⟨q34, hq34, h⟩ := bd_e h
        refine jj_invV hC mvJ4_append_15ec4 wd189 wd190 wd1268 (ext_s hx32 (show S31 q19.2.1 = 2 by rw [← hS931]; exact ua_s) (by decide)) (by decide) rfl (xJ4_append_15ec4 (OKC.tr hC) (ext_s hx32 (show S31 q19.2.1 = 2 by rw [← hS931]; exact ua_s) (by decide)) hs33 hq34) rfl rfl (c_le rfl) (c_le rfl) (by omega) (by omega) dL_acts_402 noXk (poX_k (fun hx34 => po_kA (fun hr34 => ?_)))
        refine jj_widen (k' := 15) (n' := 3840) (by omega) (by omega) ?_
        refine jj_iload_n hC dL_acts_405 rfl 0 rfl ?_
        obtain ⟨q35, hq35, h⟩ := bd_e h
        refine jj_invV hC mvJ4_append_bf812 wd309 wd310 wd1269 hr34 (by decide) rfl (xJ4_append_bf812 (OKC.tr hC) hr34 hl3_343 hq35) rfl rfl (c_le rfl) (c_le rfl) (by omega) (by omega) dL_acts_406 noXk (poX_k (fun hx35 => po_kA (fun hr35 => ?_)))
        refine jj_widen (k' := 16) (n' := 4096) (by omega) (by omega) ?_
        obtain ⟨b36, hb36, hs36, h⟩ := rf_e h
        refine jg_ldcS hC 18 rfl (Option.some.inj hb36) dL_acts_409 ?_
        obtain ⟨q37, hq37, h⟩ := bd_e h
        refine jj_invV hC mvJ4_append_15ec4 wd189 wd190 wd1268 hr35 (by decide) rfl (xJ4_append_15ec4 (OKC.tr hC) hr35 hs36 hq37) rfl rfl (c_le rfl) (c_le rfl) (by omega) (by omega) dL_acts_411 noXk (poX_k (fun hx37 => po_kA (fun hr37 => ?_)))
        refine jj_widen (k' := 17) (n' := 4352) (by omega) (by omega) ?_
        refine jj_iload hC dL_acts_414 2 rfl ?_
        obtain ⟨q38, hq38, h⟩ := bd_e h
        refine jj_invV hC mvJ4_append_bf812 wd309 wd310 wd1269 hr37 (by decide) rfl (xJ4_append_bf812 (OKC.tr hC) hr37 hl5_343 hq38) rfl rfl (c_le rfl) (c_le rfl) (by omega) (by omega) dL_acts_416 noXk (poX_k (fun hx38 => po_kA (fun hr38 => ?_)))
        refine jj_widen (k' := 18) (n' := 4608) (by omega) (by omega) ?_
        obtain ⟨b39, hb39, hs39, h⟩ := rf_e h
        refine jg_ldcS hC 19 rfl (Option.some.inj hb39) dL_acts_419 ?_
        obtain ⟨q40, hq40, h⟩ := bd_e h
        refine jj_invV hC mvJ4_append_15ec4 wd189 wd190 wd1268 hr38 (by decide) rfl (xJ4_append_15ec4 (OKC.tr hC) hr38 hs39 hq40) rfl rfl (c_le rfl) (c_le rfl) (by omega) (by omega) dL_acts_421 noXk (poX_k (fun hx40 => po_kA (fun hr40 => ?_)))
        refine jj_widen (k' := 19) (n' := 4864) (by omega) (by omega) ?_
        obtain ⟨q41, hq41, h⟩ := bd_e h
        refine jj_invV hC mvJ4_toString_0e30d wd334 wd335 wd1271 hr40 (by decide) rfl (xJ4_toString_0e30d (OKC.tr hC) hr40 hq41) rfl rfl (c_le rfl) (c_le rfl) (by omega) (by omega) dL_acts_424 noXk (poX_k (fun hx41 => po_kA (fun hr41 => ?_)))
        refine jj_widen (k' := 21) (n' := 5376) (by omega) (by omega) ?_
        refine jj_goto (tgt := 453) hC dL_acts_427 rfl ?_
        refine jj_widen (k' := 21) (n' := 5376) (by omega) (by omega) ?_
        refine jj_lv (lv' := []) [] rfl ?_
        exact hB453 q41.2.1 q41.2.2.1 q41.2.2.2.1 q41.2.2.2.2.1 q41.2.2.2.2.2 q41.1 q19.1 s2_343 (ex2_t (ex2_t (ex2_t (ex2_t (ex2_t (ex2_t (ex2_t (ex2_t (ex2_t hx343 hx19.2) hx31.2) hx32.2) hx34.2) hx35.2) hx37.2) hx38.2) hx40.2) hx41.2) hr41 (ext_s hx41 (ext_s hx40 (ext_s hx38 (ext_s hx37 (ext_s hx35 (ext_s hx34 (ext_s hx32 (ext_s hx31 hr19 (by decide)) (by decide)) (by decide)) (by decide)) (by decide)) (by decide)) (by decide)) (by decide)) (ext_s hx41 (ext_s hx40 (ext_s hx38 (ext_s hx37 (ext_s hx35 (ext_s hx34 (ext_s hx32 (ext_s hx31 (ext_s hx19 hs2_343 (by decide)) (by decide)) (by decide)) (by decide)) (by decide)) (by decide)) (by decide)) (by decide)) (by decide)) h
    · replace h := (if_neg (fun k => k hc)).symm.trans h
      obtain ⟨S42, hS942, h⟩ := nam_e h
      obtain ⟨Ln42, hLn942, h⟩ := nam_e h
      obtain ⟨M42, hM942, h⟩ := nam_e h
      obtain ⟨R42, hR942, h⟩ := nam_e h
      refine jj_newO hC kfJ4 hd2 wd1265 wd157 wd34 (by decide) (by omega) (by omega) dL_acts_353 (fun hx42 => ?_)
      rw [hS942, hLn942] at hx42
      refine jj_mem hS942 hLn942 hM942 hR942 ?_
      refine jj_widen (k' := 13) (n' := 3328) (by omega) (by omega) ?_
      refine jj_dup hC dL_acts_356 rfl ?_
      obtain ⟨q43, hq43, h⟩ := bd_e h
      refine jj_invI hC mvJ4_init_da8c8 rfl wd159 wd1266 (xJ4_init_da8c8 (OKC.tr hC) (show S42 q19.2.1 = 2 by rw [← hS942]; exact ua_s) hq43) rfl rfl (c_le rfl) (c_le rfl) (by omega) (by omega) dL_acts_357 (poX_k (fun hx43 => po_kV ?_))
      refine jj_widen (k' := 14) (n' := 3584) (by omega) (by omega) ?_
      obtain ⟨b44, hb44, hs44, h⟩ := rf_e h
      refine jg_ldcS hC 16 rfl (Option.some.inj hb44) dL_acts_360 ?_
      obtain ⟨q45, hq45, h⟩ := bd_e h
      refine jj_invV hC mvJ4_append_15ec4 wd189 wd190 wd1268 (ext_s hx43 (show S42 q19.2.1 = 2 by rw [← hS942]; exact ua_s) (by decide)) (by decide) rfl (xJ4_append_15ec4 (OKC.tr hC) (ext_s hx43 (show S42 q19.2.1 = 2 by rw [← hS942]; exact ua_s) (by decide)) hs44 hq45) rfl rfl (c_le rfl) (c_le rfl) (by omega) (by omega) dL_acts_362 noXk (poX_k (fun hx45 => po_kA (fun hr45 => ?_)))
      refine jj_widen (k' := 15) (n' := 3840) (by omega) (by omega) ?_
      refine jj_iload_n hC dL_acts_365 rfl 0 rfl ?_
      obtain ⟨q46, hq46, h⟩ := bd_e h
      refine jj_invV hC mvJ4_append_bf812 wd309 wd310 wd1269 hr45 (by decide) rfl (xJ4_append_bf812 (OKC.tr hC) hr45 hl3_343 hq46) rfl rfl (c_le rfl) (c_le rfl) (by omega) (by omega) dL_acts_366 noXk (poX_k (fun hx46 => po_kA (fun hr46 => ?_)))
      refine jj_widen (k' := 16) (n' := 4096) (by omega) (by omega) ?_
      obtain ⟨b47, hb47, hs47, h⟩ := rf_e h
      refine jg_ldcS hC 17 rfl (Option.some.inj hb47) dL_acts_369 ?_
      obtain ⟨q48, hq48, h⟩ := bd_e h
      refine jj_invV hC mvJ4_append_15ec4 wd189 wd190 wd1268 hr46 (by decide) rfl (xJ4_append_15ec4 (OKC.tr hC) hr46 hs47 hq48) rfl rfl (c_le rfl) (c_le rfl) (by omega) (by omega) dL_acts_371 noXk (poX_k (fun hx48 => po_kA (fun hr48 => ?_)))
      refine jj_widen (k' := 17) (n' := 4352) (by omega) (by omega) ?_
      refine jj_iload hC dL_acts_374 2 rfl ?_
      obtain ⟨q49, hq49, h⟩ := bd_e h
      refine jj_invV hC mvJ4_append_bf812 wd309 wd310 wd1269 hr48 (by decide) rfl (xJ4_append_bf812 (OKC.tr hC) hr48 hl5_343 hq49) rfl rfl (c_le rfl) (c_le rfl) (by omega) (by omega) dL_acts_376 noXk (poX_k (fun hx49 => po_kA (fun hr49 => ?_)))
      refine jj_widen (k' := 18) (n' := 4608) (by omega) (by omega) ?_
      obtain ⟨q50, hq50, h⟩ := bd_e h
      refine jj_invV hC mvJ4_toString_0e30d wd334 wd335 wd1271 hr49 (by decide) rfl (xJ4_toString_0e30d (OKC.tr hC) hr49 hq50) rfl rfl (c_le rfl) (c_le rfl) (by omega) (by omega) dL_acts_379 noXk (poX_k (fun hx50 => po_kA (fun hr50 => ?_)))
      refine jj_widen (k' := 20) (n' := 5120) (by omega) (by omega) ?_
      refine jj_goto (tgt := 453) hC dL_acts_382 rfl ?_
      refine jj_widen (k' := 21) (n' := 5376) (by omega) (by omega) ?_
      refine jj_lv (lv' := []) [] rfl ?_
      exact hB453 q50.2.1 q50.2.2.1 q50.2.2.2.1 q50.2.2.2.2.1 q50.2.2.2.2.2 q50.1 q19.1 s2_343 (ex2_t (ex2_t (ex2_t (ex2_t (ex2_t (ex2_t (ex2_t (ex2_t hx343 hx19.2) hx42.2) hx43.2) hx45.2) hx46.2) hx48.2) hx49.2) hx50.2) hr50 (ext_s hx50 (ext_s hx49 (ext_s hx48 (ext_s hx46 (ext_s hx45 (ext_s hx43 (ext_s hx42 hr19 (by decide)) (by decide)) (by decide)) (by decide)) (by decide)) (by decide)) (by decide)) (ext_s hx50 (ext_s hx49 (ext_s hx48 (ext_s hx46 (ext_s hx45 (ext_s hx43 (ext_s hx42 (ext_s hx19 hs2_343 (by decide)) (by decide)) (by decide)) (by decide)) (by decide)) (by decide)) (by decide)) (by decide)) h
  have hB254 : ∀ (sz254 : Nat) (S254 : (Nat → Nat)) (Ln254 : (Nat → Nat)) (M254 : gM) (R254 : gR) (l0_254 : Nat) (l3_254 : Int) (l5_254 : Int), Ex2 S Ln S254 Ln254 → S254 l0_254 = 12 → (-2147483648 ≤ l3_254 ∧ l3_254 < 2147483648) → (-2147483648 ≤ l5_254 ∧ l5_254 < 2147483648) → fL_acts_B254 G.2.2.2.2 sz254 S254 Ln254 R254 M254 l0_254 l3_254 l5_254 = some r → JJ G C 0 0 sz254 S254 Ln254 M254 R254 254 [(0, .ref l0_254), (3, .int (iI l3_254)), (5, .int (iI l5_254))] [] := by
    intro sz254 S254 Ln254 M254 R254 l0_254 l3_254 l5_254 hx254 hl0_254 hl3_254 hl5_254 h
    unfold fL_acts_B254 at h
    refine jj_aload_n hC dL_acts_254 rfl 0 rfl ?_
    refine jj_iload_n hC dL_acts_255 rfl 1 rfl ?_
    refine jj_iload hC dL_acts_256 2 rfl ?_
    obtain ⟨q61, hq61, h⟩ := bd_e h
    refine jj_invSW hC mvwL_climb wd1245 wd1244 (xL_climb (OKC.tr hC) hl0_254 hl3_254 hl5_254 hq61) rfl rfl (c_le rfl) (c_le rfl) (by omega) (by omega) dL_acts_258 (po_kW (fun hr61 hx61 sz61 => ?_))
    refine jj_widen (k' := 1) (n' := 256) (by omega) (by omega) ?_
    cases h
    exact jj_iret hC (by omega) (by omega) dL_acts_261 ⟨rfl, hr61, hx254, rfl, rfl, rfl, rfl⟩
  have hB235 : ∀ (sz235 : Nat) (S235 : (Nat → Nat)) (Ln235 : (Nat → Nat)) (M235 : gM) (R235 : gR) (l0_235 : Nat) (l3_235 : Int) (l5_235 : Int), Ex2 S Ln S235 Ln235 → S235 l0_235 = 12 → (-2147483648 ≤ l3_235 ∧ l3_235 < 2147483648) → (-2147483648 ≤ l5_235 ∧ l5_235 < 2147483648) → fL_acts_B235 G.2.2.2.2 sz235 S235 Ln235 R235 M235 l0_235 l3_235 l5_235 = some r → JJ G C 0 0 sz235 S235 Ln235 M235 R235 235 [(0, .ref l0_235), (3, .int (iI l3_235)), (5, .int (iI l5_235))] [] := by
    intro sz235 S235 Ln235 M235 R235 l0_235 l3_235 l5_235 hx235 hl0_235 hl3_235 hl5_235 h
    unfold fL_acts_B235 at h
    refine jj_aload_n hC dL_acts_235 rfl 0 rfl ?_
    refine jj_iload_n hC dL_acts_236 rfl 1 rfl ?_
    refine jj_iconst hC dL_acts_237 ?_
    obtain ⟨hg62, h⟩ := gd_e h
    refine jj_irem hC dL_acts_238 hl3_235 (show (-2147483648 ≤ (5 : Int) ∧ (5 : Int) < 2147483648) from by decide) hg62 ?_
    refine jj_iconst hC dL_acts_239 ?_
    refine jj_aload_n hC dL_acts_240 rfl 0 rfl ?_
    obtain ⟨q63, hq63, h⟩ := bd_e h
    refine jj_invV hC mvX9_pilotCount wd1232 wd1233 wd1231 hl0_235 (by decide) rfl (xX9_pilotCount (OKC.tr hC) hl0_235 hq63) rfl rfl (c_le rfl) (c_le rfl) (by omega) (by omega) dL_acts_241 noXk (po_kI (fun hr63 => ?_))
    refine jj_mmax hC (show (-2147483648 ≤ (1 : Int) ∧ (1 : Int) < 2147483648) from by decide) hr63 wd1235 wd211 wd47 wd212 (c_le rfl) (c_le rfl) (by omega) (by omega) dL_acts_244 ?_
    obtain ⟨hg64, h⟩ := gd_e h
    refine jj_irem hC dL_acts_247 (i_tmod_r hl3_235 (show (-2147483648 ≤ (5 : Int) ∧ (5 : Int) < 2147483648) from by decide) hg62) (i_max_r (show (-2147483648 ≤ (1 : Int) ∧ (1 : Int) < 2147483648) from by decide) hr63) hg64 ?_
    refine jj_iload hC dL_acts_248 2 rfl ?_
    obtain ⟨q65, hq65, h⟩ := bd_e h
    refine jj_invS hC mvL_heads wd1237 wd1236 (xL_heads (OKC.tr hC) hl0_235 (i_tmod_r (i_tmod_r hl3_235 (show (-2147483648 ≤ (5 : Int) ∧ (5 : Int) < 2147483648) from by decide) hg62) (i_max_r (show (-2147483648 ≤ (1 : Int) ∧ (1 : Int) < 2147483648) from by decide) hr63) hg64) hl5_235 hq65) rfl rfl (c_le rfl) (c_le rfl) (by omega) (by omega) dL_acts_250 noXk (po_kW (fun hr65 hx65 sz65 => ?_))
    refine jj_widen (k' := 38) (n' := 9728) (by omega) (by omega) ?_
    cases h
    exact jj_iret hC (by omega) (by omega) dL_acts_253 ⟨rfl, hr65, hx235, rfl, rfl, rfl, rfl⟩
  have hB223 : ∀ (sz223 : Nat) (S223 : (Nat → Nat)) (Ln223 : (Nat → Nat)) (M223 : gM) (R223 : gR) (l0_223 : Nat) (l3_223 : Int) (l4_223 : Int) (l5_223 : Int), Ex2 S Ln S223 Ln223 → S223 l0_223 = 12 → (-2147483648 ≤ l3_223 ∧ l3_223 < 2147483648) → (-2147483648 ≤ l4_223 ∧ l4_223 < 2147483648) → (-2147483648 ≤ l5_223 ∧ l5_223 < 2147483648) → fL_acts_B223 G.2.2.2.2 sz223 S223 Ln223 R223 M223 l0_223 l3_223 l4_223 l5_223 = some r → JJ G C 0 0 sz223 S223 Ln223 M223 R223 223 [(0, .ref l0_223), (3, .int (iI l3_223)), (4, .int (iI l4_223)), (5, .int (iI l5_223))] [] := by
    intro sz223 S223 Ln223 M223 R223 l0_223 l3_223 l4_223 l5_223 hx223 hl0_223 hl3_223 hl4_223 hl5_223 h
    unfold fL_acts_B223 at h
    refine jj_aload_n hC dL_acts_223 rfl 0 rfl ?_
    refine jj_iload_n hC dL_acts_224 rfl 1 rfl ?_
    refine jj_iload hC dL_acts_225 2 rfl ?_
    refine jj_iconst hC dL_acts_227 ?_
    obtain ⟨hg66, h⟩ := gd_e h
    refine jj_irem hC dL_acts_228 hl4_223 (show (-2147483648 ≤ (5 : Int) ∧ (5 : Int) < 2147483648) from by decide) hg66 ?_
    refine jj_iload hC dL_acts_229 3 rfl ?_
    obtain ⟨q67, hq67, h⟩ := bd_e h
    refine jj_invSW hC mvwL_fly wd672 wd671 (xL_fly (OKC.tr hC) hl0_223 hl3_223 (i_tmod_r hl4_223 (show (-2147483648 ≤ (5 : Int) ∧ (5 : Int) < 2147483648) from by decide) hg66) hl5_223 hq67) rfl rfl (c_le rfl) (c_le rfl) (by omega) (by omega) dL_acts_231 (po_kW (fun hr67 hx67 sz67 => ?_))
    refine jj_widen (k' := 1) (n' := 256) (by omega) (by omega) ?_
    cases h
    exact jj_iret hC (by omega) (by omega) dL_acts_234 ⟨rfl, hr67, hx223, rfl, rfl, rfl, rfl⟩
  have hB217 : ∀ (sz217 : Nat) (S217 : (Nat → Nat)) (Ln217 : (Nat → Nat)) (M217 : gM) (R217 : gR) (l0_217 : Nat) (l3_217 : Int), Ex2 S Ln S217 Ln217 → S217 l0_217 = 12 → (-2147483648 ≤ l3_217 ∧ l3_217 < 2147483648) → fL_acts_B217 G.2.2.2.2 sz217 S217 Ln217 R217 M217 l0_217 l3_217 = some r → JJ G C 0 0 sz217 S217 Ln217 M217 R217 217 [(0, .ref l0_217), (3, .int (iI l3_217))] [] := by
    intro sz217 S217 Ln217 M217 R217 l0_217 l3_217 hx217 hl0_217 hl3_217 h
    unfold fL_acts_B217 at h
    refine jj_aload_n hC dL_acts_217 rfl 0 rfl ?_
    refine jj_iload_n hC dL_acts_218 rfl 1 rfl ?_
    obtain ⟨q68, hq68, h⟩ := bd_e h
    refine jj_invSW hC mvwL_launch wd631 wd630 (xL_launch (OKC.tr hC) hl0_217 hl3_217 hq68) rfl rfl (c_le rfl) (c_le rfl) (by omega) (by omega) dL_acts_219 (po_kW (fun hr68 hx68 sz68 => ?_))
    refine jj_widen (k' := 1) (n' := 256) (by omega) (by omega) ?_
    cases h
    exact jj_iret hC (by omega) (by omega) dL_acts_222 ⟨rfl, hr68, hx217, rfl, rfl, rfl, rfl⟩
  have hB151 : ∀ (sz151 : Nat) (S151 : (Nat → Nat)) (Ln151 : (Nat → Nat)) (M151 : gM) (R151 : gR) (l0_151 : Nat) (l3_151 : Int), Ex2 S Ln S151 Ln151 → S151 l0_151 = 12 → (-2147483648 ≤ l3_151 ∧ l3_151 < 2147483648) → fL_acts_B151 G.2.2.2.2 sz151 S151 Ln151 R151 M151 l0_151 l3_151 = some r → JJ G C 0 0 sz151 S151 Ln151 M151 R151 151 [(0, .ref l0_151), (3, .int (iI l3_151))] [] := by
    intro sz151 S151 Ln151 M151 R151 l0_151 l3_151 hx151 hl0_151 hl3_151 h
    unfold fL_acts_B151 at h
    refine jj_aload_n hC dL_acts_151 rfl 0 rfl ?_
    refine jj_iload_n hC dL_acts_152 rfl 1 rfl ?_
    obtain ⟨q74, hq74, h⟩ := bd_e h
    refine jj_invSW hC mvwL_addTaskPoint wd1161 wd1160 (xL_addTaskPoint (OKC.tr hC) hl0_151 hl3_151 hq74) rfl rfl (c_le rfl) (c_le rfl) (by omega) (by omega) dL_acts_153 (po_kW (fun hr74 hx74 sz74 => ?_))
    refine jj_widen (k' := 1) (n' := 256) (by omega) (by omega) ?_
    cases h
    exact jj_iret hC (by omega) (by omega) dL_acts_156 ⟨rfl, hr74, hx151, rfl, rfl, rfl, rfl⟩
  unfold fL_acts at h
  refine jj_aload_n hC dL_acts_0 rfl 1 rfl ?_
  refine jj_iload_n hC dL_acts_1 rfl 2 rfl ?_
  refine jj_iconst hC dL_acts_2 ?_
  refine jg_iadd hC dL_acts_3 ?_
  refine jj_bipush hC dL_acts_4 (by decide) ?_
  obtain ⟨q1, hq1, h⟩ := bd_e h
  refine jj_invS hC mvL_in wd874 wd873 (xL_in (OKC.tr hC) hp1 (w32_r _) (show (-2147483648 ≤ (7 : Int) ∧ (7 : Int) < 2147483648) from by decide) hq1) rfl rfl (c_le rfl) (c_le rfl) (by omega) (by omega) dL_acts_6 noXk (po_kI (fun hr1 => ?_))
  refine jj_istore_n (lv' := [(3, .int (iI q1)), (0, .ref x0), (1, .ref x1), (2, .int (iI x2))]) hC dL_acts_9 rfl (by decide) rfl ?_
  refine jj_aload_n hC dL_acts_10 rfl 2 rfl ?_
  refine jj_iload_n hC dL_acts_11 rfl 3 rfl ?_
  refine jj_iconst hC dL_acts_12 ?_
  refine jg_iadd hC dL_acts_13 ?_
  refine jj_bipush hC dL_acts_14 (by decide) ?_
  obtain ⟨q2, hq2, h⟩ := bd_e h
  refine jj_invS hC mvL_in wd874 wd873 (xL_in (OKC.tr hC) hp1 (w32_r _) (show (-2147483648 ≤ (62 : Int) ∧ (62 : Int) < 2147483648) from by decide) hq2) rfl rfl (c_le rfl) (c_le rfl) (by omega) (by omega) dL_acts_16 noXk (po_kI (fun hr2 => ?_))
  refine jj_istore (lv' := [(4, .int (iI q2)), (3, .int (iI q1)), (0, .ref x0), (1, .ref x1), (2, .int (iI x2))]) hC dL_acts_19 (by decide) rfl ?_
  refine jj_aload_n hC dL_acts_21 rfl 3 rfl ?_
  refine jj_iload_n hC dL_acts_22 rfl 4 rfl ?_
  refine jj_iconst hC dL_acts_23 ?_
  refine jg_iadd hC dL_acts_24 ?_
  refine jj_bipush hC dL_acts_25 (by decide) ?_
  obtain ⟨q3, hq3, h⟩ := bd_e h
  refine jj_invS hC mvL_in wd874 wd873 (xL_in (OKC.tr hC) hp1 (w32_r _) (show (-2147483648 ≤ (30 : Int) ∧ (30 : Int) < 2147483648) from by decide) hq3) rfl rfl (c_le rfl) (c_le rfl) (by omega) (by omega) dL_acts_27 noXk (po_kI (fun hr3 => ?_))
  refine jj_istore (lv' := [(5, .int (iI q3)), (4, .int (iI q2)), (3, .int (iI q1)), (0, .ref x0), (1, .ref x1), (2, .int (iI x2))]) hC dL_acts_30 (by decide) rfl ?_
  refine jj_aload_n hC dL_acts_32 rfl 4 rfl ?_
  refine jj_iload_n hC dL_acts_33 rfl 5 rfl ?_
  refine jj_bipush hC dL_acts_34 (by decide) ?_
  obtain ⟨q4, hq4, h⟩ := bd_e h
  refine jj_invS hC mvL_in wd874 wd873 (xL_in (OKC.tr hC) hp1 hp2 (show (-2147483648 ≤ (26 : Int) ∧ (26 : Int) < 2147483648) from by decide) hq4) rfl rfl (c_le rfl) (c_le rfl) (by omega) (by omega) dL_acts_36 noXk (po_kI (fun hr4 => ?_))
  by_cases hc59_0 : q4 = 0
  · replace h := (if_pos hc59_0).symm.trans h
    refine jj_tblIn (tgt := 140) hC dL_acts_39 hr4 (by omega) (by omega) (by rw [hc59_0]; rfl) rfl ?_
    refine jj_aload_n hC dL_acts_140 rfl 3 rfl ?_
    refine jj_iload hC dL_acts_141 1 rfl ?_
    refine jj_iconst hC dL_acts_143 ?_
    refine jj_iload hC dL_acts_144 0 rfl ?_
    refine jg_imul hC dL_acts_146 ?_
    obtain ⟨q75, hq75, h⟩ := bd_e h
    refine jj_invSW hC mvwL_addPoint wd1146 wd1145 (xL_addPoint (OKC.tr hC) hp0 hr2 (w32_r _) hq75) rfl rfl (c_le rfl) (c_le rfl) (by omega) (by omega) dL_acts_147 (po_kW (fun hr75 hx75 sz75 => ?_))
    refine jj_widen (k' := 1) (n' := 256) (by omega) (by omega) ?_
    cases h
    exact jj_iret hC (by omega) (by omega) dL_acts_150 ⟨rfl, hr75, ex2_r, rfl, rfl, rfl, rfl⟩
  · replace h := (if_neg hc59_0).symm.trans h
    by_cases hc59_1 : q4 = 1
    · replace h := (if_pos hc59_1).symm.trans h
      refine jj_tblIn (tgt := 151) hC dL_acts_39 hr4 (by omega) (by omega) (by rw [hc59_1]; rfl) rfl ?_
      refine jj_widen (k' := 0) (n' := 0) (by omega) (by omega) ?_
      refine jj_lv (lv' := [(0, .ref x0), (3, .int (iI q1))]) [3, 2] rfl ?_
      exact hB151 sz S Ln M R x0 q1 ex2_r hp0 hr1 h
    · replace h := (if_neg hc59_1).symm.trans h
      by_cases hc59_2 : q4 = 2
      · replace h := (if_pos hc59_2).symm.trans h
        refine jj_tblIn (tgt := 151) hC dL_acts_39 hr4 (by omega) (by omega) (by rw [hc59_2]; rfl) rfl ?_
        refine jj_widen (k' := 0) (n' := 0) (by omega) (by omega) ?_
        refine jj_lv (lv' := [(0, .ref x0), (3, .int (iI q1))]) [3, 2] rfl ?_
        exact hB151 sz S Ln M R x0 q1 ex2_r hp0 hr1 h
      · replace h := (if_neg hc59_2).symm.trans h
        by_cases hc59_3 : q4 = 3
        · replace h := (if_pos hc59_3).symm.trans h
          refine jj_tblIn (tgt := 157) hC dL_acts_39 hr4 (by omega) (by omega) (by rw [hc59_3]; rfl) rfl ?_
          refine jj_aload_n hC dL_acts_157 rfl 3 rfl ?_
          obtain ⟨q73, hq73, h⟩ := bd_e h
          refine jj_invSW hC mvwL_clearTask wd1219 wd1218 (xL_clearTask (OKC.tr hC) hp0 hq73) rfl rfl (c_le rfl) (c_le rfl) (by omega) (by omega) dL_acts_158 (po_kW (fun hr73 hx73 sz73 => ?_))
          refine jj_widen (k' := 1) (n' := 256) (by omega) (by omega) ?_
          cases h
          exact jj_iret hC (by omega) (by omega) dL_acts_161 ⟨rfl, hr73, ex2_r, rfl, rfl, rfl, rfl⟩
        · replace h := (if_neg hc59_3).symm.trans h
          by_cases hc59_4 : q4 = 4
          · replace h := (if_pos hc59_4).symm.trans h
            refine jj_tblIn (tgt := 162) hC dL_acts_39 hr4 (by omega) (by omega) (by rw [hc59_4]; rfl) rfl ?_
            refine jj_aload_n hC dL_acts_162 rfl 3 rfl ?_
            refine jj_iload hC dL_acts_163 1 rfl ?_
            refine jj_iload hC dL_acts_165 0 rfl ?_
            refine jj_iload_n hC dL_acts_167 rfl 2 rfl ?_
            obtain ⟨q72, hq72, h⟩ := bd_e h
            refine jj_invSW hC mvwL_addThermal wd1185 wd1184 (xL_addThermal (OKC.tr hC) hp0 hr2 hr3 hr1 hq72) rfl rfl (c_le rfl) (c_le rfl) (by omega) (by omega) dL_acts_168 (po_kW (fun hr72 hx72 sz72 => ?_))
            refine jj_widen (k' := 1) (n' := 256) (by omega) (by omega) ?_
            cases h
            exact jj_iret hC (by omega) (by omega) dL_acts_171 ⟨rfl, hr72, ex2_r, rfl, rfl, rfl, rfl⟩
          · replace h := (if_neg hc59_4).symm.trans h
            by_cases hc59_5 : q4 = 5
            · replace h := (if_pos hc59_5).symm.trans h
              refine jj_tblIn (tgt := 172) hC dL_acts_39 hr4 (by omega) (by omega) (by rw [hc59_5]; rfl) rfl ?_
              refine jj_aload_n hC dL_acts_172 rfl 3 rfl ?_
              refine jj_bipush hC dL_acts_173 (by decide) ?_
              refine jj_iload hC dL_acts_175 0 rfl ?_
              refine jg_imul hC dL_acts_177 ?_
              refine jj_sipush hC dL_acts_178 (by decide) ?_
              refine jg_iadd hC dL_acts_181 ?_
              obtain ⟨q71, hq71, h⟩ := bd_e h
              refine jj_invSW hC mvwL_setCloudBase wd534 wd533 (xL_setCloudBase (OKC.tr hC) hp0 (w32_r _) hq71) rfl rfl (c_le rfl) (c_le rfl) (by omega) (by omega) dL_acts_182 (po_kW (fun hr71 hx71 sz71 => ?_))
              refine jj_widen (k' := 1) (n' := 256) (by omega) (by omega) ?_
              cases h
              exact jj_iret hC (by omega) (by omega) dL_acts_185 ⟨rfl, hr71, ex2_r, rfl, rfl, rfl, rfl⟩
            · replace h := (if_neg hc59_5).symm.trans h
              by_cases hc59_6 : q4 = 6
              · replace h := (if_pos hc59_6).symm.trans h
                refine jj_tblIn (tgt := 186) hC dL_acts_39 hr4 (by omega) (by omega) (by rw [hc59_6]; rfl) rfl ?_
                refine jj_aload_n hC dL_acts_186 rfl 3 rfl ?_
                refine jj_iload hC dL_acts_187 1 rfl ?_
                refine jj_iload hC dL_acts_189 0 rfl ?_
                refine jj_iload hC dL_acts_191 1 rfl ?_
                refine jj_iload_n hC dL_acts_193 rfl 2 rfl ?_
                refine jg_iadd hC dL_acts_194 ?_
                refine jj_iconst hC dL_acts_195 ?_
                refine jg_isub hC dL_acts_196 ?_
                refine jj_iload hC dL_acts_197 0 rfl ?_
                refine jj_iload_n hC dL_acts_199 rfl 2 rfl ?_
                refine jg_iadd hC dL_acts_200 ?_
                obtain ⟨q70, hq70, h⟩ := bd_e h
                refine jj_invSW hC mvwL_addArea wd1200 wd1199 (xL_addArea (OKC.tr hC) hp0 hr2 hr3 (w32_r _) (w32_r _) hq70) rfl rfl (c_le rfl) (c_le rfl) (by omega) (by omega) dL_acts_201 (po_kW (fun hr70 hx70 sz70 => ?_))
                refine jj_widen (k' := 1) (n' := 256) (by omega) (by omega) ?_
                cases h
                exact jj_iret hC (by omega) (by omega) dL_acts_204 ⟨rfl, hr70, ex2_r, rfl, rfl, rfl, rfl⟩
              · replace h := (if_neg hc59_6).symm.trans h
                by_cases hc59_7 : q4 = 7
                · replace h := (if_pos hc59_7).symm.trans h
                  refine jj_tblIn (tgt := 205) hC dL_acts_39 hr4 (by omega) (by omega) (by rw [hc59_7]; rfl) rfl ?_
                  refine jj_aload_n hC dL_acts_205 rfl 3 rfl ?_
                  refine jj_iconst hC dL_acts_206 ?_
                  refine jj_iload hC dL_acts_207 0 rfl ?_
                  refine jg_imul hC dL_acts_209 ?_
                  refine jj_bipush hC dL_acts_210 (by decide) ?_
                  refine jg_iadd hC dL_acts_212 ?_
                  obtain ⟨q69, hq69, h⟩ := bd_e h
                  refine jj_invSW hC mvwL_addPilot wd556 wd555 (xL_addPilot (OKC.tr hC) hp0 (w32_r _) hq69) rfl rfl (c_le rfl) (c_le rfl) (by omega) (by omega) dL_acts_213 (po_kW (fun hr69 hx69 sz69 => ?_))
                  refine jj_widen (k' := 1) (n' := 256) (by omega) (by omega) ?_
                  cases h
                  exact jj_iret hC (by omega) (by omega) dL_acts_216 ⟨rfl, hr69, ex2_r, rfl, rfl, rfl, rfl⟩
                · replace h := (if_neg hc59_7).symm.trans h
                  by_cases hc59_8 : q4 = 8
                  · replace h := (if_pos hc59_8).symm.trans h
                    refine jj_tblIn (tgt := 217) hC dL_acts_39 hr4 (by omega) (by omega) (by rw [hc59_8]; rfl) rfl ?_
                    refine jj_widen (k' := 0) (n' := 0) (by omega) (by omega) ?_
                    refine jj_lv (lv' := [(0, .ref x0), (3, .int (iI q1))]) [3, 2] rfl ?_
                    exact hB217 sz S Ln M R x0 q1 ex2_r hp0 hr1 h
                  · replace h := (if_neg hc59_8).symm.trans h
                    by_cases hc59_9 : q4 = 9
                    · replace h := (if_pos hc59_9).symm.trans h
                      refine jj_tblIn (tgt := 217) hC dL_acts_39 hr4 (by omega) (by omega) (by rw [hc59_9]; rfl) rfl ?_
                      refine jj_widen (k' := 0) (n' := 0) (by omega) (by omega) ?_
                      refine jj_lv (lv' := [(0, .ref x0), (3, .int (iI q1))]) [3, 2] rfl ?_
                      exact hB217 sz S Ln M R x0 q1 ex2_r hp0 hr1 h
                    · replace h := (if_neg hc59_9).symm.trans h
                      by_cases hc59_10 : q4 = 10
                      · replace h := (if_pos hc59_10).symm.trans h
                        refine jj_tblIn (tgt := 217) hC dL_acts_39 hr4 (by omega) (by omega) (by rw [hc59_10]; rfl) rfl ?_
                        refine jj_widen (k' := 0) (n' := 0) (by omega) (by omega) ?_
                        refine jj_lv (lv' := [(0, .ref x0), (3, .int (iI q1))]) [3, 2] rfl ?_
                        exact hB217 sz S Ln M R x0 q1 ex2_r hp0 hr1 h
                      · replace h := (if_neg hc59_10).symm.trans h
                        by_cases hc59_11 : q4 = 11
                        · replace h := (if_pos hc59_11).symm.trans h
                          refine jj_tblIn (tgt := 223) hC dL_acts_39 hr4 (by omega) (by omega) (by rw [hc59_11]; rfl) rfl ?_
                          refine jj_widen (k' := 0) (n' := 0) (by omega) (by omega) ?_
                          refine jj_lv (lv' := [(0, .ref x0), (3, .int (iI q1)), (4, .int (iI q2)), (5, .int (iI q3))]) [3, 2, 1, 0] rfl ?_
                          exact hB223 sz S Ln M R x0 q1 q2 q3 ex2_r hp0 hr1 hr2 hr3 h
                        · replace h := (if_neg hc59_11).symm.trans h
                          by_cases hc59_12 : q4 = 12
                          · replace h := (if_pos hc59_12).symm.trans h
                            refine jj_tblIn (tgt := 223) hC dL_acts_39 hr4 (by omega) (by omega) (by rw [hc59_12]; rfl) rfl ?_
                            refine jj_widen (k' := 0) (n' := 0) (by omega) (by omega) ?_
                            refine jj_lv (lv' := [(0, .ref x0), (3, .int (iI q1)), (4, .int (iI q2)), (5, .int (iI q3))]) [3, 2, 1, 0] rfl ?_
                            exact hB223 sz S Ln M R x0 q1 q2 q3 ex2_r hp0 hr1 hr2 hr3 h
                          · replace h := (if_neg hc59_12).symm.trans h
                            by_cases hc59_13 : q4 = 13
                            · replace h := (if_pos hc59_13).symm.trans h
                              refine jj_tblIn (tgt := 223) hC dL_acts_39 hr4 (by omega) (by omega) (by rw [hc59_13]; rfl) rfl ?_
                              refine jj_widen (k' := 0) (n' := 0) (by omega) (by omega) ?_
                              refine jj_lv (lv' := [(0, .ref x0), (3, .int (iI q1)), (4, .int (iI q2)), (5, .int (iI q3))]) [3, 2, 1, 0] rfl ?_
                              exact hB223 sz S Ln M R x0 q1 q2 q3 ex2_r hp0 hr1 hr2 hr3 h
                            · replace h := (if_neg hc59_13).symm.trans h
                              by_cases hc59_14 : q4 = 14
                              · replace h := (if_pos hc59_14).symm.trans h
                                refine jj_tblIn (tgt := 235) hC dL_acts_39 hr4 (by omega) (by omega) (by rw [hc59_14]; rfl) rfl ?_
                                refine jj_widen (k' := 0) (n' := 0) (by omega) (by omega) ?_
                                refine jj_lv (lv' := [(0, .ref x0), (3, .int (iI q1)), (5, .int (iI q3))]) [3, 2, 0] rfl ?_
                                exact hB235 sz S Ln M R x0 q1 q3 ex2_r hp0 hr1 hr3 h
                              · replace h := (if_neg hc59_14).symm.trans h
                                by_cases hc59_15 : q4 = 15
                                · replace h := (if_pos hc59_15).symm.trans h
                                  refine jj_tblIn (tgt := 235) hC dL_acts_39 hr4 (by omega) (by omega) (by rw [hc59_15]; rfl) rfl ?_
                                  refine jj_widen (k' := 0) (n' := 0) (by omega) (by omega) ?_
                                  refine jj_lv (lv' := [(0, .ref x0), (3, .int (iI q1)), (5, .int (iI q3))]) [3, 2, 0] rfl ?_
                                  exact hB235 sz S Ln M R x0 q1 q3 ex2_r hp0 hr1 hr3 h
                                · replace h := (if_neg hc59_15).symm.trans h
                                  by_cases hc59_16 : q4 = 16
                                  · replace h := (if_pos hc59_16).symm.trans h
                                    refine jj_tblIn (tgt := 235) hC dL_acts_39 hr4 (by omega) (by omega) (by rw [hc59_16]; rfl) rfl ?_
                                    refine jj_widen (k' := 0) (n' := 0) (by omega) (by omega) ?_
                                    refine jj_lv (lv' := [(0, .ref x0), (3, .int (iI q1)), (5, .int (iI q3))]) [3, 2, 0] rfl ?_
                                    exact hB235 sz S Ln M R x0 q1 q3 ex2_r hp0 hr1 hr3 h
                                  · replace h := (if_neg hc59_16).symm.trans h
                                    by_cases hc59_17 : q4 = 17
                                    · replace h := (if_pos hc59_17).symm.trans h
                                      refine jj_tblIn (tgt := 235) hC dL_acts_39 hr4 (by omega) (by omega) (by rw [hc59_17]; rfl) rfl ?_
                                      refine jj_widen (k' := 0) (n' := 0) (by omega) (by omega) ?_
                                      refine jj_lv (lv' := [(0, .ref x0), (3, .int (iI q1)), (5, .int (iI q3))]) [3, 2, 0] rfl ?_
                                      exact hB235 sz S Ln M R x0 q1 q3 ex2_r hp0 hr1 hr3 h
                                    · replace h := (if_neg hc59_17).symm.trans h
                                      by_cases hc59_18 : q4 = 18
                                      · replace h := (if_pos hc59_18).symm.trans h
                                        refine jj_tblIn (tgt := 254) hC dL_acts_39 hr4 (by omega) (by omega) (by rw [hc59_18]; rfl) rfl ?_
                                        refine jj_widen (k' := 0) (n' := 0) (by omega) (by omega) ?_
                                        refine jj_lv (lv' := [(0, .ref x0), (3, .int (iI q1)), (5, .int (iI q3))]) [3, 2, 0] rfl ?_
                                        exact hB254 sz S Ln M R x0 q1 q3 ex2_r hp0 hr1 hr3 h
                                      · replace h := (if_neg hc59_18).symm.trans h
                                        by_cases hc59_19 : q4 = 19
                                        · replace h := (if_pos hc59_19).symm.trans h
                                          refine jj_tblIn (tgt := 254) hC dL_acts_39 hr4 (by omega) (by omega) (by rw [hc59_19]; rfl) rfl ?_
                                          refine jj_widen (k' := 0) (n' := 0) (by omega) (by omega) ?_
                                          refine jj_lv (lv' := [(0, .ref x0), (3, .int (iI q1)), (5, .int (iI q3))]) [3, 2, 0] rfl ?_
                                          exact hB254 sz S Ln M R x0 q1 q3 ex2_r hp0 hr1 hr3 h
                                        · replace h := (if_neg hc59_19).symm.trans h
                                          by_cases hc59_20 : q4 = 20
                                          · replace h := (if_pos hc59_20).symm.trans h
                                            refine jj_tblIn (tgt := 254) hC dL_acts_39 hr4 (by omega) (by omega) (by rw [hc59_20]; rfl) rfl ?_
                                            refine jj_widen (k' := 0) (n' := 0) (by omega) (by omega) ?_
                                            refine jj_lv (lv' := [(0, .ref x0), (3, .int (iI q1)), (5, .int (iI q3))]) [3, 2, 0] rfl ?_
                                            exact hB254 sz S Ln M R x0 q1 q3 ex2_r hp0 hr1 hr3 h
                                          · replace h := (if_neg hc59_20).symm.trans h
                                            by_cases hc59_21 : q4 = 21
                                            · replace h := (if_pos hc59_21).symm.trans h
                                              refine jj_tblIn (tgt := 262) hC dL_acts_39 hr4 (by omega) (by omega) (by rw [hc59_21]; rfl) rfl ?_
                                              refine jj_aload_n hC dL_acts_262 rfl 3 rfl ?_
                                              obtain ⟨q60, hq60, h⟩ := bd_e h
                                              refine jj_invSW hC mvwL_endDay wd735 wd734 (xL_endDay (OKC.tr hC) hp0 hq60) rfl rfl (c_le rfl) (c_le rfl) (by omega) (by omega) dL_acts_263 (po_kW (fun hr60 hx60 sz60 => ?_))
                                              refine jj_widen (k' := 1) (n' := 256) (by omega) (by omega) ?_
                                              cases h
                                              exact jj_iret hC (by omega) (by omega) dL_acts_266 ⟨rfl, hr60, ex2_r, rfl, rfl, rfl, rfl⟩
                                            · replace h := (if_neg hc59_21).symm.trans h
                                              refine jj_tblOut (tgt := 267) hC dL_acts_39 hr4 (by omega) rfl ?_
                                              refine jj_aload_n hC dL_acts_267 rfl 3 rfl ?_
                                              obtain ⟨S5, hS95, h⟩ := nam_e h
                                              obtain ⟨Ln5, hLn95, h⟩ := nam_e h
                                              obtain ⟨M5, hM95, h⟩ := nam_e h
                                              obtain ⟨R5, hR95, h⟩ := nam_e h
                                              refine jj_newO hC kfJ4 hd2 wd1265 wd157 wd34 (by decide) (by omega) (by omega) dL_acts_268 (fun hx5 => ?_)
                                              rw [hS95, hLn95] at hx5
                                              refine jj_mem hS95 hLn95 hM95 hR95 ?_
                                              refine jj_widen (k' := 1) (n' := 256) (by omega) (by omega) ?_
                                              refine jj_dup hC dL_acts_271 rfl ?_
                                              obtain ⟨q6, hq6, h⟩ := bd_e h
                                              refine jj_invI hC mvJ4_init_da8c8 rfl wd159 wd1266 (xJ4_init_da8c8 (OKC.tr hC) (show S5 sz = 2 by rw [← hS95]; exact ua_s) hq6) rfl rfl (c_le rfl) (c_le rfl) (by omega) (by omega) dL_acts_272 (poX_k (fun hx6 => po_kV ?_))
                                              refine jj_widen (k' := 2) (n' := 512) (by omega) (by omega) ?_
                                              refine jj_iload hC dL_acts_275 0 rfl ?_
                                              refine jj_iconst hC dL_acts_277 ?_
                                              obtain ⟨hg7, h⟩ := gd_e h
                                              refine jj_irem hC dL_acts_278 hr3 (show (-2147483648 ≤ (2 : Int) ∧ (2 : Int) < 2147483648) from by decide) hg7 ?_
                                              refine jj_if_ne (tgt := 309) hC dL_acts_279 rfl (i_tmod_r hr3 (show (-2147483648 ≤ (2 : Int) ∧ (2 : Int) < 2147483648) from by decide) hg7) (fun hc => ?_) (fun hc => ?_)
                                              · replace h := (if_pos hc).symm.trans h
                                                obtain ⟨S8, hS98, h⟩ := nam_e h
                                                obtain ⟨Ln8, hLn98, h⟩ := nam_e h
                                                obtain ⟨M8, hM98, h⟩ := nam_e h
                                                obtain ⟨R8, hR98, h⟩ := nam_e h
                                                refine jj_newO hC kfJ4 hd2 wd1265 wd157 wd34 (by decide) (by omega) (by omega) dL_acts_309 (fun hx8 => ?_)
                                                rw [hS98, hLn98] at hx8
                                                refine jj_mem hS98 hLn98 hM98 hR98 ?_
                                                refine jj_widen (k' := 3) (n' := 768) (by omega) (by omega) ?_
                                                refine jj_dup hC dL_acts_312 rfl ?_
                                                obtain ⟨q9, hq9, h⟩ := bd_e h
                                                refine jj_invI hC mvJ4_init_da8c8 rfl wd159 wd1266 (xJ4_init_da8c8 (OKC.tr hC) (show S8 q6.1 = 2 by rw [← hS98]; exact ua_s) hq9) rfl rfl (c_le rfl) (c_le rfl) (by omega) (by omega) dL_acts_313 (poX_k (fun hx9 => po_kV ?_))
                                                refine jj_widen (k' := 4) (n' := 1024) (by omega) (by omega) ?_
                                                obtain ⟨b10, hb10, hs10, h⟩ := rf_e h
                                                refine jg_ldcS hC 14 rfl (Option.some.inj hb10) dL_acts_316 ?_
                                                obtain ⟨q11, hq11, h⟩ := bd_e h
                                                refine jj_invV hC mvJ4_append_15ec4 wd189 wd190 wd1268 (ext_s hx9 (show S8 q6.1 = 2 by rw [← hS98]; exact ua_s) (by decide)) (by decide) rfl (xJ4_append_15ec4 (OKC.tr hC) (ext_s hx9 (show S8 q6.1 = 2 by rw [← hS98]; exact ua_s) (by decide)) hs10 hq11) rfl rfl (c_le rfl) (c_le rfl) (by omega) (by omega) dL_acts_318 noXk (poX_k (fun hx11 => po_kA (fun hr11 => ?_)))
                                                refine jj_widen (k' := 5) (n' := 1280) (by omega) (by omega) ?_
                                                refine jj_iload_n hC dL_acts_321 rfl 2 rfl ?_
                                                obtain ⟨q12, hq12, h⟩ := bd_e h
                                                refine jj_invV hC mvJ4_append_bf812 wd309 wd310 wd1269 hr11 (by decide) rfl (xJ4_append_bf812 (OKC.tr hC) hr11 hr1 hq12) rfl rfl (c_le rfl) (c_le rfl) (by omega) (by omega) dL_acts_322 noXk (poX_k (fun hx12 => po_kA (fun hr12 => ?_)))
                                                refine jj_widen (k' := 6) (n' := 1536) (by omega) (by omega) ?_
                                                obtain ⟨b13, hb13, hs13, h⟩ := rf_e h
                                                refine jg_ldcS hC 15 rfl (Option.some.inj hb13) dL_acts_325 ?_
                                                obtain ⟨q14, hq14, h⟩ := bd_e h
                                                refine jj_invV hC mvJ4_append_15ec4 wd189 wd190 wd1268 hr12 (by decide) rfl (xJ4_append_15ec4 (OKC.tr hC) hr12 hs13 hq14) rfl rfl (c_le rfl) (c_le rfl) (by omega) (by omega) dL_acts_327 noXk (poX_k (fun hx14 => po_kA (fun hr14 => ?_)))
                                                refine jj_widen (k' := 7) (n' := 1792) (by omega) (by omega) ?_
                                                refine jj_iload hC dL_acts_330 0 rfl ?_
                                                obtain ⟨q15, hq15, h⟩ := bd_e h
                                                refine jj_invV hC mvJ4_append_bf812 wd309 wd310 wd1269 hr14 (by decide) rfl (xJ4_append_bf812 (OKC.tr hC) hr14 hr3 hq15) rfl rfl (c_le rfl) (c_le rfl) (by omega) (by omega) dL_acts_332 noXk (poX_k (fun hx15 => po_kA (fun hr15 => ?_)))
                                                refine jj_widen (k' := 8) (n' := 2048) (by omega) (by omega) ?_
                                                obtain ⟨b16, hb16, hs16, h⟩ := rf_e h
                                                refine jg_ldcS hC 13 rfl (Option.some.inj hb16) dL_acts_335 ?_
                                                obtain ⟨q17, hq17, h⟩ := bd_e h
                                                refine jj_invV hC mvJ4_append_15ec4 wd189 wd190 wd1268 hr15 (by decide) rfl (xJ4_append_15ec4 (OKC.tr hC) hr15 hs16 hq17) rfl rfl (c_le rfl) (c_le rfl) (by omega) (by omega) dL_acts_337 noXk (poX_k (fun hx17 => po_kA (fun hr17 => ?_)))
                                                refine jj_widen (k' := 9) (n' := 2304) (by omega) (by omega) ?_
                                                obtain ⟨q18, hq18, h⟩ := bd_e h
                                                refine jj_invV hC mvJ4_toString_0e30d wd334 wd335 wd1271 hr17 (by decide) rfl (xJ4_toString_0e30d (OKC.tr hC) hr17 hq18) rfl rfl (c_le rfl) (c_le rfl) (by omega) (by omega) dL_acts_340 noXk (poX_k (fun hx18 => po_kA (fun hr18 => ?_)))
                                                refine jj_widen (k' := 11) (n' := 2816) (by omega) (by omega) ?_
                                                refine jj_widen (k' := 11) (n' := 2816) (by omega) (by omega) ?_
                                                refine jj_lv (lv' := [(3, .int (iI q1)), (4, .int (iI q2)), (5, .int (iI q3))]) [2, 1, 0] rfl ?_
                                                exact hB343 q18.2.1 q18.2.2.1 q18.2.2.2.1 q18.2.2.2.2.1 q18.2.2.2.2.2 q1 q2 q3 q18.1 sz x0 (ex2_t (ex2_t (ex2_t (ex2_t (ex2_t (ex2_t (ex2_t (ex2_t (ex2_t (ex2_t ex2_r hx5.2) hx6.2) hx8.2) hx9.2) hx11.2) hx12.2) hx14.2) hx15.2) hx17.2) hx18.2) hr1 hr2 hr3 hr18 (ext_s hx18 (ext_s hx17 (ext_s hx15 (ext_s hx14 (ext_s hx12 (ext_s hx11 (ext_s hx9 (ext_s hx8 (ext_s hx6 (show S5 sz = 2 by rw [← hS95]; exact ua_s) (by decide)) (by decide)) (by decide)) (by decide)) (by decide)) (by decide)) (by decide)) (by decide)) (by decide)) (ext_s hx18 (ext_s hx17 (ext_s hx15 (ext_s hx14 (ext_s hx12 (ext_s hx11 (ext_s hx9 (ext_s hx8 (ext_s hx6 (ext_s hx5 hp0 (by decide)) (by decide)) (by decide)) (by decide)) (by decide)) (by decide)) (by decide)) (by decide)) (by decide)) (by decide)) h
                                              · replace h := (if_neg (fun k => k hc)).symm.trans h
                                                obtain ⟨S51, hS951, h⟩ := nam_e h
                                                obtain ⟨Ln51, hLn951, h⟩ := nam_e h
                                                obtain ⟨M51, hM951, h⟩ := nam_e h
                                                obtain ⟨R51, hR951, h⟩ := nam_e h
                                                refine jj_newO hC kfJ4 hd2 wd1265 wd157 wd34 (by decide) (by omega) (by omega) dL_acts_282 (fun hx51 => ?_)
                                                rw [hS951, hLn951] at hx51
                                                refine jj_mem hS951 hLn951 hM951 hR951 ?_
                                                refine jj_widen (k' := 3) (n' := 768) (by omega) (by omega) ?_
                                                refine jj_dup hC dL_acts_285 rfl ?_
                                                obtain ⟨q52, hq52, h⟩ := bd_e h
                                                refine jj_invI hC mvJ4_init_da8c8 rfl wd159 wd1266 (xJ4_init_da8c8 (OKC.tr hC) (show S51 q6.1 = 2 by rw [← hS951]; exact ua_s) hq52) rfl rfl (c_le rfl) (c_le rfl) (by omega) (by omega) dL_acts_286 (poX_k (fun hx52 => po_kV ?_))
                                                refine jj_widen (k' := 4) (n' := 1024) (by omega) (by omega) ?_
                                                obtain ⟨b53, hb53, hs53, h⟩ := rf_e h
                                                refine jg_ldcS hC 12 rfl (Option.some.inj hb53) dL_acts_289 ?_
                                                obtain ⟨q54, hq54, h⟩ := bd_e h
                                                refine jj_invV hC mvJ4_append_15ec4 wd189 wd190 wd1268 (ext_s hx52 (show S51 q6.1 = 2 by rw [← hS951]; exact ua_s) (by decide)) (by decide) rfl (xJ4_append_15ec4 (OKC.tr hC) (ext_s hx52 (show S51 q6.1 = 2 by rw [← hS951]; exact ua_s) (by decide)) hs53 hq54) rfl rfl (c_le rfl) (c_le rfl) (by omega) (by omega) dL_acts_291 noXk (poX_k (fun hx54 => po_kA (fun hr54 => ?_)))
                                                refine jj_widen (k' := 5) (n' := 1280) (by omega) (by omega) ?_
                                                refine jj_iload_n hC dL_acts_294 rfl 2 rfl ?_
                                                obtain ⟨q55, hq55, h⟩ := bd_e h
                                                refine jj_invV hC mvJ4_append_bf812 wd309 wd310 wd1269 hr54 (by decide) rfl (xJ4_append_bf812 (OKC.tr hC) hr54 hr1 hq55) rfl rfl (c_le rfl) (c_le rfl) (by omega) (by omega) dL_acts_295 noXk (poX_k (fun hx55 => po_kA (fun hr55 => ?_)))
                                                refine jj_widen (k' := 6) (n' := 1536) (by omega) (by omega) ?_
                                                obtain ⟨b56, hb56, hs56, h⟩ := rf_e h
                                                refine jg_ldcS hC 13 rfl (Option.some.inj hb56) dL_acts_298 ?_
                                                obtain ⟨q57, hq57, h⟩ := bd_e h
                                                refine jj_invV hC mvJ4_append_15ec4 wd189 wd190 wd1268 hr55 (by decide) rfl (xJ4_append_15ec4 (OKC.tr hC) hr55 hs56 hq57) rfl rfl (c_le rfl) (c_le rfl) (by omega) (by omega) dL_acts_300 noXk (poX_k (fun hx57 => po_kA (fun hr57 => ?_)))
                                                refine jj_widen (k' := 7) (n' := 1792) (by omega) (by omega) ?_
                                                obtain ⟨q58, hq58, h⟩ := bd_e h
                                                refine jj_invV hC mvJ4_toString_0e30d wd334 wd335 wd1271 hr57 (by decide) rfl (xJ4_toString_0e30d (OKC.tr hC) hr57 hq58) rfl rfl (c_le rfl) (c_le rfl) (by omega) (by omega) dL_acts_303 noXk (poX_k (fun hx58 => po_kA (fun hr58 => ?_)))
                                                refine jj_widen (k' := 9) (n' := 2304) (by omega) (by omega) ?_
                                                refine jj_goto (tgt := 343) hC dL_acts_306 rfl ?_
                                                refine jj_widen (k' := 11) (n' := 2816) (by omega) (by omega) ?_
                                                refine jj_lv (lv' := [(3, .int (iI q1)), (4, .int (iI q2)), (5, .int (iI q3))]) [2, 1, 0] rfl ?_
                                                exact hB343 q58.2.1 q58.2.2.1 q58.2.2.2.1 q58.2.2.2.2.1 q58.2.2.2.2.2 q1 q2 q3 q58.1 sz x0 (ex2_t (ex2_t (ex2_t (ex2_t (ex2_t (ex2_t (ex2_t (ex2_t ex2_r hx5.2) hx6.2) hx51.2) hx52.2) hx54.2) hx55.2) hx57.2) hx58.2) hr1 hr2 hr3 hr58 (ext_s hx58 (ext_s hx57 (ext_s hx55 (ext_s hx54 (ext_s hx52 (ext_s hx51 (ext_s hx6 (show S5 sz = 2 by rw [← hS95]; exact ua_s) (by decide)) (by decide)) (by decide)) (by decide)) (by decide)) (by decide)) (by decide)) (ext_s hx58 (ext_s hx57 (ext_s hx55 (ext_s hx54 (ext_s hx52 (ext_s hx51 (ext_s hx6 (ext_s hx5 hp0 (by decide)) (by decide)) (by decide)) (by decide)) (by decide)) (by decide)) (by decide)) (by decide)) h
def fL_seen_L50 (ad : Nat → Nat) (sz50 : Nat) (S50 Ln50 : Nat → Nat) (R50 : gR) (l0_50 : Nat) (l1_50 : Nat) (s50 : Int × gM) : Option ((Int × gM) ⊕ ((gM) ⊕ (Nat × Nat × (Nat → Nat) × (Nat → Nat) × gM × gR))) :=
  bd (fX9_taskLength ad S50 Ln50 R50 s50.2 l0_50) fun q14 => if q14 ≤ s50.1 then (some (.inr (.inl s50.2))) else (bd (fX9_taskPoint ad S50 Ln50 R50 s50.2 l0_50 s50.1) fun q15 => Sum.elim (fun v15 => gd ((0 : Int) ≤ (w32 (6 + s50.1)) ∧ (w32 (6 + s50.1)) < (Ln50 l1_50 : Int)) (nam (wr s50.2 l1_50 (w32 (6 + s50.1)) v15) fun M16 => some (.inl (w32 (s50.1 + 1), M16)))) (fun e15 => none) q15)
def fL_seen_B225 (ad : Nat → Nat) (sz77 : Nat) (S77 Ln77 : Nat → Nat) (R77 : gR) (M225 : gM) (l0_77 : Nat) (l1_77 : Nat) (l2_225 : Int) : Option ((Int × gM) ⊕ ((gM) ⊕ (Nat × Nat × (Nat → Nat) × (Nat → Nat) × gM × gR))) :=
  some (.inl (w32 (l2_225 + 1), M225))
def fL_seen_B142 (ad : Nat → Nat) (sz77 : Nat) (S77 Ln77 : Nat → Nat) (R77 : gR) (M142 : gM) (l0_77 : Nat) (l1_77 : Nat) (l2_142 : Int) (l3_142 : Int) (s0_142 : Int) (s1_142 : Int) (s2_142 : Nat) : Option ((Int × gM) ⊕ ((gM) ⊕ (Nat × Nat × (Nat → Nat) × (Nat → Nat) × gM × gR))) :=
  gd ((0 : Int) ≤ s1_142 ∧ s1_142 < (Ln77 s2_142 : Int)) (nam (wr M142 s2_142 s1_142 s0_142) fun M24 => bd (fX9_total ad S77 Ln77 R77 M24 l0_77 l2_142) fun q25 => Sum.elim (fun v25 => gd ((0 : Int) ≤ (w32 (l3_142 + 2)) ∧ (w32 (l3_142 + 2)) < (Ln77 l1_77 : Int)) (nam (wr M24 l1_77 (w32 (l3_142 + 2)) (w32 v25)) fun M26 => bd (fX9_reached ad S77 Ln77 R77 M26 l0_77 l2_142) fun q27 => Sum.elim (fun v27 => gd ((0 : Int) ≤ (w32 (l3_142 + 3)) ∧ (w32 (l3_142 + 3)) < (Ln77 l1_77 : Int)) (nam (wr M26 l1_77 (w32 (l3_142 + 3)) v27) fun M28 => gd ((0 : Int) ≤ (w32 (l3_142 + 1)) ∧ (w32 (l3_142 + 1)) < (Ln77 l1_77 : Int)) (if (M28 l1_77 (w32 (l3_142 + 1))) ≤ 0 then (fL_seen_B225 ad sz77 S77 Ln77 R77 M28 l0_77 l1_77 l2_142) else (bd (fX9_x ad S77 Ln77 R77 M28 l0_77 l2_142) fun q30 => Sum.elim (fun v30 => gd ((0 : Int) ≤ (w32 (l3_142 + 4)) ∧ (w32 (l3_142 + 4)) < (Ln77 l1_77 : Int)) (nam (wr M28 l1_77 (w32 (l3_142 + 4)) v30) fun M31 => bd (fX9_y ad S77 Ln77 R77 M31 l0_77 l2_142) fun q32 => Sum.elim (fun v32 => gd ((0 : Int) ≤ (w32 (l3_142 + 5)) ∧ (w32 (l3_142 + 5)) < (Ln77 l1_77 : Int)) (nam (wr M31 l1_77 (w32 (l3_142 + 5)) v32) fun M33 => bd (fX9_height ad S77 Ln77 R77 M33 l0_77 l2_142) fun q34 => Sum.elim (fun v34 => gd ((0 : Int) ≤ (w32 (l3_142 + 6)) ∧ (w32 (l3_142 + 6)) < (Ln77 l1_77 : Int)) (nam (wr M33 l1_77 (w32 (l3_142 + 6)) v34) fun M35 => bd (fX9_minutes ad S77 Ln77 R77 M35 l0_77 l2_142) fun q36 => Sum.elim (fun v36 => gd ((0 : Int) ≤ (w32 (l3_142 + 7)) ∧ (w32 (l3_142 + 7)) < (Ln77 l1_77 : Int)) (nam (wr M35 l1_77 (w32 (l3_142 + 7)) v36) fun M37 => bd (fX9_penalty ad S77 Ln77 R77 M37 l0_77 l2_142) fun q38 => Sum.elim (fun v38 => gd ((0 : Int) ≤ (w32 (l3_142 + 8)) ∧ (w32 (l3_142 + 8)) < (Ln77 l1_77 : Int)) (nam (wr M37 l1_77 (w32 (l3_142 + 8)) v38) fun M39 => fL_seen_B225 ad sz77 S77 Ln77 R77 M39 l0_77 l1_77 l2_142)) (fun e38 => none) q38)) (fun e36 => none) q36)) (fun e34 => none) q34)) (fun e32 => none) q32)) (fun e30 => none) q30)))) (fun e27 => none) q27)) (fun e25 => none) q25)
def fL_seen_L77 (ad : Nat → Nat) (sz77 : Nat) (S77 Ln77 : Nat → Nat) (R77 : gR) (l0_77 : Nat) (l1_77 : Nat) (s77 : Int × gM) : Option ((Int × gM) ⊕ ((gM) ⊕ (Nat × Nat × (Nat → Nat) × (Nat → Nat) × gM × gR))) :=
  bd (fX9_pilotCount ad S77 Ln77 R77 s77.2 l0_77) fun q18 => if q18 ≤ s77.1 then (some (.inr (.inl s77.2))) else (bd (fX9_sink ad S77 Ln77 R77 s77.2 l0_77 s77.1) fun q19 => Sum.elim (fun v19 => gd ((0 : Int) ≤ (w32 (14 + (w32 (10 * s77.1)))) ∧ (w32 (14 + (w32 (10 * s77.1)))) < (Ln77 l1_77 : Int)) (nam (wr s77.2 l1_77 (w32 (14 + (w32 (10 * s77.1)))) v19) fun M20 => bd (fX9_isFlying ad S77 Ln77 R77 M20 l0_77 s77.1) fun q21 => Sum.elim (fun v21 => if v21 = 0 then (bd (fX9_isLanded ad S77 Ln77 R77 M20 l0_77 s77.1) fun q22 => Sum.elim (fun v22 => if v22 = 0 then (bd (fX9_isFinished ad S77 Ln77 R77 M20 l0_77 s77.1) fun q23 => Sum.elim (fun v23 => if v23 = 0 then (fL_seen_B142 ad sz77 S77 Ln77 R77 M20 l0_77 l1_77 s77.1 (w32 (14 + (w32 (10 * s77.1)))) 0 (w32 ((w32 (14 + (w32 (10 * s77.1)))) + 1)) l1_77) else (fL_seen_B142 ad sz77 S77 Ln77 R77 M20 l0_77 l1_77 s77.1 (w32 (14 + (w32 (10 * s77.1)))) 3 (w32 ((w32 (14 + (w32 (10 * s77.1)))) + 1)) l1_77)) (fun e23 => none) q23) else (fL_seen_B142 ad sz77 S77 Ln77 R77 M20 l0_77 l1_77 s77.1 (w32 (14 + (w32 (10 * s77.1)))) 2 (w32 ((w32 (14 + (w32 (10 * s77.1)))) + 1)) l1_77)) (fun e22 => none) q22) else (fL_seen_B142 ad sz77 S77 Ln77 R77 M20 l0_77 l1_77 s77.1 (w32 (14 + (w32 (10 * s77.1)))) 1 (w32 ((w32 (14 + (w32 (10 * s77.1)))) + 1)) l1_77)) (fun e21 => none) q21)) (fun e19 => none) q19)
def fL_seen_L233 (ad : Nat → Nat) (sz233 : Nat) (S233 Ln233 : Nat → Nat) (R233 : gR) (l0_233 : Nat) (l1_233 : Nat) (s233 : Int × gM) : Option ((Int × gM) ⊕ ((gM) ⊕ (Nat × Nat × (Nat → Nat) × (Nat → Nat) × gM × gR))) :=
  if 45 ≤ s233.1 then (some (.inr (.inl s233.2))) else (bd (fX9_restrictedInRow ad S233 Ln233 R233 s233.2 l0_233 s233.1) fun q41 => Sum.elim (fun v41 => gd ((0 : Int) ≤ (w32 (80 + s233.1)) ∧ (w32 (80 + s233.1)) < (Ln233 l1_233 : Int)) (nam (wr s233.2 l1_233 (w32 (80 + s233.1)) v41) fun M42 => some (.inl (w32 (s233.1 + 1), M42)))) (fun e41 => none) q41)
def fL_seen (ad : Nat → Nat) (sz : Nat) (S Ln : Nat → Nat) (R : gR) (M : gM) (x0 : Nat) : Option (Nat × Nat × (Nat → Nat) × (Nat → Nat) × gM × gR) :=
  nam (ua S sz 20) fun S1 => nam (ua Ln sz (130 : Int).toNat) fun Ln1 => nam (ua M sz gNz) fun M1 => nam (ua R sz gNo) fun R1 => bd (fX9_pointCount ad S1 Ln1 R1 M1 x0) fun q2 => gd ((0 : Int) ≤ 0 ∧ 0 < (Ln1 sz : Int)) (nam (wr M1 sz 0 q2) fun M3 => bd (fX9_taskLength ad S1 Ln1 R1 M3 x0) fun q4 => gd ((0 : Int) ≤ 1 ∧ 1 < (Ln1 sz : Int)) (nam (wr M3 sz 1 q4) fun M5 => bd (fX9_pilotCount ad S1 Ln1 R1 M5 x0) fun q6 => gd ((0 : Int) ≤ 2 ∧ 2 < (Ln1 sz : Int)) (nam (wr M5 sz 2 q6) fun M7 => bd (fX9_cloudBase ad S1 Ln1 R1 M7 x0) fun q8 => gd ((0 : Int) ≤ 3 ∧ 3 < (Ln1 sz : Int)) (nam (wr M7 sz 3 q8) fun M9 => bd (fX9_days ad S1 Ln1 R1 M9 x0) fun q10 => gd ((0 : Int) ≤ 4 ∧ 4 < (Ln1 sz : Int)) (nam (wr M9 sz 4 q10) fun M11 => bd (fX9_taskDistance ad S1 Ln1 R1 M11 x0) fun q12 => gd ((0 : Int) ≤ 5 ∧ 5 < (Ln1 sz : Int)) (nam (wr M11 sz 5 q12) fun M13 => bd (lp (fL_seen_L50 ad (sz + 1) S1 Ln1 R1 x0 sz) FU (0, M13)) fun q46 => Sum.elim (fun e50_17 => bd (lp (fL_seen_L77 ad (sz + 1) S1 Ln1 R1 x0 sz) FU (0, e50_17)) fun q45 => Sum.elim (fun e77_40 => bd (lp (fL_seen_L233 ad (sz + 1) S1 Ln1 R1 x0 sz) FU (0, e77_40)) fun q44 => Sum.elim (fun e233_43 => some ((sz, sz + 1, S1, Ln1, e233_43, R1))) (fun c44 => some c44) q44) (fun c45 => some c45) q45) (fun c46 => some c46) q46))))))
theorem xL_seen {l : Launch} {G : gE} {sz : Nat} {S Ln : Nat → Nat} {M : gM} {R : gR} (hl : l.stackTraces = false) {x0 : Nat} (hp0 : S x0 = 12) {r : Nat × Nat × (Nat → Nat) × (Nat → Nat) × gM × gR} (h : fL_seen G.2.2.2.2 sz S Ln R M x0 = some r) : Ct l G yL_seen cL_seen 4 (some (.array .int)) 11 1 256 [.ref x0] sz S Ln M R (poX (poA 20 r.1 (r.2.1) (r.2.2.1) (r.2.2.2.1) (r.2.2.2.2.1) (r.2.2.2.2.2)) (Ext sz S Ln (r.2.1) (r.2.2.1) (r.2.2.2.1))) noX := by
  refine jj_start (own := RL) (lv0 := [(0, .ref x0)]) hl (by decide +kernel) rfl rfl (c_le rfl) (fun C hCl hC => ?_)
  have hL50 : ∀ (sz50 : Nat) (S50 : (Nat → Nat)) (Ln50 : (Nat → Nat)) (R50 : gR) (l0_50 : Nat) (l1_50 : Nat), Ext sz S Ln sz50 S50 Ln50 → S50 l0_50 = 12 → S50 l1_50 = 20 → ∀ (n : Nat) (s50 : Int × gM) (q : (gM) ⊕ (Nat × Nat × (Nat → Nat) × (Nat → Nat) × gM × gR)), lp (fL_seen_L50 G.2.2.2.2 sz50 S50 Ln50 R50 l0_50 l1_50) n s50 = some q → (-2147483648 ≤ s50.1 ∧ s50.1 < 2147483648) → (∀ e50, q = .inl e50 → True → JJ G C 1 256 sz50 S50 Ln50 e50 R50 75 [(0, .ref l0_50), (1, .ref l1_50)] []) → (∀ c, q = .inr c → c = r) → JJ G C 1 256 sz50 S50 Ln50 s50.2 R50 50 [(0, .ref l0_50), (1, .ref l1_50), (2, .int (iI s50.1))] [] := by
    intro sz50 S50 Ln50 R50 l0_50 l1_50 hx50 hl0_50 hl1_50
    refine lp_ind ?_
    intro s50 r50 hI50 h hJ50 hE50 hR50
    have hs50_0 := hI50
    unfold fL_seen_L50 at h
    refine jj_iload_n hC dL_seen_50 rfl 2 rfl ?_
    refine jj_aload_n hC dL_seen_51 rfl 0 rfl ?_
    obtain ⟨q14, hq14, h⟩ := bd_e h
    refine jj_invV hC mvX9_taskLength wd1393 wd1394 wd1392 hl0_50 (by decide) rfl (xX9_taskLength (OKC.tr hC) hl0_50 hq14) rfl rfl (c_le rfl) (c_le rfl) (by omega) (by omega) dL_seen_52 noXk (po_kI (fun hr14 => ?_))
    refine jj_icmp_ge (tgt := 75) hC dL_seen_55 rfl hs50_0 hr14 (fun hc => ?_) (fun hc => ?_)
    · replace h := (if_pos hc).symm.trans h
      refine jj_lv (lv' := [(0, .ref l0_50), (1, .ref l1_50)]) [0, 1] rfl ?_
      exact hE50 _ (Option.some.inj h).symm trivial
    · replace h := (if_neg (Int.not_le.mpr hc)).symm.trans h
      refine jj_aload_n hC dL_seen_58 rfl 1 rfl ?_
      refine jj_bipush hC dL_seen_59 (by decide) ?_
      refine jj_iload_n hC dL_seen_61 rfl 2 rfl ?_
      refine jg_iadd hC dL_seen_62 ?_
      refine jj_aload_n hC dL_seen_63 rfl 0 rfl ?_
      refine jj_iload_n hC dL_seen_64 rfl 2 rfl ?_
      obtain ⟨q15, hq15, h⟩ := bd_e h
      obtain ⟨v15, hv15, h⟩ := el_n h
      subst hv15
      refine jj_invV hC mvX9_taskPoint wd1410 wd1411 wd1409 hl0_50 (by decide) rfl (xX9_taskPoint_n (OKC.tr hC) hl0_50 hs50_0 hq15) rfl rfl (c_le rfl) (c_le rfl) (by omega) (by omega) dL_seen_65 noXk (po_kI (fun hr15 => ?_))
      obtain ⟨⟨ha16, hb16⟩, h⟩ := gd_e h
      obtain ⟨M16, hM16, h⟩ := nam_e h
      refine jj_iast hC hl1_50 ha16 hb16 hr15 dL_seen_68 (jj_M hM16 ?_)
      refine jg_iinc (q := 2) (lv' := [(2, .int (iI (w32 (s50.1 + 1)))), (0, .ref l0_50), (1, .ref l1_50)]) hC dL_seen_69 rfl (by decide) rfl ?_
      refine jj_goto (tgt := 50) hC dL_seen_72 rfl ?_
      refine jj_lv (lv' := [(0, .ref l0_50), (1, .ref l1_50), (2, .int (iI (w32 (s50.1 + 1))))]) [1, 2, 0] rfl ?_
      exact hJ50 _ (Option.some.inj h).symm (w32_r _)
  have hL77 : ∀ (sz77 : Nat) (S77 : (Nat → Nat)) (Ln77 : (Nat → Nat)) (R77 : gR) (l0_77 : Nat) (l1_77 : Nat), Ext sz S Ln sz77 S77 Ln77 → S77 l0_77 = 12 → S77 l1_77 = 20 → ∀ (n : Nat) (s77 : Int × gM) (q : (gM) ⊕ (Nat × Nat × (Nat → Nat) × (Nat → Nat) × gM × gR)), lp (fL_seen_L77 G.2.2.2.2 sz77 S77 Ln77 R77 l0_77 l1_77) n s77 = some q → (-2147483648 ≤ s77.1 ∧ s77.1 < 2147483648) → (∀ e77, q = .inl e77 → True → JJ G C 1 256 sz77 S77 Ln77 e77 R77 231 [(0, .ref l0_77), (1, .ref l1_77)] []) → (∀ c, q = .inr c → c = r) → JJ G C 1 256 sz77 S77 Ln77 s77.2 R77 77 [(0, .ref l0_77), (1, .ref l1_77), (2, .int (iI s77.1))] [] := by
    intro sz77 S77 Ln77 R77 l0_77 l1_77 hx77 hl0_77 hl1_77
    refine lp_ind ?_
    intro s77 r77 hI77 h hJ77 hE77 hR77
    have hs77_0 := hI77
    have hB225 : ∀ (M225 : gM) (l2_225 : Int), Ext sz S Ln sz77 S77 Ln77 → (-2147483648 ≤ l2_225 ∧ l2_225 < 2147483648) → S77 l0_77 = 12 → S77 l1_77 = 20 → fL_seen_B225 G.2.2.2.2 sz77 S77 Ln77 R77 M225 l0_77 l1_77 l2_225 = some r77 → JJ G C 1 256 sz77 S77 Ln77 M225 R77 225 [(0, .ref l0_77), (1, .ref l1_77), (2, .int (iI l2_225))] [] := by
      intro M225 l2_225 hx225 hl2_225 hl0_77_225 hl1_77_225 h
      unfold fL_seen_B225 at h
      refine jg_iinc (q := 2) (lv' := [(2, .int (iI (w32 (l2_225 + 1)))), (0, .ref l0_77), (1, .ref l1_77)]) hC dL_seen_225 rfl (by decide) rfl ?_
      refine jj_goto (tgt := 77) hC dL_seen_228 rfl ?_
      refine jj_lv (lv' := [(0, .ref l0_77), (1, .ref l1_77), (2, .int (iI (w32 (l2_225 + 1))))]) [1, 2, 0] rfl ?_
      exact hJ77 _ (Option.some.inj h).symm (w32_r _)
    have hB142 : ∀ (M142 : gM) (l2_142 : Int) (l3_142 : Int) (s0_142 : Int) (s1_142 : Int) (s2_142 : Nat), Ext sz S Ln sz77 S77 Ln77 → (-2147483648 ≤ l2_142 ∧ l2_142 < 2147483648) → (-2147483648 ≤ l3_142 ∧ l3_142 < 2147483648) → (-2147483648 ≤ s0_142 ∧ s0_142 < 2147483648) → (-2147483648 ≤ s1_142 ∧ s1_142 < 2147483648) → S77 s2_142 = 20 → S77 l0_77 = 12 → S77 l1_77 = 20 → fL_seen_B142 G.2.2.2.2 sz77 S77 Ln77 R77 M142 l0_77 l1_77 l2_142 l3_142 s0_142 s1_142 s2_142 = some r77 → JJ G C 1 256 sz77 S77 Ln77 M142 R77 142 [(0, .ref l0_77), (1, .ref l1_77), (2, .int (iI l2_142)), (3, .int (iI l3_142))] [.int (iI s0_142), .int (iI s1_142), .ref s2_142] := by
      intro M142 l2_142 l3_142 s0_142 s1_142 s2_142 hx142 hl2_142 hl3_142 hs0_142 hs1_142 hs2_142 hl0_77_142 hl1_77_142 h
      unfold fL_seen_B142 at h
      obtain ⟨⟨ha24, hb24⟩, h⟩ := gd_e h
      obtain ⟨M24, hM24, h⟩ := nam_e h
      refine jj_iast hC hs2_142 ha24 hb24 hs0_142 dL_seen_142 (jj_M hM24 ?_)
      refine jj_aload_n hC dL_seen_143 rfl 1 rfl ?_
      refine jj_iload_n hC dL_seen_144 rfl 3 rfl ?_
      refine jj_iconst hC dL_seen_145 ?_
      refine jg_iadd hC dL_seen_146 ?_
      refine jj_aload_n hC dL_seen_147 rfl 0 rfl ?_
      refine jj_iload_n hC dL_seen_148 rfl 2 rfl ?_
      obtain ⟨q25, hq25, h⟩ := bd_e h
      obtain ⟨v25, hv25, h⟩ := el_n h
      subst hv25
      refine jj_invV hC mvX9_total wd1431 wd1432 wd1430 hl0_77_142 (by decide) rfl (xX9_total_n (OKC.tr hC) hl0_77_142 hl2_142 hq25) rfl rfl (c_le rfl) (c_le rfl) (by omega) (by omega) dL_seen_149 noXk (po_kL (fun hr25 => ?_))
      refine jg_l2i hC dL_seen_152 ?_
      obtain ⟨⟨ha26, hb26⟩, h⟩ := gd_e h
      obtain ⟨M26, hM26, h⟩ := nam_e h
      refine jj_iast hC hl1_77_142 ha26 hb26 (w32_r _) dL_seen_153 (jj_M hM26 ?_)
      refine jj_aload_n hC dL_seen_154 rfl 1 rfl ?_
      refine jj_iload_n hC dL_seen_155 rfl 3 rfl ?_
      refine jj_iconst hC dL_seen_156 ?_
      refine jg_iadd hC dL_seen_157 ?_
      refine jj_aload_n hC dL_seen_158 rfl 0 rfl ?_
      refine jj_iload_n hC dL_seen_159 rfl 2 rfl ?_
      obtain ⟨q27, hq27, h⟩ := bd_e h
      obtain ⟨v27, hv27, h⟩ := el_n h
      subst hv27
      refine jj_invV hC mvX9_reached wd1435 wd1436 wd1434 hl0_77_142 (by decide) rfl (xX9_reached_n (OKC.tr hC) hl0_77_142 hl2_142 hq27) rfl rfl (c_le rfl) (c_le rfl) (by omega) (by omega) dL_seen_160 noXk (po_kI (fun hr27 => ?_))
      obtain ⟨⟨ha28, hb28⟩, h⟩ := gd_e h
      obtain ⟨M28, hM28, h⟩ := nam_e h
      refine jj_iast hC hl1_77_142 ha28 hb28 hr27 dL_seen_163 (jj_M hM28 ?_)
      refine jj_aload_n hC dL_seen_164 rfl 1 rfl ?_
      refine jj_iload_n hC dL_seen_165 rfl 3 rfl ?_
      refine jj_iconst hC dL_seen_166 ?_
      refine jg_iadd hC dL_seen_167 ?_
      obtain ⟨⟨ha29, hb29⟩, h⟩ := gd_e h
      refine jj_iald hC hl1_77_142 ha29 hb29 dL_seen_168 (fun hr29 => ?_)
      refine jj_if_le (tgt := 225) hC dL_seen_169 rfl hr29 (fun hc => ?_) (fun hc => ?_)
      · replace h := (if_pos hc).symm.trans h
        refine jj_widen (k' := 1) (n' := 256) (by omega) (by omega) ?_
        refine jj_lv (lv' := [(0, .ref l0_77), (1, .ref l1_77), (2, .int (iI l2_142))]) [0, 1, 2] rfl ?_
        exact hB225 M28 l2_142 hx142 hl2_142 hl0_77_142 hl1_77_142 h
      · replace h := (if_neg (Int.not_le.mpr hc)).symm.trans h
        refine jj_aload_n hC dL_seen_172 rfl 1 rfl ?_
        refine jj_iload_n hC dL_seen_173 rfl 3 rfl ?_
        refine jj_iconst hC dL_seen_174 ?_
        refine jg_iadd hC dL_seen_175 ?_
        refine jj_aload_n hC dL_seen_176 rfl 0 rfl ?_
        refine jj_iload_n hC dL_seen_177 rfl 2 rfl ?_
        obtain ⟨q30, hq30, h⟩ := bd_e h
        obtain ⟨v30, hv30, h⟩ := el_n h
        subst hv30
        refine jj_invV hC mvX9_x wd1439 wd1440 wd1438 hl0_77_142 (by decide) rfl (xX9_x_n (OKC.tr hC) hl0_77_142 hl2_142 hq30) rfl rfl (c_le rfl) (c_le rfl) (by omega) (by omega) dL_seen_178 noXk (po_kI (fun hr30 => ?_))
        obtain ⟨⟨ha31, hb31⟩, h⟩ := gd_e h
        obtain ⟨M31, hM31, h⟩ := nam_e h
        refine jj_iast hC hl1_77_142 ha31 hb31 hr30 dL_seen_181 (jj_M hM31 ?_)
        refine jj_aload_n hC dL_seen_182 rfl 1 rfl ?_
        refine jj_iload_n hC dL_seen_183 rfl 3 rfl ?_
        refine jj_iconst hC dL_seen_184 ?_
        refine jg_iadd hC dL_seen_185 ?_
        refine jj_aload_n hC dL_seen_186 rfl 0 rfl ?_
        refine jj_iload_n hC dL_seen_187 rfl 2 rfl ?_
        obtain ⟨q32, hq32, h⟩ := bd_e h
        obtain ⟨v32, hv32, h⟩ := el_n h
        subst hv32
        refine jj_invV hC mvX9_y wd1448 wd1449 wd1447 hl0_77_142 (by decide) rfl (xX9_y_n (OKC.tr hC) hl0_77_142 hl2_142 hq32) rfl rfl (c_le rfl) (c_le rfl) (by omega) (by omega) dL_seen_188 noXk (po_kI (fun hr32 => ?_))
        obtain ⟨⟨ha33, hb33⟩, h⟩ := gd_e h
        obtain ⟨M33, hM33, h⟩ := nam_e h
        refine jj_iast hC hl1_77_142 ha33 hb33 hr32 dL_seen_191 (jj_M hM33 ?_)
        refine jj_aload_n hC dL_seen_192 rfl 1 rfl ?_
        refine jj_iload_n hC dL_seen_193 rfl 3 rfl ?_
        refine jj_bipush hC dL_seen_194 (by decide) ?_
        refine jg_iadd hC dL_seen_196 ?_
        refine jj_aload_n hC dL_seen_197 rfl 0 rfl ?_
        refine jj_iload_n hC dL_seen_198 rfl 2 rfl ?_
        obtain ⟨q34, hq34, h⟩ := bd_e h
        obtain ⟨v34, hv34, h⟩ := el_n h
        subst hv34
        refine jj_invV hC mvX9_height wd1452 wd1453 wd1451 hl0_77_142 (by decide) rfl (xX9_height_n (OKC.tr hC) hl0_77_142 hl2_142 hq34) rfl rfl (c_le rfl) (c_le rfl) (by omega) (by omega) dL_seen_199 noXk (po_kI (fun hr34 => ?_))
        obtain ⟨⟨ha35, hb35⟩, h⟩ := gd_e h
        obtain ⟨M35, hM35, h⟩ := nam_e h
        refine jj_iast hC hl1_77_142 ha35 hb35 hr34 dL_seen_202 (jj_M hM35 ?_)
        refine jj_aload_n hC dL_seen_203 rfl 1 rfl ?_
        refine jj_iload_n hC dL_seen_204 rfl 3 rfl ?_
        refine jj_bipush hC dL_seen_205 (by decide) ?_
        refine jg_iadd hC dL_seen_207 ?_
        refine jj_aload_n hC dL_seen_208 rfl 0 rfl ?_
        refine jj_iload_n hC dL_seen_209 rfl 2 rfl ?_
        obtain ⟨q36, hq36, h⟩ := bd_e h
        obtain ⟨v36, hv36, h⟩ := el_n h
        subst hv36
        refine jj_invV hC mvX9_minutes wd1456 wd1457 wd1455 hl0_77_142 (by decide) rfl (xX9_minutes_n (OKC.tr hC) hl0_77_142 hl2_142 hq36) rfl rfl (c_le rfl) (c_le rfl) (by omega) (by omega) dL_seen_210 noXk (po_kI (fun hr36 => ?_))
        obtain ⟨⟨ha37, hb37⟩, h⟩ := gd_e h
        obtain ⟨M37, hM37, h⟩ := nam_e h
        refine jj_iast hC hl1_77_142 ha37 hb37 hr36 dL_seen_213 (jj_M hM37 ?_)
        refine jj_aload_n hC dL_seen_214 rfl 1 rfl ?_
        refine jj_iload_n hC dL_seen_215 rfl 3 rfl ?_
        refine jj_bipush hC dL_seen_216 (by decide) ?_
        refine jg_iadd hC dL_seen_218 ?_
        refine jj_aload_n hC dL_seen_219 rfl 0 rfl ?_
        refine jj_iload_n hC dL_seen_220 rfl 2 rfl ?_
        obtain ⟨q38, hq38, h⟩ := bd_e h
        obtain ⟨v38, hv38, h⟩ := el_n h
        subst hv38
        refine jj_invV hC mvX9_penalty wd1460 wd1461 wd1459 hl0_77_142 (by decide) rfl (xX9_penalty_n (OKC.tr hC) hl0_77_142 hl2_142 hq38) rfl rfl (c_le rfl) (c_le rfl) (by omega) (by omega) dL_seen_221 noXk (po_kI (fun hr38 => ?_))
        obtain ⟨⟨ha39, hb39⟩, h⟩ := gd_e h
        obtain ⟨M39, hM39, h⟩ := nam_e h
        refine jj_iast hC hl1_77_142 ha39 hb39 hr38 dL_seen_224 (jj_M hM39 ?_)
        refine jj_widen (k' := 1) (n' := 256) (by omega) (by omega) ?_
        refine jj_lv (lv' := [(0, .ref l0_77), (1, .ref l1_77), (2, .int (iI l2_142))]) [0, 1, 2] rfl ?_
        exact hB225 M39 l2_142 hx142 hl2_142 hl0_77_142 hl1_77_142 h
    unfold fL_seen_L77 at h
    refine jj_iload_n hC dL_seen_77 rfl 2 rfl ?_
    refine jj_aload_n hC dL_seen_78 rfl 0 rfl ?_
    obtain ⟨q18, hq18, h⟩ := bd_e h
    refine jj_invV hC mvX9_pilotCount wd1232 wd1233 wd1231 hl0_77 (by decide) rfl (xX9_pilotCount (OKC.tr hC) hl0_77 hq18) rfl rfl (c_le rfl) (c_le rfl) (by omega) (by omega) dL_seen_79 noXk (po_kI (fun hr18 => ?_))
    refine jj_icmp_ge (tgt := 231) hC dL_seen_82 rfl hs77_0 hr18 (fun hc => ?_) (fun hc => ?_)
    · replace h := (if_pos hc).symm.trans h
      refine jj_lv (lv' := [(0, .ref l0_77), (1, .ref l1_77)]) [0, 1] rfl ?_
      exact hE77 _ (Option.some.inj h).symm trivial
    · replace h := (if_neg (Int.not_le.mpr hc)).symm.trans h
      refine jj_bipush hC dL_seen_85 (by decide) ?_
      refine jj_bipush hC dL_seen_87 (by decide) ?_
      refine jj_iload_n hC dL_seen_89 rfl 2 rfl ?_
      refine jg_imul hC dL_seen_90 ?_
      refine jg_iadd hC dL_seen_91 ?_
      refine jj_istore_n (lv' := [(3, .int (iI (w32 (14 + (w32 (10 * s77.1)))))), (0, .ref l0_77), (1, .ref l1_77), (2, .int (iI s77.1))]) hC dL_seen_92 rfl (by decide) rfl ?_
      refine jj_aload_n hC dL_seen_93 rfl 2 rfl ?_
      refine jj_iload_n hC dL_seen_94 rfl 0 rfl ?_
      refine jj_aload_n hC dL_seen_95 rfl 1 rfl ?_
      refine jj_iload_n hC dL_seen_96 rfl 3 rfl ?_
      obtain ⟨q19, hq19, h⟩ := bd_e h
      obtain ⟨v19, hv19, h⟩ := el_n h
      subst hv19
      refine jj_invV hC mvX9_sink wd1416 wd1417 wd1415 hl0_77 (by decide) rfl (xX9_sink_n (OKC.tr hC) hl0_77 hs77_0 hq19) rfl rfl (c_le rfl) (c_le rfl) (by omega) (by omega) dL_seen_97 noXk (po_kI (fun hr19 => ?_))
      obtain ⟨⟨ha20, hb20⟩, h⟩ := gd_e h
      obtain ⟨M20, hM20, h⟩ := nam_e h
      refine jj_iast hC hl1_77 ha20 hb20 hr19 dL_seen_100 (jj_M hM20 ?_)
      refine jj_aload_n hC dL_seen_101 rfl 2 rfl ?_
      refine jj_iload_n hC dL_seen_102 rfl 0 rfl ?_
      refine jj_iconst hC dL_seen_103 ?_
      refine jg_iadd hC dL_seen_104 ?_
      refine jj_aload_n hC dL_seen_105 rfl 1 rfl ?_
      refine jj_iload_n hC dL_seen_106 rfl 3 rfl ?_
      obtain ⟨q21, hq21, h⟩ := bd_e h
      obtain ⟨v21, hv21, h⟩ := el_n h
      subst hv21
      refine jj_invV hC mvX9_isFlying wd1240 wd1241 wd1239 hl0_77 (by decide) rfl (xX9_isFlying_n (OKC.tr hC) hl0_77 hs77_0 hq21) rfl rfl (c_le rfl) (c_le rfl) (by omega) (by omega) dL_seen_107 noXk (po_kZ (fun hr21 => ?_))
      refine jj_if_eq (tgt := 117) hC dL_seen_110 rfl (r_z hr21) (fun hc => ?_) (fun hc => ?_)
      · replace h := (if_pos hc).symm.trans h
        refine jj_aload_n hC dL_seen_117 rfl 1 rfl ?_
        refine jj_iload_n hC dL_seen_118 rfl 3 rfl ?_
        obtain ⟨q22, hq22, h⟩ := bd_e h
        obtain ⟨v22, hv22, h⟩ := el_n h
        subst hv22
        refine jj_invV hC mvX9_isLanded wd1421 wd1422 wd1420 hl0_77 (by decide) rfl (xX9_isLanded_n (OKC.tr hC) hl0_77 hs77_0 hq22) rfl rfl (c_le rfl) (c_le rfl) (by omega) (by omega) dL_seen_119 noXk (po_kZ (fun hr22 => ?_))
        refine jj_if_eq (tgt := 129) hC dL_seen_122 rfl (r_z hr22) (fun hc => ?_) (fun hc => ?_)
        · replace h := (if_pos hc).symm.trans h
          refine jj_aload_n hC dL_seen_129 rfl 1 rfl ?_
          refine jj_iload_n hC dL_seen_130 rfl 3 rfl ?_
          obtain ⟨q23, hq23, h⟩ := bd_e h
          obtain ⟨v23, hv23, h⟩ := el_n h
          subst hv23
          refine jj_invV hC mvX9_isFinished wd1426 wd1427 wd1425 hl0_77 (by decide) rfl (xX9_isFinished_n (OKC.tr hC) hl0_77 hs77_0 hq23) rfl rfl (c_le rfl) (c_le rfl) (by omega) (by omega) dL_seen_131 noXk (po_kZ (fun hr23 => ?_))
          refine jj_if_eq (tgt := 141) hC dL_seen_134 rfl (r_z hr23) (fun hc => ?_) (fun hc => ?_)
          · replace h := (if_pos hc).symm.trans h
            refine jj_iconst hC dL_seen_141 ?_
            refine jj_widen (k' := 1) (n' := 256) (by omega) (by omega) ?_
            refine jj_lv (lv' := [(0, .ref l0_77), (1, .ref l1_77), (2, .int (iI s77.1)), (3, .int (iI (w32 (14 + (w32 (10 * s77.1))))))]) [1, 2, 3, 0] rfl ?_
            exact hB142 M20 s77.1 (w32 (14 + (w32 (10 * s77.1)))) 0 (w32 ((w32 (14 + (w32 (10 * s77.1)))) + 1)) l1_77 hx77 hs77_0 (w32_r _) (show (-2147483648 ≤ (0 : Int) ∧ (0 : Int) < 2147483648) from by decide) (w32_r _) hl1_77 hl0_77 hl1_77 h
          · replace h := (if_neg (hc)).symm.trans h
            refine jj_iconst hC dL_seen_137 ?_
            refine jj_goto (tgt := 142) hC dL_seen_138 rfl ?_
            refine jj_widen (k' := 1) (n' := 256) (by omega) (by omega) ?_
            refine jj_lv (lv' := [(0, .ref l0_77), (1, .ref l1_77), (2, .int (iI s77.1)), (3, .int (iI (w32 (14 + (w32 (10 * s77.1))))))]) [1, 2, 3, 0] rfl ?_
            exact hB142 M20 s77.1 (w32 (14 + (w32 (10 * s77.1)))) 3 (w32 ((w32 (14 + (w32 (10 * s77.1)))) + 1)) l1_77 hx77 hs77_0 (w32_r _) (show (-2147483648 ≤ (3 : Int) ∧ (3 : Int) < 2147483648) from by decide) (w32_r _) hl1_77 hl0_77 hl1_77 h
        · replace h := (if_neg (hc)).symm.trans h
          refine jj_iconst hC dL_seen_125 ?_
          refine jj_goto (tgt := 142) hC dL_seen_126 rfl ?_
          refine jj_widen (k' := 1) (n' := 256) (by omega) (by omega) ?_
          refine jj_lv (lv' := [(0, .ref l0_77), (1, .ref l1_77), (2, .int (iI s77.1)), (3, .int (iI (w32 (14 + (w32 (10 * s77.1))))))]) [1, 2, 3, 0] rfl ?_
          exact hB142 M20 s77.1 (w32 (14 + (w32 (10 * s77.1)))) 2 (w32 ((w32 (14 + (w32 (10 * s77.1)))) + 1)) l1_77 hx77 hs77_0 (w32_r _) (show (-2147483648 ≤ (2 : Int) ∧ (2 : Int) < 2147483648) from by decide) (w32_r _) hl1_77 hl0_77 hl1_77 h
      · replace h := (if_neg (hc)).symm.trans h
        refine jj_iconst hC dL_seen_113 ?_
        refine jj_goto (tgt := 142) hC dL_seen_114 rfl ?_
        refine jj_widen (k' := 1) (n' := 256) (by omega) (by omega) ?_
        refine jj_lv (lv' := [(0, .ref l0_77), (1, .ref l1_77), (2, .int (iI s77.1)), (3, .int (iI (w32 (14 + (w32 (10 * s77.1))))))]) [1, 2, 3, 0] rfl ?_
        exact hB142 M20 s77.1 (w32 (14 + (w32 (10 * s77.1)))) 1 (w32 ((w32 (14 + (w32 (10 * s77.1)))) + 1)) l1_77 hx77 hs77_0 (w32_r _) (show (-2147483648 ≤ (1 : Int) ∧ (1 : Int) < 2147483648) from by decide) (w32_r _) hl1_77 hl0_77 hl1_77 h
  have hL233 : ∀ (sz233 : Nat) (S233 : (Nat → Nat)) (Ln233 : (Nat → Nat)) (R233 : gR) (l0_233 : Nat) (l1_233 : Nat), Ext sz S Ln sz233 S233 Ln233 → S233 l0_233 = 12 → S233 l1_233 = 20 → ∀ (n : Nat) (s233 : Int × gM) (q : (gM) ⊕ (Nat × Nat × (Nat → Nat) × (Nat → Nat) × gM × gR)), lp (fL_seen_L233 G.2.2.2.2 sz233 S233 Ln233 R233 l0_233 l1_233) n s233 = some q → (-2147483648 ≤ s233.1 ∧ s233.1 < 2147483648) → (∀ e233, q = .inl e233 → True → JJ G C 1 256 sz233 S233 Ln233 e233 R233 256 [(1, .ref l1_233)] []) → (∀ c, q = .inr c → c = r) → JJ G C 1 256 sz233 S233 Ln233 s233.2 R233 233 [(0, .ref l0_233), (1, .ref l1_233), (2, .int (iI s233.1))] [] := by
    intro sz233 S233 Ln233 R233 l0_233 l1_233 hx233 hl0_233 hl1_233
    refine lp_ind ?_
    intro s233 r233 hI233 h hJ233 hE233 hR233
    have hs233_0 := hI233
    unfold fL_seen_L233 at h
    refine jj_iload_n hC dL_seen_233 rfl 2 rfl ?_
    refine jj_bipush hC dL_seen_234 (by decide) ?_
    refine jj_icmp_ge (tgt := 256) hC dL_seen_236 rfl hs233_0 (show (-2147483648 ≤ (45 : Int) ∧ (45 : Int) < 2147483648) from by decide) (fun hc => ?_) (fun hc => ?_)
    · replace h := (if_pos hc).symm.trans h
      refine jj_lv (lv' := [(1, .ref l1_233)]) [1] rfl ?_
      exact hE233 _ (Option.some.inj h).symm trivial
    · replace h := (if_neg (Int.not_le.mpr hc)).symm.trans h
      refine jj_aload_n hC dL_seen_239 rfl 1 rfl ?_
      refine jj_bipush hC dL_seen_240 (by decide) ?_
      refine jj_iload_n hC dL_seen_242 rfl 2 rfl ?_
      refine jg_iadd hC dL_seen_243 ?_
      refine jj_aload_n hC dL_seen_244 rfl 0 rfl ?_
      refine jj_iload_n hC dL_seen_245 rfl 2 rfl ?_
      obtain ⟨q41, hq41, h⟩ := bd_e h
      obtain ⟨v41, hv41, h⟩ := el_n h
      subst hv41
      refine jj_invV hC mvX9_restrictedInRow wd1464 wd1465 wd1463 hl0_233 (by decide) rfl (xX9_restrictedInRow_n (OKC.tr hC) hl0_233 hs233_0 hq41) rfl rfl (c_le rfl) (c_le rfl) (by omega) (by omega) dL_seen_246 noXk (po_kI (fun hr41 => ?_))
      obtain ⟨⟨ha42, hb42⟩, h⟩ := gd_e h
      obtain ⟨M42, hM42, h⟩ := nam_e h
      refine jj_iast hC hl1_233 ha42 hb42 hr41 dL_seen_249 (jj_M hM42 ?_)
      refine jg_iinc (q := 2) (lv' := [(2, .int (iI (w32 (s233.1 + 1)))), (0, .ref l0_233), (1, .ref l1_233)]) hC dL_seen_250 rfl (by decide) rfl ?_
      refine jj_goto (tgt := 233) hC dL_seen_253 rfl ?_
      refine jj_lv (lv' := [(0, .ref l0_233), (1, .ref l1_233), (2, .int (iI (w32 (s233.1 + 1))))]) [1, 2, 0] rfl ?_
      exact hJ233 _ (Option.some.inj h).symm (w32_r _)
  unfold fL_seen at h
  refine jj_sipush hC dL_seen_0 (by decide) ?_
  obtain ⟨S1, hS91, h⟩ := nam_e h
  obtain ⟨Ln1, hLn91, h⟩ := nam_e h
  obtain ⟨M1, hM91, h⟩ := nam_e h
  obtain ⟨R1, hR91, h⟩ := nam_e h
  refine jj_newN (t := 0) (at' := .int) hC 1 (by decide) rfl (fun C h => by cases h) (fun j => rfl) (fun j => (show (-2147483648 ≤ (0 : Int) ∧ (0 : Int) < 2147483648) from by decide)) wd929 (by decide) (by decide) (by decide) (by decide) (by decide) (by omega) (by omega) dL_seen_3 (fun hx1 => ?_)
  rw [hS91, hLn91] at hx1
  refine jj_mem hS91 hLn91 hM91 hR91 ?_
  refine jj_widen (k' := 1) (n' := 256) (by omega) (by omega) ?_
  refine jj_astore_n (lv' := [(1, .ref sz), (0, .ref x0)]) hC dL_seen_5 rfl (by decide) rfl ?_
  refine jj_aload_n hC dL_seen_6 rfl 0 rfl ?_
  refine jj_iconst hC dL_seen_7 ?_
  refine jj_aload_n hC dL_seen_8 rfl 1 rfl ?_
  obtain ⟨q2, hq2, h⟩ := bd_e h
  refine jj_invV hC mvX9_pointCount wd1389 wd1390 wd1388 (ext_s hx1 hp0 (by decide)) (by decide) rfl (xX9_pointCount (OKC.tr hC) (ext_s hx1 hp0 (by decide)) hq2) rfl rfl (c_le rfl) (c_le rfl) (by omega) (by omega) dL_seen_9 noXk (po_kI (fun hr2 => ?_))
  obtain ⟨⟨ha3, hb3⟩, h⟩ := gd_e h
  obtain ⟨M3, hM3, h⟩ := nam_e h
  refine jj_iast hC (show S1 sz = 20 by rw [← hS91]; exact ua_s) ha3 hb3 hr2 dL_seen_12 (jj_M hM3 ?_)
  refine jj_aload_n hC dL_seen_13 rfl 0 rfl ?_
  refine jj_iconst hC dL_seen_14 ?_
  refine jj_aload_n hC dL_seen_15 rfl 1 rfl ?_
  obtain ⟨q4, hq4, h⟩ := bd_e h
  refine jj_invV hC mvX9_taskLength wd1393 wd1394 wd1392 (ext_s hx1 hp0 (by decide)) (by decide) rfl (xX9_taskLength (OKC.tr hC) (ext_s hx1 hp0 (by decide)) hq4) rfl rfl (c_le rfl) (c_le rfl) (by omega) (by omega) dL_seen_16 noXk (po_kI (fun hr4 => ?_))
  obtain ⟨⟨ha5, hb5⟩, h⟩ := gd_e h
  obtain ⟨M5, hM5, h⟩ := nam_e h
  refine jj_iast hC (show S1 sz = 20 by rw [← hS91]; exact ua_s) ha5 hb5 hr4 dL_seen_19 (jj_M hM5 ?_)
  refine jj_aload_n hC dL_seen_20 rfl 0 rfl ?_
  refine jj_iconst hC dL_seen_21 ?_
  refine jj_aload_n hC dL_seen_22 rfl 1 rfl ?_
  obtain ⟨q6, hq6, h⟩ := bd_e h
  refine jj_invV hC mvX9_pilotCount wd1232 wd1233 wd1231 (ext_s hx1 hp0 (by decide)) (by decide) rfl (xX9_pilotCount (OKC.tr hC) (ext_s hx1 hp0 (by decide)) hq6) rfl rfl (c_le rfl) (c_le rfl) (by omega) (by omega) dL_seen_23 noXk (po_kI (fun hr6 => ?_))
  obtain ⟨⟨ha7, hb7⟩, h⟩ := gd_e h
  obtain ⟨M7, hM7, h⟩ := nam_e h
  refine jj_iast hC (show S1 sz = 20 by rw [← hS91]; exact ua_s) ha7 hb7 hr6 dL_seen_26 (jj_M hM7 ?_)
  refine jj_aload_n hC dL_seen_27 rfl 0 rfl ?_
  refine jj_iconst hC dL_seen_28 ?_
  refine jj_aload_n hC dL_seen_29 rfl 1 rfl ?_
  obtain ⟨q8, hq8, h⟩ := bd_e h
  refine jj_invV hC mvX9_cloudBase wd1397 wd1398 wd1396 (ext_s hx1 hp0 (by decide)) (by decide) rfl (xX9_cloudBase (OKC.tr hC) (ext_s hx1 hp0 (by decide)) hq8) rfl rfl (c_le rfl) (c_le rfl) (by omega) (by omega) dL_seen_30 noXk (po_kI (fun hr8 => ?_))
  obtain ⟨⟨ha9, hb9⟩, h⟩ := gd_e h
  obtain ⟨M9, hM9, h⟩ := nam_e h
  refine jj_iast hC (show S1 sz = 20 by rw [← hS91]; exact ua_s) ha9 hb9 hr8 dL_seen_33 (jj_M hM9 ?_)
  refine jj_aload_n hC dL_seen_34 rfl 0 rfl ?_
  refine jj_iconst hC dL_seen_35 ?_
  refine jj_aload_n hC dL_seen_36 rfl 1 rfl ?_
  obtain ⟨q10, hq10, h⟩ := bd_e h
  refine jj_invV hC mvX9_days wd1401 wd1402 wd1400 (ext_s hx1 hp0 (by decide)) (by decide) rfl (xX9_days (OKC.tr hC) (ext_s hx1 hp0 (by decide)) hq10) rfl rfl (c_le rfl) (c_le rfl) (by omega) (by omega) dL_seen_37 noXk (po_kI (fun hr10 => ?_))
  obtain ⟨⟨ha11, hb11⟩, h⟩ := gd_e h
  obtain ⟨M11, hM11, h⟩ := nam_e h
  refine jj_iast hC (show S1 sz = 20 by rw [← hS91]; exact ua_s) ha11 hb11 hr10 dL_seen_40 (jj_M hM11 ?_)
  refine jj_aload_n hC dL_seen_41 rfl 0 rfl ?_
  refine jj_iconst hC dL_seen_42 ?_
  refine jj_aload_n hC dL_seen_43 rfl 1 rfl ?_
  obtain ⟨q12, hq12, h⟩ := bd_e h
  refine jj_invV hC mvX9_taskDistance wd1405 wd1406 wd1404 (ext_s hx1 hp0 (by decide)) (by decide) rfl (xX9_taskDistance (OKC.tr hC) (ext_s hx1 hp0 (by decide)) hq12) rfl rfl (c_le rfl) (c_le rfl) (by omega) (by omega) dL_seen_44 noXk (po_kI (fun hr12 => ?_))
  obtain ⟨⟨ha13, hb13⟩, h⟩ := gd_e h
  obtain ⟨M13, hM13, h⟩ := nam_e h
  refine jj_iast hC (show S1 sz = 20 by rw [← hS91]; exact ua_s) ha13 hb13 hr12 dL_seen_47 (jj_M hM13 ?_)
  refine jj_iconst hC dL_seen_48 ?_
  refine jj_istore_n (lv' := [(2, .int (iI 0)), (1, .ref sz), (0, .ref x0)]) hC dL_seen_49 rfl (by decide) rfl ?_
  obtain ⟨q46, hq46, h⟩ := bd_e h
  refine jj_lv (lv' := [(0, .ref x0), (1, .ref sz), (2, .int (iI 0))]) [2, 1, 0] rfl ?_
  refine hL50 (sz + 1) S1 Ln1 R1 x0 sz hx1 (ext_s hx1 hp0 (by decide)) (show S1 sz = 20 by rw [← hS91]; exact ua_s) FU _ q46 hq46 (show (-2147483648 ≤ (0 : Int) ∧ (0 : Int) < 2147483648) from by decide) (fun e50_17 he46 hIE46 => ?_) (fun c46 hc46 => ?_)
  · subst he46
    replace h := el_l h
    refine jj_iconst hC dL_seen_75 ?_
    refine jj_istore_n (lv' := [(2, .int (iI 0)), (0, .ref x0), (1, .ref sz)]) hC dL_seen_76 rfl (by decide) rfl ?_
    obtain ⟨q45, hq45, h⟩ := bd_e h
    refine jj_lv (lv' := [(0, .ref x0), (1, .ref sz), (2, .int (iI 0))]) [1, 2, 0] rfl ?_
    refine hL77 (sz + 1) S1 Ln1 R1 x0 sz hx1 (ext_s hx1 hp0 (by decide)) (show S1 sz = 20 by rw [← hS91]; exact ua_s) FU _ q45 hq45 (show (-2147483648 ≤ (0 : Int) ∧ (0 : Int) < 2147483648) from by decide) (fun e77_40 he45 hIE45 => ?_) (fun c45 hc45 => ?_)
    · subst he45
      replace h := el_l h
      refine jj_iconst hC dL_seen_231 ?_
      refine jj_istore_n (lv' := [(2, .int (iI 0)), (0, .ref x0), (1, .ref sz)]) hC dL_seen_232 rfl (by decide) rfl ?_
      obtain ⟨q44, hq44, h⟩ := bd_e h
      refine jj_lv (lv' := [(0, .ref x0), (1, .ref sz), (2, .int (iI 0))]) [1, 2, 0] rfl ?_
      refine hL233 (sz + 1) S1 Ln1 R1 x0 sz hx1 (ext_s hx1 hp0 (by decide)) (show S1 sz = 20 by rw [← hS91]; exact ua_s) FU _ q44 hq44 (show (-2147483648 ≤ (0 : Int) ∧ (0 : Int) < 2147483648) from by decide) (fun e233_43 he44 hIE44 => ?_) (fun c44 hc44 => ?_)
      · subst he44
        replace h := el_l h
        refine jj_aload_n hC dL_seen_256 rfl 0 rfl ?_
        cases h
        exact jj_aret hC rfl (Or.inr ⟨_, rfl⟩) (by omega) (by omega) dL_seen_257 ⟨⟨rfl, (show S1 sz = 20 by rw [← hS91]; exact ua_s), rfl, rfl, rfl, rfl, rfl⟩, hx1⟩
      · subst hc44
        replace h := el_r h
        exact Option.some.inj h
    · subst hc45
      replace h := el_r h
      exact Option.some.inj h
  · subst hc46
    replace h := el_r h
    exact Option.some.inj h
def fL_isWell_B72 (ad : Nat → Nat) (S Ln : Nat → Nat) (R : gR) (M30 : gM) (l0_30 : Nat) (l1_30 : Int) (l2_30 : Int) (l4_72 : Int) (s0_72 : Int) : Option ((Int × Int) ⊕ ((Int) ⊕ (Int × gM))) :=
  some (.inl (s0_72, w32 (l4_72 + 1)))
def fL_isWell_B71 (ad : Nat → Nat) (S Ln : Nat → Nat) (R : gR) (M30 : gM) (l0_30 : Nat) (l1_30 : Int) (l2_30 : Int) (l3_71 : Int) (l4_71 : Int) : Option ((Int × Int) ⊕ ((Int) ⊕ (Int × gM))) :=
  fL_isWell_B72 ad S Ln R M30 l0_30 l1_30 l2_30 l4_71 l3_71
def fL_isWell_B62 (ad : Nat → Nat) (S Ln : Nat → Nat) (R : gR) (M30 : gM) (l0_30 : Nat) (l1_30 : Int) (l2_30 : Int) (l4_62 : Int) : Option ((Int × Int) ⊕ ((Int) ⊕ (Int × gM))) :=
  bd (fX9_minutes ad S Ln R M30 l0_30 l4_62) fun q6 => Sum.elim (fun v6 => fL_isWell_B72 ad S Ln R M30 l0_30 l1_30 l2_30 l4_62 v6) (fun e6 => none) q6
def fL_isWell_L30 (ad : Nat → Nat) (S : (Nat → Nat)) (Ln : (Nat → Nat)) (R : gR) (M30 : gM) (l0_30 : Nat) (l1_30 : Int) (l2_30 : Int) (s30 : Int × Int) : Option ((Int × Int) ⊕ ((Int) ⊕ (Int × gM))) :=
  bd (fX9_pilotCount ad S Ln R M30 l0_30) fun q4 => if q4 ≤ s30.2 then (some (.inr (.inl s30.1))) else (bd (fX9_isFinished ad S Ln R M30 l0_30 s30.2) fun q5 => Sum.elim (fun v5 => if v5 = 0 then (fL_isWell_B71 ad S Ln R M30 l0_30 l1_30 l2_30 s30.1 s30.2) else (if s30.1 = 0 then (fL_isWell_B62 ad S Ln R M30 l0_30 l1_30 l2_30 s30.2) else (bd (fX9_minutes ad S Ln R M30 l0_30 s30.2) fun q7 => Sum.elim (fun v7 => if s30.1 ≤ v7 then (fL_isWell_B71 ad S Ln R M30 l0_30 l1_30 l2_30 s30.1 s30.2) else (fL_isWell_B62 ad S Ln R M30 l0_30 l1_30 l2_30 s30.2)) (fun e7 => none) q7))) (fun e5 => none) q5)
def fL_isWell_B492 (ad : Nat → Nat) (S Ln : Nat → Nat) (R : gR) (M492 : gM) (l0_82 : Nat) (l1_82 : Int) (l2_492 : Int) (l3_82 : Int) (l4_492 : Int) (ccj : Nat) : Option ((Int × Int × gM × Nat) ⊕ ((Int × gM) ⊕ (Int × gM))) :=
  some (.inl (l2_492, w32 (l4_492 + 1), M492, ccj + 1))
def fL_isWell_B472 (ad : Nat → Nat) (S Ln : Nat → Nat) (R : gR) (M472 : gM) (l0_82 : Nat) (l1_82 : Int) (l2_472 : Int) (l3_82 : Int) (l4_472 : Int) (s0_472 : Int) (s1_472 : Int) (ccj : Nat) : Option ((Int × Int × gM × Nat) ⊕ ((Int × gM) ⊕ (Int × gM))) :=
  if ¬ s1_472 = s0_472 then (some (.inr (.inr ((0, M472))))) else (bd (fX9_canFinishBySimulation ad S Ln R M472 l0_82 l4_472) fun q34 => Sum.elim (fun v34 => bd (fX9_canFinish ad S Ln R v34.2 l0_82 l4_472) fun q35 => Sum.elim (fun v35 => if v34.1 = v35 then (fL_isWell_B492 ad S Ln R v34.2 l0_82 l1_82 l2_472 l3_82 l4_472 ccj) else (some (.inr (.inr ((0, v34.2)))))) (fun e35 => none) q35) (fun e34 => none) q34)
def fL_isWell_B317 (ad : Nat → Nat) (S Ln : Nat → Nat) (R : gR) (M317 : gM) (l0_82 : Nat) (l1_82 : Int) (l2_317 : Int) (l3_82 : Int) (l4_317 : Int) (l5_317 : Int) (l8_317 : Int) (l9_317 : Int) (ccj : Nat) : Option ((Int × Int × gM × Nat) ⊕ ((Int × gM) ⊕ (Int × gM))) :=
  bd (fX9_dayScore ad S Ln R M317 l0_82 l4_317) fun q18 => Sum.elim (fun v18 => if ¬ v18 = (i_max 0 l9_317) then (some (.inr (.inr ((0, M317))))) else (bd (fX9_penalty ad S Ln R M317 l0_82 l4_317) fun q19 => Sum.elim (fun v19 => gd ((0 : Int) < 10) (if (Int.tmod v19 10) = 0 then (if l5_317 = 0 then (fL_isWell_B492 ad S Ln R M317 l0_82 l1_82 l2_317 l3_82 l4_317 ccj) else (bd (fL_remainingDistance ad S Ln R M317 l0_82 l4_317) fun q21 => bd (fX9_reached ad S Ln R M317 l0_82 l4_317) fun q22 => Sum.elim (fun v22 => bd (fL_legs ad S Ln R M317 l0_82 v22) fun q23 => bd (fX9_reached ad S Ln R M317 l0_82 l4_317) fun q24 => Sum.elim (fun v24 => bd (fX9_taskPoint ad S Ln R M317 l0_82 (w32 (v24 - 1))) fun q25 => Sum.elim (fun v25 => bd (fX9_reached ad S Ln R M317 l0_82 l4_317) fun q26 => Sum.elim (fun v26 => bd (fX9_taskPoint ad S Ln R M317 l0_82 v26) fun q27 => Sum.elim (fun v27 => bd (fX9_distance ad S Ln R M317 l0_82 v25 v27) fun q28 => Sum.elim (fun v28 => if (w32 (q21 - (w32 (l1_82 - q23)))) < 1 then (some (.inr (.inr ((0, M317))))) else (bd (fX9_reached ad S Ln R M317 l0_82 l4_317) fun q29 => Sum.elim (fun v29 => bd (fL_legs ad S Ln R M317 l0_82 (w32 (v29 - 1))) fun q30 => if ¬ l8_317 = (w32 (q30 + (i_max 0 (w32 (v28 - (w32 (q21 - (w32 (l1_82 - q23))))))))) then (some (.inr (.inr ((0, M317))))) else (bd (fX9_canFinish ad S Ln R M317 l0_82 l4_317) fun q31 => Sum.elim (fun v31 => bd (fX9_height ad S Ln R M317 l0_82 l4_317) fun q32 => Sum.elim (fun v32 => bd (fX9_sink ad S Ln R M317 l0_82 l4_317) fun q33 => Sum.elim (fun v33 => if v32 ≤ (w32 ((w32 (q21 - 1)) * v33)) then (fL_isWell_B472 ad S Ln R M317 l0_82 l1_82 l2_317 l3_82 l4_317 0 v31 ccj) else (fL_isWell_B472 ad S Ln R M317 l0_82 l1_82 l2_317 l3_82 l4_317 1 v31 ccj)) (fun e33 => none) q33) (fun e32 => none) q32) (fun e31 => none) q31)) (fun e29 => none) q29)) (fun e28 => none) q28) (fun e27 => none) q27) (fun e26 => none) q26) (fun e25 => none) q25) (fun e24 => none) q24) (fun e22 => none) q22)) else (some (.inr (.inr ((0, M317))))))) (fun e19 => none) q19)) (fun e18 => none) q18
def fL_isWell_B302 (ad : Nat → Nat) (S Ln : Nat → Nat) (R : gR) (M302 : gM) (l0_82 : Nat) (l1_82 : Int) (l2_302 : Int) (l3_82 : Int) (l4_302 : Int) (l5_302 : Int) (l8_302 : Int) (l9_302 : Int) (ccj : Nat) : Option ((Int × Int × gM × Nat) ⊕ ((Int × gM) ⊕ (Int × gM))) :=
  if l5_302 = 0 then (fL_isWell_B317 ad S Ln R M302 l0_82 l1_82 l2_302 l3_82 l4_302 l5_302 l8_302 l9_302 ccj) else (bd (fX9_height ad S Ln R M302 l0_82 l4_302) fun q36 => Sum.elim (fun v36 => if v36 < 1 then (some (.inr (.inr ((0, M302))))) else (fL_isWell_B317 ad S Ln R M302 l0_82 l1_82 l2_302 l3_82 l4_302 l5_302 l8_302 l9_302 ccj)) (fun e36 => none) q36)
def fL_isWell_B288 (ad : Nat → Nat) (S Ln : Nat → Nat) (R : gR) (M288 : gM) (l0_82 : Nat) (l1_82 : Int) (l2_288 : Int) (l3_82 : Int) (l4_288 : Int) (l5_288 : Int) (l6_288 : Int) (l8_288 : Int) (l9_288 : Int) (ccj : Nat) : Option ((Int × Int × gM × Nat) ⊕ ((Int × gM) ⊕ (Int × gM))) :=
  if l6_288 = 0 then (fL_isWell_B302 ad S Ln R M288 l0_82 l1_82 l2_288 l3_82 l4_288 l5_288 l8_288 l9_288 ccj) else (bd (fX9_height ad S Ln R M288 l0_82 l4_288) fun q37 => Sum.elim (fun v37 => if ¬ v37 = 0 then (some (.inr (.inr ((0, M288))))) else (fL_isWell_B302 ad S Ln R M288 l0_82 l1_82 l2_288 l3_82 l4_288 l5_288 l8_288 l9_288 ccj)) (fun e37 => none) q37)
def fL_isWell_B274 (ad : Nat → Nat) (S Ln : Nat → Nat) (R : gR) (M274 : gM) (l0_82 : Nat) (l1_82 : Int) (l2_274 : Int) (l3_82 : Int) (l4_274 : Int) (l5_274 : Int) (l6_274 : Int) (l7_274 : Int) (l8_274 : Int) (l9_274 : Int) (s0_274 : Int) (s1_274 : Int) (ccj : Nat) : Option ((Int × Int × gM × Nat) ⊕ ((Int × gM) ⊕ (Int × gM))) :=
  if ¬ s1_274 = s0_274 then (some (.inr (.inr ((0, M274))))) else (if l7_274 = 0 then (fL_isWell_B288 ad S Ln R M274 l0_82 l1_82 l2_274 l3_82 l4_274 l5_274 l6_274 l8_274 l9_274 ccj) else (if ¬ l8_274 = l1_82 then (some (.inr (.inr ((0, M274))))) else (fL_isWell_B288 ad S Ln R M274 l0_82 l1_82 l2_274 l3_82 l4_274 l5_274 l6_274 l8_274 l9_274 ccj)))
def fL_isWell_B233 (ad : Nat → Nat) (S Ln : Nat → Nat) (R : gR) (M233 : gM) (l0_82 : Nat) (l1_82 : Int) (l2_233 : Int) (l3_82 : Int) (l4_233 : Int) (l5_233 : Int) (l6_233 : Int) (l7_233 : Int) (l8_233 : Int) (s0_233 : Int) (s1_233 : Int) (ccj : Nat) : Option ((Int × Int × gM × Nat) ⊕ ((Int × gM) ⊕ (Int × gM))) :=
  bd (fX9_penalty ad S Ln R M233 l0_82 l4_233) fun q15 => Sum.elim (fun v15 => if l8_233 < 0 then (some (.inr (.inr ((0, M233))))) else (if l1_82 < l8_233 then (some (.inr (.inr ((0, M233))))) else (bd (fX9_reached ad S Ln R M233 l0_82 l4_233) fun q16 => Sum.elim (fun v16 => bd (fX9_taskLength ad S Ln R M233 l0_82) fun q17 => if ¬ v16 = q17 then (fL_isWell_B274 ad S Ln R M233 l0_82 l1_82 l2_233 l3_82 l4_233 l5_233 l6_233 l7_233 l8_233 (w32 ((w32 (s1_233 + s0_233)) - v15)) 0 l7_233 ccj) else (fL_isWell_B274 ad S Ln R M233 l0_82 l1_82 l2_233 l3_82 l4_233 l5_233 l6_233 l7_233 l8_233 (w32 ((w32 (s1_233 + s0_233)) - v15)) 1 l7_233 ccj)) (fun e16 => none) q16))) (fun e15 => none) q15
def fL_isWell_B204 (ad : Nat → Nat) (S Ln : Nat → Nat) (R : gR) (M204 : gM) (l0_82 : Nat) (l1_82 : Int) (l2_204 : Int) (l3_82 : Int) (l4_204 : Int) (l5_204 : Int) (l6_204 : Int) (l7_204 : Int) (l8_204 : Int) (ccj : Nat) : Option ((Int × Int × gM × Nat) ⊕ ((Int × gM) ⊕ (Int × gM))) :=
  gd ((0 : Int) < l1_82) (if l7_204 = 0 then (fL_isWell_B233 ad S Ln R M204 l0_82 l1_82 l2_204 l3_82 l4_204 l5_204 l6_204 l7_204 l8_204 0 (Int.tdiv (w32 (1000 * l8_204)) l1_82) ccj) else (bd (fX9_minutes ad S Ln R M204 l0_82 l4_204) fun q38 => Sum.elim (fun v38 => gd ((0 : Int) < v38) (fL_isWell_B233 ad S Ln R M204 l0_82 l1_82 l2_204 l3_82 l4_204 l5_204 l6_204 l7_204 l8_204 (Int.tdiv (w32 (500 * l3_82)) v38) (Int.tdiv (w32 (1000 * l8_204)) l1_82) ccj)) (fun e38 => none) q38))
def fL_isWell_B154 (ad : Nat → Nat) (S Ln : Nat → Nat) (R : gR) (M154 : gM) (l0_82 : Nat) (l1_82 : Int) (l2_154 : Int) (l3_82 : Int) (l4_154 : Int) (l5_154 : Int) (l6_154 : Int) (l7_154 : Int) (l8_154 : Int) (s0_154 : Int) (s1_154 : Int) (ccj : Nat) : Option ((Int × Int × gM × Nat) ⊕ ((Int × gM) ⊕ (Int × gM))) :=
  if (w32 (s1_154 + s0_154)) ≤ 1 then (if ¬ l5_154 = 0 then (fL_isWell_B204 ad S Ln R M154 l0_82 l1_82 l2_154 l3_82 l4_154 l5_154 l6_154 l7_154 l8_154 ccj) else (if ¬ l6_154 = 0 then (fL_isWell_B204 ad S Ln R M154 l0_82 l1_82 l2_154 l3_82 l4_154 l5_154 l6_154 l7_154 l8_154 ccj) else (if ¬ l7_154 = 0 then (fL_isWell_B204 ad S Ln R M154 l0_82 l1_82 l2_154 l3_82 l4_154 l5_154 l6_154 l7_154 l8_154 ccj) else (bd (fX9_reached ad S Ln R M154 l0_82 l4_154) fun q40 => Sum.elim (fun v40 => if ¬ v40 = 0 then (some (.inr (.inr ((0, M154))))) else (if ¬ l8_154 = 0 then (some (.inr (.inr ((0, M154))))) else (bd (fX9_dayScore ad S Ln R M154 l0_82 l4_154) fun q41 => Sum.elim (fun v41 => if v41 = 0 then (fL_isWell_B492 ad S Ln R M154 l0_82 l1_82 (w32 (l2_154 + 1)) l3_82 l4_154 ccj) else (some (.inr (.inr ((0, M154)))))) (fun e41 => none) q41))) (fun e40 => none) q40)))) else (some (.inr (.inr ((0, M154)))))
def fL_isWell_B143 (ad : Nat → Nat) (S Ln : Nat → Nat) (R : gR) (M143 : gM) (l0_82 : Nat) (l1_82 : Int) (l2_143 : Int) (l3_82 : Int) (l4_143 : Int) (l5_143 : Int) (l6_143 : Int) (l7_143 : Int) (l8_143 : Int) (s0_143 : Int) (s1_143 : Int) (ccj : Nat) : Option ((Int × Int × gM × Nat) ⊕ ((Int × gM) ⊕ (Int × gM))) :=
  if l7_143 = 0 then (fL_isWell_B154 ad S Ln R M143 l0_82 l1_82 l2_143 l3_82 l4_143 l5_143 l6_143 l7_143 l8_143 0 (w32 (s1_143 + s0_143)) ccj) else (fL_isWell_B154 ad S Ln R M143 l0_82 l1_82 l2_143 l3_82 l4_143 l5_143 l6_143 l7_143 l8_143 1 (w32 (s1_143 + s0_143)) ccj)
def fL_isWell_B133 (ad : Nat → Nat) (S Ln : Nat → Nat) (R : gR) (M133 : gM) (l0_82 : Nat) (l1_82 : Int) (l2_133 : Int) (l3_82 : Int) (l4_133 : Int) (l5_133 : Int) (l6_133 : Int) (l7_133 : Int) (l8_133 : Int) (s0_133 : Int) (ccj : Nat) : Option ((Int × Int × gM × Nat) ⊕ ((Int × gM) ⊕ (Int × gM))) :=
  if l6_133 = 0 then (fL_isWell_B143 ad S Ln R M133 l0_82 l1_82 l2_133 l3_82 l4_133 l5_133 l6_133 l7_133 l8_133 0 s0_133 ccj) else (fL_isWell_B143 ad S Ln R M133 l0_82 l1_82 l2_133 l3_82 l4_133 l5_133 l6_133 l7_133 l8_133 1 s0_133 ccj)
def fL_isWell_L82 (ad : Nat → Nat) (S : (Nat → Nat)) (Ln : (Nat → Nat)) (R : gR) (l0_82 : Nat) (l1_82 : Int) (l3_82 : Int) (s82 : Int × Int × gM × Nat) : Option ((Int × Int × gM × Nat) ⊕ ((Int × gM) ⊕ (Int × gM))) :=
  gd (s82.2.2.2 ≤ 8) (bd (fX9_pilotCount ad S Ln R s82.2.2.1 l0_82) fun q9 => if q9 ≤ s82.2.1 then (some (.inr (.inl (s82.1, s82.2.2.1)))) else (bd (fX9_isFlying ad S Ln R s82.2.2.1 l0_82 s82.2.1) fun q10 => Sum.elim (fun v10 => bd (fX9_isLanded ad S Ln R s82.2.2.1 l0_82 s82.2.1) fun q11 => Sum.elim (fun v11 => bd (fX9_isFinished ad S Ln R s82.2.2.1 l0_82 s82.2.1) fun q12 => Sum.elim (fun v12 => bd (fX9_achievedDistance ad S Ln R s82.2.2.1 l0_82 s82.2.1) fun q13 => Sum.elim (fun v13 => if v10 = 0 then (fL_isWell_B133 ad S Ln R s82.2.2.1 l0_82 l1_82 s82.1 l3_82 s82.2.1 v10 v11 v12 v13 0 s82.2.2.2) else (fL_isWell_B133 ad S Ln R s82.2.2.1 l0_82 l1_82 s82.1 l3_82 s82.2.1 v10 v11 v12 v13 1 s82.2.2.2)) (fun e13 => none) q13) (fun e12 => none) q12) (fun e11 => none) q11) (fun e10 => none) q10))
def fL_isWell_B539 (ad : Nat → Nat) (S Ln : Nat → Nat) (R : gR) (M514 : gM) (l0_514 : Nat) (l1_514 : Int) (l2_514 : Int) (l4_514 : Int) (l6_539 : Int) (s0_539 : Int) (s1_539 : Int) : Option ((Int × Int) ⊕ ((Int) ⊕ (Int × gM))) :=
  some (.inl (w32 (s1_539 + s0_539), w32 (l6_539 + 1)))
def fL_isWell_L514 (ad : Nat → Nat) (S : (Nat → Nat)) (Ln : (Nat → Nat)) (R : gR) (M514 : gM) (l0_514 : Nat) (l1_514 : Int) (l2_514 : Int) (l4_514 : Int) (s514 : Int × Int) : Option ((Int × Int) ⊕ ((Int) ⊕ (Int × gM))) :=
  if 60 < s514.2 then (some (.inr (.inl s514.1))) else (bd (fX9_isRestricted ad S Ln R M514 l0_514 s514.2 l4_514) fun q43 => Sum.elim (fun v43 => if v43 = 0 then (fL_isWell_B539 ad S Ln R M514 l0_514 l1_514 l2_514 l4_514 s514.2 0 s514.1) else (fL_isWell_B539 ad S Ln R M514 l0_514 l1_514 l2_514 l4_514 s514.2 1 s514.1)) (fun e43 => none) q43)
def fL_isWell_L501 (ad : Nat → Nat) (S : (Nat → Nat)) (Ln : (Nat → Nat)) (R : gR) (l0_501 : Nat) (l1_501 : Int) (l2_501 : Int) (s501 : Int × gM) : Option ((Int × gM) ⊕ ((gM) ⊕ (Int × gM))) :=
  if 60 < s501.1 then (some (.inr (.inl s501.2))) else (bd (lp (fL_isWell_L514 ad S Ln R s501.2 l0_501 l1_501 l2_501 s501.1) FU (0, 0)) fun q47 => Sum.elim (fun e514_44 => bd (fX9_restrictedInRow ad S Ln R s501.2 l0_501 s501.1) fun q45 => Sum.elim (fun v45 => if ¬ v45 = e514_44 then (some (.inr (.inr ((0, s501.2))))) else (bd (fX9_restrictedInRowByRanges ad S Ln R s501.2 l0_501 s501.1) fun q46 => Sum.elim (fun v46 => if v46.1 = e514_44 then (some (.inl (w32 (s501.1 + 5), v46.2))) else (some (.inr (.inr ((0, v46.2)))))) (fun e46 => none) q46)) (fun e45 => none) q45) (fun c47 => some (.inr (.inr c47))) q47)
def fL_isWell_B603 (ad : Nat → Nat) (S Ln : Nat → Nat) (R : gR) (M603 : gM) (l0_603 : Nat) (s0_603 : Int) (s1_603 : Int) : Option (Int × gM) :=
  if ¬ s1_603 = s0_603 then (some ((0, M603))) else (bd (fX9_isConsistent ad S Ln R M603 l0_603) fun q52 => if q52.1 = 0 then (some ((0, q52.2))) else (some ((1, q52.2))))
def fL_isWell_B22 (ad : Nat → Nat) (S Ln : Nat → Nat) (R : gR) (M22 : gM) (l0_22 : Nat) (s0_22 : Int) : Option (Int × gM) :=
  bd (lp (fL_isWell_L30 ad S Ln R M22 l0_22 s0_22 0) FU (0, 0)) fun q55 => Sum.elim (fun e30_8 => bd (lp (fL_isWell_L82 ad S Ln R l0_22 s0_22 e30_8) FU (0, 0, M22, 0)) fun q54 => Sum.elim (fun e82_42 => bd (lp (fL_isWell_L501 ad S Ln R l0_22 s0_22 e82_42.1) FU (0, e82_42.2)) fun q53 => Sum.elim (fun e501_48 => bd (fX9_taskDistance ad S Ln R e501_48 l0_22) fun q49 => if ¬ q49 = s0_22 then (some ((0, e501_48))) else (bd (fX9_isPlanning ad S Ln R e501_48 l0_22) fun q50 => bd (fX9_pilotCount ad S Ln R e501_48 l0_22) fun q51 => if ¬ e82_42.1 = q51 then (fL_isWell_B603 ad S Ln R e501_48 l0_22 0 q50) else (fL_isWell_B603 ad S Ln R e501_48 l0_22 1 q50))) (fun c53 => some c53) q53) (fun c54 => some c54) q54) (fun c55 => some c55) q55
def fL_isWell (ad S Ln : Nat → Nat) (R : gR) (M : gM) (x0 : Nat) : Option (Int × gM) :=
  bd (fX9_taskLength ad S Ln R M x0) fun q1 => if 2 ≤ q1 then (bd (fX9_taskLength ad S Ln R M x0) fun q2 => bd (fL_legs ad S Ln R M x0 (w32 (q2 - 1))) fun q3 => fL_isWell_B22 ad S Ln R M x0 q3) else (fL_isWell_B22 ad S Ln R M x0 0)
theorem xL_isWell {l : Launch} {G : gE} {sz : Nat} {S Ln : Nat → Nat} {M : gM} {R : gR} (hl : l.stackTraces = false) {x0 : Nat} (hp0 : S x0 = 12) {r : Int × gM} (h : fL_isWell G.2.2.2.2 S Ln R M x0 = some r) : Ct l G yL_isWell cL_isWell 14 (some .boolean) 12 18 4608 [.ref x0] sz S Ln M R (poWZ r.1 S Ln S Ln r.2 R) noX := by
  refine jj_start (own := RL) (lv0 := [(0, .ref x0)]) hl (by decide +kernel) rfl rfl (c_le rfl) (fun C hCl hC => ?_)
  have hL30 : ∀ (sz30 : Nat) (M30 : gM) (l0_30 : Nat) (l1_30 : Int) (l2_30 : Int), Ex2 S Ln S Ln → S l0_30 = 12 → (-2147483648 ≤ l1_30 ∧ l1_30 < 2147483648) → (0 ≤ l2_30 ∧ l2_30 ≤ 1) → ∀ (n : Nat) (s30 : Int × Int) (q : (Int) ⊕ (Int × gM)), lp (fL_isWell_L30 G.2.2.2.2 S Ln R M30 l0_30 l1_30 l2_30) n s30 = some q → (-2147483648 ≤ s30.1 ∧ s30.1 < 2147483648) ∧ (-2147483648 ≤ s30.2 ∧ s30.2 < 2147483648) → (∀ e30, q = .inl e30 → (-2147483648 ≤ e30 ∧ e30 < 2147483648) → JJ G C 0 0 sz30 S Ln M30 R 79 [(0, .ref l0_30), (1, .int (iI l1_30)), (2, .int (iI l2_30)), (3, .int (iI e30))] []) → (∀ c, q = .inr c → c = r) → JJ G C 0 0 sz30 S Ln M30 R 30 [(0, .ref l0_30), (1, .int (iI l1_30)), (2, .int (iI l2_30)), (3, .int (iI s30.1)), (4, .int (iI s30.2))] [] := by
    intro sz30 M30 l0_30 l1_30 l2_30 hx30 hl0_30 hl1_30 hl2_30
    refine lp_ind ?_
    intro s30 r30 hI30 h hJ30 hE30 hR30
    obtain ⟨hs30_0, hs30_1⟩ := hI30
    have hB72 : ∀ (l4_72 : Int) (s0_72 : Int), Ex2 S Ln S Ln → (-2147483648 ≤ l4_72 ∧ l4_72 < 2147483648) → (-2147483648 ≤ s0_72 ∧ s0_72 < 2147483648) → S l0_30 = 12 → fL_isWell_B72 G.2.2.2.2 S Ln R M30 l0_30 l1_30 l2_30 l4_72 s0_72 = some r30 → JJ G C 0 0 sz30 S Ln M30 R 72 [(0, .ref l0_30), (1, .int (iI l1_30)), (2, .int (iI l2_30)), (4, .int (iI l4_72))] [.int (iI s0_72)] := by
      intro l4_72 s0_72 hx72 hl4_72 hs0_72 hl0_30_72 h
      unfold fL_isWell_B72 at h
      refine jj_istore_n (lv' := [(3, .int (iI s0_72)), (0, .ref l0_30), (1, .int (iI l1_30)), (2, .int (iI l2_30)), (4, .int (iI l4_72))]) hC dL_isWell_72 rfl (by decide) rfl ?_
      refine jg_iinc (q := 4) (lv' := [(4, .int (iI (w32 (l4_72 + 1)))), (3, .int (iI s0_72)), (0, .ref l0_30), (1, .int (iI l1_30)), (2, .int (iI l2_30))]) hC dL_isWell_73 rfl (by decide) rfl ?_
      refine jj_goto (tgt := 30) hC dL_isWell_76 rfl ?_
      refine jj_lv (lv' := [(0, .ref l0_30), (1, .int (iI l1_30)), (2, .int (iI l2_30)), (3, .int (iI s0_72)), (4, .int (iI (w32 (l4_72 + 1))))]) [2, 3, 4, 1, 0] rfl ?_
      exact hJ30 _ (Option.some.inj h).symm ⟨hs0_72, (w32_r _)⟩
    have hB71 : ∀ (l3_71 : Int) (l4_71 : Int), Ex2 S Ln S Ln → (-2147483648 ≤ l3_71 ∧ l3_71 < 2147483648) → (-2147483648 ≤ l4_71 ∧ l4_71 < 2147483648) → S l0_30 = 12 → fL_isWell_B71 G.2.2.2.2 S Ln R M30 l0_30 l1_30 l2_30 l3_71 l4_71 = some r30 → JJ G C 0 0 sz30 S Ln M30 R 71 [(0, .ref l0_30), (1, .int (iI l1_30)), (2, .int (iI l2_30)), (3, .int (iI l3_71)), (4, .int (iI l4_71))] [] := by
      intro l3_71 l4_71 hx71 hl3_71 hl4_71 hl0_30_71 h
      unfold fL_isWell_B71 at h
      refine jj_iload_n hC dL_isWell_71 rfl 3 rfl ?_
      refine jj_widen (k' := 0) (n' := 0) (by omega) (by omega) ?_
      refine jj_lv (lv' := [(0, .ref l0_30), (1, .int (iI l1_30)), (2, .int (iI l2_30)), (4, .int (iI l4_71))]) [0, 1, 2, 4] rfl ?_
      exact hB72 l4_71 l3_71 hx71 hl4_71 hl3_71 hl0_30_71 h
    have hB62 : ∀ (l4_62 : Int), Ex2 S Ln S Ln → (-2147483648 ≤ l4_62 ∧ l4_62 < 2147483648) → S l0_30 = 12 → fL_isWell_B62 G.2.2.2.2 S Ln R M30 l0_30 l1_30 l2_30 l4_62 = some r30 → JJ G C 0 0 sz30 S Ln M30 R 62 [(0, .ref l0_30), (1, .int (iI l1_30)), (2, .int (iI l2_30)), (4, .int (iI l4_62))] [] := by
      intro l4_62 hx62 hl4_62 hl0_30_62 h
      unfold fL_isWell_B62 at h
      refine jj_aload_n hC dL_isWell_62 rfl 0 rfl ?_
      refine jj_iload hC dL_isWell_63 3 rfl ?_
      obtain ⟨q6, hq6, h⟩ := bd_e h
      obtain ⟨v6, hv6, h⟩ := el_n h
      subst hv6
      refine jj_invV hC mvX9_minutes wd1456 wd1457 wd1455 hl0_30_62 (by decide) rfl (xX9_minutes_n (OKC.tr hC) hl0_30_62 hl4_62 hq6) rfl rfl (c_le rfl) (c_le rfl) (by omega) (by omega) dL_isWell_65 noXk (po_kI (fun hr6 => ?_))
      refine jj_goto (tgt := 72) hC dL_isWell_68 rfl ?_
      refine jj_widen (k' := 0) (n' := 0) (by omega) (by omega) ?_
      refine jj_lv (lv' := [(0, .ref l0_30), (1, .int (iI l1_30)), (2, .int (iI l2_30)), (4, .int (iI l4_62))]) [0, 1, 2, 3] rfl ?_
      exact hB72 l4_62 v6 hx62 hl4_62 hr6 hl0_30_62 h
    unfold fL_isWell_L30 at h
    refine jj_iload hC dL_isWell_30 4 rfl ?_
    refine jj_aload_n hC dL_isWell_32 rfl 0 rfl ?_
    obtain ⟨q4, hq4, h⟩ := bd_e h
    refine jj_invV hC mvX9_pilotCount wd1232 wd1233 wd1231 hl0_30 (by decide) rfl (xX9_pilotCount (OKC.tr hC) hl0_30 hq4) rfl rfl (c_le rfl) (c_le rfl) (by omega) (by omega) dL_isWell_33 noXk (po_kI (fun hr4 => ?_))
    refine jj_icmp_ge (tgt := 79) hC dL_isWell_36 rfl hs30_1 hr4 (fun hc => ?_) (fun hc => ?_)
    · replace h := (if_pos hc).symm.trans h
      refine jj_lv (lv' := [(0, .ref l0_30), (1, .int (iI l1_30)), (2, .int (iI l2_30)), (3, .int (iI s30.1))]) [0, 1, 2, 3] rfl ?_
      exact hE30 _ (Option.some.inj h).symm hs30_0
    · replace h := (if_neg (Int.not_le.mpr hc)).symm.trans h
      refine jj_aload_n hC dL_isWell_39 rfl 0 rfl ?_
      refine jj_iload hC dL_isWell_40 4 rfl ?_
      obtain ⟨q5, hq5, h⟩ := bd_e h
      obtain ⟨v5, hv5, h⟩ := el_n h
      subst hv5
      refine jj_invV hC mvX9_isFinished wd1426 wd1427 wd1425 hl0_30 (by decide) rfl (xX9_isFinished_n (OKC.tr hC) hl0_30 hs30_1 hq5) rfl rfl (c_le rfl) (c_le rfl) (by omega) (by omega) dL_isWell_42 noXk (po_kZ (fun hr5 => ?_))
      refine jj_if_eq (tgt := 71) hC dL_isWell_45 rfl (r_z hr5) (fun hc => ?_) (fun hc => ?_)
      · replace h := (if_pos hc).symm.trans h
        refine jj_widen (k' := 0) (n' := 0) (by omega) (by omega) ?_
        refine jj_lv (lv' := [(0, .ref l0_30), (1, .int (iI l1_30)), (2, .int (iI l2_30)), (3, .int (iI s30.1)), (4, .int (iI s30.2))]) [0, 1, 2, 3, 4] rfl ?_
        exact hB71 s30.1 s30.2 hx30 hs30_0 hs30_1 hl0_30 h
      · replace h := (if_neg (hc)).symm.trans h
        refine jj_iload_n hC dL_isWell_48 rfl 3 rfl ?_
        refine jj_if_eq (tgt := 62) hC dL_isWell_49 rfl hs30_0 (fun hc => ?_) (fun hc => ?_)
        · replace h := (if_pos hc).symm.trans h
          refine jj_widen (k' := 0) (n' := 0) (by omega) (by omega) ?_
          refine jj_lv (lv' := [(0, .ref l0_30), (1, .int (iI l1_30)), (2, .int (iI l2_30)), (4, .int (iI s30.2))]) [0, 1, 2, 4] rfl ?_
          exact hB62 s30.2 hx30 hs30_1 hl0_30 h
        · replace h := (if_neg (hc)).symm.trans h
          refine jj_aload_n hC dL_isWell_52 rfl 0 rfl ?_
          refine jj_iload hC dL_isWell_53 4 rfl ?_
          obtain ⟨q7, hq7, h⟩ := bd_e h
          obtain ⟨v7, hv7, h⟩ := el_n h
          subst hv7
          refine jj_invV hC mvX9_minutes wd1456 wd1457 wd1455 hl0_30 (by decide) rfl (xX9_minutes_n (OKC.tr hC) hl0_30 hs30_1 hq7) rfl rfl (c_le rfl) (c_le rfl) (by omega) (by omega) dL_isWell_55 noXk (po_kI (fun hr7 => ?_))
          refine jj_iload_n hC dL_isWell_58 rfl 3 rfl ?_
          refine jj_icmp_ge (tgt := 71) hC dL_isWell_59 rfl hr7 hs30_0 (fun hc => ?_) (fun hc => ?_)
          · replace h := (if_pos hc).symm.trans h
            refine jj_widen (k' := 0) (n' := 0) (by omega) (by omega) ?_
            refine jj_lv (lv' := [(0, .ref l0_30), (1, .int (iI l1_30)), (2, .int (iI l2_30)), (3, .int (iI s30.1)), (4, .int (iI s30.2))]) [0, 1, 2, 3, 4] rfl ?_
            exact hB71 s30.1 s30.2 hx30 hs30_0 hs30_1 hl0_30 h
          · replace h := (if_neg (Int.not_le.mpr hc)).symm.trans h
            refine jj_widen (k' := 0) (n' := 0) (by omega) (by omega) ?_
            refine jj_lv (lv' := [(0, .ref l0_30), (1, .int (iI l1_30)), (2, .int (iI l2_30)), (4, .int (iI s30.2))]) [0, 1, 2, 4] rfl ?_
            exact hB62 s30.2 hx30 hs30_1 hl0_30 h
  have hL82 : ∀ (l0_82 : Nat) (l1_82 : Int) (l3_82 : Int), (-2147483648 ≤ l1_82 ∧ l1_82 < 2147483648) → (-2147483648 ≤ l3_82 ∧ l3_82 < 2147483648) → ∀ (n : Nat) (s82 : Int × Int × gM × Nat) (q : (Int × gM) ⊕ (Int × gM)), lp (fL_isWell_L82 G.2.2.2.2 S Ln R l0_82 l1_82 l3_82) n s82 = some q → (-2147483648 ≤ s82.1 ∧ s82.1 < 2147483648) ∧ (-2147483648 ≤ s82.2.1 ∧ s82.2.1 < 2147483648) ∧ S l0_82 = 12 ∧ Ex2 S Ln S Ln → (∀ e82, q = .inl e82 → (-2147483648 ≤ e82.1 ∧ e82.1 < 2147483648) ∧ S l0_82 = 12 ∧ Ex2 S Ln S Ln → ∀ szE82, JJ G C 16 4096 szE82 S Ln e82.2 R 498 [(0, .ref l0_82), (1, .int (iI l1_82)), (2, .int (iI e82.1))] []) → (∀ c, q = .inr c → c = r) → ∀ sz82, JJ G C (0 + 2 * s82.2.2.2) (256 * (0 + 2 * s82.2.2.2)) sz82 S Ln s82.2.2.1 R 82 [(0, .ref l0_82), (1, .int (iI l1_82)), (2, .int (iI s82.1)), (3, .int (iI l3_82)), (4, .int (iI s82.2.1))] [] := by
    intro l0_82 l1_82 l3_82 hl1_82 hl3_82
    refine lp_ind ?_
    intro s82 r82 hI82 h hJ82 hE82 hR82 sz82
    obtain ⟨hs82_0, hs82_1, hl0_82, hx82⟩ := hI82
    have hB492 : ∀ (sz492 : Nat) (M492 : gM) (l2_492 : Int) (l4_492 : Int), Ex2 S Ln S Ln → (-2147483648 ≤ l2_492 ∧ l2_492 < 2147483648) → (-2147483648 ≤ l4_492 ∧ l4_492 < 2147483648) → S l0_82 = 12 → s82.2.2.2 ≤ 8 → fL_isWell_B492 G.2.2.2.2 S Ln R M492 l0_82 l1_82 l2_492 l3_82 l4_492 s82.2.2.2 = some r82 → JJ G C (0 + 2 * s82.2.2.2 + 2) (256 * (0 + 2 * s82.2.2.2 + 2)) sz492 S Ln M492 R 492 [(0, .ref l0_82), (1, .int (iI l1_82)), (2, .int (iI l2_492)), (3, .int (iI l3_82)), (4, .int (iI l4_492))] [] := by
      intro sz492 M492 l2_492 l4_492 hx492 hl2_492 hl4_492 hl0_82_492 hcc82 h
      unfold fL_isWell_B492 at h
      refine jg_iinc (q := 4) (lv' := [(4, .int (iI (w32 (l4_492 + 1)))), (0, .ref l0_82), (1, .int (iI l1_82)), (2, .int (iI l2_492)), (3, .int (iI l3_82))]) hC dL_isWell_492 rfl (by decide) rfl ?_
      refine jj_goto (tgt := 82) hC dL_isWell_495 rfl ?_
      refine jj_widen (k' := 0 + 2 * (s82.2.2.2 + 1)) (n' := 256 * (0 + 2 * (s82.2.2.2 + 1))) (by omega) (by omega) ?_
      refine jj_lv (lv' := [(0, .ref l0_82), (1, .int (iI l1_82)), (2, .int (iI l2_492)), (3, .int (iI l3_82)), (4, .int (iI (w32 (l4_492 + 1))))]) [1, 2, 3, 4, 0] rfl ?_
      exact hJ82 _ (Option.some.inj h).symm ⟨hl2_492, (w32_r _), hl0_82_492, hx492⟩ sz492
    have hB472 : ∀ (sz472 : Nat) (M472 : gM) (l2_472 : Int) (l4_472 : Int) (s0_472 : Int) (s1_472 : Int), Ex2 S Ln S Ln → (-2147483648 ≤ l2_472 ∧ l2_472 < 2147483648) → (-2147483648 ≤ l4_472 ∧ l4_472 < 2147483648) → (0 ≤ s0_472 ∧ s0_472 ≤ 1) → (0 ≤ s1_472 ∧ s1_472 ≤ 1) → S l0_82 = 12 → s82.2.2.2 ≤ 8 → fL_isWell_B472 G.2.2.2.2 S Ln R M472 l0_82 l1_82 l2_472 l3_82 l4_472 s0_472 s1_472 s82.2.2.2 = some r82 → JJ G C (0 + 2 * s82.2.2.2 + 2) (256 * (0 + 2 * s82.2.2.2 + 2)) sz472 S Ln M472 R 472 [(0, .ref l0_82), (1, .int (iI l1_82)), (2, .int (iI l2_472)), (3, .int (iI l3_82)), (4, .int (iI l4_472))] [.int (iI s0_472), .int (iI s1_472)] := by
      intro sz472 M472 l2_472 l4_472 s0_472 s1_472 hx472 hl2_472 hl4_472 hs0_472 hs1_472 hl0_82_472 hcc82 h
      unfold fL_isWell_B472 at h
      refine jj_icmp_ne (tgt := 490) hC dL_isWell_472 rfl (r_z hs1_472) (r_z hs0_472) (fun hc => ?_) (fun hc => ?_)
      · replace h := (if_pos hc).symm.trans h
        refine jj_iconst hC dL_isWell_490 ?_
        have h := hR82 _ (Option.some.inj h).symm
        subst h
        exact jj_zret hC (show (0 ≤ (0 : Int) ∧ (0 : Int) ≤ 1) from by decide) (by omega) (by omega) dL_isWell_491 ⟨rfl, (show (0 ≤ (0 : Int) ∧ (0 : Int) ≤ 1) from by decide), hx472, rfl, rfl, rfl, rfl⟩
      · replace h := (if_neg (fun k => k hc)).symm.trans h
        refine jj_aload_n hC dL_isWell_475 rfl 0 rfl ?_
        refine jj_iload hC dL_isWell_476 4 rfl ?_
        obtain ⟨q34, hq34, h⟩ := bd_e h
        obtain ⟨v34, hv34, h⟩ := el_n h
        subst hv34
        refine jj_invV hC mvX9_canFinishBySimulation wd1509 wd1510 wd1508 hl0_82_472 (by decide) rfl (xX9_canFinishBySimulation_n (OKC.tr hC) hl0_82_472 hl4_472 hq34) rfl rfl (c_le rfl) (c_le rfl) (by omega) (by omega) dL_isWell_478 noXk (po_kZ (fun hr34 => ?_))
        refine jj_aload_n hC dL_isWell_481 rfl 0 rfl ?_
        refine jj_iload hC dL_isWell_482 4 rfl ?_
        obtain ⟨q35, hq35, h⟩ := bd_e h
        obtain ⟨v35, hv35, h⟩ := el_n h
        subst hv35
        refine jj_invV hC mvX9_canFinish wd1499 wd1500 wd1498 hl0_82_472 (by decide) rfl (xX9_canFinish_n (OKC.tr hC) hl0_82_472 hl4_472 hq35) rfl rfl (c_le rfl) (c_le rfl) (by omega) (by omega) dL_isWell_484 noXk (po_kZ (fun hr35 => ?_))
        refine jj_icmp_eq (tgt := 492) hC dL_isWell_487 rfl (r_z hr34) (r_z hr35) (fun hc => ?_) (fun hc => ?_)
        · replace h := (if_pos hc).symm.trans h
          refine jj_widen (k' := 0 + 2 * s82.2.2.2 + 2) (n' := 256 * (0 + 2 * s82.2.2.2 + 2)) (by omega) (by omega) ?_
          refine jj_lv (lv' := [(0, .ref l0_82), (1, .int (iI l1_82)), (2, .int (iI l2_472)), (3, .int (iI l3_82)), (4, .int (iI l4_472))]) [0, 1, 2, 3, 4] rfl ?_
          exact hB492 sz472 v34.2 l2_472 l4_472 hx472 hl2_472 hl4_472 hl0_82_472 hcc82 h
        · replace h := (if_neg (hc)).symm.trans h
          refine jj_iconst hC dL_isWell_490 ?_
          have h := hR82 _ (Option.some.inj h).symm
          subst h
          exact jj_zret hC (show (0 ≤ (0 : Int) ∧ (0 : Int) ≤ 1) from by decide) (by omega) (by omega) dL_isWell_491 ⟨rfl, (show (0 ≤ (0 : Int) ∧ (0 : Int) ≤ 1) from by decide), hx472, rfl, rfl, rfl, rfl⟩
    have hB317 : ∀ (sz317 : Nat) (M317 : gM) (l2_317 : Int) (l4_317 : Int) (l5_317 : Int) (l8_317 : Int) (l9_317 : Int), Ex2 S Ln S Ln → (-2147483648 ≤ l2_317 ∧ l2_317 < 2147483648) → (-2147483648 ≤ l4_317 ∧ l4_317 < 2147483648) → (0 ≤ l5_317 ∧ l5_317 ≤ 1) → (-2147483648 ≤ l8_317 ∧ l8_317 < 2147483648) → (-2147483648 ≤ l9_317 ∧ l9_317 < 2147483648) → S l0_82 = 12 → s82.2.2.2 ≤ 8 → fL_isWell_B317 G.2.2.2.2 S Ln R M317 l0_82 l1_82 l2_317 l3_82 l4_317 l5_317 l8_317 l9_317 s82.2.2.2 = some r82 → JJ G C (0 + 2 * s82.2.2.2) (256 * (0 + 2 * s82.2.2.2)) sz317 S Ln M317 R 317 [(0, .ref l0_82), (1, .int (iI l1_82)), (2, .int (iI l2_317)), (3, .int (iI l3_82)), (4, .int (iI l4_317)), (5, .int (iI l5_317)), (8, .int (iI l8_317)), (9, .int (iI l9_317))] [] := by
      intro sz317 M317 l2_317 l4_317 l5_317 l8_317 l9_317 hx317 hl2_317 hl4_317 hl5_317 hl8_317 hl9_317 hl0_82_317 hcc82 h
      unfold fL_isWell_B317 at h
      refine jj_aload_n hC dL_isWell_317 rfl 0 rfl ?_
      refine jj_iload hC dL_isWell_318 4 rfl ?_
      obtain ⟨q18, hq18, h⟩ := bd_e h
      obtain ⟨v18, hv18, h⟩ := el_n h
      subst hv18
      refine jj_invV hC mvX9_dayScore wd1494 wd1495 wd1493 hl0_82_317 (by decide) rfl (xX9_dayScore_n (OKC.tr hC) hl0_82_317 hl4_317 hq18) rfl rfl (c_le rfl) (c_le rfl) (by omega) (by omega) dL_isWell_320 noXk (po_kI (fun hr18 => ?_))
      refine jj_iconst hC dL_isWell_323 ?_
      refine jj_iload hC dL_isWell_324 7 rfl ?_
      refine jj_mmax hC (show (-2147483648 ≤ (0 : Int) ∧ (0 : Int) < 2147483648) from by decide) hl9_317 wd1235 wd211 wd47 wd212 (c_le rfl) (c_le rfl) (by omega) (by omega) dL_isWell_326 ?_
      refine jj_icmp_ne (tgt := 344) hC dL_isWell_329 rfl hr18 (i_max_r (show (-2147483648 ≤ (0 : Int) ∧ (0 : Int) < 2147483648) from by decide) hl9_317) (fun hc => ?_) (fun hc => ?_)
      · replace h := (if_pos hc).symm.trans h
        refine jj_iconst hC dL_isWell_344 ?_
        have h := hR82 _ (Option.some.inj h).symm
        subst h
        exact jj_zret hC (show (0 ≤ (0 : Int) ∧ (0 : Int) ≤ 1) from by decide) (by omega) (by omega) dL_isWell_345 ⟨rfl, (show (0 ≤ (0 : Int) ∧ (0 : Int) ≤ 1) from by decide), hx317, rfl, rfl, rfl, rfl⟩
      · replace h := (if_neg (fun k => k hc)).symm.trans h
        refine jj_aload_n hC dL_isWell_332 rfl 0 rfl ?_
        refine jj_iload hC dL_isWell_333 4 rfl ?_
        obtain ⟨q19, hq19, h⟩ := bd_e h
        obtain ⟨v19, hv19, h⟩ := el_n h
        subst hv19
        refine jj_invV hC mvX9_penalty wd1460 wd1461 wd1459 hl0_82_317 (by decide) rfl (xX9_penalty_n (OKC.tr hC) hl0_82_317 hl4_317 hq19) rfl rfl (c_le rfl) (c_le rfl) (by omega) (by omega) dL_isWell_335 noXk (po_kI (fun hr19 => ?_))
        refine jj_bipush hC dL_isWell_338 (by decide) ?_
        obtain ⟨hg20, h⟩ := gd_e h
        refine jj_irem hC dL_isWell_340 hr19 (show (-2147483648 ≤ (10 : Int) ∧ (10 : Int) < 2147483648) from by decide) hg20 ?_
        refine jj_if_eq (tgt := 346) hC dL_isWell_341 rfl (i_tmod_r hr19 (show (-2147483648 ≤ (10 : Int) ∧ (10 : Int) < 2147483648) from by decide) hg20) (fun hc => ?_) (fun hc => ?_)
        · replace h := (if_pos hc).symm.trans h
          refine jj_iload hC dL_isWell_346 5 rfl ?_
          refine jj_if_eq (tgt := 492) hC dL_isWell_348 rfl (r_z hl5_317) (fun hc => ?_) (fun hc => ?_)
          · replace h := (if_pos hc).symm.trans h
            refine jj_widen (k' := 0 + 2 * s82.2.2.2 + 2) (n' := 256 * (0 + 2 * s82.2.2.2 + 2)) (by omega) (by omega) ?_
            refine jj_lv (lv' := [(0, .ref l0_82), (1, .int (iI l1_82)), (2, .int (iI l2_317)), (3, .int (iI l3_82)), (4, .int (iI l4_317))]) [0, 1, 2, 3, 4] rfl ?_
            exact hB492 sz317 M317 l2_317 l4_317 hx317 hl2_317 hl4_317 hl0_82_317 hcc82 h
          · replace h := (if_neg (hc)).symm.trans h
            refine jj_aload_n hC dL_isWell_351 rfl 0 rfl ?_
            refine jj_iload hC dL_isWell_352 4 rfl ?_
            obtain ⟨q21, hq21, h⟩ := bd_e h
            refine jj_invSW hC mvwL_remainingDistance wd817 wd816 (xL_remainingDistance (OKC.tr hC) hl0_82_317 hl4_317 hq21) rfl rfl (c_le rfl) (c_le rfl) (by omega) (by omega) dL_isWell_354 (po_kW (fun hr21 hx21 sz21 => ?_))
            refine jj_widen (k' := 0 + 2 * s82.2.2.2 + 2) (n' := 256 * (0 + 2 * s82.2.2.2 + 2)) (by omega) (by omega) ?_
            refine jj_istore (lv' := [(10, .int (iI q21)), (0, .ref l0_82), (1, .int (iI l1_82)), (2, .int (iI l2_317)), (3, .int (iI l3_82)), (4, .int (iI l4_317)), (5, .int (iI l5_317)), (8, .int (iI l8_317)), (9, .int (iI l9_317))]) hC dL_isWell_357 (by decide) rfl ?_
            refine jj_iload_n hC dL_isWell_359 rfl 2 rfl ?_
            refine jj_aload_n hC dL_isWell_360 rfl 1 rfl ?_
            refine jj_aload_n hC dL_isWell_361 rfl 1 rfl ?_
            refine jj_iload hC dL_isWell_362 5 rfl ?_
            obtain ⟨q22, hq22, h⟩ := bd_e h
            obtain ⟨v22, hv22, h⟩ := el_n h
            subst hv22
            refine jj_invV hC mvX9_reached wd1435 wd1436 wd1434 hl0_82_317 (by decide) rfl (xX9_reached_n (OKC.tr hC) hl0_82_317 hl4_317 hq22) rfl rfl (c_le rfl) (c_le rfl) (by omega) (by omega) dL_isWell_364 noXk (po_kI (fun hr22 => ?_))
            obtain ⟨q23, hq23, h⟩ := bd_e h
            refine jj_invS hC mvL_legs wd1479 wd1478 (xL_legs (OKC.tr hC) hl0_82_317 hr22 hq23) rfl rfl (c_le rfl) (c_le rfl) (by omega) (by omega) dL_isWell_367 noXk (po_kI (fun hr23 => ?_))
            refine jg_isub hC dL_isWell_370 ?_
            refine jj_istore (lv' := [(11, .int (iI (w32 (l1_82 - q23)))), (10, .int (iI q21)), (0, .ref l0_82), (1, .int (iI l1_82)), (2, .int (iI l2_317)), (3, .int (iI l3_82)), (4, .int (iI l4_317)), (5, .int (iI l5_317)), (8, .int (iI l8_317)), (9, .int (iI l9_317))]) hC dL_isWell_371 (by decide) rfl ?_
            refine jj_iload hC dL_isWell_373 1 rfl ?_
            refine jj_iload hC dL_isWell_375 0 rfl ?_
            refine jg_isub hC dL_isWell_377 ?_
            refine jj_istore (lv' := [(12, .int (iI (w32 (q21 - (w32 (l1_82 - q23)))))), (11, .int (iI (w32 (l1_82 - q23)))), (10, .int (iI q21)), (0, .ref l0_82), (1, .int (iI l1_82)), (2, .int (iI l2_317)), (3, .int (iI l3_82)), (4, .int (iI l4_317)), (5, .int (iI l5_317)), (8, .int (iI l8_317)), (9, .int (iI l9_317))]) hC dL_isWell_378 (by decide) rfl ?_
            refine jj_aload_n hC dL_isWell_380 rfl 3 rfl ?_
            refine jj_aload_n hC dL_isWell_381 rfl 3 rfl ?_
            refine jj_aload_n hC dL_isWell_382 rfl 3 rfl ?_
            refine jj_iload hC dL_isWell_383 7 rfl ?_
            obtain ⟨q24, hq24, h⟩ := bd_e h
            obtain ⟨v24, hv24, h⟩ := el_n h
            subst hv24
            refine jj_invV hC mvX9_reached wd1435 wd1436 wd1434 hl0_82_317 (by decide) rfl (xX9_reached_n (OKC.tr hC) hl0_82_317 hl4_317 hq24) rfl rfl (c_le rfl) (c_le rfl) (by omega) (by omega) dL_isWell_385 noXk (po_kI (fun hr24 => ?_))
            refine jj_iconst hC dL_isWell_388 ?_
            refine jg_isub hC dL_isWell_389 ?_
            obtain ⟨q25, hq25, h⟩ := bd_e h
            obtain ⟨v25, hv25, h⟩ := el_n h
            subst hv25
            refine jj_invV hC mvX9_taskPoint wd1410 wd1411 wd1409 hl0_82_317 (by decide) rfl (xX9_taskPoint_n (OKC.tr hC) hl0_82_317 (w32_r _) hq25) rfl rfl (c_le rfl) (c_le rfl) (by omega) (by omega) dL_isWell_390 noXk (po_kI (fun hr25 => ?_))
            refine jj_aload_n hC dL_isWell_393 rfl 3 rfl ?_
            refine jj_aload_n hC dL_isWell_394 rfl 3 rfl ?_
            refine jj_iload hC dL_isWell_395 7 rfl ?_
            obtain ⟨q26, hq26, h⟩ := bd_e h
            obtain ⟨v26, hv26, h⟩ := el_n h
            subst hv26
            refine jj_invV hC mvX9_reached wd1435 wd1436 wd1434 hl0_82_317 (by decide) rfl (xX9_reached_n (OKC.tr hC) hl0_82_317 hl4_317 hq26) rfl rfl (c_le rfl) (c_le rfl) (by omega) (by omega) dL_isWell_397 noXk (po_kI (fun hr26 => ?_))
            obtain ⟨q27, hq27, h⟩ := bd_e h
            obtain ⟨v27, hv27, h⟩ := el_n h
            subst hv27
            refine jj_invV hC mvX9_taskPoint wd1410 wd1411 wd1409 hl0_82_317 (by decide) rfl (xX9_taskPoint_n (OKC.tr hC) hl0_82_317 hr26 hq27) rfl rfl (c_le rfl) (c_le rfl) (by omega) (by omega) dL_isWell_400 noXk (po_kI (fun hr27 => ?_))
            obtain ⟨q28, hq28, h⟩ := bd_e h
            obtain ⟨v28, hv28, h⟩ := el_n h
            subst hv28
            refine jj_invV hC mvX9_distance wd1482 wd1483 wd1481 hl0_82_317 (by decide) rfl (xX9_distance_n (OKC.tr hC) hl0_82_317 hr25 hr27 hq28) rfl rfl (c_le rfl) (c_le rfl) (by omega) (by omega) dL_isWell_403 noXk (po_kI (fun hr28 => ?_))
            refine jj_istore (lv' := [(13, .int (iI v28)), (12, .int (iI (w32 (q21 - (w32 (l1_82 - q23)))))), (11, .int (iI (w32 (l1_82 - q23)))), (10, .int (iI q21)), (0, .ref l0_82), (1, .int (iI l1_82)), (2, .int (iI l2_317)), (3, .int (iI l3_82)), (4, .int (iI l4_317)), (5, .int (iI l5_317)), (8, .int (iI l8_317)), (9, .int (iI l9_317))]) hC dL_isWell_406 (by decide) rfl ?_
            refine jj_iload hC dL_isWell_408 1 rfl ?_
            refine jj_iconst hC dL_isWell_410 ?_
            refine jj_icmp_lt (tgt := 490) hC dL_isWell_411 rfl (w32_r _) (show (-2147483648 ≤ (1 : Int) ∧ (1 : Int) < 2147483648) from by decide) (fun hc => ?_) (fun hc => ?_)
            · replace h := (if_pos hc).symm.trans h
              refine jj_iconst hC dL_isWell_490 ?_
              have h := hR82 _ (Option.some.inj h).symm
              subst h
              exact jj_zret hC (show (0 ≤ (0 : Int) ∧ (0 : Int) ≤ 1) from by decide) (by omega) (by omega) dL_isWell_491 ⟨rfl, (show (0 ≤ (0 : Int) ∧ (0 : Int) ≤ 1) from by decide), hx317, rfl, rfl, rfl, rfl⟩
            · replace h := (if_neg (Int.not_lt.mpr hc)).symm.trans h
              refine jj_iload hC dL_isWell_414 10 rfl ?_
              refine jj_aload_n hC dL_isWell_416 rfl 4 rfl ?_
              refine jj_aload_n hC dL_isWell_417 rfl 4 rfl ?_
              refine jj_iload hC dL_isWell_418 8 rfl ?_
              obtain ⟨q29, hq29, h⟩ := bd_e h
              obtain ⟨v29, hv29, h⟩ := el_n h
              subst hv29
              refine jj_invV hC mvX9_reached wd1435 wd1436 wd1434 hl0_82_317 (by decide) rfl (xX9_reached_n (OKC.tr hC) hl0_82_317 hl4_317 hq29) rfl rfl (c_le rfl) (c_le rfl) (by omega) (by omega) dL_isWell_420 noXk (po_kI (fun hr29 => ?_))
              refine jj_iconst hC dL_isWell_423 ?_
              refine jg_isub hC dL_isWell_424 ?_
              obtain ⟨q30, hq30, h⟩ := bd_e h
              refine jj_invS hC mvL_legs wd1479 wd1478 (xL_legs (OKC.tr hC) hl0_82_317 (w32_r _) hq30) rfl rfl (c_le rfl) (c_le rfl) (by omega) (by omega) dL_isWell_425 noXk (po_kI (fun hr30 => ?_))
              refine jj_iconst hC dL_isWell_428 ?_
              refine jj_iload hC dL_isWell_429 0 rfl ?_
              refine jj_iload hC dL_isWell_431 1 rfl ?_
              refine jg_isub hC dL_isWell_433 ?_
              refine jj_mmax hC (show (-2147483648 ≤ (0 : Int) ∧ (0 : Int) < 2147483648) from by decide) (w32_r _) wd1235 wd211 wd47 wd212 (c_le rfl) (c_le rfl) (by omega) (by omega) dL_isWell_434 ?_
              refine jg_iadd hC dL_isWell_437 ?_
              refine jj_icmp_ne (tgt := 490) hC dL_isWell_438 rfl hl8_317 (w32_r _) (fun hc => ?_) (fun hc => ?_)
              · replace h := (if_pos hc).symm.trans h
                refine jj_iconst hC dL_isWell_490 ?_
                have h := hR82 _ (Option.some.inj h).symm
                subst h
                exact jj_zret hC (show (0 ≤ (0 : Int) ∧ (0 : Int) ≤ 1) from by decide) (by omega) (by omega) dL_isWell_491 ⟨rfl, (show (0 ≤ (0 : Int) ∧ (0 : Int) ≤ 1) from by decide), hx317, rfl, rfl, rfl, rfl⟩
              · replace h := (if_neg (fun k => k hc)).symm.trans h
                refine jj_aload_n hC dL_isWell_441 rfl 4 rfl ?_
                refine jj_iload hC dL_isWell_442 8 rfl ?_
                obtain ⟨q31, hq31, h⟩ := bd_e h
                obtain ⟨v31, hv31, h⟩ := el_n h
                subst hv31
                refine jj_invV hC mvX9_canFinish wd1499 wd1500 wd1498 hl0_82_317 (by decide) rfl (xX9_canFinish_n (OKC.tr hC) hl0_82_317 hl4_317 hq31) rfl rfl (c_le rfl) (c_le rfl) (by omega) (by omega) dL_isWell_444 noXk (po_kZ (fun hr31 => ?_))
                refine jj_aload_n hC dL_isWell_447 rfl 4 rfl ?_
                refine jj_iload hC dL_isWell_448 8 rfl ?_
                obtain ⟨q32, hq32, h⟩ := bd_e h
                obtain ⟨v32, hv32, h⟩ := el_n h
                subst hv32
                refine jj_invV hC mvX9_height wd1452 wd1453 wd1451 hl0_82_317 (by decide) rfl (xX9_height_n (OKC.tr hC) hl0_82_317 hl4_317 hq32) rfl rfl (c_le rfl) (c_le rfl) (by omega) (by omega) dL_isWell_450 noXk (po_kI (fun hr32 => ?_))
                refine jj_iload hC dL_isWell_453 3 rfl ?_
                refine jj_iconst hC dL_isWell_455 ?_
                refine jg_isub hC dL_isWell_456 ?_
                refine jj_aload_n hC dL_isWell_457 rfl 4 rfl ?_
                refine jj_iload hC dL_isWell_458 8 rfl ?_
                obtain ⟨q33, hq33, h⟩ := bd_e h
                obtain ⟨v33, hv33, h⟩ := el_n h
                subst hv33
                refine jj_invV hC mvX9_sink wd1416 wd1417 wd1415 hl0_82_317 (by decide) rfl (xX9_sink_n (OKC.tr hC) hl0_82_317 hl4_317 hq33) rfl rfl (c_le rfl) (c_le rfl) (by omega) (by omega) dL_isWell_460 noXk (po_kI (fun hr33 => ?_))
                refine jg_imul hC dL_isWell_463 ?_
                refine jj_icmp_le (tgt := 471) hC dL_isWell_464 rfl hr32 (w32_r _) (fun hc => ?_) (fun hc => ?_)
                · replace h := (if_pos hc).symm.trans h
                  refine jj_iconst hC dL_isWell_471 ?_
                  refine jj_widen (k' := 0 + 2 * s82.2.2.2 + 2) (n' := 256 * (0 + 2 * s82.2.2.2 + 2)) (by omega) (by omega) ?_
                  refine jj_lv (lv' := [(0, .ref l0_82), (1, .int (iI l1_82)), (2, .int (iI l2_317)), (3, .int (iI l3_82)), (4, .int (iI l4_317))]) [4, 5, 6, 7, 8] rfl ?_
                  exact hB472 sz21 M317 l2_317 l4_317 0 v31 hx317 hl2_317 hl4_317 (show (0 ≤ (0 : Int) ∧ (0 : Int) ≤ 1) from by decide) hr31 hl0_82_317 hcc82 h
                · replace h := (if_neg (Int.not_le.mpr hc)).symm.trans h
                  refine jj_iconst hC dL_isWell_467 ?_
                  refine jj_goto (tgt := 472) hC dL_isWell_468 rfl ?_
                  refine jj_widen (k' := 0 + 2 * s82.2.2.2 + 2) (n' := 256 * (0 + 2 * s82.2.2.2 + 2)) (by omega) (by omega) ?_
                  refine jj_lv (lv' := [(0, .ref l0_82), (1, .int (iI l1_82)), (2, .int (iI l2_317)), (3, .int (iI l3_82)), (4, .int (iI l4_317))]) [4, 5, 6, 7, 8] rfl ?_
                  exact hB472 sz21 M317 l2_317 l4_317 1 v31 hx317 hl2_317 hl4_317 (show (0 ≤ (1 : Int) ∧ (1 : Int) ≤ 1) from by decide) hr31 hl0_82_317 hcc82 h
        · replace h := (if_neg (hc)).symm.trans h
          refine jj_iconst hC dL_isWell_344 ?_
          have h := hR82 _ (Option.some.inj h).symm
          subst h
          exact jj_zret hC (show (0 ≤ (0 : Int) ∧ (0 : Int) ≤ 1) from by decide) (by omega) (by omega) dL_isWell_345 ⟨rfl, (show (0 ≤ (0 : Int) ∧ (0 : Int) ≤ 1) from by decide), hx317, rfl, rfl, rfl, rfl⟩
    have hB302 : ∀ (sz302 : Nat) (M302 : gM) (l2_302 : Int) (l4_302 : Int) (l5_302 : Int) (l8_302 : Int) (l9_302 : Int), Ex2 S Ln S Ln → (-2147483648 ≤ l2_302 ∧ l2_302 < 2147483648) → (-2147483648 ≤ l4_302 ∧ l4_302 < 2147483648) → (0 ≤ l5_302 ∧ l5_302 ≤ 1) → (-2147483648 ≤ l8_302 ∧ l8_302 < 2147483648) → (-2147483648 ≤ l9_302 ∧ l9_302 < 2147483648) → S l0_82 = 12 → s82.2.2.2 ≤ 8 → fL_isWell_B302 G.2.2.2.2 S Ln R M302 l0_82 l1_82 l2_302 l3_82 l4_302 l5_302 l8_302 l9_302 s82.2.2.2 = some r82 → JJ G C (0 + 2 * s82.2.2.2) (256 * (0 + 2 * s82.2.2.2)) sz302 S Ln M302 R 302 [(0, .ref l0_82), (1, .int (iI l1_82)), (2, .int (iI l2_302)), (3, .int (iI l3_82)), (4, .int (iI l4_302)), (5, .int (iI l5_302)), (8, .int (iI l8_302)), (9, .int (iI l9_302))] [] := by
      intro sz302 M302 l2_302 l4_302 l5_302 l8_302 l9_302 hx302 hl2_302 hl4_302 hl5_302 hl8_302 hl9_302 hl0_82_302 hcc82 h
      unfold fL_isWell_B302 at h
      refine jj_iload hC dL_isWell_302 5 rfl ?_
      refine jj_if_eq (tgt := 317) hC dL_isWell_304 rfl (r_z hl5_302) (fun hc => ?_) (fun hc => ?_)
      · replace h := (if_pos hc).symm.trans h
        refine jj_widen (k' := 0 + 2 * s82.2.2.2) (n' := 256 * (0 + 2 * s82.2.2.2)) (by omega) (by omega) ?_
        refine jj_lv (lv' := [(0, .ref l0_82), (1, .int (iI l1_82)), (2, .int (iI l2_302)), (3, .int (iI l3_82)), (4, .int (iI l4_302)), (5, .int (iI l5_302)), (8, .int (iI l8_302)), (9, .int (iI l9_302))]) [0, 1, 2, 3, 4, 5, 6, 7] rfl ?_
        exact hB317 sz302 M302 l2_302 l4_302 l5_302 l8_302 l9_302 hx302 hl2_302 hl4_302 hl5_302 hl8_302 hl9_302 hl0_82_302 hcc82 h
      · replace h := (if_neg (hc)).symm.trans h
        refine jj_aload_n hC dL_isWell_307 rfl 0 rfl ?_
        refine jj_iload hC dL_isWell_308 4 rfl ?_
        obtain ⟨q36, hq36, h⟩ := bd_e h
        obtain ⟨v36, hv36, h⟩ := el_n h
        subst hv36
        refine jj_invV hC mvX9_height wd1452 wd1453 wd1451 hl0_82_302 (by decide) rfl (xX9_height_n (OKC.tr hC) hl0_82_302 hl4_302 hq36) rfl rfl (c_le rfl) (c_le rfl) (by omega) (by omega) dL_isWell_310 noXk (po_kI (fun hr36 => ?_))
        refine jj_iconst hC dL_isWell_313 ?_
        refine jj_icmp_lt (tgt := 344) hC dL_isWell_314 rfl hr36 (show (-2147483648 ≤ (1 : Int) ∧ (1 : Int) < 2147483648) from by decide) (fun hc => ?_) (fun hc => ?_)
        · replace h := (if_pos hc).symm.trans h
          refine jj_iconst hC dL_isWell_344 ?_
          have h := hR82 _ (Option.some.inj h).symm
          subst h
          exact jj_zret hC (show (0 ≤ (0 : Int) ∧ (0 : Int) ≤ 1) from by decide) (by omega) (by omega) dL_isWell_345 ⟨rfl, (show (0 ≤ (0 : Int) ∧ (0 : Int) ≤ 1) from by decide), hx302, rfl, rfl, rfl, rfl⟩
        · replace h := (if_neg (Int.not_lt.mpr hc)).symm.trans h
          refine jj_widen (k' := 0 + 2 * s82.2.2.2) (n' := 256 * (0 + 2 * s82.2.2.2)) (by omega) (by omega) ?_
          refine jj_lv (lv' := [(0, .ref l0_82), (1, .int (iI l1_82)), (2, .int (iI l2_302)), (3, .int (iI l3_82)), (4, .int (iI l4_302)), (5, .int (iI l5_302)), (8, .int (iI l8_302)), (9, .int (iI l9_302))]) [0, 1, 2, 3, 4, 5, 6, 7] rfl ?_
          exact hB317 sz302 M302 l2_302 l4_302 l5_302 l8_302 l9_302 hx302 hl2_302 hl4_302 hl5_302 hl8_302 hl9_302 hl0_82_302 hcc82 h
    have hB288 : ∀ (sz288 : Nat) (M288 : gM) (l2_288 : Int) (l4_288 : Int) (l5_288 : Int) (l6_288 : Int) (l8_288 : Int) (l9_288 : Int), Ex2 S Ln S Ln → (-2147483648 ≤ l2_288 ∧ l2_288 < 2147483648) → (-2147483648 ≤ l4_288 ∧ l4_288 < 2147483648) → (0 ≤ l5_288 ∧ l5_288 ≤ 1) → (0 ≤ l6_288 ∧ l6_288 ≤ 1) → (-2147483648 ≤ l8_288 ∧ l8_288 < 2147483648) → (-2147483648 ≤ l9_288 ∧ l9_288 < 2147483648) → S l0_82 = 12 → s82.2.2.2 ≤ 8 → fL_isWell_B288 G.2.2.2.2 S Ln R M288 l0_82 l1_82 l2_288 l3_82 l4_288 l5_288 l6_288 l8_288 l9_288 s82.2.2.2 = some r82 → JJ G C (0 + 2 * s82.2.2.2) (256 * (0 + 2 * s82.2.2.2)) sz288 S Ln M288 R 288 [(0, .ref l0_82), (1, .int (iI l1_82)), (2, .int (iI l2_288)), (3, .int (iI l3_82)), (4, .int (iI l4_288)), (5, .int (iI l5_288)), (6, .int (iI l6_288)), (8, .int (iI l8_288)), (9, .int (iI l9_288))] [] := by
      intro sz288 M288 l2_288 l4_288 l5_288 l6_288 l8_288 l9_288 hx288 hl2_288 hl4_288 hl5_288 hl6_288 hl8_288 hl9_288 hl0_82_288 hcc82 h
      unfold fL_isWell_B288 at h
      refine jj_iload hC dL_isWell_288 6 rfl ?_
      refine jj_if_eq (tgt := 302) hC dL_isWell_290 rfl (r_z hl6_288) (fun hc => ?_) (fun hc => ?_)
      · replace h := (if_pos hc).symm.trans h
        refine jj_widen (k' := 0 + 2 * s82.2.2.2) (n' := 256 * (0 + 2 * s82.2.2.2)) (by omega) (by omega) ?_
        refine jj_lv (lv' := [(0, .ref l0_82), (1, .int (iI l1_82)), (2, .int (iI l2_288)), (3, .int (iI l3_82)), (4, .int (iI l4_288)), (5, .int (iI l5_288)), (8, .int (iI l8_288)), (9, .int (iI l9_288))]) [0, 1, 2, 3, 4, 5, 7, 8] rfl ?_
        exact hB302 sz288 M288 l2_288 l4_288 l5_288 l8_288 l9_288 hx288 hl2_288 hl4_288 hl5_288 hl8_288 hl9_288 hl0_82_288 hcc82 h
      · replace h := (if_neg (hc)).symm.trans h
        refine jj_aload_n hC dL_isWell_293 rfl 0 rfl ?_
        refine jj_iload hC dL_isWell_294 4 rfl ?_
        obtain ⟨q37, hq37, h⟩ := bd_e h
        obtain ⟨v37, hv37, h⟩ := el_n h
        subst hv37
        refine jj_invV hC mvX9_height wd1452 wd1453 wd1451 hl0_82_288 (by decide) rfl (xX9_height_n (OKC.tr hC) hl0_82_288 hl4_288 hq37) rfl rfl (c_le rfl) (c_le rfl) (by omega) (by omega) dL_isWell_296 noXk (po_kI (fun hr37 => ?_))
        refine jj_if_ne (tgt := 344) hC dL_isWell_299 rfl hr37 (fun hc => ?_) (fun hc => ?_)
        · replace h := (if_pos hc).symm.trans h
          refine jj_iconst hC dL_isWell_344 ?_
          have h := hR82 _ (Option.some.inj h).symm
          subst h
          exact jj_zret hC (show (0 ≤ (0 : Int) ∧ (0 : Int) ≤ 1) from by decide) (by omega) (by omega) dL_isWell_345 ⟨rfl, (show (0 ≤ (0 : Int) ∧ (0 : Int) ≤ 1) from by decide), hx288, rfl, rfl, rfl, rfl⟩
        · replace h := (if_neg (fun k => k hc)).symm.trans h
          refine jj_widen (k' := 0 + 2 * s82.2.2.2) (n' := 256 * (0 + 2 * s82.2.2.2)) (by omega) (by omega) ?_
          refine jj_lv (lv' := [(0, .ref l0_82), (1, .int (iI l1_82)), (2, .int (iI l2_288)), (3, .int (iI l3_82)), (4, .int (iI l4_288)), (5, .int (iI l5_288)), (8, .int (iI l8_288)), (9, .int (iI l9_288))]) [0, 1, 2, 3, 4, 5, 7, 8] rfl ?_
          exact hB302 sz288 M288 l2_288 l4_288 l5_288 l8_288 l9_288 hx288 hl2_288 hl4_288 hl5_288 hl8_288 hl9_288 hl0_82_288 hcc82 h
    have hB274 : ∀ (sz274 : Nat) (M274 : gM) (l2_274 : Int) (l4_274 : Int) (l5_274 : Int) (l6_274 : Int) (l7_274 : Int) (l8_274 : Int) (l9_274 : Int) (s0_274 : Int) (s1_274 : Int), Ex2 S Ln S Ln → (-2147483648 ≤ l2_274 ∧ l2_274 < 2147483648) → (-2147483648 ≤ l4_274 ∧ l4_274 < 2147483648) → (0 ≤ l5_274 ∧ l5_274 ≤ 1) → (0 ≤ l6_274 ∧ l6_274 ≤ 1) → (0 ≤ l7_274 ∧ l7_274 ≤ 1) → (-2147483648 ≤ l8_274 ∧ l8_274 < 2147483648) → (-2147483648 ≤ l9_274 ∧ l9_274 < 2147483648) → (0 ≤ s0_274 ∧ s0_274 ≤ 1) → (0 ≤ s1_274 ∧ s1_274 ≤ 1) → S l0_82 = 12 → s82.2.2.2 ≤ 8 → fL_isWell_B274 G.2.2.2.2 S Ln R M274 l0_82 l1_82 l2_274 l3_82 l4_274 l5_274 l6_274 l7_274 l8_274 l9_274 s0_274 s1_274 s82.2.2.2 = some r82 → JJ G C (0 + 2 * s82.2.2.2) (256 * (0 + 2 * s82.2.2.2)) sz274 S Ln M274 R 274 [(0, .ref l0_82), (1, .int (iI l1_82)), (2, .int (iI l2_274)), (3, .int (iI l3_82)), (4, .int (iI l4_274)), (5, .int (iI l5_274)), (6, .int (iI l6_274)), (7, .int (iI l7_274)), (8, .int (iI l8_274)), (9, .int (iI l9_274))] [.int (iI s0_274), .int (iI s1_274)] := by
      intro sz274 M274 l2_274 l4_274 l5_274 l6_274 l7_274 l8_274 l9_274 s0_274 s1_274 hx274 hl2_274 hl4_274 hl5_274 hl6_274 hl7_274 hl8_274 hl9_274 hs0_274 hs1_274 hl0_82_274 hcc82 h
      unfold fL_isWell_B274 at h
      refine jj_icmp_ne (tgt := 344) hC dL_isWell_274 rfl (r_z hs1_274) (r_z hs0_274) (fun hc => ?_) (fun hc => ?_)
      · replace h := (if_pos hc).symm.trans h
        refine jj_iconst hC dL_isWell_344 ?_
        have h := hR82 _ (Option.some.inj h).symm
        subst h
        exact jj_zret hC (show (0 ≤ (0 : Int) ∧ (0 : Int) ≤ 1) from by decide) (by omega) (by omega) dL_isWell_345 ⟨rfl, (show (0 ≤ (0 : Int) ∧ (0 : Int) ≤ 1) from by decide), hx274, rfl, rfl, rfl, rfl⟩
      · replace h := (if_neg (fun k => k hc)).symm.trans h
        refine jj_iload hC dL_isWell_277 7 rfl ?_
        refine jj_if_eq (tgt := 288) hC dL_isWell_279 rfl (r_z hl7_274) (fun hc => ?_) (fun hc => ?_)
        · replace h := (if_pos hc).symm.trans h
          refine jj_widen (k' := 0 + 2 * s82.2.2.2) (n' := 256 * (0 + 2 * s82.2.2.2)) (by omega) (by omega) ?_
          refine jj_lv (lv' := [(0, .ref l0_82), (1, .int (iI l1_82)), (2, .int (iI l2_274)), (3, .int (iI l3_82)), (4, .int (iI l4_274)), (5, .int (iI l5_274)), (6, .int (iI l6_274)), (8, .int (iI l8_274)), (9, .int (iI l9_274))]) [0, 1, 2, 3, 4, 5, 6, 8, 9] rfl ?_
          exact hB288 sz274 M274 l2_274 l4_274 l5_274 l6_274 l8_274 l9_274 hx274 hl2_274 hl4_274 hl5_274 hl6_274 hl8_274 hl9_274 hl0_82_274 hcc82 h
        · replace h := (if_neg (hc)).symm.trans h
          refine jj_iload hC dL_isWell_282 8 rfl ?_
          refine jj_iload_n hC dL_isWell_284 rfl 1 rfl ?_
          refine jj_icmp_ne (tgt := 344) hC dL_isWell_285 rfl hl8_274 hl1_82 (fun hc => ?_) (fun hc => ?_)
          · replace h := (if_pos hc).symm.trans h
            refine jj_iconst hC dL_isWell_344 ?_
            have h := hR82 _ (Option.some.inj h).symm
            subst h
            exact jj_zret hC (show (0 ≤ (0 : Int) ∧ (0 : Int) ≤ 1) from by decide) (by omega) (by omega) dL_isWell_345 ⟨rfl, (show (0 ≤ (0 : Int) ∧ (0 : Int) ≤ 1) from by decide), hx274, rfl, rfl, rfl, rfl⟩
          · replace h := (if_neg (fun k => k hc)).symm.trans h
            refine jj_widen (k' := 0 + 2 * s82.2.2.2) (n' := 256 * (0 + 2 * s82.2.2.2)) (by omega) (by omega) ?_
            refine jj_lv (lv' := [(0, .ref l0_82), (1, .int (iI l1_82)), (2, .int (iI l2_274)), (3, .int (iI l3_82)), (4, .int (iI l4_274)), (5, .int (iI l5_274)), (6, .int (iI l6_274)), (8, .int (iI l8_274)), (9, .int (iI l9_274))]) [0, 1, 2, 3, 4, 5, 6, 8, 9] rfl ?_
            exact hB288 sz274 M274 l2_274 l4_274 l5_274 l6_274 l8_274 l9_274 hx274 hl2_274 hl4_274 hl5_274 hl6_274 hl8_274 hl9_274 hl0_82_274 hcc82 h
    have hB233 : ∀ (sz233 : Nat) (M233 : gM) (l2_233 : Int) (l4_233 : Int) (l5_233 : Int) (l6_233 : Int) (l7_233 : Int) (l8_233 : Int) (s0_233 : Int) (s1_233 : Int), Ex2 S Ln S Ln → (-2147483648 ≤ l2_233 ∧ l2_233 < 2147483648) → (-2147483648 ≤ l4_233 ∧ l4_233 < 2147483648) → (0 ≤ l5_233 ∧ l5_233 ≤ 1) → (0 ≤ l6_233 ∧ l6_233 ≤ 1) → (0 ≤ l7_233 ∧ l7_233 ≤ 1) → (-2147483648 ≤ l8_233 ∧ l8_233 < 2147483648) → (-2147483648 ≤ s0_233 ∧ s0_233 < 2147483648) → (-2147483648 ≤ s1_233 ∧ s1_233 < 2147483648) → S l0_82 = 12 → s82.2.2.2 ≤ 8 → fL_isWell_B233 G.2.2.2.2 S Ln R M233 l0_82 l1_82 l2_233 l3_82 l4_233 l5_233 l6_233 l7_233 l8_233 s0_233 s1_233 s82.2.2.2 = some r82 → JJ G C (0 + 2 * s82.2.2.2) (256 * (0 + 2 * s82.2.2.2)) sz233 S Ln M233 R 233 [(0, .ref l0_82), (1, .int (iI l1_82)), (2, .int (iI l2_233)), (3, .int (iI l3_82)), (4, .int (iI l4_233)), (5, .int (iI l5_233)), (6, .int (iI l6_233)), (7, .int (iI l7_233)), (8, .int (iI l8_233))] [.int (iI s0_233), .int (iI s1_233)] := by
      intro sz233 M233 l2_233 l4_233 l5_233 l6_233 l7_233 l8_233 s0_233 s1_233 hx233 hl2_233 hl4_233 hl5_233 hl6_233 hl7_233 hl8_233 hs0_233 hs1_233 hl0_82_233 hcc82 h
      unfold fL_isWell_B233 at h
      refine jg_iadd hC dL_isWell_233 ?_
      refine jj_aload_n hC dL_isWell_234 rfl 0 rfl ?_
      refine jj_iload hC dL_isWell_235 4 rfl ?_
      obtain ⟨q15, hq15, h⟩ := bd_e h
      obtain ⟨v15, hv15, h⟩ := el_n h
      subst hv15
      refine jj_invV hC mvX9_penalty wd1460 wd1461 wd1459 hl0_82_233 (by decide) rfl (xX9_penalty_n (OKC.tr hC) hl0_82_233 hl4_233 hq15) rfl rfl (c_le rfl) (c_le rfl) (by omega) (by omega) dL_isWell_237 noXk (po_kI (fun hr15 => ?_))
      refine jg_isub hC dL_isWell_240 ?_
      refine jj_istore (lv' := [(9, .int (iI (w32 ((w32 (s1_233 + s0_233)) - v15)))), (0, .ref l0_82), (1, .int (iI l1_82)), (2, .int (iI l2_233)), (3, .int (iI l3_82)), (4, .int (iI l4_233)), (5, .int (iI l5_233)), (6, .int (iI l6_233)), (7, .int (iI l7_233)), (8, .int (iI l8_233))]) hC dL_isWell_241 (by decide) rfl ?_
      refine jj_iload hC dL_isWell_243 9 rfl ?_
      refine jj_if_lt (tgt := 344) hC dL_isWell_245 rfl hl8_233 (fun hc => ?_) (fun hc => ?_)
      · replace h := (if_pos hc).symm.trans h
        refine jj_iconst hC dL_isWell_344 ?_
        have h := hR82 _ (Option.some.inj h).symm
        subst h
        exact jj_zret hC (show (0 ≤ (0 : Int) ∧ (0 : Int) ≤ 1) from by decide) (by omega) (by omega) dL_isWell_345 ⟨rfl, (show (0 ≤ (0 : Int) ∧ (0 : Int) ≤ 1) from by decide), hx233, rfl, rfl, rfl, rfl⟩
      · replace h := (if_neg (Int.not_lt.mpr hc)).symm.trans h
        refine jj_iload hC dL_isWell_248 9 rfl ?_
        refine jj_iload_n hC dL_isWell_250 rfl 2 rfl ?_
        refine jj_icmp_gt (tgt := 344) hC dL_isWell_251 rfl hl8_233 hl1_82 (fun hc => ?_) (fun hc => ?_)
        · replace h := (if_pos hc).symm.trans h
          refine jj_iconst hC dL_isWell_344 ?_
          have h := hR82 _ (Option.some.inj h).symm
          subst h
          exact jj_zret hC (show (0 ≤ (0 : Int) ∧ (0 : Int) ≤ 1) from by decide) (by omega) (by omega) dL_isWell_345 ⟨rfl, (show (0 ≤ (0 : Int) ∧ (0 : Int) ≤ 1) from by decide), hx233, rfl, rfl, rfl, rfl⟩
        · replace h := (if_neg (Int.not_lt.mpr hc)).symm.trans h
          refine jj_iload hC dL_isWell_254 8 rfl ?_
          refine jj_aload_n hC dL_isWell_256 rfl 1 rfl ?_
          refine jj_iload hC dL_isWell_257 5 rfl ?_
          obtain ⟨q16, hq16, h⟩ := bd_e h
          obtain ⟨v16, hv16, h⟩ := el_n h
          subst hv16
          refine jj_invV hC mvX9_reached wd1435 wd1436 wd1434 hl0_82_233 (by decide) rfl (xX9_reached_n (OKC.tr hC) hl0_82_233 hl4_233 hq16) rfl rfl (c_le rfl) (c_le rfl) (by omega) (by omega) dL_isWell_259 noXk (po_kI (fun hr16 => ?_))
          refine jj_aload_n hC dL_isWell_262 rfl 1 rfl ?_
          obtain ⟨q17, hq17, h⟩ := bd_e h
          refine jj_invV hC mvX9_taskLength wd1393 wd1394 wd1392 hl0_82_233 (by decide) rfl (xX9_taskLength (OKC.tr hC) hl0_82_233 hq17) rfl rfl (c_le rfl) (c_le rfl) (by omega) (by omega) dL_isWell_263 noXk (po_kI (fun hr17 => ?_))
          refine jj_icmp_ne (tgt := 273) hC dL_isWell_266 rfl hr16 hr17 (fun hc => ?_) (fun hc => ?_)
          · replace h := (if_pos hc).symm.trans h
            refine jj_iconst hC dL_isWell_273 ?_
            refine jj_widen (k' := 0 + 2 * s82.2.2.2) (n' := 256 * (0 + 2 * s82.2.2.2)) (by omega) (by omega) ?_
            refine jj_lv (lv' := [(0, .ref l0_82), (1, .int (iI l1_82)), (2, .int (iI l2_233)), (3, .int (iI l3_82)), (4, .int (iI l4_233)), (5, .int (iI l5_233)), (6, .int (iI l6_233)), (7, .int (iI l7_233)), (8, .int (iI l8_233)), (9, .int (iI (w32 ((w32 (s1_233 + s0_233)) - v15))))]) [1, 2, 3, 4, 5, 6, 7, 8, 9, 0] rfl ?_
            exact hB274 sz233 M233 l2_233 l4_233 l5_233 l6_233 l7_233 l8_233 (w32 ((w32 (s1_233 + s0_233)) - v15)) 0 l7_233 hx233 hl2_233 hl4_233 hl5_233 hl6_233 hl7_233 hl8_233 (w32_r _) (show (0 ≤ (0 : Int) ∧ (0 : Int) ≤ 1) from by decide) hl7_233 hl0_82_233 hcc82 h
          · replace h := (if_neg (fun k => k hc)).symm.trans h
            refine jj_iconst hC dL_isWell_269 ?_
            refine jj_goto (tgt := 274) hC dL_isWell_270 rfl ?_
            refine jj_widen (k' := 0 + 2 * s82.2.2.2) (n' := 256 * (0 + 2 * s82.2.2.2)) (by omega) (by omega) ?_
            refine jj_lv (lv' := [(0, .ref l0_82), (1, .int (iI l1_82)), (2, .int (iI l2_233)), (3, .int (iI l3_82)), (4, .int (iI l4_233)), (5, .int (iI l5_233)), (6, .int (iI l6_233)), (7, .int (iI l7_233)), (8, .int (iI l8_233)), (9, .int (iI (w32 ((w32 (s1_233 + s0_233)) - v15))))]) [1, 2, 3, 4, 5, 6, 7, 8, 9, 0] rfl ?_
            exact hB274 sz233 M233 l2_233 l4_233 l5_233 l6_233 l7_233 l8_233 (w32 ((w32 (s1_233 + s0_233)) - v15)) 1 l7_233 hx233 hl2_233 hl4_233 hl5_233 hl6_233 hl7_233 hl8_233 (w32_r _) (show (0 ≤ (1 : Int) ∧ (1 : Int) ≤ 1) from by decide) hl7_233 hl0_82_233 hcc82 h
    have hB204 : ∀ (sz204 : Nat) (M204 : gM) (l2_204 : Int) (l4_204 : Int) (l5_204 : Int) (l6_204 : Int) (l7_204 : Int) (l8_204 : Int), Ex2 S Ln S Ln → (-2147483648 ≤ l2_204 ∧ l2_204 < 2147483648) → (-2147483648 ≤ l4_204 ∧ l4_204 < 2147483648) → (0 ≤ l5_204 ∧ l5_204 ≤ 1) → (0 ≤ l6_204 ∧ l6_204 ≤ 1) → (0 ≤ l7_204 ∧ l7_204 ≤ 1) → (-2147483648 ≤ l8_204 ∧ l8_204 < 2147483648) → S l0_82 = 12 → s82.2.2.2 ≤ 8 → fL_isWell_B204 G.2.2.2.2 S Ln R M204 l0_82 l1_82 l2_204 l3_82 l4_204 l5_204 l6_204 l7_204 l8_204 s82.2.2.2 = some r82 → JJ G C (0 + 2 * s82.2.2.2) (256 * (0 + 2 * s82.2.2.2)) sz204 S Ln M204 R 204 [(0, .ref l0_82), (1, .int (iI l1_82)), (2, .int (iI l2_204)), (3, .int (iI l3_82)), (4, .int (iI l4_204)), (5, .int (iI l5_204)), (6, .int (iI l6_204)), (7, .int (iI l7_204)), (8, .int (iI l8_204))] [] := by
      intro sz204 M204 l2_204 l4_204 l5_204 l6_204 l7_204 l8_204 hx204 hl2_204 hl4_204 hl5_204 hl6_204 hl7_204 hl8_204 hl0_82_204 hcc82 h
      unfold fL_isWell_B204 at h
      refine jj_sipush hC dL_isWell_204 (by decide) ?_
      refine jj_iload hC dL_isWell_207 8 rfl ?_
      refine jg_imul hC dL_isWell_209 ?_
      refine jj_iload_n hC dL_isWell_210 rfl 1 rfl ?_
      obtain ⟨hg14, h⟩ := gd_e h
      refine jj_idiv hC dL_isWell_211 (w32_r _) hl1_82 hg14 ?_
      refine jj_iload hC dL_isWell_212 7 rfl ?_
      refine jj_if_eq (tgt := 232) hC dL_isWell_214 rfl (r_z hl7_204) (fun hc => ?_) (fun hc => ?_)
      · replace h := (if_pos hc).symm.trans h
        refine jj_iconst hC dL_isWell_232 ?_
        refine jj_widen (k' := 0 + 2 * s82.2.2.2) (n' := 256 * (0 + 2 * s82.2.2.2)) (by omega) (by omega) ?_
        refine jj_lv (lv' := [(0, .ref l0_82), (1, .int (iI l1_82)), (2, .int (iI l2_204)), (3, .int (iI l3_82)), (4, .int (iI l4_204)), (5, .int (iI l5_204)), (6, .int (iI l6_204)), (7, .int (iI l7_204)), (8, .int (iI l8_204))]) [0, 1, 2, 3, 4, 5, 6, 7, 8] rfl ?_
        exact hB233 sz204 M204 l2_204 l4_204 l5_204 l6_204 l7_204 l8_204 0 (Int.tdiv (w32 (1000 * l8_204)) l1_82) hx204 hl2_204 hl4_204 hl5_204 hl6_204 hl7_204 hl8_204 (show (-2147483648 ≤ (0 : Int) ∧ (0 : Int) < 2147483648) from by decide) (i_tdiv_r (w32_r _) hg14) hl0_82_204 hcc82 h
      · replace h := (if_neg (hc)).symm.trans h
        refine jj_sipush hC dL_isWell_217 (by decide) ?_
        refine jj_iload_n hC dL_isWell_220 rfl 3 rfl ?_
        refine jg_imul hC dL_isWell_221 ?_
        refine jj_aload_n hC dL_isWell_222 rfl 0 rfl ?_
        refine jj_iload hC dL_isWell_223 4 rfl ?_
        obtain ⟨q38, hq38, h⟩ := bd_e h
        obtain ⟨v38, hv38, h⟩ := el_n h
        subst hv38
        refine jj_invV hC mvX9_minutes wd1456 wd1457 wd1455 hl0_82_204 (by decide) rfl (xX9_minutes_n (OKC.tr hC) hl0_82_204 hl4_204 hq38) rfl rfl (c_le rfl) (c_le rfl) (by omega) (by omega) dL_isWell_225 noXk (po_kI (fun hr38 => ?_))
        obtain ⟨hg39, h⟩ := gd_e h
        refine jj_idiv hC dL_isWell_228 (w32_r _) hr38 hg39 ?_
        refine jj_goto (tgt := 233) hC dL_isWell_229 rfl ?_
        refine jj_widen (k' := 0 + 2 * s82.2.2.2) (n' := 256 * (0 + 2 * s82.2.2.2)) (by omega) (by omega) ?_
        refine jj_lv (lv' := [(0, .ref l0_82), (1, .int (iI l1_82)), (2, .int (iI l2_204)), (3, .int (iI l3_82)), (4, .int (iI l4_204)), (5, .int (iI l5_204)), (6, .int (iI l6_204)), (7, .int (iI l7_204)), (8, .int (iI l8_204))]) [0, 1, 2, 3, 4, 5, 6, 7, 8] rfl ?_
        exact hB233 sz204 M204 l2_204 l4_204 l5_204 l6_204 l7_204 l8_204 (Int.tdiv (w32 (500 * l3_82)) v38) (Int.tdiv (w32 (1000 * l8_204)) l1_82) hx204 hl2_204 hl4_204 hl5_204 hl6_204 hl7_204 hl8_204 (i_tdiv_r (w32_r _) hg39) (i_tdiv_r (w32_r _) hg14) hl0_82_204 hcc82 h
    have hB154 : ∀ (sz154 : Nat) (M154 : gM) (l2_154 : Int) (l4_154 : Int) (l5_154 : Int) (l6_154 : Int) (l7_154 : Int) (l8_154 : Int) (s0_154 : Int) (s1_154 : Int), Ex2 S Ln S Ln → (-2147483648 ≤ l2_154 ∧ l2_154 < 2147483648) → (-2147483648 ≤ l4_154 ∧ l4_154 < 2147483648) → (0 ≤ l5_154 ∧ l5_154 ≤ 1) → (0 ≤ l6_154 ∧ l6_154 ≤ 1) → (0 ≤ l7_154 ∧ l7_154 ≤ 1) → (-2147483648 ≤ l8_154 ∧ l8_154 < 2147483648) → (0 ≤ s0_154 ∧ s0_154 ≤ 1) → (-2147483648 ≤ s1_154 ∧ s1_154 < 2147483648) → S l0_82 = 12 → s82.2.2.2 ≤ 8 → fL_isWell_B154 G.2.2.2.2 S Ln R M154 l0_82 l1_82 l2_154 l3_82 l4_154 l5_154 l6_154 l7_154 l8_154 s0_154 s1_154 s82.2.2.2 = some r82 → JJ G C (0 + 2 * s82.2.2.2) (256 * (0 + 2 * s82.2.2.2)) sz154 S Ln M154 R 154 [(0, .ref l0_82), (1, .int (iI l1_82)), (2, .int (iI l2_154)), (3, .int (iI l3_82)), (4, .int (iI l4_154)), (5, .int (iI l5_154)), (6, .int (iI l6_154)), (7, .int (iI l7_154)), (8, .int (iI l8_154))] [.int (iI s0_154), .int (iI s1_154)] := by
      intro sz154 M154 l2_154 l4_154 l5_154 l6_154 l7_154 l8_154 s0_154 s1_154 hx154 hl2_154 hl4_154 hl5_154 hl6_154 hl7_154 hl8_154 hs0_154 hs1_154 hl0_82_154 hcc82 h
      unfold fL_isWell_B154 at h
      refine jg_iadd hC dL_isWell_154 ?_
      refine jj_iconst hC dL_isWell_155 ?_
      refine jj_icmp_le (tgt := 161) hC dL_isWell_156 rfl (w32_r _) (show (-2147483648 ≤ (1 : Int) ∧ (1 : Int) < 2147483648) from by decide) (fun hc => ?_) (fun hc => ?_)
      · replace h := (if_pos hc).symm.trans h
        refine jj_iload hC dL_isWell_161 5 rfl ?_
        refine jj_if_ne (tgt := 204) hC dL_isWell_163 rfl (r_z hl5_154) (fun hc => ?_) (fun hc => ?_)
        · replace h := (if_pos hc).symm.trans h
          refine jj_widen (k' := 0 + 2 * s82.2.2.2) (n' := 256 * (0 + 2 * s82.2.2.2)) (by omega) (by omega) ?_
          refine jj_lv (lv' := [(0, .ref l0_82), (1, .int (iI l1_82)), (2, .int (iI l2_154)), (3, .int (iI l3_82)), (4, .int (iI l4_154)), (5, .int (iI l5_154)), (6, .int (iI l6_154)), (7, .int (iI l7_154)), (8, .int (iI l8_154))]) [0, 1, 2, 3, 4, 5, 6, 7, 8] rfl ?_
          exact hB204 sz154 M154 l2_154 l4_154 l5_154 l6_154 l7_154 l8_154 hx154 hl2_154 hl4_154 hl5_154 hl6_154 hl7_154 hl8_154 hl0_82_154 hcc82 h
        · replace h := (if_neg (fun k => k hc)).symm.trans h
          refine jj_iload hC dL_isWell_166 6 rfl ?_
          refine jj_if_ne (tgt := 204) hC dL_isWell_168 rfl (r_z hl6_154) (fun hc => ?_) (fun hc => ?_)
          · replace h := (if_pos hc).symm.trans h
            refine jj_widen (k' := 0 + 2 * s82.2.2.2) (n' := 256 * (0 + 2 * s82.2.2.2)) (by omega) (by omega) ?_
            refine jj_lv (lv' := [(0, .ref l0_82), (1, .int (iI l1_82)), (2, .int (iI l2_154)), (3, .int (iI l3_82)), (4, .int (iI l4_154)), (5, .int (iI l5_154)), (6, .int (iI l6_154)), (7, .int (iI l7_154)), (8, .int (iI l8_154))]) [0, 1, 2, 3, 4, 5, 6, 7, 8] rfl ?_
            exact hB204 sz154 M154 l2_154 l4_154 l5_154 l6_154 l7_154 l8_154 hx154 hl2_154 hl4_154 hl5_154 hl6_154 hl7_154 hl8_154 hl0_82_154 hcc82 h
          · replace h := (if_neg (fun k => k hc)).symm.trans h
            refine jj_iload hC dL_isWell_171 7 rfl ?_
            refine jj_if_ne (tgt := 204) hC dL_isWell_173 rfl (r_z hl7_154) (fun hc => ?_) (fun hc => ?_)
            · replace h := (if_pos hc).symm.trans h
              refine jj_widen (k' := 0 + 2 * s82.2.2.2) (n' := 256 * (0 + 2 * s82.2.2.2)) (by omega) (by omega) ?_
              refine jj_lv (lv' := [(0, .ref l0_82), (1, .int (iI l1_82)), (2, .int (iI l2_154)), (3, .int (iI l3_82)), (4, .int (iI l4_154)), (5, .int (iI l5_154)), (6, .int (iI l6_154)), (7, .int (iI l7_154)), (8, .int (iI l8_154))]) [0, 1, 2, 3, 4, 5, 6, 7, 8] rfl ?_
              exact hB204 sz154 M154 l2_154 l4_154 l5_154 l6_154 l7_154 l8_154 hx154 hl2_154 hl4_154 hl5_154 hl6_154 hl7_154 hl8_154 hl0_82_154 hcc82 h
            · replace h := (if_neg (fun k => k hc)).symm.trans h
              refine jg_iinc (q := 2) (lv' := [(2, .int (iI (w32 (l2_154 + 1)))), (0, .ref l0_82), (1, .int (iI l1_82)), (3, .int (iI l3_82)), (4, .int (iI l4_154)), (5, .int (iI l5_154)), (6, .int (iI l6_154)), (7, .int (iI l7_154)), (8, .int (iI l8_154))]) hC dL_isWell_176 rfl (by decide) rfl ?_
              refine jj_aload_n hC dL_isWell_179 rfl 1 rfl ?_
              refine jj_iload hC dL_isWell_180 4 rfl ?_
              obtain ⟨q40, hq40, h⟩ := bd_e h
              obtain ⟨v40, hv40, h⟩ := el_n h
              subst hv40
              refine jj_invV hC mvX9_reached wd1435 wd1436 wd1434 hl0_82_154 (by decide) rfl (xX9_reached_n (OKC.tr hC) hl0_82_154 hl4_154 hq40) rfl rfl (c_le rfl) (c_le rfl) (by omega) (by omega) dL_isWell_182 noXk (po_kI (fun hr40 => ?_))
              refine jj_if_ne (tgt := 202) hC dL_isWell_185 rfl hr40 (fun hc => ?_) (fun hc => ?_)
              · replace h := (if_pos hc).symm.trans h
                refine jj_iconst hC dL_isWell_202 ?_
                have h := hR82 _ (Option.some.inj h).symm
                subst h
                exact jj_zret hC (show (0 ≤ (0 : Int) ∧ (0 : Int) ≤ 1) from by decide) (by omega) (by omega) dL_isWell_203 ⟨rfl, (show (0 ≤ (0 : Int) ∧ (0 : Int) ≤ 1) from by decide), hx154, rfl, rfl, rfl, rfl⟩
              · replace h := (if_neg (fun k => k hc)).symm.trans h
                refine jj_iload hC dL_isWell_188 8 rfl ?_
                refine jj_if_ne (tgt := 202) hC dL_isWell_190 rfl hl8_154 (fun hc => ?_) (fun hc => ?_)
                · replace h := (if_pos hc).symm.trans h
                  refine jj_iconst hC dL_isWell_202 ?_
                  have h := hR82 _ (Option.some.inj h).symm
                  subst h
                  exact jj_zret hC (show (0 ≤ (0 : Int) ∧ (0 : Int) ≤ 1) from by decide) (by omega) (by omega) dL_isWell_203 ⟨rfl, (show (0 ≤ (0 : Int) ∧ (0 : Int) ≤ 1) from by decide), hx154, rfl, rfl, rfl, rfl⟩
                · replace h := (if_neg (fun k => k hc)).symm.trans h
                  refine jj_aload_n hC dL_isWell_193 rfl 1 rfl ?_
                  refine jj_iload hC dL_isWell_194 4 rfl ?_
                  obtain ⟨q41, hq41, h⟩ := bd_e h
                  obtain ⟨v41, hv41, h⟩ := el_n h
                  subst hv41
                  refine jj_invV hC mvX9_dayScore wd1494 wd1495 wd1493 hl0_82_154 (by decide) rfl (xX9_dayScore_n (OKC.tr hC) hl0_82_154 hl4_154 hq41) rfl rfl (c_le rfl) (c_le rfl) (by omega) (by omega) dL_isWell_196 noXk (po_kI (fun hr41 => ?_))
                  refine jj_if_eq (tgt := 492) hC dL_isWell_199 rfl hr41 (fun hc => ?_) (fun hc => ?_)
                  · replace h := (if_pos hc).symm.trans h
                    refine jj_widen (k' := 0 + 2 * s82.2.2.2 + 2) (n' := 256 * (0 + 2 * s82.2.2.2 + 2)) (by omega) (by omega) ?_
                    refine jj_lv (lv' := [(0, .ref l0_82), (1, .int (iI l1_82)), (2, .int (iI (w32 (l2_154 + 1)))), (3, .int (iI l3_82)), (4, .int (iI l4_154))]) [1, 2, 0, 3, 4] rfl ?_
                    exact hB492 sz154 M154 (w32 (l2_154 + 1)) l4_154 hx154 (w32_r _) hl4_154 hl0_82_154 hcc82 h
                  · replace h := (if_neg (hc)).symm.trans h
                    refine jj_iconst hC dL_isWell_202 ?_
                    have h := hR82 _ (Option.some.inj h).symm
                    subst h
                    exact jj_zret hC (show (0 ≤ (0 : Int) ∧ (0 : Int) ≤ 1) from by decide) (by omega) (by omega) dL_isWell_203 ⟨rfl, (show (0 ≤ (0 : Int) ∧ (0 : Int) ≤ 1) from by decide), hx154, rfl, rfl, rfl, rfl⟩
      · replace h := (if_neg (Int.not_le.mpr hc)).symm.trans h
        refine jj_iconst hC dL_isWell_159 ?_
        have h := hR82 _ (Option.some.inj h).symm
        subst h
        exact jj_zret hC (show (0 ≤ (0 : Int) ∧ (0 : Int) ≤ 1) from by decide) (by omega) (by omega) dL_isWell_160 ⟨rfl, (show (0 ≤ (0 : Int) ∧ (0 : Int) ≤ 1) from by decide), hx154, rfl, rfl, rfl, rfl⟩
    have hB143 : ∀ (sz143 : Nat) (M143 : gM) (l2_143 : Int) (l4_143 : Int) (l5_143 : Int) (l6_143 : Int) (l7_143 : Int) (l8_143 : Int) (s0_143 : Int) (s1_143 : Int), Ex2 S Ln S Ln → (-2147483648 ≤ l2_143 ∧ l2_143 < 2147483648) → (-2147483648 ≤ l4_143 ∧ l4_143 < 2147483648) → (0 ≤ l5_143 ∧ l5_143 ≤ 1) → (0 ≤ l6_143 ∧ l6_143 ≤ 1) → (0 ≤ l7_143 ∧ l7_143 ≤ 1) → (-2147483648 ≤ l8_143 ∧ l8_143 < 2147483648) → (0 ≤ s0_143 ∧ s0_143 ≤ 1) → (0 ≤ s1_143 ∧ s1_143 ≤ 1) → S l0_82 = 12 → s82.2.2.2 ≤ 8 → fL_isWell_B143 G.2.2.2.2 S Ln R M143 l0_82 l1_82 l2_143 l3_82 l4_143 l5_143 l6_143 l7_143 l8_143 s0_143 s1_143 s82.2.2.2 = some r82 → JJ G C (0 + 2 * s82.2.2.2) (256 * (0 + 2 * s82.2.2.2)) sz143 S Ln M143 R 143 [(0, .ref l0_82), (1, .int (iI l1_82)), (2, .int (iI l2_143)), (3, .int (iI l3_82)), (4, .int (iI l4_143)), (5, .int (iI l5_143)), (6, .int (iI l6_143)), (7, .int (iI l7_143)), (8, .int (iI l8_143))] [.int (iI s0_143), .int (iI s1_143)] := by
      intro sz143 M143 l2_143 l4_143 l5_143 l6_143 l7_143 l8_143 s0_143 s1_143 hx143 hl2_143 hl4_143 hl5_143 hl6_143 hl7_143 hl8_143 hs0_143 hs1_143 hl0_82_143 hcc82 h
      unfold fL_isWell_B143 at h
      refine jg_iadd hC dL_isWell_143 ?_
      refine jj_iload hC dL_isWell_144 7 rfl ?_
      refine jj_if_eq (tgt := 153) hC dL_isWell_146 rfl (r_z hl7_143) (fun hc => ?_) (fun hc => ?_)
      · replace h := (if_pos hc).symm.trans h
        refine jj_iconst hC dL_isWell_153 ?_
        refine jj_widen (k' := 0 + 2 * s82.2.2.2) (n' := 256 * (0 + 2 * s82.2.2.2)) (by omega) (by omega) ?_
        refine jj_lv (lv' := [(0, .ref l0_82), (1, .int (iI l1_82)), (2, .int (iI l2_143)), (3, .int (iI l3_82)), (4, .int (iI l4_143)), (5, .int (iI l5_143)), (6, .int (iI l6_143)), (7, .int (iI l7_143)), (8, .int (iI l8_143))]) [0, 1, 2, 3, 4, 5, 6, 7, 8] rfl ?_
        exact hB154 sz143 M143 l2_143 l4_143 l5_143 l6_143 l7_143 l8_143 0 (w32 (s1_143 + s0_143)) hx143 hl2_143 hl4_143 hl5_143 hl6_143 hl7_143 hl8_143 (show (0 ≤ (0 : Int) ∧ (0 : Int) ≤ 1) from by decide) (w32_r _) hl0_82_143 hcc82 h
      · replace h := (if_neg (hc)).symm.trans h
        refine jj_iconst hC dL_isWell_149 ?_
        refine jj_goto (tgt := 154) hC dL_isWell_150 rfl ?_
        refine jj_widen (k' := 0 + 2 * s82.2.2.2) (n' := 256 * (0 + 2 * s82.2.2.2)) (by omega) (by omega) ?_
        refine jj_lv (lv' := [(0, .ref l0_82), (1, .int (iI l1_82)), (2, .int (iI l2_143)), (3, .int (iI l3_82)), (4, .int (iI l4_143)), (5, .int (iI l5_143)), (6, .int (iI l6_143)), (7, .int (iI l7_143)), (8, .int (iI l8_143))]) [0, 1, 2, 3, 4, 5, 6, 7, 8] rfl ?_
        exact hB154 sz143 M143 l2_143 l4_143 l5_143 l6_143 l7_143 l8_143 1 (w32 (s1_143 + s0_143)) hx143 hl2_143 hl4_143 hl5_143 hl6_143 hl7_143 hl8_143 (show (0 ≤ (1 : Int) ∧ (1 : Int) ≤ 1) from by decide) (w32_r _) hl0_82_143 hcc82 h
    have hB133 : ∀ (sz133 : Nat) (M133 : gM) (l2_133 : Int) (l4_133 : Int) (l5_133 : Int) (l6_133 : Int) (l7_133 : Int) (l8_133 : Int) (s0_133 : Int), Ex2 S Ln S Ln → (-2147483648 ≤ l2_133 ∧ l2_133 < 2147483648) → (-2147483648 ≤ l4_133 ∧ l4_133 < 2147483648) → (0 ≤ l5_133 ∧ l5_133 ≤ 1) → (0 ≤ l6_133 ∧ l6_133 ≤ 1) → (0 ≤ l7_133 ∧ l7_133 ≤ 1) → (-2147483648 ≤ l8_133 ∧ l8_133 < 2147483648) → (0 ≤ s0_133 ∧ s0_133 ≤ 1) → S l0_82 = 12 → s82.2.2.2 ≤ 8 → fL_isWell_B133 G.2.2.2.2 S Ln R M133 l0_82 l1_82 l2_133 l3_82 l4_133 l5_133 l6_133 l7_133 l8_133 s0_133 s82.2.2.2 = some r82 → JJ G C (0 + 2 * s82.2.2.2) (256 * (0 + 2 * s82.2.2.2)) sz133 S Ln M133 R 133 [(0, .ref l0_82), (1, .int (iI l1_82)), (2, .int (iI l2_133)), (3, .int (iI l3_82)), (4, .int (iI l4_133)), (5, .int (iI l5_133)), (6, .int (iI l6_133)), (7, .int (iI l7_133)), (8, .int (iI l8_133))] [.int (iI s0_133)] := by
      intro sz133 M133 l2_133 l4_133 l5_133 l6_133 l7_133 l8_133 s0_133 hx133 hl2_133 hl4_133 hl5_133 hl6_133 hl7_133 hl8_133 hs0_133 hl0_82_133 hcc82 h
      unfold fL_isWell_B133 at h
      refine jj_iload hC dL_isWell_133 6 rfl ?_
      refine jj_if_eq (tgt := 142) hC dL_isWell_135 rfl (r_z hl6_133) (fun hc => ?_) (fun hc => ?_)
      · replace h := (if_pos hc).symm.trans h
        refine jj_iconst hC dL_isWell_142 ?_
        refine jj_widen (k' := 0 + 2 * s82.2.2.2) (n' := 256 * (0 + 2 * s82.2.2.2)) (by omega) (by omega) ?_
        refine jj_lv (lv' := [(0, .ref l0_82), (1, .int (iI l1_82)), (2, .int (iI l2_133)), (3, .int (iI l3_82)), (4, .int (iI l4_133)), (5, .int (iI l5_133)), (6, .int (iI l6_133)), (7, .int (iI l7_133)), (8, .int (iI l8_133))]) [0, 1, 2, 3, 4, 5, 6, 7, 8] rfl ?_
        exact hB143 sz133 M133 l2_133 l4_133 l5_133 l6_133 l7_133 l8_133 0 s0_133 hx133 hl2_133 hl4_133 hl5_133 hl6_133 hl7_133 hl8_133 (show (0 ≤ (0 : Int) ∧ (0 : Int) ≤ 1) from by decide) hs0_133 hl0_82_133 hcc82 h
      · replace h := (if_neg (hc)).symm.trans h
        refine jj_iconst hC dL_isWell_138 ?_
        refine jj_goto (tgt := 143) hC dL_isWell_139 rfl ?_
        refine jj_widen (k' := 0 + 2 * s82.2.2.2) (n' := 256 * (0 + 2 * s82.2.2.2)) (by omega) (by omega) ?_
        refine jj_lv (lv' := [(0, .ref l0_82), (1, .int (iI l1_82)), (2, .int (iI l2_133)), (3, .int (iI l3_82)), (4, .int (iI l4_133)), (5, .int (iI l5_133)), (6, .int (iI l6_133)), (7, .int (iI l7_133)), (8, .int (iI l8_133))]) [0, 1, 2, 3, 4, 5, 6, 7, 8] rfl ?_
        exact hB143 sz133 M133 l2_133 l4_133 l5_133 l6_133 l7_133 l8_133 1 s0_133 hx133 hl2_133 hl4_133 hl5_133 hl6_133 hl7_133 hl8_133 (show (0 ≤ (1 : Int) ∧ (1 : Int) ≤ 1) from by decide) hs0_133 hl0_82_133 hcc82 h
    unfold fL_isWell_L82 at h
    obtain ⟨hcc82, h⟩ := gd_e h
    refine jj_iload hC dL_isWell_82 4 rfl ?_
    refine jj_aload_n hC dL_isWell_84 rfl 0 rfl ?_
    obtain ⟨q9, hq9, h⟩ := bd_e h
    refine jj_invV hC mvX9_pilotCount wd1232 wd1233 wd1231 hl0_82 (by decide) rfl (xX9_pilotCount (OKC.tr hC) hl0_82 hq9) rfl rfl (c_le rfl) (c_le rfl) (by omega) (by omega) dL_isWell_85 noXk (po_kI (fun hr9 => ?_))
    refine jj_icmp_ge (tgt := 498) hC dL_isWell_88 rfl hs82_1 hr9 (fun hc => ?_) (fun hc => ?_)
    · replace h := (if_pos hc).symm.trans h
      refine jj_widen (k' := 16) (n' := 4096) (by omega) (by omega) ?_
      refine jj_lv (lv' := [(0, .ref l0_82), (1, .int (iI l1_82)), (2, .int (iI s82.1))]) [0, 1, 2] rfl ?_
      exact hE82 _ (Option.some.inj h).symm ⟨hs82_0, hl0_82, hx82⟩ sz82
    · replace h := (if_neg (Int.not_le.mpr hc)).symm.trans h
      refine jj_aload_n hC dL_isWell_91 rfl 0 rfl ?_
      refine jj_iload hC dL_isWell_92 4 rfl ?_
      obtain ⟨q10, hq10, h⟩ := bd_e h
      obtain ⟨v10, hv10, h⟩ := el_n h
      subst hv10
      refine jj_invV hC mvX9_isFlying wd1240 wd1241 wd1239 hl0_82 (by decide) rfl (xX9_isFlying_n (OKC.tr hC) hl0_82 hs82_1 hq10) rfl rfl (c_le rfl) (c_le rfl) (by omega) (by omega) dL_isWell_94 noXk (po_kZ (fun hr10 => ?_))
      refine jj_istore (lv' := [(5, .int (iI v10)), (0, .ref l0_82), (1, .int (iI l1_82)), (2, .int (iI s82.1)), (3, .int (iI l3_82)), (4, .int (iI s82.2.1))]) hC dL_isWell_97 (by decide) rfl ?_
      refine jj_aload_n hC dL_isWell_99 rfl 1 rfl ?_
      refine jj_iload hC dL_isWell_100 5 rfl ?_
      obtain ⟨q11, hq11, h⟩ := bd_e h
      obtain ⟨v11, hv11, h⟩ := el_n h
      subst hv11
      refine jj_invV hC mvX9_isLanded wd1421 wd1422 wd1420 hl0_82 (by decide) rfl (xX9_isLanded_n (OKC.tr hC) hl0_82 hs82_1 hq11) rfl rfl (c_le rfl) (c_le rfl) (by omega) (by omega) dL_isWell_102 noXk (po_kZ (fun hr11 => ?_))
      refine jj_istore (lv' := [(6, .int (iI v11)), (5, .int (iI v10)), (0, .ref l0_82), (1, .int (iI l1_82)), (2, .int (iI s82.1)), (3, .int (iI l3_82)), (4, .int (iI s82.2.1))]) hC dL_isWell_105 (by decide) rfl ?_
      refine jj_aload_n hC dL_isWell_107 rfl 2 rfl ?_
      refine jj_iload hC dL_isWell_108 6 rfl ?_
      obtain ⟨q12, hq12, h⟩ := bd_e h
      obtain ⟨v12, hv12, h⟩ := el_n h
      subst hv12
      refine jj_invV hC mvX9_isFinished wd1426 wd1427 wd1425 hl0_82 (by decide) rfl (xX9_isFinished_n (OKC.tr hC) hl0_82 hs82_1 hq12) rfl rfl (c_le rfl) (c_le rfl) (by omega) (by omega) dL_isWell_110 noXk (po_kZ (fun hr12 => ?_))
      refine jj_istore (lv' := [(7, .int (iI v12)), (6, .int (iI v11)), (5, .int (iI v10)), (0, .ref l0_82), (1, .int (iI l1_82)), (2, .int (iI s82.1)), (3, .int (iI l3_82)), (4, .int (iI s82.2.1))]) hC dL_isWell_113 (by decide) rfl ?_
      refine jj_aload_n hC dL_isWell_115 rfl 3 rfl ?_
      refine jj_iload hC dL_isWell_116 7 rfl ?_
      obtain ⟨q13, hq13, h⟩ := bd_e h
      obtain ⟨v13, hv13, h⟩ := el_n h
      subst hv13
      refine jj_invV hC mvX9_achievedDistance wd1489 wd1490 wd1488 hl0_82 (by decide) rfl (xX9_achievedDistance_n (OKC.tr hC) hl0_82 hs82_1 hq13) rfl rfl (c_le rfl) (c_le rfl) (by omega) (by omega) dL_isWell_118 noXk (po_kI (fun hr13 => ?_))
      refine jj_istore (lv' := [(8, .int (iI v13)), (7, .int (iI v12)), (6, .int (iI v11)), (5, .int (iI v10)), (0, .ref l0_82), (1, .int (iI l1_82)), (2, .int (iI s82.1)), (3, .int (iI l3_82)), (4, .int (iI s82.2.1))]) hC dL_isWell_121 (by decide) rfl ?_
      refine jj_iload hC dL_isWell_123 3 rfl ?_
      refine jj_if_eq (tgt := 132) hC dL_isWell_125 rfl (r_z hr10) (fun hc => ?_) (fun hc => ?_)
      · replace h := (if_pos hc).symm.trans h
        refine jj_iconst hC dL_isWell_132 ?_
        refine jj_widen (k' := 0 + 2 * s82.2.2.2) (n' := 256 * (0 + 2 * s82.2.2.2)) (by omega) (by omega) ?_
        refine jj_lv (lv' := [(0, .ref l0_82), (1, .int (iI l1_82)), (2, .int (iI s82.1)), (3, .int (iI l3_82)), (4, .int (iI s82.2.1)), (5, .int (iI v10)), (6, .int (iI v11)), (7, .int (iI v12)), (8, .int (iI v13))]) [4, 5, 6, 7, 8, 3, 2, 1, 0] rfl ?_
        exact hB133 sz82 s82.2.2.1 s82.1 s82.2.1 v10 v11 v12 v13 0 hx82 hs82_0 hs82_1 hr10 hr11 hr12 hr13 (show (0 ≤ (0 : Int) ∧ (0 : Int) ≤ 1) from by decide) hl0_82 hcc82 h
      · replace h := (if_neg (hc)).symm.trans h
        refine jj_iconst hC dL_isWell_128 ?_
        refine jj_goto (tgt := 133) hC dL_isWell_129 rfl ?_
        refine jj_widen (k' := 0 + 2 * s82.2.2.2) (n' := 256 * (0 + 2 * s82.2.2.2)) (by omega) (by omega) ?_
        refine jj_lv (lv' := [(0, .ref l0_82), (1, .int (iI l1_82)), (2, .int (iI s82.1)), (3, .int (iI l3_82)), (4, .int (iI s82.2.1)), (5, .int (iI v10)), (6, .int (iI v11)), (7, .int (iI v12)), (8, .int (iI v13))]) [4, 5, 6, 7, 8, 3, 2, 1, 0] rfl ?_
        exact hB133 sz82 s82.2.2.1 s82.1 s82.2.1 v10 v11 v12 v13 1 hx82 hs82_0 hs82_1 hr10 hr11 hr12 hr13 (show (0 ≤ (1 : Int) ∧ (1 : Int) ≤ 1) from by decide) hl0_82 hcc82 h
  have hL501 : ∀ (sz501 : Nat) (l0_501 : Nat) (l1_501 : Int) (l2_501 : Int), Ex2 S Ln S Ln → S l0_501 = 12 → (-2147483648 ≤ l1_501 ∧ l1_501 < 2147483648) → (-2147483648 ≤ l2_501 ∧ l2_501 < 2147483648) → ∀ (n : Nat) (s501 : Int × gM) (q : (gM) ⊕ (Int × gM)), lp (fL_isWell_L501 G.2.2.2.2 S Ln R l0_501 l1_501 l2_501) n s501 = some q → (-2147483648 ≤ s501.1 ∧ s501.1 < 2147483648) → (∀ e501, q = .inl e501 → True → JJ G C 16 4096 sz501 S Ln e501 R 578 [(0, .ref l0_501), (1, .int (iI l1_501)), (2, .int (iI l2_501))] []) → (∀ c, q = .inr c → c = r) → JJ G C 16 4096 sz501 S Ln s501.2 R 501 [(0, .ref l0_501), (1, .int (iI l1_501)), (2, .int (iI l2_501)), (4, .int (iI s501.1))] [] := by
    intro sz501 l0_501 l1_501 l2_501 hx501 hl0_501 hl1_501 hl2_501
    refine lp_ind ?_
    intro s501 r501 hI501 h hJ501 hE501 hR501
    have hs501_0 := hI501
    have hL514 : ∀ (sz514 : Nat) (M514 : gM) (l0_514 : Nat) (l1_514 : Int) (l2_514 : Int) (l4_514 : Int), Ex2 S Ln S Ln → S l0_514 = 12 → (-2147483648 ≤ l1_514 ∧ l1_514 < 2147483648) → (-2147483648 ≤ l2_514 ∧ l2_514 < 2147483648) → (-2147483648 ≤ l4_514 ∧ l4_514 < 2147483648) → ∀ (n : Nat) (s514 : Int × Int) (q : (Int) ⊕ (Int × gM)), lp (fL_isWell_L514 G.2.2.2.2 S Ln R M514 l0_514 l1_514 l2_514 l4_514) n s514 = some q → (-2147483648 ≤ s514.1 ∧ s514.1 < 2147483648) ∧ (-2147483648 ≤ s514.2 ∧ s514.2 < 2147483648) → (∀ e514, q = .inl e514 → (-2147483648 ≤ e514 ∧ e514 < 2147483648) → JJ G C 16 4096 sz514 S Ln M514 R 548 [(0, .ref l0_514), (1, .int (iI l1_514)), (2, .int (iI l2_514)), (4, .int (iI l4_514)), (5, .int (iI e514))] []) → (∀ c, q = .inr c → c = r) → JJ G C 16 4096 sz514 S Ln M514 R 514 [(0, .ref l0_514), (1, .int (iI l1_514)), (2, .int (iI l2_514)), (4, .int (iI l4_514)), (5, .int (iI s514.1)), (6, .int (iI s514.2))] [] := by
      intro sz514 M514 l0_514 l1_514 l2_514 l4_514 hx514 hl0_514 hl1_514 hl2_514 hl4_514
      refine lp_ind ?_
      intro s514 r514 hI514 h hJ514 hE514 hR514
      obtain ⟨hs514_0, hs514_1⟩ := hI514
      have hB539 : ∀ (l6_539 : Int) (s0_539 : Int) (s1_539 : Int), Ex2 S Ln S Ln → (-2147483648 ≤ l6_539 ∧ l6_539 < 2147483648) → (0 ≤ s0_539 ∧ s0_539 ≤ 1) → (-2147483648 ≤ s1_539 ∧ s1_539 < 2147483648) → S l0_514 = 12 → fL_isWell_B539 G.2.2.2.2 S Ln R M514 l0_514 l1_514 l2_514 l4_514 l6_539 s0_539 s1_539 = some r514 → JJ G C 16 4096 sz514 S Ln M514 R 539 [(0, .ref l0_514), (1, .int (iI l1_514)), (2, .int (iI l2_514)), (4, .int (iI l4_514)), (6, .int (iI l6_539))] [.int (iI s0_539), .int (iI s1_539)] := by
        intro l6_539 s0_539 s1_539 hx539 hl6_539 hs0_539 hs1_539 hl0_514_539 h
        unfold fL_isWell_B539 at h
        refine jg_iadd hC dL_isWell_539 ?_
        refine jj_istore (lv' := [(5, .int (iI (w32 (s1_539 + s0_539)))), (0, .ref l0_514), (1, .int (iI l1_514)), (2, .int (iI l2_514)), (4, .int (iI l4_514)), (6, .int (iI l6_539))]) hC dL_isWell_540 (by decide) rfl ?_
        refine jg_iinc (q := 5) (lv' := [(6, .int (iI (w32 (l6_539 + 1)))), (5, .int (iI (w32 (s1_539 + s0_539)))), (0, .ref l0_514), (1, .int (iI l1_514)), (2, .int (iI l2_514)), (4, .int (iI l4_514))]) hC dL_isWell_542 rfl (by decide) rfl ?_
        refine jj_goto (tgt := 514) hC dL_isWell_545 rfl ?_
        refine jj_lv (lv' := [(0, .ref l0_514), (1, .int (iI l1_514)), (2, .int (iI l2_514)), (4, .int (iI l4_514)), (5, .int (iI (w32 (s1_539 + s0_539)))), (6, .int (iI (w32 (l6_539 + 1))))]) [2, 3, 4, 5, 1, 0] rfl ?_
        exact hJ514 _ (Option.some.inj h).symm ⟨(w32_r _), (w32_r _)⟩
      unfold fL_isWell_L514 at h
      refine jj_iload hC dL_isWell_514 5 rfl ?_
      refine jj_bipush hC dL_isWell_516 (by decide) ?_
      refine jj_icmp_gt (tgt := 548) hC dL_isWell_518 rfl hs514_1 (show (-2147483648 ≤ (60 : Int) ∧ (60 : Int) < 2147483648) from by decide) (fun hc => ?_) (fun hc => ?_)
      · replace h := (if_pos hc).symm.trans h
        refine jj_lv (lv' := [(0, .ref l0_514), (1, .int (iI l1_514)), (2, .int (iI l2_514)), (4, .int (iI l4_514)), (5, .int (iI s514.1))]) [0, 1, 2, 3, 4] rfl ?_
        exact hE514 _ (Option.some.inj h).symm hs514_0
      · replace h := (if_neg (Int.not_lt.mpr hc)).symm.trans h
        refine jj_iload hC dL_isWell_521 4 rfl ?_
        refine jj_aload_n hC dL_isWell_523 rfl 0 rfl ?_
        refine jj_iload hC dL_isWell_524 5 rfl ?_
        refine jj_iload hC dL_isWell_526 3 rfl ?_
        obtain ⟨q43, hq43, h⟩ := bd_e h
        obtain ⟨v43, hv43, h⟩ := el_n h
        subst hv43
        refine jj_invV hC mvX9_isRestricted wd1521 wd1522 wd1520 hl0_514 (by decide) rfl (xX9_isRestricted_n (OKC.tr hC) hl0_514 hs514_1 hl4_514 hq43) rfl rfl (c_le rfl) (c_le rfl) (by omega) (by omega) dL_isWell_528 noXk (po_kZ (fun hr43 => ?_))
        refine jj_if_eq (tgt := 538) hC dL_isWell_531 rfl (r_z hr43) (fun hc => ?_) (fun hc => ?_)
        · replace h := (if_pos hc).symm.trans h
          refine jj_iconst hC dL_isWell_538 ?_
          refine jj_widen (k' := 16) (n' := 4096) (by omega) (by omega) ?_
          refine jj_lv (lv' := [(0, .ref l0_514), (1, .int (iI l1_514)), (2, .int (iI l2_514)), (4, .int (iI l4_514)), (6, .int (iI s514.2))]) [0, 1, 2, 3, 5] rfl ?_
          exact hB539 s514.2 0 s514.1 hx514 hs514_1 (show (0 ≤ (0 : Int) ∧ (0 : Int) ≤ 1) from by decide) hs514_0 hl0_514 h
        · replace h := (if_neg (hc)).symm.trans h
          refine jj_iconst hC dL_isWell_534 ?_
          refine jj_goto (tgt := 539) hC dL_isWell_535 rfl ?_
          refine jj_widen (k' := 16) (n' := 4096) (by omega) (by omega) ?_
          refine jj_lv (lv' := [(0, .ref l0_514), (1, .int (iI l1_514)), (2, .int (iI l2_514)), (4, .int (iI l4_514)), (6, .int (iI s514.2))]) [0, 1, 2, 3, 5] rfl ?_
          exact hB539 s514.2 1 s514.1 hx514 hs514_1 (show (0 ≤ (1 : Int) ∧ (1 : Int) ≤ 1) from by decide) hs514_0 hl0_514 h
    unfold fL_isWell_L501 at h
    refine jj_iload hC dL_isWell_501 3 rfl ?_
    refine jj_bipush hC dL_isWell_503 (by decide) ?_
    refine jj_icmp_gt (tgt := 578) hC dL_isWell_505 rfl hs501_0 (show (-2147483648 ≤ (60 : Int) ∧ (60 : Int) < 2147483648) from by decide) (fun hc => ?_) (fun hc => ?_)
    · replace h := (if_pos hc).symm.trans h
      refine jj_lv (lv' := [(0, .ref l0_501), (1, .int (iI l1_501)), (2, .int (iI l2_501))]) [0, 1, 2] rfl ?_
      exact hE501 _ (Option.some.inj h).symm trivial
    · replace h := (if_neg (Int.not_lt.mpr hc)).symm.trans h
      refine jj_iconst hC dL_isWell_508 ?_
      refine jj_istore (lv' := [(5, .int (iI 0)), (0, .ref l0_501), (1, .int (iI l1_501)), (2, .int (iI l2_501)), (4, .int (iI s501.1))]) hC dL_isWell_509 (by decide) rfl ?_
      refine jj_iconst hC dL_isWell_511 ?_
      refine jj_istore (lv' := [(6, .int (iI 0)), (5, .int (iI 0)), (0, .ref l0_501), (1, .int (iI l1_501)), (2, .int (iI l2_501)), (4, .int (iI s501.1))]) hC dL_isWell_512 (by decide) rfl ?_
      obtain ⟨q47, hq47, h⟩ := bd_e h
      refine jj_lv (lv' := [(0, .ref l0_501), (1, .int (iI l1_501)), (2, .int (iI l2_501)), (4, .int (iI s501.1)), (5, .int (iI 0)), (6, .int (iI 0))]) [2, 3, 4, 5, 1, 0] rfl ?_
      refine hL514 sz501 s501.2 l0_501 l1_501 l2_501 s501.1 hx501 hl0_501 hl1_501 hl2_501 hs501_0 FU _ q47 hq47 ⟨(show (-2147483648 ≤ (0 : Int) ∧ (0 : Int) < 2147483648) from by decide), (show (-2147483648 ≤ (0 : Int) ∧ (0 : Int) < 2147483648) from by decide)⟩ (fun e514_44 he47 hIE47 => ?_) (fun c47 hc47 => ?_)
      · subst he47
        replace h := el_l h
        have he514_44_0 := hIE47
        refine jj_aload_n hC dL_isWell_548 rfl 0 rfl ?_
        refine jj_iload hC dL_isWell_549 3 rfl ?_
        obtain ⟨q45, hq45, h⟩ := bd_e h
        obtain ⟨v45, hv45, h⟩ := el_n h
        subst hv45
        refine jj_invV hC mvX9_restrictedInRow wd1464 wd1465 wd1463 hl0_501 (by decide) rfl (xX9_restrictedInRow_n (OKC.tr hC) hl0_501 hs501_0 hq45) rfl rfl (c_le rfl) (c_le rfl) (by omega) (by omega) dL_isWell_551 noXk (po_kI (fun hr45 => ?_))
        refine jj_iload hC dL_isWell_554 4 rfl ?_
        refine jj_icmp_ne (tgt := 570) hC dL_isWell_556 rfl hr45 he514_44_0 (fun hc => ?_) (fun hc => ?_)
        · replace h := (if_pos hc).symm.trans h
          refine jj_iconst hC dL_isWell_570 ?_
          have h := hR501 _ (Option.some.inj h).symm
          subst h
          exact jj_zret hC (show (0 ≤ (0 : Int) ∧ (0 : Int) ≤ 1) from by decide) (by omega) (by omega) dL_isWell_571 ⟨rfl, (show (0 ≤ (0 : Int) ∧ (0 : Int) ≤ 1) from by decide), hx501, rfl, rfl, rfl, rfl⟩
        · replace h := (if_neg (fun k => k hc)).symm.trans h
          refine jj_aload_n hC dL_isWell_559 rfl 0 rfl ?_
          refine jj_iload hC dL_isWell_560 3 rfl ?_
          obtain ⟨q46, hq46, h⟩ := bd_e h
          obtain ⟨v46, hv46, h⟩ := el_n h
          subst hv46
          refine jj_invV hC mvX9_restrictedInRowByRanges wd1526 wd1527 wd1525 hl0_501 (by decide) rfl (xX9_restrictedInRowByRanges_n (OKC.tr hC) hl0_501 hs501_0 hq46) rfl rfl (c_le rfl) (c_le rfl) (by omega) (by omega) dL_isWell_562 noXk (po_kI (fun hr46 => ?_))
          refine jj_iload hC dL_isWell_565 4 rfl ?_
          refine jj_icmp_eq (tgt := 572) hC dL_isWell_567 rfl hr46 he514_44_0 (fun hc => ?_) (fun hc => ?_)
          · replace h := (if_pos hc).symm.trans h
            refine jg_iinc (q := 3) (lv' := [(4, .int (iI (w32 (s501.1 + 5)))), (0, .ref l0_501), (1, .int (iI l1_501)), (2, .int (iI l2_501)), (5, .int (iI e514_44))]) hC dL_isWell_572 rfl (by decide) rfl ?_
            refine jj_goto (tgt := 501) hC dL_isWell_575 rfl ?_
            refine jj_lv (lv' := [(0, .ref l0_501), (1, .int (iI l1_501)), (2, .int (iI l2_501)), (4, .int (iI (w32 (s501.1 + 5))))]) [1, 2, 3, 0] rfl ?_
            exact hJ501 _ (Option.some.inj h).symm (w32_r _)
          · replace h := (if_neg (hc)).symm.trans h
            refine jj_iconst hC dL_isWell_570 ?_
            have h := hR501 _ (Option.some.inj h).symm
            subst h
            exact jj_zret hC (show (0 ≤ (0 : Int) ∧ (0 : Int) ≤ 1) from by decide) (by omega) (by omega) dL_isWell_571 ⟨rfl, (show (0 ≤ (0 : Int) ∧ (0 : Int) ≤ 1) from by decide), hx501, rfl, rfl, rfl, rfl⟩
      · subst hc47
        replace h := el_r h
        exact hR501 _ (Option.some.inj h).symm
  have hB603 : ∀ (sz603 : Nat) (M603 : gM) (l0_603 : Nat) (s0_603 : Int) (s1_603 : Int), Ex2 S Ln S Ln → S l0_603 = 12 → (0 ≤ s0_603 ∧ s0_603 ≤ 1) → (0 ≤ s1_603 ∧ s1_603 ≤ 1) → fL_isWell_B603 G.2.2.2.2 S Ln R M603 l0_603 s0_603 s1_603 = some r → JJ G C 16 4096 sz603 S Ln M603 R 603 [(0, .ref l0_603)] [.int (iI s0_603), .int (iI s1_603)] := by
    intro sz603 M603 l0_603 s0_603 s1_603 hx603 hl0_603 hs0_603 hs1_603 h
    unfold fL_isWell_B603 at h
    refine jj_icmp_ne (tgt := 617) hC dL_isWell_603 rfl (r_z hs1_603) (r_z hs0_603) (fun hc => ?_) (fun hc => ?_)
    · replace h := (if_pos hc).symm.trans h
      refine jj_iconst hC dL_isWell_617 ?_
      cases h
      exact jj_zret hC (show (0 ≤ (0 : Int) ∧ (0 : Int) ≤ 1) from by decide) (by omega) (by omega) dL_isWell_618 ⟨rfl, (show (0 ≤ (0 : Int) ∧ (0 : Int) ≤ 1) from by decide), hx603, rfl, rfl, rfl, rfl⟩
    · replace h := (if_neg (fun k => k hc)).symm.trans h
      refine jj_aload_n hC dL_isWell_606 rfl 0 rfl ?_
      obtain ⟨q52, hq52, h⟩ := bd_e h
      refine jj_invV hC mvX9_isConsistent wd1547 wd1548 wd1546 hl0_603 (by decide) rfl (xX9_isConsistent (OKC.tr hC) hl0_603 hq52) rfl rfl (c_le rfl) (c_le rfl) (by omega) (by omega) dL_isWell_607 noXk (po_kZ (fun hr52 => ?_))
      refine jj_if_eq (tgt := 617) hC dL_isWell_610 rfl (r_z hr52) (fun hc => ?_) (fun hc => ?_)
      · replace h := (if_pos hc).symm.trans h
        refine jj_iconst hC dL_isWell_617 ?_
        cases h
        exact jj_zret hC (show (0 ≤ (0 : Int) ∧ (0 : Int) ≤ 1) from by decide) (by omega) (by omega) dL_isWell_618 ⟨rfl, (show (0 ≤ (0 : Int) ∧ (0 : Int) ≤ 1) from by decide), hx603, rfl, rfl, rfl, rfl⟩
      · replace h := (if_neg (hc)).symm.trans h
        refine jj_iconst hC dL_isWell_613 ?_
        refine jj_goto (tgt := 618) hC dL_isWell_614 rfl ?_
        cases h
        exact jj_zret hC (show (0 ≤ (1 : Int) ∧ (1 : Int) ≤ 1) from by decide) (by omega) (by omega) dL_isWell_618 ⟨rfl, (show (0 ≤ (1 : Int) ∧ (1 : Int) ≤ 1) from by decide), hx603, rfl, rfl, rfl, rfl⟩
  have hB22 : ∀ (sz22 : Nat) (M22 : gM) (l0_22 : Nat) (s0_22 : Int), Ex2 S Ln S Ln → S l0_22 = 12 → (-2147483648 ≤ s0_22 ∧ s0_22 < 2147483648) → fL_isWell_B22 G.2.2.2.2 S Ln R M22 l0_22 s0_22 = some r → JJ G C 0 0 sz22 S Ln M22 R 22 [(0, .ref l0_22)] [.int (iI s0_22)] := by
    intro sz22 M22 l0_22 s0_22 hx22 hl0_22 hs0_22 h
    unfold fL_isWell_B22 at h
    refine jj_istore_n (lv' := [(1, .int (iI s0_22)), (0, .ref l0_22)]) hC dL_isWell_22 rfl (by decide) rfl ?_
    refine jj_iconst hC dL_isWell_23 ?_
    refine jj_istore_n (lv' := [(2, .int (iI 0)), (1, .int (iI s0_22)), (0, .ref l0_22)]) hC dL_isWell_24 rfl (by decide) rfl ?_
    refine jj_iconst hC dL_isWell_25 ?_
    refine jj_istore_n (lv' := [(3, .int (iI 0)), (2, .int (iI 0)), (1, .int (iI s0_22)), (0, .ref l0_22)]) hC dL_isWell_26 rfl (by decide) rfl ?_
    refine jj_iconst hC dL_isWell_27 ?_
    refine jj_istore (lv' := [(4, .int (iI 0)), (3, .int (iI 0)), (2, .int (iI 0)), (1, .int (iI s0_22)), (0, .ref l0_22)]) hC dL_isWell_28 (by decide) rfl ?_
    obtain ⟨q55, hq55, h⟩ := bd_e h
    refine jj_lv (lv' := [(0, .ref l0_22), (1, .int (iI s0_22)), (2, .int (iI 0)), (3, .int (iI 0)), (4, .int (iI 0))]) [4, 3, 2, 1, 0] rfl ?_
    refine hL30 sz22 M22 l0_22 s0_22 0 hx22 hl0_22 hs0_22 (show (0 ≤ (0 : Int) ∧ (0 : Int) ≤ 1) from by decide) FU _ q55 hq55 ⟨(show (-2147483648 ≤ (0 : Int) ∧ (0 : Int) < 2147483648) from by decide), (show (-2147483648 ≤ (0 : Int) ∧ (0 : Int) < 2147483648) from by decide)⟩ (fun e30_8 he55 hIE55 => ?_) (fun c55 hc55 => ?_)
    · subst he55
      replace h := el_l h
      have he30_8_0 := hIE55
      refine jj_iconst hC dL_isWell_79 ?_
      refine jj_istore (lv' := [(4, .int (iI 0)), (0, .ref l0_22), (1, .int (iI s0_22)), (2, .int (iI 0)), (3, .int (iI e30_8))]) hC dL_isWell_80 (by decide) rfl ?_
      obtain ⟨q54, hq54, h⟩ := bd_e h
      refine jj_widen (k' := 0 + 2 * 0) (n' := 256 * (0 + 2 * 0)) (by omega) (by omega) ?_
      refine jj_lv (lv' := [(0, .ref l0_22), (1, .int (iI s0_22)), (2, .int (iI 0)), (3, .int (iI e30_8)), (4, .int (iI 0))]) [1, 2, 3, 4, 0] rfl ?_
      refine hL82 l0_22 s0_22 e30_8 hs0_22 he30_8_0 FU _ q54 hq54 ⟨(show (-2147483648 ≤ (0 : Int) ∧ (0 : Int) < 2147483648) from by decide), (show (-2147483648 ≤ (0 : Int) ∧ (0 : Int) < 2147483648) from by decide), hl0_22, hx22⟩ (fun e82_42 he54 hIE54 sze82_42 => ?_) (fun c54 hc54 => ?_) sz22
      · subst he54
        replace h := el_l h
        obtain ⟨he82_42_0, he82_42_c0, hxe82_42⟩ := hIE54
        refine jj_iconst hC dL_isWell_498 ?_
        refine jj_istore (lv' := [(4, .int (iI 0)), (0, .ref l0_22), (1, .int (iI s0_22)), (2, .int (iI e82_42.1))]) hC dL_isWell_499 (by decide) rfl ?_
        obtain ⟨q53, hq53, h⟩ := bd_e h
        refine jj_lv (lv' := [(0, .ref l0_22), (1, .int (iI s0_22)), (2, .int (iI e82_42.1)), (4, .int (iI 0))]) [1, 2, 3, 0] rfl ?_
        refine hL501 sze82_42 l0_22 s0_22 e82_42.1 hxe82_42 he82_42_c0 hs0_22 he82_42_0 FU _ q53 hq53 (show (-2147483648 ≤ (0 : Int) ∧ (0 : Int) < 2147483648) from by decide) (fun e501_48 he53 hIE53 => ?_) (fun c53 hc53 => ?_)
        · subst he53
          replace h := el_l h
          refine jj_aload_n hC dL_isWell_578 rfl 0 rfl ?_
          obtain ⟨q49, hq49, h⟩ := bd_e h
          refine jj_invV hC mvX9_taskDistance wd1405 wd1406 wd1404 he82_42_c0 (by decide) rfl (xX9_taskDistance (OKC.tr hC) he82_42_c0 hq49) rfl rfl (c_le rfl) (c_le rfl) (by omega) (by omega) dL_isWell_579 noXk (po_kI (fun hr49 => ?_))
          refine jj_iload_n hC dL_isWell_582 rfl 1 rfl ?_
          refine jj_icmp_ne (tgt := 617) hC dL_isWell_583 rfl hr49 hs0_22 (fun hc => ?_) (fun hc => ?_)
          · replace h := (if_pos hc).symm.trans h
            refine jj_iconst hC dL_isWell_617 ?_
            cases h
            exact jj_zret hC (show (0 ≤ (0 : Int) ∧ (0 : Int) ≤ 1) from by decide) (by omega) (by omega) dL_isWell_618 ⟨rfl, (show (0 ≤ (0 : Int) ∧ (0 : Int) ≤ 1) from by decide), hxe82_42, rfl, rfl, rfl, rfl⟩
          · replace h := (if_neg (fun k => k hc)).symm.trans h
            refine jj_aload_n hC dL_isWell_586 rfl 0 rfl ?_
            obtain ⟨q50, hq50, h⟩ := bd_e h
            refine jj_invV hC mvX9_isPlanning wd1543 wd1544 wd1542 he82_42_c0 (by decide) rfl (xX9_isPlanning (OKC.tr hC) he82_42_c0 hq50) rfl rfl (c_le rfl) (c_le rfl) (by omega) (by omega) dL_isWell_587 noXk (po_kZ (fun hr50 => ?_))
            refine jj_iload_n hC dL_isWell_590 rfl 2 rfl ?_
            refine jj_aload_n hC dL_isWell_591 rfl 0 rfl ?_
            obtain ⟨q51, hq51, h⟩ := bd_e h
            refine jj_invV hC mvX9_pilotCount wd1232 wd1233 wd1231 he82_42_c0 (by decide) rfl (xX9_pilotCount (OKC.tr hC) he82_42_c0 hq51) rfl rfl (c_le rfl) (c_le rfl) (by omega) (by omega) dL_isWell_592 noXk (po_kI (fun hr51 => ?_))
            refine jj_icmp_ne (tgt := 602) hC dL_isWell_595 rfl he82_42_0 hr51 (fun hc => ?_) (fun hc => ?_)
            · replace h := (if_pos hc).symm.trans h
              refine jj_iconst hC dL_isWell_602 ?_
              refine jj_widen (k' := 16) (n' := 4096) (by omega) (by omega) ?_
              refine jj_lv (lv' := [(0, .ref l0_22)]) [0] rfl ?_
              exact hB603 sze82_42 e501_48 l0_22 0 q50 hxe82_42 he82_42_c0 (show (0 ≤ (0 : Int) ∧ (0 : Int) ≤ 1) from by decide) hr50 h
            · replace h := (if_neg (fun k => k hc)).symm.trans h
              refine jj_iconst hC dL_isWell_598 ?_
              refine jj_goto (tgt := 603) hC dL_isWell_599 rfl ?_
              refine jj_widen (k' := 16) (n' := 4096) (by omega) (by omega) ?_
              refine jj_lv (lv' := [(0, .ref l0_22)]) [0] rfl ?_
              exact hB603 sze82_42 e501_48 l0_22 1 q50 hxe82_42 he82_42_c0 (show (0 ≤ (1 : Int) ∧ (1 : Int) ≤ 1) from by decide) hr50 h
        · subst hc53
          replace h := el_r h
          exact Option.some.inj h
      · subst hc54
        replace h := el_r h
        exact Option.some.inj h
    · subst hc55
      replace h := el_r h
      exact Option.some.inj h
  unfold fL_isWell at h
  refine jj_aload_n hC dL_isWell_0 rfl 0 rfl ?_
  obtain ⟨q1, hq1, h⟩ := bd_e h
  refine jj_invV hC mvX9_taskLength wd1393 wd1394 wd1392 hp0 (by decide) rfl (xX9_taskLength (OKC.tr hC) hp0 hq1) rfl rfl (c_le rfl) (c_le rfl) (by omega) (by omega) dL_isWell_1 noXk (po_kI (fun hr1 => ?_))
  refine jj_iconst hC dL_isWell_4 ?_
  refine jj_icmp_ge (tgt := 12) hC dL_isWell_5 rfl hr1 (show (-2147483648 ≤ (2 : Int) ∧ (2 : Int) < 2147483648) from by decide) (fun hc => ?_) (fun hc => ?_)
  · replace h := (if_pos hc).symm.trans h
    refine jj_aload_n hC dL_isWell_12 rfl 0 rfl ?_
    refine jj_aload_n hC dL_isWell_13 rfl 0 rfl ?_
    obtain ⟨q2, hq2, h⟩ := bd_e h
    refine jj_invV hC mvX9_taskLength wd1393 wd1394 wd1392 hp0 (by decide) rfl (xX9_taskLength (OKC.tr hC) hp0 hq2) rfl rfl (c_le rfl) (c_le rfl) (by omega) (by omega) dL_isWell_14 noXk (po_kI (fun hr2 => ?_))
    refine jj_iconst hC dL_isWell_17 ?_
    refine jg_isub hC dL_isWell_18 ?_
    obtain ⟨q3, hq3, h⟩ := bd_e h
    refine jj_invS hC mvL_legs wd1479 wd1478 (xL_legs (OKC.tr hC) hp0 (w32_r _) hq3) rfl rfl (c_le rfl) (c_le rfl) (by omega) (by omega) dL_isWell_19 noXk (po_kI (fun hr3 => ?_))
    refine jj_widen (k' := 0) (n' := 0) (by omega) (by omega) ?_
    refine jj_lv (lv' := [(0, .ref x0)]) [0] rfl ?_
    exact hB22 sz M x0 q3 ex2_r hp0 hr3 h
  · replace h := (if_neg (Int.not_le.mpr hc)).symm.trans h
    refine jj_iconst hC dL_isWell_8 ?_
    refine jj_goto (tgt := 22) hC dL_isWell_9 rfl ?_
    refine jj_widen (k' := 0) (n' := 0) (by omega) (by omega) ?_
    refine jj_lv (lv' := [(0, .ref x0)]) [0] rfl ?_
    exact hB22 sz M x0 0 ex2_r hp0 (show (-2147483648 ≤ (0 : Int) ∧ (0 : Int) < 2147483648) from by decide) h
