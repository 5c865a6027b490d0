/-! The start: what the premises say of the constants -/
def atF : List Cond := flatC (Jvm.Cond.and given_1 narrow_1)
def st_own : Nat → String
  | 0 => "GlidingContest$Script"
  | 1 => "GlidingContest$Script"
  | 2 => "GlidingContest$Script"
  | 3 => "GlidingContest$Script"
  | 4 => "GlidingContest$Script"
  | 5 => "GlidingContest$Script"
  | 6 => "GlidingContest$Script"
  | 7 => "GlidingContest$Script"
  | 8 => "GlidingContest$Script"
  | 9 => "GlidingContest$Script"
  | 10 => "GlidingContest"
  | 11 => "GlidingContest"
  | 12 => "GlidingContestLaw"
  | 13 => "GlidingContestLaw"
  | 14 => "GlidingContestLaw"
  | 15 => "GlidingContestLaw"
  | 16 => "GlidingContestLaw"
  | 17 => "GlidingContestLaw"
  | 18 => "GlidingContestLaw"
  | 19 => "GlidingContestLaw"
  | 20 => "GlidingContestLaw"
  | _ => ""
def st_k : Nat → Nat
  | 0 => 50
  | 1 => 52
  | 2 => 54
  | 3 => 56
  | 4 => 58
  | 5 => 60
  | 6 => 62
  | 7 => 64
  | 8 => 66
  | 9 => 109
  | 10 => 439
  | 11 => 444
  | 12 => 159
  | 13 => 167
  | 14 => 173
  | 15 => 175
  | 16 => 177
  | 17 => 179
  | 18 => 181
  | 19 => 183
  | 20 => 185
  | _ => 0
def st_b : Nat → Nat
  | 0 => 1014
  | 1 => 1027
  | 2 => 1037
  | 3 => 1054
  | 4 => 1070
  | 5 => 1081
  | 6 => 1093
  | 7 => 1105
  | 8 => 1118
  | 9 => 1125
  | 10 => 526
  | 11 => 532
  | 12 => 918
  | 13 => 929
  | 14 => 934
  | 15 => 944
  | 16 => 949
  | 17 => 957
  | 18 => 963
  | 19 => 969
  | 20 => 977
  | _ => 0
def st_x : Nat → Nat
  | 0 => 1302
  | 1 => 1303
  | 2 => 1304
  | 3 => 1305
  | 4 => 1306
  | 5 => 1307
  | 6 => 1308
  | 7 => 1309
  | 8 => 1310
  | 9 => 1311
  | 10 => 1278
  | 11 => 1279
  | 12 => 1292
  | 13 => 1293
  | 14 => 1294
  | 15 => 1295
  | 16 => 1296
  | 17 => 1297
  | 18 => 1298
  | 19 => 1299
  | 20 => 1300
  | _ => 0
def en_b : Nat → Nat
  | 0 => 217
  | 1 => 219
  | 2 => 222
  | 3 => 261
  | 4 => 237
  | 5 => 244
  | 6 => 226
  | 7 => 231
  | 8 => 252
  | _ => 0
abbrev tS (z : Nat) : Term := .string (st_own z) (st_k z)
abbrev tV (z : Nat) : Term := .field (tS z) "java/lang/String" "value" "[B"
abbrev tD1 : Term := .static "java/lang/Integer" "DigitOnes" "[B"
abbrev tD2 : Term := .static "java/lang/Integer" "DigitTens" "[B"
set_option maxRecDepth 100000 in
theorem st_1 : ∀ z, z < 21 → atF[st_b z]? = some (Cond.exactly (tS z) "java/lang/String") ∧ atF[st_b z + 1]? = some (Cond.eq (.field (tS z) "java/lang/String" "coder" "B") (.int 0)) ∧ atF[st_b z + 2]? = some (Cond.arrayOf (tV z) .byte) ∧ atF[st_b z + 3]? = some (Cond.eq (.length (tV z)) (.int (Int32.ofNat (kS z).length))) ∧ atF[st_x z]? = some (Cond.exactly (tV z) "[B") := by decide +kernel
set_option maxRecDepth 100000 in
theorem st_2 : ∀ z, z < 21 → ∀ j, j < (kS z).length → atF[st_b z + 4 + j]? = some (Cond.eq (.elem (tV z) (.int (Int32.ofNat j))) (.int (iI ((kS z).getD j 0)))) := by decide +kernel
set_option maxRecDepth 100000 in
theorem st_3 : (atF[12]? = some (Cond.arrayOf tD1 .byte) ∧ atF[13]? = some (Cond.eq (.length tD1) (.int (Int32.ofNat 100))) ∧ atF[1269]? = some (Cond.exactly tD1 "[B")) ∧ atF[115]? = some (Cond.arrayOf tD2 .byte) ∧ atF[116]? = some (Cond.eq (.length tD2) (.int (Int32.ofNat 100))) ∧ atF[1270]? = some (Cond.exactly tD2 "[B") := by decide +kernel
set_option maxRecDepth 100000 in
theorem st_4 : ∀ j, j < 100 → atF[14 + j]? = some (Cond.eq (.elem tD1 (.int (Int32.ofNat j))) (.int (iI (48 + (j : Int) % 10)))) := by decide +kernel
set_option maxRecDepth 100000 in
theorem st_5 : ∀ j, j < 100 → atF[117 + j]? = some (Cond.eq (.elem tD2 (.int (Int32.ofNat j))) (.int (iI (48 + (j : Int) / 10)))) := by decide +kernel
set_option maxRecDepth 100000 in
theorem st_6 : ∀ q ∈ gEn, q.2.2.2 < 9 ∧ atF[en_b q.2.2.2]? = some (Cond.exactly (.static q.1 q.2.1 q.2.2.1) q.1) ∧ Cond.laysStatic q.1 q.2.1 q.2.2.1 ∈ lw_tbl ∧ Cond.initialized q.1 ∈ lw_tbl := by decide +kernel
set_option maxRecDepth 100000 in
theorem st_7 : ∀ q ∈ gEn, ∀ r ∈ gEn, q.2.2.2 = r.2.2.2 ∨ Cond.not (.eq (.static q.1 q.2.1 q.2.2.1) (.static r.1 r.2.1 r.2.2.1)) ∈ atF ∨ Cond.not (.eq (.static r.1 r.2.1 r.2.2.1) (.static q.1 q.2.1 q.2.2.1)) ∈ atF := by decide +kernel
theorem st_7n : ∀ i, i < 9 → ∃ q ∈ gEn, q.2.2.2 = i := by decide +kernel
set_option maxRecDepth 100000 in
theorem st_8 : (Cond.eq (.static "java/lang/String" "COMPACT_STRINGS" "Z") (.int 1) ∈ atF ∧ Cond.eq (.static "java/lang/StringUTF16" "$assertionsDisabled" "Z") (.int 1) ∈ atF ∧ Cond.eq (.static "java/lang/StringUTF16" "HI_BYTE_SHIFT" "I") (.int 0) ∈ atF ∧ Cond.eq (.static "java/lang/StringUTF16" "LO_BYTE_SHIFT" "I") (.int 8) ∈ atF) ∧ ∀ q ∈ gSv, Cond.laysStatic q.1 q.2.1 q.2.2.1 ∈ lw_tbl ∧ Cond.initialized q.1 ∈ lw_tbl := by decide +kernel
set_option maxRecDepth 100000 in
theorem st_9 : ∀ q ∈ gSt, q.2.2.2 < 21 ∧ q.1 = st_own q.2.2.2 ∧ q.2.1 = st_k q.2.2.2 ∧ Cond.stringRef q.1 q.2.1 q.2.2.1 ∈ lw_tbl := by decide +kernel
set_option maxRecDepth 100000 in
theorem st_10 : ∀ q ∈ gTx, Cond.exactly (.string q.1 q.2.1) "java/lang/String" ∈ atF ∧ Cond.stringRef q.1 q.2.1 q.2.2 ∈ lw_tbl := by decide +kernel
set_option maxRecDepth 100000 in
theorem st_11 : ∀ q ∈ gNc, Cond.not (.castable q.1 q.2) ∈ atF := by decide +kernel
set_option maxRecDepth 100000 in
theorem st_12 : (Cond.laysStatic Bundle.tN "UNASSIGNED_STACK" Bundle.steD ∈ lw_tbl ∧ Cond.laysStatic Bundle.tN "SUPPRESSED_SENTINEL" Bundle.listD ∈ lw_tbl ∧ Cond.initialized Bundle.tN ∈ lw_tbl ∧ Cond.isRef (.static Bundle.tN "UNASSIGNED_STACK" Bundle.steD) ∈ atF ∧ Cond.isRef (.static Bundle.tN "SUPPRESSED_SENTINEL" Bundle.listD) ∈ atF) ∧
    (Cond.laysStatic "jdk/internal/util/Preconditions" "SIOOBE_FORMATTER" "Ljava/util/function/BiFunction;" ∈ lw_tbl ∧ Cond.initialized "jdk/internal/util/Preconditions" ∈ lw_tbl ∧ Cond.isRef (.static "jdk/internal/util/Preconditions" "SIOOBE_FORMATTER" "Ljava/util/function/BiFunction;") ∈ atF) ∧
    (Cond.laysStatic "java/lang/Integer" "DigitOnes" "[B" ∈ lw_tbl ∧ Cond.laysStatic "java/lang/Integer" "DigitTens" "[B" ∈ lw_tbl ∧ Cond.initialized "java/lang/Integer" ∈ lw_tbl) ∧
    (Cond.arrayClass .int ∈ lw_tbl ∧ Cond.arrayClass .long ∈ lw_tbl ∧ Cond.arrayClass .byte ∈ lw_tbl ∧ Cond.arrayClass .char ∈ lw_tbl) ∧
    Cond.arrayOver (.array .int) ∈ lw_tbl ∧ Cond.arrayOver (.object "GlidingContest$Glider") ∈ lw_tbl ∧ Cond.arrayOver (.object "GlidingContest$State") ∈ lw_tbl := by decide +kernel
