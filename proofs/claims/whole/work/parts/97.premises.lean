/-! The start: what the premises say of the constants -/
def atF : List Cond := flatC (Jvm.Cond.and given_1 narrow_1)
def st_own : Nat → String
  | 0 => "GlidingContest$Script"
  | 1 => "GlidingContest$Script"
  | 2 => "GlidingContest$Script"
  | 3 => "GlidingContest$Script"
  | 4 => "GlidingContest$Script"
  | 5 => "GlidingContest$Script"
  | 6 => "GlidingContest$Script"
  | 7 => "GlidingContest$Script"
  | 8 => "GlidingContest$Script"
  | 9 => "GlidingContest$Script"
  | 10 => "GlidingContest"
  | 11 => "GlidingContest"
  | 12 => "GlidingContestModel"
  | 13 => "GlidingContestModel"
  | 14 => "GlidingContestModel"
  | 15 => "GlidingContestModel"
  | 16 => "GlidingContestModel"
  | 17 => "GlidingContestModel"
  | 18 => "GlidingContestModel"
  | 19 => "GlidingContestModel"
  | 20 => "GlidingContestModel"
  | 21 => "GlidingContestModel"
  | 22 => "GlidingContestModel"
  | _ => ""
def st_k : Nat → Nat
  | 0 => 50
  | 1 => 52
  | 2 => 54
  | 3 => 56
  | 4 => 58
  | 5 => 60
  | 6 => 62
  | 7 => 64
  | 8 => 66
  | 9 => 109
  | 10 => 439
  | 11 => 444
  | 12 => 217
  | 13 => 243
  | 14 => 245
  | 15 => 254
  | 16 => 256
  | 17 => 258
  | 18 => 266
  | 19 => 268
  | 20 => 270
  | 21 => 275
  | 22 => 277
  | _ => 0
def st_b : Nat → Nat
  | 0 => 1031
  | 1 => 1044
  | 2 => 1054
  | 3 => 1071
  | 4 => 1087
  | 5 => 1098
  | 6 => 1110
  | 7 => 1122
  | 8 => 1135
  | 9 => 1142
  | 10 => 1262
  | 11 => 1268
  | 12 => 1351
  | 13 => 1412
  | 14 => 1359
  | 15 => 1366
  | 16 => 1374
  | 17 => 1380
  | 18 => 1390
  | 19 => 1397
  | 20 => 1406
  | 21 => 1421
  | 22 => 1429
  | _ => 0
def st_x : Nat → Nat
  | 0 => 1459
  | 1 => 1460
  | 2 => 1461
  | 3 => 1462
  | 4 => 1463
  | 5 => 1464
  | 6 => 1465
  | 7 => 1466
  | 8 => 1467
  | 9 => 1468
  | 10 => 1473
  | 11 => 1474
  | 12 => 1478
  | 13 => 1486
  | 14 => 1479
  | 15 => 1480
  | 16 => 1481
  | 17 => 1482
  | 18 => 1483
  | 19 => 1484
  | 20 => 1485
  | 21 => 1487
  | 22 => 1488
  | _ => 0
def en_b : Nat → Nat
  | 0 => 4
  | 1 => 7
  | 2 => 14
  | 3 => 10
  | 4 => 244
  | 5 => 252
  | 6 => 231
  | 7 => 237
  | 8 => 261
  | _ => 0
abbrev tS (z : Nat) : Term := .string (st_own z) (st_k z)
abbrev tV (z : Nat) : Term := .field (tS z) "java/lang/String" "value" "[B"
abbrev tD1 : Term := .static "java/lang/Integer" "DigitOnes" "[B"
abbrev tD2 : Term := .static "java/lang/Integer" "DigitTens" "[B"
set_option maxRecDepth 100000 in
theorem st_1 : ∀ z, z < 23 → atF[st_b z]? = some (Cond.exactly (tS z) "java/lang/String") ∧ atF[st_b z + 1]? = some (Cond.eq (.field (tS z) "java/lang/String" "coder" "B") (.int 0)) ∧ atF[st_b z + 2]? = some (Cond.arrayOf (tV z) .byte) ∧ atF[st_b z + 3]? = some (Cond.eq (.length (tV z)) (.int (Int32.ofNat (kS z).length))) ∧ atF[st_x z]? = some (Cond.exactly (tV z) "[B") := by decide +kernel
set_option maxRecDepth 100000 in
theorem st_2 : ∀ z, z < 23 → ∀ j, j < (kS z).length → atF[st_b z + 4 + j]? = some (Cond.eq (.elem (tV z) (.int (Int32.ofNat j))) (.int (iI ((kS z).getD j 0)))) := by decide +kernel
set_option maxRecDepth 100000 in
theorem st_3 : (atF[24]? = some (Cond.arrayOf tD1 .byte) ∧ atF[25]? = some (Cond.eq (.length tD1) (.int (Int32.ofNat 100))) ∧ atF[1435]? = some (Cond.exactly tD1 "[B")) ∧ atF[127]? = some (Cond.arrayOf tD2 .byte) ∧ atF[128]? = some (Cond.eq (.length tD2) (.int (Int32.ofNat 100))) ∧ atF[1436]? = some (Cond.exactly tD2 "[B") := by decide +kernel
set_option maxRecDepth 100000 in
theorem st_4 : ∀ j, j < 100 → atF[26 + j]? = some (Cond.eq (.elem tD1 (.int (Int32.ofNat j))) (.int (iI (48 + (j : Int) % 10)))) := by decide +kernel
set_option maxRecDepth 100000 in
theorem st_5 : ∀ j, j < 100 → atF[129 + j]? = some (Cond.eq (.elem tD2 (.int (Int32.ofNat j))) (.int (iI (48 + (j : Int) / 10)))) := by decide +kernel
set_option maxRecDepth 100000 in
theorem st_6 : ∀ q ∈ gEn, q.2.2.2 < 9 ∧ atF[en_b q.2.2.2]? = some (Cond.exactly (.static q.1 q.2.1 q.2.2.1) q.1) ∧ Cond.laysStatic q.1 q.2.1 q.2.2.1 ∈ lw_tbl ∧ Cond.initialized q.1 ∈ lw_tbl := by decide +kernel
set_option maxRecDepth 100000 in
theorem st_7 : ∀ q ∈ gEn, ∀ r ∈ gEn, q.2.2.2 = r.2.2.2 ∨ Cond.not (.eq (.static q.1 q.2.1 q.2.2.1) (.static r.1 r.2.1 r.2.2.1)) ∈ atF ∨ Cond.not (.eq (.static r.1 r.2.1 r.2.2.1) (.static q.1 q.2.1 q.2.2.1)) ∈ atF := by decide +kernel
theorem st_7n : ∀ i, i < 9 → ∃ q ∈ gEn, q.2.2.2 = i := by decide +kernel
set_option maxRecDepth 100000 in
theorem st_8 : (Cond.eq (.static "java/lang/String" "COMPACT_STRINGS" "Z") (.int 1) ∈ atF ∧ Cond.eq (.static "java/lang/StringUTF16" "$assertionsDisabled" "Z") (.int 1) ∈ atF ∧ Cond.eq (.static "java/lang/StringUTF16" "HI_BYTE_SHIFT" "I") (.int 0) ∈ atF ∧ Cond.eq (.static "java/lang/StringUTF16" "LO_BYTE_SHIFT" "I") (.int 8) ∈ atF) ∧ ∀ q ∈ gSv, Cond.laysStatic q.1 q.2.1 q.2.2.1 ∈ lw_tbl ∧ Cond.initialized q.1 ∈ lw_tbl := by decide +kernel
set_option maxRecDepth 100000 in
theorem st_9 : ∀ q ∈ gSt, q.2.2.2 < 23 ∧ q.1 = st_own q.2.2.2 ∧ q.2.1 = st_k q.2.2.2 ∧ Cond.stringRef q.1 q.2.1 q.2.2.1 ∈ lw_tbl := by decide +kernel
set_option maxRecDepth 100000 in
theorem st_10 : ∀ q ∈ gTx, Cond.exactly (.string q.1 q.2.1) "java/lang/String" ∈ atF ∧ Cond.stringRef q.1 q.2.1 q.2.2 ∈ lw_tbl := by decide +kernel
set_option maxRecDepth 100000 in
theorem st_11 : ∀ q ∈ gNc, Cond.not (.castable q.1 q.2) ∈ atF := by decide +kernel
set_option maxRecDepth 100000 in
theorem st_12 : (Cond.laysStatic Bundle.tN "UNASSIGNED_STACK" Bundle.steD ∈ lw_tbl ∧ Cond.laysStatic Bundle.tN "SUPPRESSED_SENTINEL" Bundle.listD ∈ lw_tbl ∧ Cond.initialized Bundle.tN ∈ lw_tbl ∧ Cond.isRef (.static Bundle.tN "UNASSIGNED_STACK" Bundle.steD) ∈ atF ∧ Cond.isRef (.static Bundle.tN "SUPPRESSED_SENTINEL" Bundle.listD) ∈ atF) ∧
    (Cond.laysStatic "jdk/internal/util/Preconditions" "SIOOBE_FORMATTER" "Ljava/util/function/BiFunction;" ∈ lw_tbl ∧ Cond.initialized "jdk/internal/util/Preconditions" ∈ lw_tbl ∧ Cond.isRef (.static "jdk/internal/util/Preconditions" "SIOOBE_FORMATTER" "Ljava/util/function/BiFunction;") ∈ atF) ∧
    (Cond.laysStatic "java/lang/Integer" "DigitOnes" "[B" ∈ lw_tbl ∧ Cond.laysStatic "java/lang/Integer" "DigitTens" "[B" ∈ lw_tbl ∧ Cond.initialized "java/lang/Integer" ∈ lw_tbl) ∧
    (Cond.arrayClass .int ∈ lw_tbl ∧ Cond.arrayClass .long ∈ lw_tbl ∧ Cond.arrayClass .double ∈ lw_tbl ∧ Cond.arrayClass .byte ∈ lw_tbl ∧ Cond.arrayClass .char ∈ lw_tbl) ∧
    Cond.arrayOver (.array .int) ∈ lw_tbl ∧ Cond.arrayOver (.object "GlidingContest$Glider") ∈ lw_tbl ∧ Cond.arrayOver (.object "GlidingContest$State") ∈ lw_tbl := by decide +kernel
