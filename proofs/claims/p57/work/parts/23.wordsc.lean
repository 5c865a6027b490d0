section JJTC
variable {G : gE} {C : gC} {own : String} {cc : ByteArray} {nL : Nat} {ret : Option FieldType} {fr mc ms : Nat} {P : gP} {X : gX} {k n sz : Nat} {S Ln : Nat → Nat} {M : gM} {R : gR} {pc : Nat} {lv lv' : List (Nat × Value)} {st : List Value}
/-- throw new E(text) -/
theorem jj_throwC (hC : OKC G C own cc nL ret fr mc ms P X) {cls text : String} {names : List String} {ik is ic : Nat} (i : Nat) (hi : gTx[i]? = some (own, is, text)) (hcls : Bundle.fit cls = true) (hnames : ∀ n ∈ names, Bundle.fit n = true) (hlen : names.length ≤ 4)
    (hk : Cond.classLink own ik cls ∈ gW) (hini : Cond.initialized cls ∈ gW) (hat : ∀ w ∈ vx_atS own ic cls names, w ∈ gW ∨ (w.onTables = true ∧ w ∈ gNW)) (hgood : ∀ w ∈ Cond.classLink own ik cls :: Cond.initialized cls :: vx_atS own ic cls names, vx_ot w = true)
    (d0 : decode cc pc = .ok (.new ik, 3)) (d3 : decode cc (pc + 3) = .ok (.dup, 1)) (d4 : decode cc (pc + 4) = .ok (.ldc_w is, 3)) (d7 : decode cc (pc + 7) = .ok (.invokespecial ic, 3)) (d10 : decode cc (pc + 10) = .ok (.athrow, 1))
    (hfr : 8 ≤ fr) (hW : (st.map fun v => v.category).sum ≤ 8) (h1 : k + 1 ≤ mc) (h2 : n + 6 ≤ ms) (hX : ∀ sz', sz ≤ sz' → X cls sz' S Ln M R) (ho : own ≠ "GlidingContestLaw" := by decide) : JJ G C k n sz S Ln M R pc lv st := by
  obtain ⟨p, l, e, Rm, s, m, args, below, meth, c, Q⟩ := C
  obtain ⟨hx, hb, hml, hown, hts, hE, hlk2, hrt, hst, hRm, hQ, htab, hz⟩ := hC
  intro H locs ls hR hS hl
  subst hQ
  obtain ⟨rm1, rm2, rm3, rm4⟩ := hRm
  obtain ⟨h9, ⟨h10, h10n⟩, z1, z2, z3, z45, z6, z7, z8, z9, z10⟩ := hE
  obtain ⟨sa, hsa⟩ := z7 _ (List.mem_of_getElem? hi)
  refine vx_throwSW (sa := sa) (names := names) hx hb hst hown hcls hnames (hts _ hk) (hts _ hini) hsa ?_ hgood z8 z9 hS hl.1 d0 d3 d4 d7 d10 (fun x hx => (htab ho x hx).elim) (by show names.length + 3 < Rm.frames; omega) (by show _ ≤ Rm.locals; omega) (by show k + 1 ≤ Rm.cells; omega) (by show n + 6 ≤ Rm.slots; omega) hlk2 ?_ hS.2.2 h1 h2
  · intro w hw
    rcases hat w hw with h | ⟨h0, h⟩
    · exact hts _ h
    · exact va_Nw.use h0 (h10 _ h)
  · intro t _ ht1 ht2
    refine ⟨⟨t.heap.size, S, Ln, M, R, hX _ (by rw [← hR.1]; exact ht1), rfl, fun a ha => ?_⟩, ?_, ?_⟩
    · obtain ⟨r1, r2, r3, r5, r4⟩ := hR.2 a ha
      have hH := hR.1
      exact ⟨by omega, r2, r3, r5, gm_cell.kept r4 (ht2 a (by omega))⟩
    · exact Nat.le_trans hS.1 ht1
    · intro q h3 h4
      rw [ht2 q (Nat.lt_of_lt_of_le h3 hS.1)]
      exact hS.2.1 q h3 h4
end JJTC
theorem tat_ofC {L : List Cond} (h : L.all (fun w => decide (w ∈ lw_tbl) && (goodWord w || (w.onTables && gNk w))) = true) : ∀ w ∈ L, w ∈ gW ∨ (w.onTables = true ∧ w ∈ gNW) := by
  intro w hw
  have h1 := List.all_eq_true.mp h w hw
  simp only [Bool.and_eq_true, Bool.or_eq_true, decide_eq_true_eq] at h1
  rcases h1.2 with h2 | h2
  · exact Or.inl (List.mem_filter.mpr ⟨h1.1, h2⟩)
  · exact Or.inr ⟨h2.1, List.mem_filter.mpr ⟨h1.1, h2.2⟩⟩
theorem wd576 : Cond.fieldLink RX9 400 "GlidingContest$Refusal" "INDEX" "LGlidingContest$Refusal;" ∈ gW := gW_in 576 (by decide +kernel) (by decide +kernel)
theorem wd579 : Cond.fieldLink RX9 405 "GlidingContest$Refusal" "ARGUMENT" "LGlidingContest$Refusal;" ∈ gW := gW_in 579 (by decide +kernel) (by decide +kernel)
theorem wd581 : Cond.fieldLink RX9 410 "GlidingContest$Refusal" "STATE" "LGlidingContest$Refusal;" ∈ gW := gW_in 581 (by decide +kernel) (by decide +kernel)
theorem wd598 : Cond.fieldLink RX9 415 "GlidingContest$Refusal" "UNSUPPORTED" "LGlidingContest$Refusal;" ∈ gW := gW_in 598 (by decide +kernel) (by decide +kernel)
theorem wd600 : Cond.classLink RX9 349 "java/lang/UnsupportedOperationException" ∈ gW := gW_in 600 (by decide +kernel) (by decide +kernel)
theorem wd44 : Cond.initialized "java/lang/UnsupportedOperationException" ∈ gW := gW_in 44 (by decide +kernel) (by decide +kernel)
theorem ta_UnsupportedOperationException353 : ∀ w ∈ vx_atS RX9 353 "java/lang/UnsupportedOperationException" ["java/lang/RuntimeException", "java/lang/Exception"], w ∈ gW ∨ (w.onTables = true ∧ w ∈ gNW) := tat_ofC (by decide +kernel)
theorem tg_UnsupportedOperationException353 : ∀ w ∈ Cond.classLink RX9 349 "java/lang/UnsupportedOperationException" :: Cond.initialized "java/lang/UnsupportedOperationException" :: vx_atS RX9 353 "java/lang/UnsupportedOperationException" ["java/lang/RuntimeException", "java/lang/Exception"], vx_ot w = true := tal_of (by decide +kernel)
theorem wd582 : Cond.classLink RX9 88 "java/lang/IllegalStateException" ∈ gW := gW_in 582 (by decide +kernel) (by decide +kernel)
theorem wd43 : Cond.initialized "java/lang/IllegalStateException" ∈ gW := gW_in 43 (by decide +kernel) (by decide +kernel)
theorem ta_IllegalStateException92 : ∀ w ∈ vx_atS RX9 92 "java/lang/IllegalStateException" ["java/lang/RuntimeException", "java/lang/Exception"], w ∈ gW ∨ (w.onTables = true ∧ w ∈ gNW) := tat_ofC (by decide +kernel)
theorem tg_IllegalStateException92 : ∀ w ∈ Cond.classLink RX9 88 "java/lang/IllegalStateException" :: Cond.initialized "java/lang/IllegalStateException" :: vx_atS RX9 92 "java/lang/IllegalStateException" ["java/lang/RuntimeException", "java/lang/Exception"], vx_ot w = true := tal_of (by decide +kernel)
theorem wd541 : Cond.classLink RX9 113 "java/lang/IllegalArgumentException" ∈ gW := gW_in 541 (by decide +kernel) (by decide +kernel)
theorem wd42 : Cond.initialized "java/lang/IllegalArgumentException" ∈ gW := gW_in 42 (by decide +kernel) (by decide +kernel)
theorem ta_IllegalArgumentException117 : ∀ w ∈ vx_atS RX9 117 "java/lang/IllegalArgumentException" ["java/lang/RuntimeException", "java/lang/Exception"], w ∈ gW ∨ (w.onTables = true ∧ w ∈ gNW) := tat_ofC (by decide +kernel)
theorem tg_IllegalArgumentException117 : ∀ w ∈ Cond.classLink RX9 113 "java/lang/IllegalArgumentException" :: Cond.initialized "java/lang/IllegalArgumentException" :: vx_atS RX9 117 "java/lang/IllegalArgumentException" ["java/lang/RuntimeException", "java/lang/Exception"], vx_ot w = true := tal_of (by decide +kernel)
theorem wd69 : Cond.classLink RX9 173 "java/lang/IndexOutOfBoundsException" ∈ gW := gW_in 69 (by decide +kernel) (by decide +kernel)
theorem wd41 : Cond.initialized "java/lang/IndexOutOfBoundsException" ∈ gW := gW_in 41 (by decide +kernel) (by decide +kernel)
theorem ta_IndexOutOfBoundsException177 : ∀ w ∈ vx_atS RX9 177 "java/lang/IndexOutOfBoundsException" ["java/lang/RuntimeException", "java/lang/Exception"], w ∈ gW ∨ (w.onTables = true ∧ w ∈ gNW) := tat_ofC (by decide +kernel)
theorem tg_IndexOutOfBoundsException177 : ∀ w ∈ Cond.classLink RX9 173 "java/lang/IndexOutOfBoundsException" :: Cond.initialized "java/lang/IndexOutOfBoundsException" :: vx_atS RX9 177 "java/lang/IndexOutOfBoundsException" ["java/lang/RuntimeException", "java/lang/Exception"], vx_ot w = true := tal_of (by decide +kernel)
theorem dX9_refuse_0 : decode cX9_refuse 0 = .ok (.aload_n 0, 1) := by decide +kernel
theorem dX9_refuse_1 : decode cX9_refuse 1 = .ok (.getstatic 400, 3) := by decide +kernel
theorem dX9_refuse_4 : decode cX9_refuse 4 = .ok (.if_acmp .ne 14, 3) := by decide +kernel
theorem dX9_refuse_7 : decode cX9_refuse 7 = .ok (.new 173, 3) := by decide +kernel
theorem dX9_refuse_10 : decode cX9_refuse 10 = .ok (.dup, 1) := by decide +kernel
theorem dX9_refuse_11 : decode cX9_refuse 11 = .ok (.ldc_w 403, 3) := by decide +kernel
theorem dX9_refuse_14 : decode cX9_refuse 14 = .ok (.invokespecial 177, 3) := by decide +kernel
theorem dX9_refuse_17 : decode cX9_refuse 17 = .ok (.athrow, 1) := by decide +kernel
theorem dX9_refuse_18 : decode cX9_refuse 18 = .ok (.aload_n 0, 1) := by decide +kernel
theorem dX9_refuse_19 : decode cX9_refuse 19 = .ok (.getstatic 405, 3) := by decide +kernel
theorem dX9_refuse_22 : decode cX9_refuse 22 = .ok (.if_acmp .ne 14, 3) := by decide +kernel
theorem dX9_refuse_25 : decode cX9_refuse 25 = .ok (.new 113, 3) := by decide +kernel
theorem dX9_refuse_28 : decode cX9_refuse 28 = .ok (.dup, 1) := by decide +kernel
theorem dX9_refuse_29 : decode cX9_refuse 29 = .ok (.ldc_w 408, 3) := by decide +kernel
theorem dX9_refuse_32 : decode cX9_refuse 32 = .ok (.invokespecial 117, 3) := by decide +kernel
theorem dX9_refuse_35 : decode cX9_refuse 35 = .ok (.athrow, 1) := by decide +kernel
theorem dX9_refuse_36 : decode cX9_refuse 36 = .ok (.aload_n 0, 1) := by decide +kernel
theorem dX9_refuse_37 : decode cX9_refuse 37 = .ok (.getstatic 410, 3) := by decide +kernel
theorem dX9_refuse_40 : decode cX9_refuse 40 = .ok (.if_acmp .ne 14, 3) := by decide +kernel
theorem dX9_refuse_43 : decode cX9_refuse 43 = .ok (.new 88, 3) := by decide +kernel
theorem dX9_refuse_46 : decode cX9_refuse 46 = .ok (.dup, 1) := by decide +kernel
theorem dX9_refuse_47 : decode cX9_refuse 47 = .ok (.ldc_w 413, 3) := by decide +kernel
theorem dX9_refuse_50 : decode cX9_refuse 50 = .ok (.invokespecial 92, 3) := by decide +kernel
theorem dX9_refuse_53 : decode cX9_refuse 53 = .ok (.athrow, 1) := by decide +kernel
theorem dX9_refuse_54 : decode cX9_refuse 54 = .ok (.aload_n 0, 1) := by decide +kernel
theorem dX9_refuse_55 : decode cX9_refuse 55 = .ok (.getstatic 415, 3) := by decide +kernel
theorem dX9_refuse_58 : decode cX9_refuse 58 = .ok (.if_acmp .ne 14, 3) := by decide +kernel
theorem dX9_refuse_61 : decode cX9_refuse 61 = .ok (.new 349, 3) := by decide +kernel
theorem dX9_refuse_64 : decode cX9_refuse 64 = .ok (.dup, 1) := by decide +kernel
theorem dX9_refuse_65 : decode cX9_refuse 65 = .ok (.ldc_w 418, 3) := by decide +kernel
theorem dX9_refuse_68 : decode cX9_refuse 68 = .ok (.invokespecial 353, 3) := by decide +kernel
theorem dX9_refuse_71 : decode cX9_refuse 71 = .ok (.athrow, 1) := by decide +kernel
theorem dX9_refuse_72 : decode cX9_refuse 72 = .ok (.return_, 1) := by decide +kernel
theorem wd1117 : Cond.fieldLink RX9 10 (TX9 0).1 (TX9 0).2.1 (TX9 0).2.2.1 ∈ gW := gW_in 1117 (by decide +kernel) (by decide +kernel)
theorem kfX9 : KF 12 RX9 TX9 9 tyX9 := ⟨by decide, by decide, rfl, gW_all (by decide +kernel), tyX9_ok, nmX9⟩
theorem wd1155 : Cond.code yX8_refusalOfPoint cX8_refusalOfPoint 3 (some (.object "GlidingContest$Refusal")) ∈ gW := gW_in 1155 (by decide +kernel) (by decide +kernel)
theorem mvX8_refusalOfPoint : MV yX8_refusalOfPoint cX8_refusalOfPoint 3 (some (.object "GlidingContest$Refusal")) 2 := ⟨wd1155, wd24, by decide +kernel, by decide +kernel, by decide +kernel, by decide⟩
theorem wd1153 : Cond.instanceMethod yX8_refusalOfPoint ∈ gW := gW_in 1153 (by decide +kernel) (by decide +kernel)
theorem wd1154 : Cond.selects yX8_refusalOfPoint.cls yX8_refusalOfPoint yX8_refusalOfPoint ∈ gW := gW_in 1154 (by decide +kernel) (by decide +kernel)
theorem wd1152 : Cond.methodLink RX9 54 yX8_refusalOfPoint ∈ gW := gW_in 1152 (by decide +kernel) (by decide +kernel)
theorem wd575 : Cond.code yX9_refuse cX9_refuse 1 none ∈ gW := gW_in 575 (by decide +kernel) (by decide +kernel)
theorem mvX9_refuse : MV yX9_refuse cX9_refuse 1 none 1 := ⟨wd575, wd23, by decide +kernel, by decide +kernel, by decide +kernel, by decide⟩
theorem wd574 : Cond.static yX9_refuse ∈ gW := gW_in 574 (by decide +kernel) (by decide +kernel)
theorem wd573 : Cond.methodLink RX9 58 yX9_refuse ∈ gW := gW_in 573 (by decide +kernel) (by decide +kernel)
theorem wd1120 : Cond.fieldLink RX9 25 (TX9 3).1 (TX9 3).2.1 (TX9 3).2.2.1 ∈ gW := gW_in 1120 (by decide +kernel) (by decide +kernel)
theorem wd547 : Cond.code yX4_keep cX4_keep 2 none ∈ gW := gW_in 547 (by decide +kernel) (by decide +kernel)
theorem mvX4_keep : MV yX4_keep cX4_keep 2 none 1 := ⟨wd547, wd31, by decide +kernel, by decide +kernel, by decide +kernel, by decide⟩
theorem wd545 : Cond.instanceMethod yX4_keep ∈ gW := gW_in 545 (by decide +kernel) (by decide +kernel)
theorem wd546 : Cond.selects yX4_keep.cls yX4_keep yX4_keep ∈ gW := gW_in 546 (by decide +kernel) (by decide +kernel)
theorem wd544 : Cond.methodLink RX9 62 yX4_keep ∈ gW := gW_in 544 (by decide +kernel) (by decide +kernel)
theorem wd1037 : Cond.fieldLink RX9 66 (TX8 0).1 (TX8 0).2.1 (TX8 0).2.2.1 ∈ gW := gW_in 1037 (by decide +kernel) (by decide +kernel)
theorem wd1159 : Cond.code yX2_putPoint cX2_putPoint 3 (some .int) ∈ gW := gW_in 1159 (by decide +kernel) (by decide +kernel)
theorem mvX2_putPoint : MV yX2_putPoint cX2_putPoint 3 (some .int) 2 := ⟨wd1159, wd25, by decide +kernel, by decide +kernel, by decide +kernel, by decide⟩
theorem wd1157 : Cond.instanceMethod yX2_putPoint ∈ gW := gW_in 1157 (by decide +kernel) (by decide +kernel)
theorem wd1158 : Cond.selects yX2_putPoint.cls yX2_putPoint yX2_putPoint ∈ gW := gW_in 1158 (by decide +kernel) (by decide +kernel)
theorem wd1156 : Cond.methodLink RX9 70 yX2_putPoint ∈ gW := gW_in 1156 (by decide +kernel) (by decide +kernel)
theorem dX9_addPoint_0 : decode cX9_addPoint 0 = .ok (.aload_n 0, 1) := by decide +kernel
theorem dX9_addPoint_1 : decode cX9_addPoint 1 = .ok (.getfield 10, 3) := by decide +kernel
theorem dX9_addPoint_4 : decode cX9_addPoint 4 = .ok (.iload_n 1, 1) := by decide +kernel
theorem dX9_addPoint_5 : decode cX9_addPoint 5 = .ok (.iload_n 2, 1) := by decide +kernel
theorem dX9_addPoint_6 : decode cX9_addPoint 6 = .ok (.invokevirtual 54, 3) := by decide +kernel
theorem dX9_addPoint_9 : decode cX9_addPoint 9 = .ok (.invokestatic 58, 3) := by decide +kernel
theorem dX9_addPoint_12 : decode cX9_addPoint 12 = .ok (.aload_n 0, 1) := by decide +kernel
theorem dX9_addPoint_13 : decode cX9_addPoint 13 = .ok (.getfield 25, 3) := by decide +kernel
theorem dX9_addPoint_16 : decode cX9_addPoint 16 = .ok (.aload_n 0, 1) := by decide +kernel
theorem dX9_addPoint_17 : decode cX9_addPoint 17 = .ok (.getfield 10, 3) := by decide +kernel
theorem dX9_addPoint_20 : decode cX9_addPoint 20 = .ok (.invokevirtual 62, 3) := by decide +kernel
theorem dX9_addPoint_23 : decode cX9_addPoint 23 = .ok (.aload_n 0, 1) := by decide +kernel
theorem dX9_addPoint_24 : decode cX9_addPoint 24 = .ok (.getfield 10, 3) := by decide +kernel
theorem dX9_addPoint_27 : decode cX9_addPoint 27 = .ok (.getfield 66, 3) := by decide +kernel
theorem dX9_addPoint_30 : decode cX9_addPoint 30 = .ok (.iload_n 1, 1) := by decide +kernel
theorem dX9_addPoint_31 : decode cX9_addPoint 31 = .ok (.iload_n 2, 1) := by decide +kernel
theorem dX9_addPoint_32 : decode cX9_addPoint 32 = .ok (.invokevirtual 70, 3) := by decide +kernel
theorem dX9_addPoint_35 : decode cX9_addPoint 35 = .ok (.ireturn, 1) := by decide +kernel
theorem wd1170 : Cond.code yX8_refusalOfStop cX8_refusalOfStop 2 (some (.object "GlidingContest$Refusal")) ∈ gW := gW_in 1170 (by decide +kernel) (by decide +kernel)
theorem mvX8_refusalOfStop : MV yX8_refusalOfStop cX8_refusalOfStop 2 (some (.object "GlidingContest$Refusal")) 1 := ⟨wd1170, wd24, by decide +kernel, by decide +kernel, by decide +kernel, by decide⟩
theorem wd1168 : Cond.instanceMethod yX8_refusalOfStop ∈ gW := gW_in 1168 (by decide +kernel) (by decide +kernel)
theorem wd1169 : Cond.selects yX8_refusalOfStop.cls yX8_refusalOfStop yX8_refusalOfStop ∈ gW := gW_in 1169 (by decide +kernel) (by decide +kernel)
theorem wd1167 : Cond.methodLink RX9 76 yX8_refusalOfStop ∈ gW := gW_in 1167 (by decide +kernel) (by decide +kernel)
theorem wd1183 : Cond.code yX2_putStop cX2_putStop 2 (some .int) ∈ gW := gW_in 1183 (by decide +kernel) (by decide +kernel)
theorem mvX2_putStop : MV yX2_putStop cX2_putStop 2 (some .int) 1 := ⟨wd1183, wd25, by decide +kernel, by decide +kernel, by decide +kernel, by decide⟩
theorem wd1181 : Cond.instanceMethod yX2_putStop ∈ gW := gW_in 1181 (by decide +kernel) (by decide +kernel)
theorem wd1182 : Cond.selects yX2_putStop.cls yX2_putStop yX2_putStop ∈ gW := gW_in 1182 (by decide +kernel) (by decide +kernel)
theorem wd1180 : Cond.methodLink RX9 80 yX2_putStop ∈ gW := gW_in 1180 (by decide +kernel) (by decide +kernel)
theorem dX9_addTaskPoint_0 : decode cX9_addTaskPoint 0 = .ok (.aload_n 0, 1) := by decide +kernel
theorem dX9_addTaskPoint_1 : decode cX9_addTaskPoint 1 = .ok (.getfield 10, 3) := by decide +kernel
theorem dX9_addTaskPoint_4 : decode cX9_addTaskPoint 4 = .ok (.iload_n 1, 1) := by decide +kernel
theorem dX9_addTaskPoint_5 : decode cX9_addTaskPoint 5 = .ok (.invokevirtual 76, 3) := by decide +kernel
theorem dX9_addTaskPoint_8 : decode cX9_addTaskPoint 8 = .ok (.invokestatic 58, 3) := by decide +kernel
theorem dX9_addTaskPoint_11 : decode cX9_addTaskPoint 11 = .ok (.aload_n 0, 1) := by decide +kernel
theorem dX9_addTaskPoint_12 : decode cX9_addTaskPoint 12 = .ok (.getfield 25, 3) := by decide +kernel
theorem dX9_addTaskPoint_15 : decode cX9_addTaskPoint 15 = .ok (.aload_n 0, 1) := by decide +kernel
theorem dX9_addTaskPoint_16 : decode cX9_addTaskPoint 16 = .ok (.getfield 10, 3) := by decide +kernel
theorem dX9_addTaskPoint_19 : decode cX9_addTaskPoint 19 = .ok (.invokevirtual 62, 3) := by decide +kernel
theorem dX9_addTaskPoint_22 : decode cX9_addTaskPoint 22 = .ok (.aload_n 0, 1) := by decide +kernel
theorem dX9_addTaskPoint_23 : decode cX9_addTaskPoint 23 = .ok (.getfield 10, 3) := by decide +kernel
theorem dX9_addTaskPoint_26 : decode cX9_addTaskPoint 26 = .ok (.getfield 66, 3) := by decide +kernel
theorem dX9_addTaskPoint_29 : decode cX9_addTaskPoint 29 = .ok (.iload_n 1, 1) := by decide +kernel
theorem dX9_addTaskPoint_30 : decode cX9_addTaskPoint 30 = .ok (.invokevirtual 80, 3) := by decide +kernel
theorem dX9_addTaskPoint_33 : decode cX9_addTaskPoint 33 = .ok (.ireturn, 1) := by decide +kernel
theorem wd1225 : Cond.methodLink RX9 84 yX8_allWaiting ∈ gW := gW_in 1225 (by decide +kernel) (by decide +kernel)
theorem wd1230 : Cond.code yX2_dropStops cX2_dropStops 2 (some .int) ∈ gW := gW_in 1230 (by decide +kernel) (by decide +kernel)
theorem mvX2_dropStops : MV yX2_dropStops cX2_dropStops 2 (some .int) 0 := ⟨wd1230, wd25, by decide +kernel, by decide +kernel, by decide +kernel, by decide⟩
theorem wd1228 : Cond.instanceMethod yX2_dropStops ∈ gW := gW_in 1228 (by decide +kernel) (by decide +kernel)
theorem wd1229 : Cond.selects yX2_dropStops.cls yX2_dropStops yX2_dropStops ∈ gW := gW_in 1229 (by decide +kernel) (by decide +kernel)
theorem wd1227 : Cond.methodLink RX9 95 yX2_dropStops ∈ gW := gW_in 1227 (by decide +kernel) (by decide +kernel)
theorem dX9_clearTask_0 : decode cX9_clearTask 0 = .ok (.aload_n 0, 1) := by decide +kernel
theorem dX9_clearTask_1 : decode cX9_clearTask 1 = .ok (.getfield 10, 3) := by decide +kernel
theorem dX9_clearTask_4 : decode cX9_clearTask 4 = .ok (.invokevirtual 84, 3) := by decide +kernel
theorem dX9_clearTask_7 : decode cX9_clearTask 7 = .ok (.ifCond .ne 13, 3) := by decide +kernel
theorem dX9_clearTask_10 : decode cX9_clearTask 10 = .ok (.new 88, 3) := by decide +kernel
theorem dX9_clearTask_13 : decode cX9_clearTask 13 = .ok (.dup, 1) := by decide +kernel
theorem dX9_clearTask_14 : decode cX9_clearTask 14 = .ok (.ldc 90, 2) := by decide +kernel
theorem dX9_clearTask_16 : decode cX9_clearTask 16 = .ok (.invokespecial 92, 3) := by decide +kernel
theorem dX9_clearTask_19 : decode cX9_clearTask 19 = .ok (.athrow, 1) := by decide +kernel
theorem dX9_clearTask_20 : decode cX9_clearTask 20 = .ok (.aload_n 0, 1) := by decide +kernel
theorem dX9_clearTask_21 : decode cX9_clearTask 21 = .ok (.getfield 25, 3) := by decide +kernel
theorem dX9_clearTask_24 : decode cX9_clearTask 24 = .ok (.aload_n 0, 1) := by decide +kernel
theorem dX9_clearTask_25 : decode cX9_clearTask 25 = .ok (.getfield 10, 3) := by decide +kernel
theorem dX9_clearTask_28 : decode cX9_clearTask 28 = .ok (.invokevirtual 62, 3) := by decide +kernel
theorem dX9_clearTask_31 : decode cX9_clearTask 31 = .ok (.aload_n 0, 1) := by decide +kernel
theorem dX9_clearTask_32 : decode cX9_clearTask 32 = .ok (.getfield 10, 3) := by decide +kernel
theorem dX9_clearTask_35 : decode cX9_clearTask 35 = .ok (.getfield 66, 3) := by decide +kernel
theorem dX9_clearTask_38 : decode cX9_clearTask 38 = .ok (.invokevirtual 95, 3) := by decide +kernel
theorem dX9_clearTask_41 : decode cX9_clearTask 41 = .ok (.ireturn, 1) := by decide +kernel
theorem wd1194 : Cond.code yX8_refusalOfThermal cX8_refusalOfThermal 4 (some (.object "GlidingContest$Refusal")) ∈ gW := gW_in 1194 (by decide +kernel) (by decide +kernel)
theorem mvX8_refusalOfThermal : MV yX8_refusalOfThermal cX8_refusalOfThermal 4 (some (.object "GlidingContest$Refusal")) 3 := ⟨wd1194, wd24, by decide +kernel, by decide +kernel, by decide +kernel, by decide⟩
theorem wd1192 : Cond.instanceMethod yX8_refusalOfThermal ∈ gW := gW_in 1192 (by decide +kernel) (by decide +kernel)
theorem wd1193 : Cond.selects yX8_refusalOfThermal.cls yX8_refusalOfThermal yX8_refusalOfThermal ∈ gW := gW_in 1193 (by decide +kernel) (by decide +kernel)
theorem wd1191 : Cond.methodLink RX9 99 yX8_refusalOfThermal ∈ gW := gW_in 1191 (by decide +kernel) (by decide +kernel)
theorem wd1039 : Cond.fieldLink RX9 103 (TX8 1).1 (TX8 1).2.1 (TX8 1).2.2.1 ∈ gW := gW_in 1039 (by decide +kernel) (by decide +kernel)
theorem wd1198 : Cond.code yX0_putThermal cX0_putThermal 4 (some .int) ∈ gW := gW_in 1198 (by decide +kernel) (by decide +kernel)
theorem mvX0_putThermal : MV yX0_putThermal cX0_putThermal 4 (some .int) 3 := ⟨wd1198, wd26, by decide +kernel, by decide +kernel, by decide +kernel, by decide⟩
theorem wd1196 : Cond.instanceMethod yX0_putThermal ∈ gW := gW_in 1196 (by decide +kernel) (by decide +kernel)
theorem wd1197 : Cond.selects yX0_putThermal.cls yX0_putThermal yX0_putThermal ∈ gW := gW_in 1197 (by decide +kernel) (by decide +kernel)
theorem wd1195 : Cond.methodLink RX9 107 yX0_putThermal ∈ gW := gW_in 1195 (by decide +kernel) (by decide +kernel)
theorem dX9_addThermal_0 : decode cX9_addThermal 0 = .ok (.aload_n 0, 1) := by decide +kernel
theorem dX9_addThermal_1 : decode cX9_addThermal 1 = .ok (.getfield 10, 3) := by decide +kernel
theorem dX9_addThermal_4 : decode cX9_addThermal 4 = .ok (.iload_n 1, 1) := by decide +kernel
theorem dX9_addThermal_5 : decode cX9_addThermal 5 = .ok (.iload_n 2, 1) := by decide +kernel
theorem dX9_addThermal_6 : decode cX9_addThermal 6 = .ok (.iload_n 3, 1) := by decide +kernel
theorem dX9_addThermal_7 : decode cX9_addThermal 7 = .ok (.invokevirtual 99, 3) := by decide +kernel
theorem dX9_addThermal_10 : decode cX9_addThermal 10 = .ok (.invokestatic 58, 3) := by decide +kernel
theorem dX9_addThermal_13 : decode cX9_addThermal 13 = .ok (.aload_n 0, 1) := by decide +kernel
theorem dX9_addThermal_14 : decode cX9_addThermal 14 = .ok (.getfield 25, 3) := by decide +kernel
theorem dX9_addThermal_17 : decode cX9_addThermal 17 = .ok (.aload_n 0, 1) := by decide +kernel
theorem dX9_addThermal_18 : decode cX9_addThermal 18 = .ok (.getfield 10, 3) := by decide +kernel
theorem dX9_addThermal_21 : decode cX9_addThermal 21 = .ok (.invokevirtual 62, 3) := by decide +kernel
theorem dX9_addThermal_24 : decode cX9_addThermal 24 = .ok (.aload_n 0, 1) := by decide +kernel
theorem dX9_addThermal_25 : decode cX9_addThermal 25 = .ok (.getfield 10, 3) := by decide +kernel
theorem dX9_addThermal_28 : decode cX9_addThermal 28 = .ok (.getfield 103, 3) := by decide +kernel
theorem dX9_addThermal_31 : decode cX9_addThermal 31 = .ok (.iload_n 1, 1) := by decide +kernel
theorem dX9_addThermal_32 : decode cX9_addThermal 32 = .ok (.iload_n 2, 1) := by decide +kernel
theorem dX9_addThermal_33 : decode cX9_addThermal 33 = .ok (.iload_n 3, 1) := by decide +kernel
theorem dX9_addThermal_34 : decode cX9_addThermal 34 = .ok (.invokevirtual 107, 3) := by decide +kernel
theorem dX9_addThermal_37 : decode cX9_addThermal 37 = .ok (.ireturn, 1) := by decide +kernel
theorem wd942 : Cond.fieldLink RX9 118 (TX0 4).1 (TX0 4).2.1 (TX0 4).2.2.1 ∈ gW := gW_in 942 (by decide +kernel) (by decide +kernel)
theorem dX9_setCloudBase_0 : decode cX9_setCloudBase 0 = .ok (.iload_n 1, 1) := by decide +kernel
theorem dX9_setCloudBase_1 : decode cX9_setCloudBase 1 = .ok (.sipush 500, 3) := by decide +kernel
theorem dX9_setCloudBase_4 : decode cX9_setCloudBase 4 = .ok (.if_icmp .lt 10, 3) := by decide +kernel
theorem dX9_setCloudBase_7 : decode cX9_setCloudBase 7 = .ok (.iload_n 1, 1) := by decide +kernel
theorem dX9_setCloudBase_8 : decode cX9_setCloudBase 8 = .ok (.sipush 3000, 3) := by decide +kernel
theorem dX9_setCloudBase_11 : decode cX9_setCloudBase 11 = .ok (.if_icmp .le 13, 3) := by decide +kernel
theorem dX9_setCloudBase_14 : decode cX9_setCloudBase 14 = .ok (.new 113, 3) := by decide +kernel
theorem dX9_setCloudBase_17 : decode cX9_setCloudBase 17 = .ok (.dup, 1) := by decide +kernel
theorem dX9_setCloudBase_18 : decode cX9_setCloudBase 18 = .ok (.ldc 115, 2) := by decide +kernel
theorem dX9_setCloudBase_20 : decode cX9_setCloudBase 20 = .ok (.invokespecial 117, 3) := by decide +kernel
theorem dX9_setCloudBase_23 : decode cX9_setCloudBase 23 = .ok (.athrow, 1) := by decide +kernel
theorem dX9_setCloudBase_24 : decode cX9_setCloudBase 24 = .ok (.aload_n 0, 1) := by decide +kernel
theorem dX9_setCloudBase_25 : decode cX9_setCloudBase 25 = .ok (.getfield 25, 3) := by decide +kernel
theorem dX9_setCloudBase_28 : decode cX9_setCloudBase 28 = .ok (.aload_n 0, 1) := by decide +kernel
theorem dX9_setCloudBase_29 : decode cX9_setCloudBase 29 = .ok (.getfield 10, 3) := by decide +kernel
theorem dX9_setCloudBase_32 : decode cX9_setCloudBase 32 = .ok (.invokevirtual 62, 3) := by decide +kernel
theorem dX9_setCloudBase_35 : decode cX9_setCloudBase 35 = .ok (.aload_n 0, 1) := by decide +kernel
theorem dX9_setCloudBase_36 : decode cX9_setCloudBase 36 = .ok (.getfield 10, 3) := by decide +kernel
theorem dX9_setCloudBase_39 : decode cX9_setCloudBase 39 = .ok (.getfield 103, 3) := by decide +kernel
theorem dX9_setCloudBase_42 : decode cX9_setCloudBase 42 = .ok (.getfield 118, 3) := by decide +kernel
theorem dX9_setCloudBase_45 : decode cX9_setCloudBase 45 = .ok (.istore_n 2, 1) := by decide +kernel
theorem dX9_setCloudBase_46 : decode cX9_setCloudBase 46 = .ok (.aload_n 0, 1) := by decide +kernel
theorem dX9_setCloudBase_47 : decode cX9_setCloudBase 47 = .ok (.getfield 10, 3) := by decide +kernel
theorem dX9_setCloudBase_50 : decode cX9_setCloudBase 50 = .ok (.getfield 103, 3) := by decide +kernel
theorem dX9_setCloudBase_53 : decode cX9_setCloudBase 53 = .ok (.iload_n 1, 1) := by decide +kernel
theorem dX9_setCloudBase_54 : decode cX9_setCloudBase 54 = .ok (.putfield 118, 3) := by decide +kernel
theorem dX9_setCloudBase_57 : decode cX9_setCloudBase 57 = .ok (.iload_n 2, 1) := by decide +kernel
theorem dX9_setCloudBase_58 : decode cX9_setCloudBase 58 = .ok (.ireturn, 1) := by decide +kernel
theorem wd1209 : Cond.code yX8_refusalOfArea cX8_refusalOfArea 5 (some (.object "GlidingContest$Refusal")) ∈ gW := gW_in 1209 (by decide +kernel) (by decide +kernel)
theorem mvX8_refusalOfArea : MV yX8_refusalOfArea cX8_refusalOfArea 5 (some (.object "GlidingContest$Refusal")) 4 := ⟨wd1209, wd24, by decide +kernel, by decide +kernel, by decide +kernel, by decide⟩
theorem wd1207 : Cond.instanceMethod yX8_refusalOfArea ∈ gW := gW_in 1207 (by decide +kernel) (by decide +kernel)
theorem wd1208 : Cond.selects yX8_refusalOfArea.cls yX8_refusalOfArea yX8_refusalOfArea ∈ gW := gW_in 1208 (by decide +kernel) (by decide +kernel)
theorem wd1206 : Cond.methodLink RX9 121 yX8_refusalOfArea ∈ gW := gW_in 1206 (by decide +kernel) (by decide +kernel)
theorem wd1041 : Cond.fieldLink RX9 125 (TX8 2).1 (TX8 2).2.1 (TX8 2).2.2.1 ∈ gW := gW_in 1041 (by decide +kernel) (by decide +kernel)
theorem wd1213 : Cond.code yX1_putArea cX1_putArea 5 (some .int) ∈ gW := gW_in 1213 (by decide +kernel) (by decide +kernel)
theorem mvX1_putArea : MV yX1_putArea cX1_putArea 5 (some .int) 4 := ⟨wd1213, wd27, by decide +kernel, by decide +kernel, by decide +kernel, by decide⟩
theorem wd1211 : Cond.instanceMethod yX1_putArea ∈ gW := gW_in 1211 (by decide +kernel) (by decide +kernel)
theorem wd1212 : Cond.selects yX1_putArea.cls yX1_putArea yX1_putArea ∈ gW := gW_in 1212 (by decide +kernel) (by decide +kernel)
theorem wd1210 : Cond.methodLink RX9 129 yX1_putArea ∈ gW := gW_in 1210 (by decide +kernel) (by decide +kernel)
theorem dX9_addArea_0 : decode cX9_addArea 0 = .ok (.aload_n 0, 1) := by decide +kernel
theorem dX9_addArea_1 : decode cX9_addArea 1 = .ok (.getfield 10, 3) := by decide +kernel
theorem dX9_addArea_4 : decode cX9_addArea 4 = .ok (.iload_n 1, 1) := by decide +kernel
theorem dX9_addArea_5 : decode cX9_addArea 5 = .ok (.iload_n 2, 1) := by decide +kernel
theorem dX9_addArea_6 : decode cX9_addArea 6 = .ok (.iload_n 3, 1) := by decide +kernel
theorem dX9_addArea_7 : decode cX9_addArea 7 = .ok (.iload 4, 2) := by decide +kernel
theorem dX9_addArea_9 : decode cX9_addArea 9 = .ok (.invokevirtual 121, 3) := by decide +kernel
theorem dX9_addArea_12 : decode cX9_addArea 12 = .ok (.invokestatic 58, 3) := by decide +kernel
theorem dX9_addArea_15 : decode cX9_addArea 15 = .ok (.aload_n 0, 1) := by decide +kernel
theorem dX9_addArea_16 : decode cX9_addArea 16 = .ok (.getfield 25, 3) := by decide +kernel
theorem dX9_addArea_19 : decode cX9_addArea 19 = .ok (.aload_n 0, 1) := by decide +kernel
theorem dX9_addArea_20 : decode cX9_addArea 20 = .ok (.getfield 10, 3) := by decide +kernel
theorem dX9_addArea_23 : decode cX9_addArea 23 = .ok (.invokevirtual 62, 3) := by decide +kernel
theorem dX9_addArea_26 : decode cX9_addArea 26 = .ok (.aload_n 0, 1) := by decide +kernel
theorem dX9_addArea_27 : decode cX9_addArea 27 = .ok (.getfield 10, 3) := by decide +kernel
theorem dX9_addArea_30 : decode cX9_addArea 30 = .ok (.getfield 125, 3) := by decide +kernel
theorem dX9_addArea_33 : decode cX9_addArea 33 = .ok (.iload_n 1, 1) := by decide +kernel
theorem dX9_addArea_34 : decode cX9_addArea 34 = .ok (.iload_n 2, 1) := by decide +kernel
theorem dX9_addArea_35 : decode cX9_addArea 35 = .ok (.iload_n 3, 1) := by decide +kernel
theorem dX9_addArea_36 : decode cX9_addArea 36 = .ok (.iload 4, 2) := by decide +kernel
theorem dX9_addArea_38 : decode cX9_addArea 38 = .ok (.invokevirtual 129, 3) := by decide +kernel
theorem dX9_addArea_41 : decode cX9_addArea 41 = .ok (.ireturn, 1) := by decide +kernel
theorem wd566 : Cond.code yX8_refusalOfPilot cX8_refusalOfPilot 2 (some (.object "GlidingContest$Refusal")) ∈ gW := gW_in 566 (by decide +kernel) (by decide +kernel)
theorem mvX8_refusalOfPilot : MV yX8_refusalOfPilot cX8_refusalOfPilot 2 (some (.object "GlidingContest$Refusal")) 1 := ⟨wd566, wd24, by decide +kernel, by decide +kernel, by decide +kernel, by decide⟩
theorem wd564 : Cond.instanceMethod yX8_refusalOfPilot ∈ gW := gW_in 564 (by decide +kernel) (by decide +kernel)
theorem wd565 : Cond.selects yX8_refusalOfPilot.cls yX8_refusalOfPilot yX8_refusalOfPilot ∈ gW := gW_in 565 (by decide +kernel) (by decide +kernel)
theorem wd563 : Cond.methodLink RX9 135 yX8_refusalOfPilot ∈ gW := gW_in 563 (by decide +kernel) (by decide +kernel)
theorem wd619 : Cond.code yX8_putPilot cX8_putPilot 2 (some .int) ∈ gW := gW_in 619 (by decide +kernel) (by decide +kernel)
theorem mvX8_putPilot : MV yX8_putPilot cX8_putPilot 2 (some .int) 1 := ⟨wd619, wd24, by decide +kernel, by decide +kernel, by decide +kernel, by decide⟩
theorem wd617 : Cond.instanceMethod yX8_putPilot ∈ gW := gW_in 617 (by decide +kernel) (by decide +kernel)
theorem wd618 : Cond.selects yX8_putPilot.cls yX8_putPilot yX8_putPilot ∈ gW := gW_in 618 (by decide +kernel) (by decide +kernel)
theorem wd616 : Cond.methodLink RX9 138 yX8_putPilot ∈ gW := gW_in 616 (by decide +kernel) (by decide +kernel)
theorem dX9_addPilot_0 : decode cX9_addPilot 0 = .ok (.aload_n 0, 1) := by decide +kernel
theorem dX9_addPilot_1 : decode cX9_addPilot 1 = .ok (.getfield 10, 3) := by decide +kernel
theorem dX9_addPilot_4 : decode cX9_addPilot 4 = .ok (.iload_n 1, 1) := by decide +kernel
theorem dX9_addPilot_5 : decode cX9_addPilot 5 = .ok (.invokevirtual 135, 3) := by decide +kernel
theorem dX9_addPilot_8 : decode cX9_addPilot 8 = .ok (.invokestatic 58, 3) := by decide +kernel
theorem dX9_addPilot_11 : decode cX9_addPilot 11 = .ok (.aload_n 0, 1) := by decide +kernel
theorem dX9_addPilot_12 : decode cX9_addPilot 12 = .ok (.getfield 25, 3) := by decide +kernel
theorem dX9_addPilot_15 : decode cX9_addPilot 15 = .ok (.aload_n 0, 1) := by decide +kernel
theorem dX9_addPilot_16 : decode cX9_addPilot 16 = .ok (.getfield 10, 3) := by decide +kernel
theorem dX9_addPilot_19 : decode cX9_addPilot 19 = .ok (.invokevirtual 62, 3) := by decide +kernel
theorem dX9_addPilot_22 : decode cX9_addPilot 22 = .ok (.aload_n 0, 1) := by decide +kernel
theorem dX9_addPilot_23 : decode cX9_addPilot 23 = .ok (.getfield 10, 3) := by decide +kernel
theorem dX9_addPilot_26 : decode cX9_addPilot 26 = .ok (.iload_n 1, 1) := by decide +kernel
theorem dX9_addPilot_27 : decode cX9_addPilot 27 = .ok (.invokevirtual 138, 3) := by decide +kernel
theorem dX9_addPilot_30 : decode cX9_addPilot 30 = .ok (.ireturn, 1) := by decide +kernel
theorem wd644 : Cond.code yX8_refusalOfLaunch cX8_refusalOfLaunch 2 (some (.object "GlidingContest$Refusal")) ∈ gW := gW_in 644 (by decide +kernel) (by decide +kernel)
theorem mvX8_refusalOfLaunch : MV yX8_refusalOfLaunch cX8_refusalOfLaunch 2 (some (.object "GlidingContest$Refusal")) 1 := ⟨wd644, wd24, by decide +kernel, by decide +kernel, by decide +kernel, by decide⟩
theorem wd642 : Cond.instanceMethod yX8_refusalOfLaunch ∈ gW := gW_in 642 (by decide +kernel) (by decide +kernel)
theorem wd643 : Cond.selects yX8_refusalOfLaunch.cls yX8_refusalOfLaunch yX8_refusalOfLaunch ∈ gW := gW_in 643 (by decide +kernel) (by decide +kernel)
theorem wd641 : Cond.methodLink RX9 141 yX8_refusalOfLaunch ∈ gW := gW_in 641 (by decide +kernel) (by decide +kernel)
theorem wd652 : Cond.code yX8_start cX8_start 3 (some .int) ∈ gW := gW_in 652 (by decide +kernel) (by decide +kernel)
theorem mvX8_start : MV yX8_start cX8_start 3 (some .int) 1 := ⟨wd652, wd24, by decide +kernel, by decide +kernel, by decide +kernel, by decide⟩
theorem wd650 : Cond.instanceMethod yX8_start ∈ gW := gW_in 650 (by decide +kernel) (by decide +kernel)
theorem wd651 : Cond.selects yX8_start.cls yX8_start yX8_start ∈ gW := gW_in 651 (by decide +kernel) (by decide +kernel)
theorem wd649 : Cond.methodLink RX9 144 yX8_start ∈ gW := gW_in 649 (by decide +kernel) (by decide +kernel)
theorem dX9_launch_0 : decode cX9_launch 0 = .ok (.aload_n 0, 1) := by decide +kernel
theorem dX9_launch_1 : decode cX9_launch 1 = .ok (.getfield 10, 3) := by decide +kernel
theorem dX9_launch_4 : decode cX9_launch 4 = .ok (.iload_n 1, 1) := by decide +kernel
theorem dX9_launch_5 : decode cX9_launch 5 = .ok (.invokevirtual 141, 3) := by decide +kernel
theorem dX9_launch_8 : decode cX9_launch 8 = .ok (.invokestatic 58, 3) := by decide +kernel
theorem dX9_launch_11 : decode cX9_launch 11 = .ok (.aload_n 0, 1) := by decide +kernel
theorem dX9_launch_12 : decode cX9_launch 12 = .ok (.getfield 25, 3) := by decide +kernel
theorem dX9_launch_15 : decode cX9_launch 15 = .ok (.aload_n 0, 1) := by decide +kernel
theorem dX9_launch_16 : decode cX9_launch 16 = .ok (.getfield 10, 3) := by decide +kernel
theorem dX9_launch_19 : decode cX9_launch 19 = .ok (.invokevirtual 62, 3) := by decide +kernel
theorem dX9_launch_22 : decode cX9_launch 22 = .ok (.aload_n 0, 1) := by decide +kernel
theorem dX9_launch_23 : decode cX9_launch 23 = .ok (.getfield 10, 3) := by decide +kernel
theorem dX9_launch_26 : decode cX9_launch 26 = .ok (.iload_n 1, 1) := by decide +kernel
theorem dX9_launch_27 : decode cX9_launch 27 = .ok (.invokevirtual 144, 3) := by decide +kernel
theorem dX9_launch_30 : decode cX9_launch 30 = .ok (.ireturn, 1) := by decide +kernel
theorem wd681 : Cond.code yX8_refusalOfFlight cX8_refusalOfFlight 7 (some (.object "GlidingContest$Refusal")) ∈ gW := gW_in 681 (by decide +kernel) (by decide +kernel)
theorem mvX8_refusalOfFlight : MV yX8_refusalOfFlight cX8_refusalOfFlight 7 (some (.object "GlidingContest$Refusal")) 3 := ⟨wd681, wd24, by decide +kernel, by decide +kernel, by decide +kernel, by decide⟩
theorem wd679 : Cond.instanceMethod yX8_refusalOfFlight ∈ gW := gW_in 679 (by decide +kernel) (by decide +kernel)
theorem wd680 : Cond.selects yX8_refusalOfFlight.cls yX8_refusalOfFlight yX8_refusalOfFlight ∈ gW := gW_in 680 (by decide +kernel) (by decide +kernel)
theorem wd678 : Cond.methodLink RX9 147 yX8_refusalOfFlight ∈ gW := gW_in 678 (by decide +kernel) (by decide +kernel)
theorem wd694 : Cond.code yX8_glide cX8_glide 6 (some .int) ∈ gW := gW_in 694 (by decide +kernel) (by decide +kernel)
theorem mvX8_glide : MV yX8_glide cX8_glide 6 (some .int) 3 := ⟨wd694, wd24, by decide +kernel, by decide +kernel, by decide +kernel, by decide⟩
theorem wd692 : Cond.instanceMethod yX8_glide ∈ gW := gW_in 692 (by decide +kernel) (by decide +kernel)
theorem wd693 : Cond.selects yX8_glide.cls yX8_glide yX8_glide ∈ gW := gW_in 693 (by decide +kernel) (by decide +kernel)
theorem wd691 : Cond.methodLink RX9 150 yX8_glide ∈ gW := gW_in 691 (by decide +kernel) (by decide +kernel)
theorem dX9_fly_0 : decode cX9_fly 0 = .ok (.aload_n 0, 1) := by decide +kernel
theorem dX9_fly_1 : decode cX9_fly 1 = .ok (.getfield 10, 3) := by decide +kernel
theorem dX9_fly_4 : decode cX9_fly 4 = .ok (.iload_n 1, 1) := by decide +kernel
theorem dX9_fly_5 : decode cX9_fly 5 = .ok (.iload_n 2, 1) := by decide +kernel
theorem dX9_fly_6 : decode cX9_fly 6 = .ok (.iload_n 3, 1) := by decide +kernel
theorem dX9_fly_7 : decode cX9_fly 7 = .ok (.invokevirtual 147, 3) := by decide +kernel
theorem dX9_fly_10 : decode cX9_fly 10 = .ok (.invokestatic 58, 3) := by decide +kernel
theorem dX9_fly_13 : decode cX9_fly 13 = .ok (.aload_n 0, 1) := by decide +kernel
theorem dX9_fly_14 : decode cX9_fly 14 = .ok (.getfield 25, 3) := by decide +kernel
theorem dX9_fly_17 : decode cX9_fly 17 = .ok (.aload_n 0, 1) := by decide +kernel
theorem dX9_fly_18 : decode cX9_fly 18 = .ok (.getfield 10, 3) := by decide +kernel
theorem dX9_fly_21 : decode cX9_fly 21 = .ok (.invokevirtual 62, 3) := by decide +kernel
theorem dX9_fly_24 : decode cX9_fly 24 = .ok (.aload_n 0, 1) := by decide +kernel
theorem dX9_fly_25 : decode cX9_fly 25 = .ok (.getfield 10, 3) := by decide +kernel
theorem dX9_fly_28 : decode cX9_fly 28 = .ok (.iload_n 1, 1) := by decide +kernel
theorem dX9_fly_29 : decode cX9_fly 29 = .ok (.iload_n 2, 1) := by decide +kernel
theorem dX9_fly_30 : decode cX9_fly 30 = .ok (.iload_n 3, 1) := by decide +kernel
theorem dX9_fly_31 : decode cX9_fly 31 = .ok (.invokevirtual 150, 3) := by decide +kernel
theorem dX9_fly_34 : decode cX9_fly 34 = .ok (.ireturn, 1) := by decide +kernel
theorem wd1254 : Cond.code yX8_refusalOfClimb cX8_refusalOfClimb 5 (some (.object "GlidingContest$Refusal")) ∈ gW := gW_in 1254 (by decide +kernel) (by decide +kernel)
theorem mvX8_refusalOfClimb : MV yX8_refusalOfClimb cX8_refusalOfClimb 5 (some (.object "GlidingContest$Refusal")) 2 := ⟨wd1254, wd24, by decide +kernel, by decide +kernel, by decide +kernel, by decide⟩
theorem wd1252 : Cond.instanceMethod yX8_refusalOfClimb ∈ gW := gW_in 1252 (by decide +kernel) (by decide +kernel)
theorem wd1253 : Cond.selects yX8_refusalOfClimb.cls yX8_refusalOfClimb yX8_refusalOfClimb ∈ gW := gW_in 1253 (by decide +kernel) (by decide +kernel)
theorem wd1251 : Cond.methodLink RX9 153 yX8_refusalOfClimb ∈ gW := gW_in 1251 (by decide +kernel) (by decide +kernel)
theorem wd1259 : Cond.code yX8_soar cX8_soar 4 (some .int) ∈ gW := gW_in 1259 (by decide +kernel) (by decide +kernel)
theorem mvX8_soar : MV yX8_soar cX8_soar 4 (some .int) 2 := ⟨wd1259, wd24, by decide +kernel, by decide +kernel, by decide +kernel, by decide⟩
theorem wd1257 : Cond.instanceMethod yX8_soar ∈ gW := gW_in 1257 (by decide +kernel) (by decide +kernel)
theorem wd1258 : Cond.selects yX8_soar.cls yX8_soar yX8_soar ∈ gW := gW_in 1258 (by decide +kernel) (by decide +kernel)
theorem wd1256 : Cond.methodLink RX9 156 yX8_soar ∈ gW := gW_in 1256 (by decide +kernel) (by decide +kernel)
theorem dX9_climb_0 : decode cX9_climb 0 = .ok (.aload_n 0, 1) := by decide +kernel
theorem dX9_climb_1 : decode cX9_climb 1 = .ok (.getfield 10, 3) := by decide +kernel
theorem dX9_climb_4 : decode cX9_climb 4 = .ok (.iload_n 1, 1) := by decide +kernel
theorem dX9_climb_5 : decode cX9_climb 5 = .ok (.iload_n 2, 1) := by decide +kernel
theorem dX9_climb_6 : decode cX9_climb 6 = .ok (.invokevirtual 153, 3) := by decide +kernel
theorem dX9_climb_9 : decode cX9_climb 9 = .ok (.invokestatic 58, 3) := by decide +kernel
theorem dX9_climb_12 : decode cX9_climb 12 = .ok (.aload_n 0, 1) := by decide +kernel
theorem dX9_climb_13 : decode cX9_climb 13 = .ok (.getfield 25, 3) := by decide +kernel
theorem dX9_climb_16 : decode cX9_climb 16 = .ok (.aload_n 0, 1) := by decide +kernel
theorem dX9_climb_17 : decode cX9_climb 17 = .ok (.getfield 10, 3) := by decide +kernel
theorem dX9_climb_20 : decode cX9_climb 20 = .ok (.invokevirtual 62, 3) := by decide +kernel
theorem dX9_climb_23 : decode cX9_climb 23 = .ok (.aload_n 0, 1) := by decide +kernel
theorem dX9_climb_24 : decode cX9_climb 24 = .ok (.getfield 10, 3) := by decide +kernel
theorem dX9_climb_27 : decode cX9_climb 27 = .ok (.iload_n 1, 1) := by decide +kernel
theorem dX9_climb_28 : decode cX9_climb 28 = .ok (.iload_n 2, 1) := by decide +kernel
theorem dX9_climb_29 : decode cX9_climb 29 = .ok (.invokevirtual 156, 3) := by decide +kernel
theorem dX9_climb_32 : decode cX9_climb 32 = .ok (.ireturn, 1) := by decide +kernel
theorem wd744 : Cond.code yX8_refusalOfEnd cX8_refusalOfEnd 2 (some (.object "GlidingContest$Refusal")) ∈ gW := gW_in 744 (by decide +kernel) (by decide +kernel)
theorem mvX8_refusalOfEnd : MV yX8_refusalOfEnd cX8_refusalOfEnd 2 (some (.object "GlidingContest$Refusal")) 0 := ⟨wd744, wd24, by decide +kernel, by decide +kernel, by decide +kernel, by decide⟩
theorem wd742 : Cond.instanceMethod yX8_refusalOfEnd ∈ gW := gW_in 742 (by decide +kernel) (by decide +kernel)
theorem wd743 : Cond.selects yX8_refusalOfEnd.cls yX8_refusalOfEnd yX8_refusalOfEnd ∈ gW := gW_in 743 (by decide +kernel) (by decide +kernel)
theorem wd741 : Cond.methodLink RX9 159 yX8_refusalOfEnd ∈ gW := gW_in 741 (by decide +kernel) (by decide +kernel)
theorem wd752 : Cond.code yX8_closeDay cX8_closeDay 3 (some .int) ∈ gW := gW_in 752 (by decide +kernel) (by decide +kernel)
theorem mvX8_closeDay : MV yX8_closeDay cX8_closeDay 3 (some .int) 0 := ⟨wd752, wd24, by decide +kernel, by decide +kernel, by decide +kernel, by decide⟩
theorem wd750 : Cond.instanceMethod yX8_closeDay ∈ gW := gW_in 750 (by decide +kernel) (by decide +kernel)
theorem wd751 : Cond.selects yX8_closeDay.cls yX8_closeDay yX8_closeDay ∈ gW := gW_in 751 (by decide +kernel) (by decide +kernel)
theorem wd749 : Cond.methodLink RX9 163 yX8_closeDay ∈ gW := gW_in 749 (by decide +kernel) (by decide +kernel)
theorem dX9_endDay_0 : decode cX9_endDay 0 = .ok (.aload_n 0, 1) := by decide +kernel
theorem dX9_endDay_1 : decode cX9_endDay 1 = .ok (.getfield 10, 3) := by decide +kernel
theorem dX9_endDay_4 : decode cX9_endDay 4 = .ok (.invokevirtual 159, 3) := by decide +kernel
theorem dX9_endDay_7 : decode cX9_endDay 7 = .ok (.invokestatic 58, 3) := by decide +kernel
theorem dX9_endDay_10 : decode cX9_endDay 10 = .ok (.aload_n 0, 1) := by decide +kernel
theorem dX9_endDay_11 : decode cX9_endDay 11 = .ok (.getfield 25, 3) := by decide +kernel
theorem dX9_endDay_14 : decode cX9_endDay 14 = .ok (.aload_n 0, 1) := by decide +kernel
theorem dX9_endDay_15 : decode cX9_endDay 15 = .ok (.getfield 10, 3) := by decide +kernel
theorem dX9_endDay_18 : decode cX9_endDay 18 = .ok (.invokevirtual 62, 3) := by decide +kernel
theorem dX9_endDay_21 : decode cX9_endDay 21 = .ok (.aload_n 0, 1) := by decide +kernel
theorem dX9_endDay_22 : decode cX9_endDay 22 = .ok (.getfield 10, 3) := by decide +kernel
theorem dX9_endDay_25 : decode cX9_endDay 25 = .ok (.invokevirtual 163, 3) := by decide +kernel
theorem dX9_endDay_28 : decode cX9_endDay 28 = .ok (.ireturn, 1) := by decide +kernel
theorem wd907 : Cond.fieldLink RX9 166 (TX2 2).1 (TX2 2).2.1 (TX2 2).2.2.1 ∈ gW := gW_in 907 (by decide +kernel) (by decide +kernel)
theorem dX9_pointCount_0 : decode cX9_pointCount 0 = .ok (.aload_n 0, 1) := by decide +kernel
theorem dX9_pointCount_1 : decode cX9_pointCount 1 = .ok (.getfield 10, 3) := by decide +kernel
theorem dX9_pointCount_4 : decode cX9_pointCount 4 = .ok (.getfield 66, 3) := by decide +kernel
theorem dX9_pointCount_7 : decode cX9_pointCount 7 = .ok (.getfield 166, 3) := by decide +kernel
theorem dX9_pointCount_10 : decode cX9_pointCount 10 = .ok (.ireturn, 1) := by decide +kernel
theorem wd1485 : Cond.methodLink RX9 169 yX2_hasPoint ∈ gW := gW_in 1485 (by decide +kernel) (by decide +kernel)
theorem wd1487 : Cond.methodLink RX9 178 yX2_span ∈ gW := gW_in 1487 (by decide +kernel) (by decide +kernel)
theorem dX9_distance_0 : decode cX9_distance 0 = .ok (.aload_n 0, 1) := by decide +kernel
theorem dX9_distance_1 : decode cX9_distance 1 = .ok (.getfield 10, 3) := by decide +kernel
theorem dX9_distance_4 : decode cX9_distance 4 = .ok (.getfield 66, 3) := by decide +kernel
theorem dX9_distance_7 : decode cX9_distance 7 = .ok (.iload_n 1, 1) := by decide +kernel
theorem dX9_distance_8 : decode cX9_distance 8 = .ok (.invokevirtual 169, 3) := by decide +kernel
theorem dX9_distance_11 : decode cX9_distance 11 = .ok (.ifCond .eq 17, 3) := by decide +kernel
theorem dX9_distance_14 : decode cX9_distance 14 = .ok (.aload_n 0, 1) := by decide +kernel
theorem dX9_distance_15 : decode cX9_distance 15 = .ok (.getfield 10, 3) := by decide +kernel
theorem dX9_distance_18 : decode cX9_distance 18 = .ok (.getfield 66, 3) := by decide +kernel
theorem dX9_distance_21 : decode cX9_distance 21 = .ok (.iload_n 2, 1) := by decide +kernel
theorem dX9_distance_22 : decode cX9_distance 22 = .ok (.invokevirtual 169, 3) := by decide +kernel
theorem dX9_distance_25 : decode cX9_distance 25 = .ok (.ifCond .ne 13, 3) := by decide +kernel
theorem dX9_distance_28 : decode cX9_distance 28 = .ok (.new 173, 3) := by decide +kernel
theorem dX9_distance_31 : decode cX9_distance 31 = .ok (.dup, 1) := by decide +kernel
theorem dX9_distance_32 : decode cX9_distance 32 = .ok (.ldc 175, 2) := by decide +kernel
theorem dX9_distance_34 : decode cX9_distance 34 = .ok (.invokespecial 177, 3) := by decide +kernel
theorem dX9_distance_37 : decode cX9_distance 37 = .ok (.athrow, 1) := by decide +kernel
theorem dX9_distance_38 : decode cX9_distance 38 = .ok (.aload_n 0, 1) := by decide +kernel
theorem dX9_distance_39 : decode cX9_distance 39 = .ok (.getfield 10, 3) := by decide +kernel
theorem dX9_distance_42 : decode cX9_distance 42 = .ok (.getfield 66, 3) := by decide +kernel
theorem dX9_distance_45 : decode cX9_distance 45 = .ok (.iload_n 1, 1) := by decide +kernel
theorem dX9_distance_46 : decode cX9_distance 46 = .ok (.iload_n 2, 1) := by decide +kernel
theorem dX9_distance_47 : decode cX9_distance 47 = .ok (.invokevirtual 178, 3) := by decide +kernel
theorem dX9_distance_50 : decode cX9_distance 50 = .ok (.ireturn, 1) := by decide +kernel
theorem wd915 : Cond.fieldLink RX9 181 (TX2 5).1 (TX2 5).2.1 (TX2 5).2.2.1 ∈ gW := gW_in 915 (by decide +kernel) (by decide +kernel)
theorem dX9_taskLength_0 : decode cX9_taskLength 0 = .ok (.aload_n 0, 1) := by decide +kernel
theorem dX9_taskLength_1 : decode cX9_taskLength 1 = .ok (.getfield 10, 3) := by decide +kernel
theorem dX9_taskLength_4 : decode cX9_taskLength 4 = .ok (.getfield 66, 3) := by decide +kernel
theorem dX9_taskLength_7 : decode cX9_taskLength 7 = .ok (.getfield 181, 3) := by decide +kernel
theorem dX9_taskLength_10 : decode cX9_taskLength 10 = .ok (.ireturn, 1) := by decide +kernel
theorem wd1413 : Cond.methodLink RX9 184 yX2_hasStop ∈ gW := gW_in 1413 (by decide +kernel) (by decide +kernel)
theorem wd910 : Cond.fieldLink RX9 192 (TX2 3).1 (TX2 3).2.1 (TX2 3).2.2.1 ∈ gW := gW_in 910 (by decide +kernel) (by decide +kernel)
theorem wd800 : Cond.classLink RX9 187 "java/util/NoSuchElementException" ∈ gW := gW_in 800 (by decide +kernel) (by decide +kernel)
theorem wd48 : Cond.initialized "java/util/NoSuchElementException" ∈ gW := gW_in 48 (by decide +kernel) (by decide +kernel)
theorem ta_NoSuchElementException191 : ∀ w ∈ nx_atS RX9 191 "java/util/NoSuchElementException" 13 prog_40_method_4_code "java/lang/RuntimeException" ["java/lang/Exception"], w ∈ gW ∨ (w.onTables = true ∧ w ∈ gNW) := tatX_of (by decide +kernel)
theorem tg_NoSuchElementException191 : ∀ w ∈ Cond.classLink RX9 187 "java/util/NoSuchElementException" :: Cond.initialized "java/util/NoSuchElementException" :: nx_atS RX9 191 "java/util/NoSuchElementException" 13 prog_40_method_4_code "java/lang/RuntimeException" ["java/lang/Exception"], vx_ot w = true := tal_of (by decide +kernel)
theorem dX9_taskPoint_0 : decode cX9_taskPoint 0 = .ok (.aload_n 0, 1) := by decide +kernel
theorem dX9_taskPoint_1 : decode cX9_taskPoint 1 = .ok (.getfield 10, 3) := by decide +kernel
theorem dX9_taskPoint_4 : decode cX9_taskPoint 4 = .ok (.getfield 66, 3) := by decide +kernel
theorem dX9_taskPoint_7 : decode cX9_taskPoint 7 = .ok (.iload_n 1, 1) := by decide +kernel
theorem dX9_taskPoint_8 : decode cX9_taskPoint 8 = .ok (.invokevirtual 184, 3) := by decide +kernel
theorem dX9_taskPoint_11 : decode cX9_taskPoint 11 = .ok (.ifCond .ne 13, 3) := by decide +kernel
theorem dX9_taskPoint_14 : decode cX9_taskPoint 14 = .ok (.new 187, 3) := by decide +kernel
theorem dX9_taskPoint_17 : decode cX9_taskPoint 17 = .ok (.dup, 1) := by decide +kernel
theorem dX9_taskPoint_18 : decode cX9_taskPoint 18 = .ok (.ldc 189, 2) := by decide +kernel
theorem dX9_taskPoint_20 : decode cX9_taskPoint 20 = .ok (.invokespecial 191, 3) := by decide +kernel
theorem dX9_taskPoint_23 : decode cX9_taskPoint 23 = .ok (.athrow, 1) := by decide +kernel
theorem dX9_taskPoint_24 : decode cX9_taskPoint 24 = .ok (.aload_n 0, 1) := by decide +kernel
theorem dX9_taskPoint_25 : decode cX9_taskPoint 25 = .ok (.getfield 10, 3) := by decide +kernel
theorem dX9_taskPoint_28 : decode cX9_taskPoint 28 = .ok (.getfield 66, 3) := by decide +kernel
theorem dX9_taskPoint_31 : decode cX9_taskPoint 31 = .ok (.getfield 192, 3) := by decide +kernel
theorem dX9_taskPoint_34 : decode cX9_taskPoint 34 = .ok (.iload_n 1, 1) := by decide +kernel
theorem dX9_taskPoint_35 : decode cX9_taskPoint 35 = .ok (.iaload, 1) := by decide +kernel
theorem dX9_taskPoint_36 : decode cX9_taskPoint 36 = .ok (.ireturn, 1) := by decide +kernel
theorem wd1408 : Cond.methodLink RX9 196 yX2_wholeDistance ∈ gW := gW_in 1408 (by decide +kernel) (by decide +kernel)
theorem dX9_taskDistance_0 : decode cX9_taskDistance 0 = .ok (.aload_n 0, 1) := by decide +kernel
theorem dX9_taskDistance_1 : decode cX9_taskDistance 1 = .ok (.getfield 10, 3) := by decide +kernel
theorem dX9_taskDistance_4 : decode cX9_taskDistance 4 = .ok (.getfield 66, 3) := by decide +kernel
theorem dX9_taskDistance_7 : decode cX9_taskDistance 7 = .ok (.invokevirtual 196, 3) := by decide +kernel
theorem dX9_taskDistance_10 : decode cX9_taskDistance 10 = .ok (.ireturn, 1) := by decide +kernel
theorem wd793 : Cond.methodLink RX9 420 yX9_isCoordinate ∈ gW := gW_in 793 (by decide +kernel) (by decide +kernel)
theorem dX9_requirePosition_0 : decode cX9_requirePosition 0 = .ok (.iload_n 0, 1) := by decide +kernel
theorem dX9_requirePosition_1 : decode cX9_requirePosition 1 = .ok (.invokestatic 420, 3) := by decide +kernel
theorem dX9_requirePosition_4 : decode cX9_requirePosition 4 = .ok (.ifCond .eq 10, 3) := by decide +kernel
theorem dX9_requirePosition_7 : decode cX9_requirePosition 7 = .ok (.iload_n 1, 1) := by decide +kernel
theorem dX9_requirePosition_8 : decode cX9_requirePosition 8 = .ok (.invokestatic 420, 3) := by decide +kernel
theorem dX9_requirePosition_11 : decode cX9_requirePosition 11 = .ok (.ifCond .ne 14, 3) := by decide +kernel
theorem dX9_requirePosition_14 : decode cX9_requirePosition 14 = .ok (.new 113, 3) := by decide +kernel
theorem dX9_requirePosition_17 : decode cX9_requirePosition 17 = .ok (.dup, 1) := by decide +kernel
theorem dX9_requirePosition_18 : decode cX9_requirePosition 18 = .ok (.ldc_w 423, 3) := by decide +kernel
theorem dX9_requirePosition_21 : decode cX9_requirePosition 21 = .ok (.invokespecial 117, 3) := by decide +kernel
theorem dX9_requirePosition_24 : decode cX9_requirePosition 24 = .ok (.athrow, 1) := by decide +kernel
theorem dX9_requirePosition_25 : decode cX9_requirePosition 25 = .ok (.return_, 1) := by decide +kernel
theorem wd792 : Cond.code yX9_requirePosition cX9_requirePosition 2 none ∈ gW := gW_in 792 (by decide +kernel) (by decide +kernel)
theorem mvX9_requirePosition : MV yX9_requirePosition cX9_requirePosition 2 none 2 := ⟨wd792, wd23, by decide +kernel, by decide +kernel, by decide +kernel, by decide⟩
theorem wd791 : Cond.static yX9_requirePosition ∈ gW := gW_in 791 (by decide +kernel) (by decide +kernel)
theorem wd790 : Cond.methodLink RX9 199 yX9_requirePosition ∈ gW := gW_in 790 (by decide +kernel) (by decide +kernel)
theorem wd795 : Cond.methodLink RX9 203 yX0_strongestAt ∈ gW := gW_in 795 (by decide +kernel) (by decide +kernel)
theorem dX9_strongestThermal_0 : decode cX9_strongestThermal 0 = .ok (.iload_n 1, 1) := by decide +kernel
theorem dX9_strongestThermal_1 : decode cX9_strongestThermal 1 = .ok (.iload_n 2, 1) := by decide +kernel
theorem dX9_strongestThermal_2 : decode cX9_strongestThermal 2 = .ok (.invokestatic 199, 3) := by decide +kernel
theorem dX9_strongestThermal_5 : decode cX9_strongestThermal 5 = .ok (.aload_n 0, 1) := by decide +kernel
theorem dX9_strongestThermal_6 : decode cX9_strongestThermal 6 = .ok (.getfield 10, 3) := by decide +kernel
theorem dX9_strongestThermal_9 : decode cX9_strongestThermal 9 = .ok (.getfield 103, 3) := by decide +kernel
theorem dX9_strongestThermal_12 : decode cX9_strongestThermal 12 = .ok (.iload_n 1, 1) := by decide +kernel
theorem dX9_strongestThermal_13 : decode cX9_strongestThermal 13 = .ok (.iload_n 2, 1) := by decide +kernel
theorem dX9_strongestThermal_14 : decode cX9_strongestThermal 14 = .ok (.invokevirtual 203, 3) := by decide +kernel
theorem dX9_strongestThermal_17 : decode cX9_strongestThermal 17 = .ok (.istore_n 3, 1) := by decide +kernel
theorem dX9_strongestThermal_18 : decode cX9_strongestThermal 18 = .ok (.iload_n 3, 1) := by decide +kernel
theorem dX9_strongestThermal_19 : decode cX9_strongestThermal 19 = .ok (.ifCond .ne 13, 3) := by decide +kernel
theorem dX9_strongestThermal_22 : decode cX9_strongestThermal 22 = .ok (.new 187, 3) := by decide +kernel
theorem dX9_strongestThermal_25 : decode cX9_strongestThermal 25 = .ok (.dup, 1) := by decide +kernel
theorem dX9_strongestThermal_26 : decode cX9_strongestThermal 26 = .ok (.ldc 206, 2) := by decide +kernel
theorem dX9_strongestThermal_28 : decode cX9_strongestThermal 28 = .ok (.invokespecial 191, 3) := by decide +kernel
theorem dX9_strongestThermal_31 : decode cX9_strongestThermal 31 = .ok (.athrow, 1) := by decide +kernel
theorem dX9_strongestThermal_32 : decode cX9_strongestThermal 32 = .ok (.iload_n 3, 1) := by decide +kernel
theorem dX9_strongestThermal_33 : decode cX9_strongestThermal 33 = .ok (.ireturn, 1) := by decide +kernel
theorem dX9_cloudBase_0 : decode cX9_cloudBase 0 = .ok (.aload_n 0, 1) := by decide +kernel
theorem dX9_cloudBase_1 : decode cX9_cloudBase 1 = .ok (.getfield 10, 3) := by decide +kernel
theorem dX9_cloudBase_4 : decode cX9_cloudBase 4 = .ok (.getfield 103, 3) := by decide +kernel
theorem dX9_cloudBase_7 : decode cX9_cloudBase 7 = .ok (.getfield 118, 3) := by decide +kernel
theorem dX9_cloudBase_10 : decode cX9_cloudBase 10 = .ok (.ireturn, 1) := by decide +kernel
theorem wd1524 : Cond.methodLink RX9 208 yX1_covers ∈ gW := gW_in 1524 (by decide +kernel) (by decide +kernel)
theorem dX9_isRestricted_0 : decode cX9_isRestricted 0 = .ok (.iload_n 1, 1) := by decide +kernel
theorem dX9_isRestricted_1 : decode cX9_isRestricted 1 = .ok (.iload_n 2, 1) := by decide +kernel
theorem dX9_isRestricted_2 : decode cX9_isRestricted 2 = .ok (.invokestatic 199, 3) := by decide +kernel
theorem dX9_isRestricted_5 : decode cX9_isRestricted 5 = .ok (.aload_n 0, 1) := by decide +kernel
theorem dX9_isRestricted_6 : decode cX9_isRestricted 6 = .ok (.getfield 10, 3) := by decide +kernel
theorem dX9_isRestricted_9 : decode cX9_isRestricted 9 = .ok (.getfield 125, 3) := by decide +kernel
theorem dX9_isRestricted_12 : decode cX9_isRestricted 12 = .ok (.iload_n 1, 1) := by decide +kernel
theorem dX9_isRestricted_13 : decode cX9_isRestricted 13 = .ok (.iload_n 2, 1) := by decide +kernel
theorem dX9_isRestricted_14 : decode cX9_isRestricted 14 = .ok (.invokevirtual 208, 3) := by decide +kernel
theorem dX9_isRestricted_17 : decode cX9_isRestricted 17 = .ok (.ireturn, 1) := by decide +kernel
theorem wd1467 : Cond.methodLink RX9 212 yX1_countByPositions ∈ gW := gW_in 1467 (by decide +kernel) (by decide +kernel)
theorem dX9_restrictedInRow_0 : decode cX9_restrictedInRow 0 = .ok (.iconst 0, 1) := by decide +kernel
theorem dX9_restrictedInRow_1 : decode cX9_restrictedInRow 1 = .ok (.iload_n 1, 1) := by decide +kernel
theorem dX9_restrictedInRow_2 : decode cX9_restrictedInRow 2 = .ok (.invokestatic 199, 3) := by decide +kernel
theorem dX9_restrictedInRow_5 : decode cX9_restrictedInRow 5 = .ok (.aload_n 0, 1) := by decide +kernel
theorem dX9_restrictedInRow_6 : decode cX9_restrictedInRow 6 = .ok (.getfield 10, 3) := by decide +kernel
theorem dX9_restrictedInRow_9 : decode cX9_restrictedInRow 9 = .ok (.getfield 125, 3) := by decide +kernel
theorem dX9_restrictedInRow_12 : decode cX9_restrictedInRow 12 = .ok (.iload_n 1, 1) := by decide +kernel
theorem dX9_restrictedInRow_13 : decode cX9_restrictedInRow 13 = .ok (.invokevirtual 212, 3) := by decide +kernel
theorem dX9_restrictedInRow_16 : decode cX9_restrictedInRow 16 = .ok (.ireturn, 1) := by decide +kernel
theorem wd1529 : Cond.methodLink RX9 215 yX1_countByRanges ∈ gW := gW_in 1529 (by decide +kernel) (by decide +kernel)
theorem dX9_restrictedInRowByRanges_0 : decode cX9_restrictedInRowByRanges 0 = .ok (.iconst 0, 1) := by decide +kernel
theorem dX9_restrictedInRowByRanges_1 : decode cX9_restrictedInRowByRanges 1 = .ok (.iload_n 1, 1) := by decide +kernel
theorem dX9_restrictedInRowByRanges_2 : decode cX9_restrictedInRowByRanges 2 = .ok (.invokestatic 199, 3) := by decide +kernel
theorem dX9_restrictedInRowByRanges_5 : decode cX9_restrictedInRowByRanges 5 = .ok (.aload_n 0, 1) := by decide +kernel
theorem dX9_restrictedInRowByRanges_6 : decode cX9_restrictedInRowByRanges 6 = .ok (.getfield 10, 3) := by decide +kernel
theorem dX9_restrictedInRowByRanges_9 : decode cX9_restrictedInRowByRanges 9 = .ok (.getfield 125, 3) := by decide +kernel
theorem dX9_restrictedInRowByRanges_12 : decode cX9_restrictedInRowByRanges 12 = .ok (.iload_n 1, 1) := by decide +kernel
theorem dX9_restrictedInRowByRanges_13 : decode cX9_restrictedInRowByRanges 13 = .ok (.invokevirtual 215, 3) := by decide +kernel
theorem dX9_restrictedInRowByRanges_16 : decode cX9_restrictedInRowByRanges 16 = .ok (.ireturn, 1) := by decide +kernel
theorem wd1045 : Cond.fieldLink RX9 218 (TX8 4).1 (TX8 4).2.1 (TX8 4).2.2.1 ∈ gW := gW_in 1045 (by decide +kernel) (by decide +kernel)
theorem dX9_pilotCount_0 : decode cX9_pilotCount 0 = .ok (.aload_n 0, 1) := by decide +kernel
theorem dX9_pilotCount_1 : decode cX9_pilotCount 1 = .ok (.getfield 10, 3) := by decide +kernel
theorem dX9_pilotCount_4 : decode cX9_pilotCount 4 = .ok (.getfield 218, 3) := by decide +kernel
theorem dX9_pilotCount_7 : decode cX9_pilotCount 7 = .ok (.ireturn, 1) := by decide +kernel
theorem dX9_isPlanning_0 : decode cX9_isPlanning 0 = .ok (.aload_n 0, 1) := by decide +kernel
theorem dX9_isPlanning_1 : decode cX9_isPlanning 1 = .ok (.getfield 10, 3) := by decide +kernel
theorem dX9_isPlanning_4 : decode cX9_isPlanning 4 = .ok (.invokevirtual 84, 3) := by decide +kernel
theorem dX9_isPlanning_7 : decode cX9_isPlanning 7 = .ok (.ireturn, 1) := by decide +kernel
theorem wd65 : Cond.methodLink RX9 291 yX8_hasPilot ∈ gW := gW_in 65 (by decide +kernel) (by decide +kernel)
theorem wd1043 : Cond.fieldLink RX9 427 (TX8 3).1 (TX8 3).2.1 (TX8 3).2.2.1 ∈ gW := gW_in 1043 (by decide +kernel) (by decide +kernel)
theorem dX9_knownPilot_0 : decode cX9_knownPilot 0 = .ok (.aload_n 0, 1) := by decide +kernel
theorem dX9_knownPilot_1 : decode cX9_knownPilot 1 = .ok (.getfield 10, 3) := by decide +kernel
theorem dX9_knownPilot_4 : decode cX9_knownPilot 4 = .ok (.iload_n 1, 1) := by decide +kernel
theorem dX9_knownPilot_5 : decode cX9_knownPilot 5 = .ok (.invokevirtual 291, 3) := by decide +kernel
theorem dX9_knownPilot_8 : decode cX9_knownPilot 8 = .ok (.ifCond .ne 14, 3) := by decide +kernel
theorem dX9_knownPilot_11 : decode cX9_knownPilot 11 = .ok (.new 173, 3) := by decide +kernel
theorem dX9_knownPilot_14 : decode cX9_knownPilot 14 = .ok (.dup, 1) := by decide +kernel
theorem dX9_knownPilot_15 : decode cX9_knownPilot 15 = .ok (.ldc_w 425, 3) := by decide +kernel
theorem dX9_knownPilot_18 : decode cX9_knownPilot 18 = .ok (.invokespecial 177, 3) := by decide +kernel
theorem dX9_knownPilot_21 : decode cX9_knownPilot 21 = .ok (.athrow, 1) := by decide +kernel
theorem dX9_knownPilot_22 : decode cX9_knownPilot 22 = .ok (.aload_n 0, 1) := by decide +kernel
theorem dX9_knownPilot_23 : decode cX9_knownPilot 23 = .ok (.getfield 10, 3) := by decide +kernel
theorem dX9_knownPilot_26 : decode cX9_knownPilot 26 = .ok (.getfield 427, 3) := by decide +kernel
theorem dX9_knownPilot_29 : decode cX9_knownPilot 29 = .ok (.iload_n 1, 1) := by decide +kernel
theorem dX9_knownPilot_30 : decode cX9_knownPilot 30 = .ok (.aaload, 1) := by decide +kernel
theorem dX9_knownPilot_31 : decode cX9_knownPilot 31 = .ok (.areturn, 1) := by decide +kernel
theorem wd64 : Cond.code yX9_knownPilot cX9_knownPilot 2 (some (.object "GlidingContest$Glider")) ∈ gW := gW_in 64 (by decide +kernel) (by decide +kernel)
theorem mvX9_knownPilot : MV yX9_knownPilot cX9_knownPilot 2 (some (.object "GlidingContest$Glider")) 1 := ⟨wd64, wd23, by decide +kernel, by decide +kernel, by decide +kernel, by decide⟩
theorem wd62 : Cond.instanceMethod yX9_knownPilot ∈ gW := gW_in 62 (by decide +kernel) (by decide +kernel)
theorem wd0 : Cond.selects yX9_knownPilot.cls yX9_knownPilot yX9_knownPilot ∈ gW := gW_in 0 (by decide +kernel) (by decide +kernel)
theorem wd60 : Cond.methodLink RX9 221 yX9_knownPilot ∈ gW := gW_in 60 (by decide +kernel) (by decide +kernel)
theorem wd994 : Cond.fieldLink RX9 225 (TX3 1).1 (TX3 1).2.1 (TX3 1).2.2.1 ∈ gW := gW_in 994 (by decide +kernel) (by decide +kernel)
theorem wd823 : Cond.fieldLink RX9 231 "GlidingContest$Phase" "FLYING" "LGlidingContest$Phase;" ∈ gW := gW_in 823 (by decide +kernel) (by decide +kernel)
theorem dX9_isFlying_0 : decode cX9_isFlying 0 = .ok (.aload_n 0, 1) := by decide +kernel
theorem dX9_isFlying_1 : decode cX9_isFlying 1 = .ok (.iload_n 1, 1) := by decide +kernel
theorem dX9_isFlying_2 : decode cX9_isFlying 2 = .ok (.invokevirtual 221, 3) := by decide +kernel
theorem dX9_isFlying_5 : decode cX9_isFlying 5 = .ok (.getfield 225, 3) := by decide +kernel
theorem dX9_isFlying_8 : decode cX9_isFlying 8 = .ok (.getstatic 231, 3) := by decide +kernel
theorem dX9_isFlying_11 : decode cX9_isFlying 11 = .ok (.if_acmp .ne 7, 3) := by decide +kernel
theorem dX9_isFlying_14 : decode cX9_isFlying 14 = .ok (.iconst 1, 1) := by decide +kernel
theorem dX9_isFlying_15 : decode cX9_isFlying 15 = .ok (.goto 4, 3) := by decide +kernel
theorem dX9_isFlying_18 : decode cX9_isFlying 18 = .ok (.iconst 0, 1) := by decide +kernel
theorem dX9_isFlying_19 : decode cX9_isFlying 19 = .ok (.ireturn, 1) := by decide +kernel
theorem wd1424 : Cond.fieldLink RX9 236 "GlidingContest$Phase" "LANDED" "LGlidingContest$Phase;" ∈ gW := gW_in 1424 (by decide +kernel) (by decide +kernel)
theorem dX9_isLanded_0 : decode cX9_isLanded 0 = .ok (.aload_n 0, 1) := by decide +kernel
theorem dX9_isLanded_1 : decode cX9_isLanded 1 = .ok (.iload_n 1, 1) := by decide +kernel
theorem dX9_isLanded_2 : decode cX9_isLanded 2 = .ok (.invokevirtual 221, 3) := by decide +kernel
theorem dX9_isLanded_5 : decode cX9_isLanded 5 = .ok (.getfield 225, 3) := by decide +kernel
theorem dX9_isLanded_8 : decode cX9_isLanded 8 = .ok (.getstatic 236, 3) := by decide +kernel
theorem dX9_isLanded_11 : decode cX9_isLanded 11 = .ok (.if_acmp .ne 7, 3) := by decide +kernel
theorem dX9_isLanded_14 : decode cX9_isLanded 14 = .ok (.iconst 1, 1) := by decide +kernel
theorem dX9_isLanded_15 : decode cX9_isLanded 15 = .ok (.goto 4, 3) := by decide +kernel
theorem dX9_isLanded_18 : decode cX9_isLanded 18 = .ok (.iconst 0, 1) := by decide +kernel
theorem dX9_isLanded_19 : decode cX9_isLanded 19 = .ok (.ireturn, 1) := by decide +kernel
theorem wd1429 : Cond.fieldLink RX9 239 "GlidingContest$Phase" "FINISHED" "LGlidingContest$Phase;" ∈ gW := gW_in 1429 (by decide +kernel) (by decide +kernel)
theorem dX9_isFinished_0 : decode cX9_isFinished 0 = .ok (.aload_n 0, 1) := by decide +kernel
theorem dX9_isFinished_1 : decode cX9_isFinished 1 = .ok (.iload_n 1, 1) := by decide +kernel
theorem dX9_isFinished_2 : decode cX9_isFinished 2 = .ok (.invokevirtual 221, 3) := by decide +kernel
theorem dX9_isFinished_5 : decode cX9_isFinished 5 = .ok (.getfield 225, 3) := by decide +kernel
theorem dX9_isFinished_8 : decode cX9_isFinished 8 = .ok (.getstatic 239, 3) := by decide +kernel
theorem dX9_isFinished_11 : decode cX9_isFinished 11 = .ok (.if_acmp .ne 7, 3) := by decide +kernel
theorem dX9_isFinished_14 : decode cX9_isFinished 14 = .ok (.iconst 1, 1) := by decide +kernel
theorem dX9_isFinished_15 : decode cX9_isFinished 15 = .ok (.goto 4, 3) := by decide +kernel
theorem dX9_isFinished_18 : decode cX9_isFinished 18 = .ok (.iconst 0, 1) := by decide +kernel
theorem dX9_isFinished_19 : decode cX9_isFinished 19 = .ok (.ireturn, 1) := by decide +kernel
theorem wd1419 : Cond.methodLink RX9 242 yX3_sinkRate ∈ gW := gW_in 1419 (by decide +kernel) (by decide +kernel)
theorem dX9_sink_0 : decode cX9_sink 0 = .ok (.aload_n 0, 1) := by decide +kernel
theorem dX9_sink_1 : decode cX9_sink 1 = .ok (.iload_n 1, 1) := by decide +kernel
theorem dX9_sink_2 : decode cX9_sink 2 = .ok (.invokevirtual 221, 3) := by decide +kernel
theorem dX9_sink_5 : decode cX9_sink 5 = .ok (.invokevirtual 242, 3) := by decide +kernel
theorem dX9_sink_8 : decode cX9_sink 8 = .ok (.ireturn, 1) := by decide +kernel
theorem wd462 : Cond.fieldLink RX9 369 "GlidingContest$Phase" "WAITING" "LGlidingContest$Phase;" ∈ gW := gW_in 462 (by decide +kernel) (by decide +kernel)
theorem dX9_launchedPilot_0 : decode cX9_launchedPilot 0 = .ok (.aload_n 0, 1) := by decide +kernel
theorem dX9_launchedPilot_1 : decode cX9_launchedPilot 1 = .ok (.iload_n 1, 1) := by decide +kernel
theorem dX9_launchedPilot_2 : decode cX9_launchedPilot 2 = .ok (.invokevirtual 221, 3) := by decide +kernel
theorem dX9_launchedPilot_5 : decode cX9_launchedPilot 5 = .ok (.astore_n 2, 1) := by decide +kernel
theorem dX9_launchedPilot_6 : decode cX9_launchedPilot 6 = .ok (.aload_n 2, 1) := by decide +kernel
theorem dX9_launchedPilot_7 : decode cX9_launchedPilot 7 = .ok (.getfield 225, 3) := by decide +kernel
theorem dX9_launchedPilot_10 : decode cX9_launchedPilot 10 = .ok (.getstatic 369, 3) := by decide +kernel
theorem dX9_launchedPilot_13 : decode cX9_launchedPilot 13 = .ok (.if_acmp .ne 14, 3) := by decide +kernel
theorem dX9_launchedPilot_16 : decode cX9_launchedPilot 16 = .ok (.new 88, 3) := by decide +kernel
theorem dX9_launchedPilot_19 : decode cX9_launchedPilot 19 = .ok (.dup, 1) := by decide +kernel
theorem dX9_launchedPilot_20 : decode cX9_launchedPilot 20 = .ok (.ldc_w 431, 3) := by decide +kernel
theorem dX9_launchedPilot_23 : decode cX9_launchedPilot 23 = .ok (.invokespecial 92, 3) := by decide +kernel
theorem dX9_launchedPilot_26 : decode cX9_launchedPilot 26 = .ok (.athrow, 1) := by decide +kernel
theorem dX9_launchedPilot_27 : decode cX9_launchedPilot 27 = .ok (.aload_n 2, 1) := by decide +kernel
theorem dX9_launchedPilot_28 : decode cX9_launchedPilot 28 = .ok (.areturn, 1) := by decide +kernel
theorem wd1445 : Cond.code yX9_launchedPilot cX9_launchedPilot 3 (some (.object "GlidingContest$Glider")) ∈ gW := gW_in 1445 (by decide +kernel) (by decide +kernel)
theorem mvX9_launchedPilot : MV yX9_launchedPilot cX9_launchedPilot 3 (some (.object "GlidingContest$Glider")) 1 := ⟨wd1445, wd23, by decide +kernel, by decide +kernel, by decide +kernel, by decide⟩
theorem wd1444 : Cond.instanceMethod yX9_launchedPilot ∈ gW := gW_in 1444 (by decide +kernel) (by decide +kernel)
theorem wd19 : Cond.selects yX9_launchedPilot.cls yX9_launchedPilot yX9_launchedPilot ∈ gW := gW_in 19 (by decide +kernel) (by decide +kernel)
theorem wd1442 : Cond.methodLink RX9 245 yX9_launchedPilot ∈ gW := gW_in 1442 (by decide +kernel) (by decide +kernel)
theorem wd997 : Cond.fieldLink RX9 248 (TX3 2).1 (TX3 2).2.1 (TX3 2).2.2.1 ∈ gW := gW_in 997 (by decide +kernel) (by decide +kernel)
theorem dX9_x_0 : decode cX9_x 0 = .ok (.aload_n 0, 1) := by decide +kernel
theorem dX9_x_1 : decode cX9_x 1 = .ok (.iload_n 1, 1) := by decide +kernel
theorem dX9_x_2 : decode cX9_x 2 = .ok (.invokevirtual 245, 3) := by decide +kernel
theorem dX9_x_5 : decode cX9_x 5 = .ok (.getfield 248, 3) := by decide +kernel
theorem dX9_x_8 : decode cX9_x 8 = .ok (.ireturn, 1) := by decide +kernel
theorem wd1000 : Cond.fieldLink RX9 251 (TX3 3).1 (TX3 3).2.1 (TX3 3).2.2.1 ∈ gW := gW_in 1000 (by decide +kernel) (by decide +kernel)
theorem dX9_y_0 : decode cX9_y 0 = .ok (.aload_n 0, 1) := by decide +kernel
theorem dX9_y_1 : decode cX9_y 1 = .ok (.iload_n 1, 1) := by decide +kernel
theorem dX9_y_2 : decode cX9_y 2 = .ok (.invokevirtual 245, 3) := by decide +kernel
theorem dX9_y_5 : decode cX9_y 5 = .ok (.getfield 251, 3) := by decide +kernel
theorem dX9_y_8 : decode cX9_y 8 = .ok (.ireturn, 1) := by decide +kernel
theorem wd1003 : Cond.fieldLink RX9 254 (TX3 4).1 (TX3 4).2.1 (TX3 4).2.2.1 ∈ gW := gW_in 1003 (by decide +kernel) (by decide +kernel)
theorem dX9_height_0 : decode cX9_height 0 = .ok (.aload_n 0, 1) := by decide +kernel
theorem dX9_height_1 : decode cX9_height 1 = .ok (.iload_n 1, 1) := by decide +kernel
theorem dX9_height_2 : decode cX9_height 2 = .ok (.invokevirtual 245, 3) := by decide +kernel
theorem dX9_height_5 : decode cX9_height 5 = .ok (.getfield 254, 3) := by decide +kernel
theorem dX9_height_8 : decode cX9_height 8 = .ok (.ireturn, 1) := by decide +kernel
theorem wd1006 : Cond.fieldLink RX9 257 (TX3 5).1 (TX3 5).2.1 (TX3 5).2.2.1 ∈ gW := gW_in 1006 (by decide +kernel) (by decide +kernel)
theorem dX9_minutes_0 : decode cX9_minutes 0 = .ok (.aload_n 0, 1) := by decide +kernel
theorem dX9_minutes_1 : decode cX9_minutes 1 = .ok (.iload_n 1, 1) := by decide +kernel
theorem dX9_minutes_2 : decode cX9_minutes 2 = .ok (.invokevirtual 245, 3) := by decide +kernel
theorem dX9_minutes_5 : decode cX9_minutes 5 = .ok (.getfield 257, 3) := by decide +kernel
theorem dX9_minutes_8 : decode cX9_minutes 8 = .ok (.ireturn, 1) := by decide +kernel
theorem wd1009 : Cond.fieldLink RX9 260 (TX3 6).1 (TX3 6).2.1 (TX3 6).2.2.1 ∈ gW := gW_in 1009 (by decide +kernel) (by decide +kernel)
theorem dX9_penalty_0 : decode cX9_penalty 0 = .ok (.aload_n 0, 1) := by decide +kernel
theorem dX9_penalty_1 : decode cX9_penalty 1 = .ok (.iload_n 1, 1) := by decide +kernel
theorem dX9_penalty_2 : decode cX9_penalty 2 = .ok (.invokevirtual 245, 3) := by decide +kernel
theorem dX9_penalty_5 : decode cX9_penalty 5 = .ok (.getfield 260, 3) := by decide +kernel
theorem dX9_penalty_8 : decode cX9_penalty 8 = .ok (.ireturn, 1) := by decide +kernel
theorem wd1012 : Cond.fieldLink RX9 263 (TX3 7).1 (TX3 7).2.1 (TX3 7).2.2.1 ∈ gW := gW_in 1012 (by decide +kernel) (by decide +kernel)
theorem dX9_reached_0 : decode cX9_reached 0 = .ok (.aload_n 0, 1) := by decide +kernel
theorem dX9_reached_1 : decode cX9_reached 1 = .ok (.iload_n 1, 1) := by decide +kernel
theorem dX9_reached_2 : decode cX9_reached 2 = .ok (.invokevirtual 221, 3) := by decide +kernel
theorem dX9_reached_5 : decode cX9_reached 5 = .ok (.getfield 263, 3) := by decide +kernel
theorem dX9_reached_8 : decode cX9_reached 8 = .ok (.ireturn, 1) := by decide +kernel
theorem dX9_pilotInPhase_0 : decode cX9_pilotInPhase 0 = .ok (.aload_n 0, 1) := by decide +kernel
theorem dX9_pilotInPhase_1 : decode cX9_pilotInPhase 1 = .ok (.iload_n 1, 1) := by decide +kernel
theorem dX9_pilotInPhase_2 : decode cX9_pilotInPhase 2 = .ok (.invokevirtual 221, 3) := by decide +kernel
theorem dX9_pilotInPhase_5 : decode cX9_pilotInPhase 5 = .ok (.astore_n 3, 1) := by decide +kernel
theorem dX9_pilotInPhase_6 : decode cX9_pilotInPhase 6 = .ok (.aload_n 3, 1) := by decide +kernel
theorem dX9_pilotInPhase_7 : decode cX9_pilotInPhase 7 = .ok (.getfield 225, 3) := by decide +kernel
theorem dX9_pilotInPhase_10 : decode cX9_pilotInPhase 10 = .ok (.aload_n 2, 1) := by decide +kernel
theorem dX9_pilotInPhase_11 : decode cX9_pilotInPhase 11 = .ok (.if_acmp .eq 14, 3) := by decide +kernel
theorem dX9_pilotInPhase_14 : decode cX9_pilotInPhase 14 = .ok (.new 88, 3) := by decide +kernel
theorem dX9_pilotInPhase_17 : decode cX9_pilotInPhase 17 = .ok (.dup, 1) := by decide +kernel
theorem dX9_pilotInPhase_18 : decode cX9_pilotInPhase 18 = .ok (.ldc_w 433, 3) := by decide +kernel
theorem dX9_pilotInPhase_21 : decode cX9_pilotInPhase 21 = .ok (.invokespecial 92, 3) := by decide +kernel
theorem dX9_pilotInPhase_24 : decode cX9_pilotInPhase 24 = .ok (.athrow, 1) := by decide +kernel
theorem dX9_pilotInPhase_25 : decode cX9_pilotInPhase 25 = .ok (.aload_n 3, 1) := by decide +kernel
theorem dX9_pilotInPhase_26 : decode cX9_pilotInPhase 26 = .ok (.areturn, 1) := by decide +kernel
theorem wd827 : Cond.code yX9_pilotInPhase cX9_pilotInPhase 4 (some (.object "GlidingContest$Glider")) ∈ gW := gW_in 827 (by decide +kernel) (by decide +kernel)
theorem mvX9_pilotInPhase : MV yX9_pilotInPhase cX9_pilotInPhase 4 (some (.object "GlidingContest$Glider")) 2 := ⟨wd827, wd23, by decide +kernel, by decide +kernel, by decide +kernel, by decide⟩
theorem wd826 : Cond.instanceMethod yX9_pilotInPhase ∈ gW := gW_in 826 (by decide +kernel) (by decide +kernel)
theorem wd6 : Cond.selects yX9_pilotInPhase.cls yX9_pilotInPhase yX9_pilotInPhase ∈ gW := gW_in 6 (by decide +kernel) (by decide +kernel)
theorem wd824 : Cond.methodLink RX9 266 yX9_pilotInPhase ∈ gW := gW_in 824 (by decide +kernel) (by decide +kernel)
theorem wd829 : Cond.methodLink RX9 270 yX8_distanceLeft ∈ gW := gW_in 829 (by decide +kernel) (by decide +kernel)
theorem dX9_remainingDistance_0 : decode cX9_remainingDistance 0 = .ok (.aload_n 0, 1) := by decide +kernel
theorem dX9_remainingDistance_1 : decode cX9_remainingDistance 1 = .ok (.getfield 10, 3) := by decide +kernel
theorem dX9_remainingDistance_4 : decode cX9_remainingDistance 4 = .ok (.aload_n 0, 1) := by decide +kernel
theorem dX9_remainingDistance_5 : decode cX9_remainingDistance 5 = .ok (.iload_n 1, 1) := by decide +kernel
theorem dX9_remainingDistance_6 : decode cX9_remainingDistance 6 = .ok (.getstatic 231, 3) := by decide +kernel
theorem dX9_remainingDistance_9 : decode cX9_remainingDistance 9 = .ok (.invokevirtual 266, 3) := by decide +kernel
theorem dX9_remainingDistance_12 : decode cX9_remainingDistance 12 = .ok (.invokevirtual 270, 3) := by decide +kernel
theorem dX9_remainingDistance_15 : decode cX9_remainingDistance 15 = .ok (.ireturn, 1) := by decide +kernel
theorem wd1502 : Cond.methodLink RX9 274 yX8_finishesByHeight ∈ gW := gW_in 1502 (by decide +kernel) (by decide +kernel)
theorem dX9_canFinish_0 : decode cX9_canFinish 0 = .ok (.aload_n 0, 1) := by decide +kernel
theorem dX9_canFinish_1 : decode cX9_canFinish 1 = .ok (.getfield 10, 3) := by decide +kernel
theorem dX9_canFinish_4 : decode cX9_canFinish 4 = .ok (.aload_n 0, 1) := by decide +kernel
theorem dX9_canFinish_5 : decode cX9_canFinish 5 = .ok (.iload_n 1, 1) := by decide +kernel
theorem dX9_canFinish_6 : decode cX9_canFinish 6 = .ok (.getstatic 231, 3) := by decide +kernel
theorem dX9_canFinish_9 : decode cX9_canFinish 9 = .ok (.invokevirtual 266, 3) := by decide +kernel
theorem dX9_canFinish_12 : decode cX9_canFinish 12 = .ok (.invokevirtual 274, 3) := by decide +kernel
theorem dX9_canFinish_15 : decode cX9_canFinish 15 = .ok (.ireturn, 1) := by decide +kernel
theorem wd1512 : Cond.methodLink RX9 278 yX8_finishesInFlight ∈ gW := gW_in 1512 (by decide +kernel) (by decide +kernel)
theorem dX9_canFinishBySimulation_0 : decode cX9_canFinishBySimulation 0 = .ok (.aload_n 0, 1) := by decide +kernel
theorem dX9_canFinishBySimulation_1 : decode cX9_canFinishBySimulation 1 = .ok (.getfield 10, 3) := by decide +kernel
theorem dX9_canFinishBySimulation_4 : decode cX9_canFinishBySimulation 4 = .ok (.aload_n 0, 1) := by decide +kernel
theorem dX9_canFinishBySimulation_5 : decode cX9_canFinishBySimulation 5 = .ok (.iload_n 1, 1) := by decide +kernel
theorem dX9_canFinishBySimulation_6 : decode cX9_canFinishBySimulation 6 = .ok (.getstatic 231, 3) := by decide +kernel
theorem dX9_canFinishBySimulation_9 : decode cX9_canFinishBySimulation 9 = .ok (.invokevirtual 266, 3) := by decide +kernel
theorem dX9_canFinishBySimulation_12 : decode cX9_canFinishBySimulation 12 = .ok (.invokevirtual 278, 3) := by decide +kernel
theorem dX9_canFinishBySimulation_15 : decode cX9_canFinishBySimulation 15 = .ok (.ireturn, 1) := by decide +kernel
theorem wd1492 : Cond.methodLink RX9 281 yX8_distanceDone ∈ gW := gW_in 1492 (by decide +kernel) (by decide +kernel)
theorem dX9_achievedDistance_0 : decode cX9_achievedDistance 0 = .ok (.aload_n 0, 1) := by decide +kernel
theorem dX9_achievedDistance_1 : decode cX9_achievedDistance 1 = .ok (.getfield 10, 3) := by decide +kernel
theorem dX9_achievedDistance_4 : decode cX9_achievedDistance 4 = .ok (.aload_n 0, 1) := by decide +kernel
theorem dX9_achievedDistance_5 : decode cX9_achievedDistance 5 = .ok (.iload_n 1, 1) := by decide +kernel
theorem dX9_achievedDistance_6 : decode cX9_achievedDistance 6 = .ok (.invokevirtual 221, 3) := by decide +kernel
theorem dX9_achievedDistance_9 : decode cX9_achievedDistance 9 = .ok (.invokevirtual 281, 3) := by decide +kernel
theorem dX9_achievedDistance_12 : decode cX9_achievedDistance 12 = .ok (.ireturn, 1) := by decide +kernel
theorem wd1497 : Cond.methodLink RX9 284 yX8_scoreOf ∈ gW := gW_in 1497 (by decide +kernel) (by decide +kernel)
theorem dX9_dayScore_0 : decode cX9_dayScore 0 = .ok (.aload_n 0, 1) := by decide +kernel
theorem dX9_dayScore_1 : decode cX9_dayScore 1 = .ok (.getfield 10, 3) := by decide +kernel
theorem dX9_dayScore_4 : decode cX9_dayScore 4 = .ok (.aload_n 0, 1) := by decide +kernel
theorem dX9_dayScore_5 : decode cX9_dayScore 5 = .ok (.iload_n 1, 1) := by decide +kernel
theorem dX9_dayScore_6 : decode cX9_dayScore 6 = .ok (.invokevirtual 221, 3) := by decide +kernel
theorem dX9_dayScore_9 : decode cX9_dayScore 9 = .ok (.invokevirtual 284, 3) := by decide +kernel
theorem dX9_dayScore_12 : decode cX9_dayScore 12 = .ok (.ireturn, 1) := by decide +kernel
theorem wd1015 : Cond.fieldLink RX9 287 (TX3 8).1 (TX3 8).2.1 (TX3 8).2.2.1 ∈ gW := gW_in 1015 (by decide +kernel) (by decide +kernel)
theorem dX9_total_0 : decode cX9_total 0 = .ok (.aload_n 0, 1) := by decide +kernel
theorem dX9_total_1 : decode cX9_total 1 = .ok (.iload_n 1, 1) := by decide +kernel
theorem dX9_total_2 : decode cX9_total 2 = .ok (.invokevirtual 221, 3) := by decide +kernel
theorem dX9_total_5 : decode cX9_total 5 = .ok (.getfield 287, 3) := by decide +kernel
theorem dX9_total_8 : decode cX9_total 8 = .ok (.lreturn, 1) := by decide +kernel
theorem wd844 : Cond.code yX8_rankedAt cX8_rankedAt 3 (some .int) ∈ gW := gW_in 844 (by decide +kernel) (by decide +kernel)
theorem mvX8_rankedAt : MV yX8_rankedAt cX8_rankedAt 3 (some .int) 1 := ⟨wd844, wd24, by decide +kernel, by decide +kernel, by decide +kernel, by decide⟩
theorem wd842 : Cond.instanceMethod yX8_rankedAt ∈ gW := gW_in 842 (by decide +kernel) (by decide +kernel)
theorem wd843 : Cond.selects yX8_rankedAt.cls yX8_rankedAt yX8_rankedAt ∈ gW := gW_in 843 (by decide +kernel) (by decide +kernel)
theorem wd841 : Cond.methodLink RX9 296 yX8_rankedAt ∈ gW := gW_in 841 (by decide +kernel) (by decide +kernel)
theorem dX9_pilotAtRank_0 : decode cX9_pilotAtRank 0 = .ok (.aload_n 0, 1) := by decide +kernel
theorem dX9_pilotAtRank_1 : decode cX9_pilotAtRank 1 = .ok (.getfield 10, 3) := by decide +kernel
theorem dX9_pilotAtRank_4 : decode cX9_pilotAtRank 4 = .ok (.iload_n 1, 1) := by decide +kernel
theorem dX9_pilotAtRank_5 : decode cX9_pilotAtRank 5 = .ok (.invokevirtual 291, 3) := by decide +kernel
theorem dX9_pilotAtRank_8 : decode cX9_pilotAtRank 8 = .ok (.ifCond .ne 14, 3) := by decide +kernel
theorem dX9_pilotAtRank_11 : decode cX9_pilotAtRank 11 = .ok (.new 187, 3) := by decide +kernel
theorem dX9_pilotAtRank_14 : decode cX9_pilotAtRank 14 = .ok (.dup, 1) := by decide +kernel
theorem dX9_pilotAtRank_15 : decode cX9_pilotAtRank 15 = .ok (.ldc_w 294, 3) := by decide +kernel
theorem dX9_pilotAtRank_18 : decode cX9_pilotAtRank 18 = .ok (.invokespecial 191, 3) := by decide +kernel
theorem dX9_pilotAtRank_21 : decode cX9_pilotAtRank 21 = .ok (.athrow, 1) := by decide +kernel
theorem dX9_pilotAtRank_22 : decode cX9_pilotAtRank 22 = .ok (.aload_n 0, 1) := by decide +kernel
theorem dX9_pilotAtRank_23 : decode cX9_pilotAtRank 23 = .ok (.getfield 10, 3) := by decide +kernel
theorem dX9_pilotAtRank_26 : decode cX9_pilotAtRank 26 = .ok (.iload_n 1, 1) := by decide +kernel
theorem dX9_pilotAtRank_27 : decode cX9_pilotAtRank 27 = .ok (.invokevirtual 296, 3) := by decide +kernel
theorem dX9_pilotAtRank_30 : decode cX9_pilotAtRank 30 = .ok (.ireturn, 1) := by decide +kernel
theorem wd1047 : Cond.fieldLink RX9 299 (TX8 5).1 (TX8 5).2.1 (TX8 5).2.2.1 ∈ gW := gW_in 1047 (by decide +kernel) (by decide +kernel)
theorem dX9_days_0 : decode cX9_days 0 = .ok (.aload_n 0, 1) := by decide +kernel
theorem dX9_days_1 : decode cX9_days 1 = .ok (.getfield 10, 3) := by decide +kernel
theorem dX9_days_4 : decode cX9_days 4 = .ok (.getfield 299, 3) := by decide +kernel
theorem dX9_days_7 : decode cX9_days 7 = .ok (.ireturn, 1) := by decide +kernel
theorem wd1553 : Cond.code yX8_rowCountsAgree cX8_rowCountsAgree 2 (some .boolean) ∈ gW := gW_in 1553 (by decide +kernel) (by decide +kernel)
theorem mvX8_rowCountsAgree : MV yX8_rowCountsAgree cX8_rowCountsAgree 2 (some .boolean) 0 := ⟨wd1553, wd24, by decide +kernel, by decide +kernel, by decide +kernel, by decide⟩
theorem wd1551 : Cond.instanceMethod yX8_rowCountsAgree ∈ gW := gW_in 1551 (by decide +kernel) (by decide +kernel)
theorem wd1552 : Cond.selects yX8_rowCountsAgree.cls yX8_rowCountsAgree yX8_rowCountsAgree ∈ gW := gW_in 1552 (by decide +kernel) (by decide +kernel)
theorem wd1550 : Cond.methodLink RX9 310 yX8_rowCountsAgree ∈ gW := gW_in 1550 (by decide +kernel) (by decide +kernel)
theorem wd1559 : Cond.code yX8_finishForecastsAgree cX8_finishForecastsAgree 3 (some .boolean) ∈ gW := gW_in 1559 (by decide +kernel) (by decide +kernel)
theorem mvX8_finishForecastsAgree : MV yX8_finishForecastsAgree cX8_finishForecastsAgree 3 (some .boolean) 0 := ⟨wd1559, wd24, by decide +kernel, by decide +kernel, by decide +kernel, by decide⟩
theorem wd1557 : Cond.instanceMethod yX8_finishForecastsAgree ∈ gW := gW_in 1557 (by decide +kernel) (by decide +kernel)
theorem wd1558 : Cond.selects yX8_finishForecastsAgree.cls yX8_finishForecastsAgree yX8_finishForecastsAgree ∈ gW := gW_in 1558 (by decide +kernel) (by decide +kernel)
theorem wd1556 : Cond.methodLink RX9 313 yX8_finishForecastsAgree ∈ gW := gW_in 1556 (by decide +kernel) (by decide +kernel)
theorem wd1565 : Cond.code yX8_distancesAreBounded cX8_distancesAreBounded 2 (some .boolean) ∈ gW := gW_in 1565 (by decide +kernel) (by decide +kernel)
theorem mvX8_distancesAreBounded : MV yX8_distancesAreBounded cX8_distancesAreBounded 2 (some .boolean) 0 := ⟨wd1565, wd24, by decide +kernel, by decide +kernel, by decide +kernel, by decide⟩
theorem wd1563 : Cond.instanceMethod yX8_distancesAreBounded ∈ gW := gW_in 1563 (by decide +kernel) (by decide +kernel)
theorem wd1564 : Cond.selects yX8_distancesAreBounded.cls yX8_distancesAreBounded yX8_distancesAreBounded ∈ gW := gW_in 1564 (by decide +kernel) (by decide +kernel)
theorem wd1562 : Cond.methodLink RX9 316 yX8_distancesAreBounded ∈ gW := gW_in 1562 (by decide +kernel) (by decide +kernel)
theorem dX9_isConsistent_0 : decode cX9_isConsistent 0 = .ok (.aload_n 0, 1) := by decide +kernel
theorem dX9_isConsistent_1 : decode cX9_isConsistent 1 = .ok (.getfield 10, 3) := by decide +kernel
theorem dX9_isConsistent_4 : decode cX9_isConsistent 4 = .ok (.invokevirtual 310, 3) := by decide +kernel
theorem dX9_isConsistent_7 : decode cX9_isConsistent 7 = .ok (.ifCond .eq 27, 3) := by decide +kernel
theorem dX9_isConsistent_10 : decode cX9_isConsistent 10 = .ok (.aload_n 0, 1) := by decide +kernel
theorem dX9_isConsistent_11 : decode cX9_isConsistent 11 = .ok (.getfield 10, 3) := by decide +kernel
theorem dX9_isConsistent_14 : decode cX9_isConsistent 14 = .ok (.invokevirtual 313, 3) := by decide +kernel
theorem dX9_isConsistent_17 : decode cX9_isConsistent 17 = .ok (.ifCond .eq 17, 3) := by decide +kernel
theorem dX9_isConsistent_20 : decode cX9_isConsistent 20 = .ok (.aload_n 0, 1) := by decide +kernel
theorem dX9_isConsistent_21 : decode cX9_isConsistent 21 = .ok (.getfield 10, 3) := by decide +kernel
theorem dX9_isConsistent_24 : decode cX9_isConsistent 24 = .ok (.invokevirtual 316, 3) := by decide +kernel
theorem dX9_isConsistent_27 : decode cX9_isConsistent 27 = .ok (.ifCond .eq 7, 3) := by decide +kernel
theorem dX9_isConsistent_30 : decode cX9_isConsistent 30 = .ok (.iconst 1, 1) := by decide +kernel
theorem dX9_isConsistent_31 : decode cX9_isConsistent 31 = .ok (.goto 4, 3) := by decide +kernel
theorem dX9_isConsistent_34 : decode cX9_isConsistent 34 = .ok (.iconst 0, 1) := by decide +kernel
theorem dX9_isConsistent_35 : decode cX9_isConsistent 35 = .ok (.ireturn, 1) := by decide +kernel
theorem wd1121 : Cond.fieldLink RX9 32 (TX9 4).1 (TX9 4).2.1 (TX9 4).2.2.1 ∈ gW := gW_in 1121 (by decide +kernel) (by decide +kernel)
theorem wd1302 : Cond.methodLink RX9 319 yX7_hasRoom ∈ gW := gW_in 1302 (by decide +kernel) (by decide +kernel)
theorem wd1310 : Cond.code yX7_add cX7_add 2 (some .int) ∈ gW := gW_in 1310 (by decide +kernel) (by decide +kernel)
theorem mvX7_add : MV yX7_add cX7_add 2 (some .int) 1 := ⟨wd1310, wd32, by decide +kernel, by decide +kernel, by decide +kernel, by decide⟩
theorem wd1308 : Cond.instanceMethod yX7_add ∈ gW := gW_in 1308 (by decide +kernel) (by decide +kernel)
theorem wd1309 : Cond.selects yX7_add.cls yX7_add yX7_add ∈ gW := gW_in 1309 (by decide +kernel) (by decide +kernel)
theorem wd1307 : Cond.methodLink RX9 324 yX7_add ∈ gW := gW_in 1307 (by decide +kernel) (by decide +kernel)
theorem dX9_append_0 : decode cX9_append 0 = .ok (.aload_n 0, 1) := by decide +kernel
theorem dX9_append_1 : decode cX9_append 1 = .ok (.getfield 32, 3) := by decide +kernel
theorem dX9_append_4 : decode cX9_append 4 = .ok (.invokevirtual 319, 3) := by decide +kernel
theorem dX9_append_7 : decode cX9_append 7 = .ok (.ifCond .ne 14, 3) := by decide +kernel
theorem dX9_append_10 : decode cX9_append 10 = .ok (.new 88, 3) := by decide +kernel
theorem dX9_append_13 : decode cX9_append 13 = .ok (.dup, 1) := by decide +kernel
theorem dX9_append_14 : decode cX9_append 14 = .ok (.ldc_w 322, 3) := by decide +kernel
theorem dX9_append_17 : decode cX9_append 17 = .ok (.invokespecial 92, 3) := by decide +kernel
theorem dX9_append_20 : decode cX9_append 20 = .ok (.athrow, 1) := by decide +kernel
theorem dX9_append_21 : decode cX9_append 21 = .ok (.aload_n 0, 1) := by decide +kernel
theorem dX9_append_22 : decode cX9_append 22 = .ok (.getfield 32, 3) := by decide +kernel
theorem dX9_append_25 : decode cX9_append 25 = .ok (.iload_n 1, 1) := by decide +kernel
theorem dX9_append_26 : decode cX9_append 26 = .ok (.invokevirtual 324, 3) := by decide +kernel
theorem dX9_append_29 : decode cX9_append 29 = .ok (.ireturn, 1) := by decide +kernel
theorem wd1097 : Cond.fieldLink RX9 446 (TX7 3).1 (TX7 3).2.1 (TX7 3).2.2.1 ∈ gW := gW_in 1097 (by decide +kernel) (by decide +kernel)
theorem wd1095 : Cond.fieldLink RX9 450 (TX7 2).1 (TX7 2).2.1 (TX7 2).2.2.1 ∈ gW := gW_in 1095 (by decide +kernel) (by decide +kernel)
theorem dX9_refusalOf_0 : decode cX9_refusalOf 0 = .ok (.aload_n 0, 1) := by decide +kernel
theorem dX9_refusalOf_1 : decode cX9_refusalOf 1 = .ok (.getfield 32, 3) := by decide +kernel
theorem dX9_refusalOf_4 : decode cX9_refusalOf 4 = .ok (.getfield 446, 3) := by decide +kernel
theorem dX9_refusalOf_7 : decode cX9_refusalOf 7 = .ok (.iload_n 1, 1) := by decide +kernel
theorem dX9_refusalOf_8 : decode cX9_refusalOf 8 = .ok (.aaload, 1) := by decide +kernel
theorem dX9_refusalOf_9 : decode cX9_refusalOf 9 = .ok (.astore_n 2, 1) := by decide +kernel
theorem dX9_refusalOf_10 : decode cX9_refusalOf 10 = .ok (.aload_n 0, 1) := by decide +kernel
theorem dX9_refusalOf_11 : decode cX9_refusalOf 11 = .ok (.getfield 32, 3) := by decide +kernel
theorem dX9_refusalOf_14 : decode cX9_refusalOf 14 = .ok (.getfield 450, 3) := by decide +kernel
theorem dX9_refusalOf_17 : decode cX9_refusalOf 17 = .ok (.iload_n 1, 1) := by decide +kernel
theorem dX9_refusalOf_18 : decode cX9_refusalOf 18 = .ok (.iaload, 1) := by decide +kernel
theorem dX9_refusalOf_19 : decode cX9_refusalOf 19 = .ok (.tableswitch 160 0 7 #[45, 59, 70, 87, 107, 118, 129, 146], 45) := by decide +kernel
theorem dX9_refusalOf_64 : decode cX9_refusalOf 64 = .ok (.aload_n 0, 1) := by decide +kernel
theorem dX9_refusalOf_65 : decode cX9_refusalOf 65 = .ok (.getfield 10, 3) := by decide +kernel
theorem dX9_refusalOf_68 : decode cX9_refusalOf 68 = .ok (.aload_n 2, 1) := by decide +kernel
theorem dX9_refusalOf_69 : decode cX9_refusalOf 69 = .ok (.iconst 0, 1) := by decide +kernel
theorem dX9_refusalOf_70 : decode cX9_refusalOf 70 = .ok (.iaload, 1) := by decide +kernel
theorem dX9_refusalOf_71 : decode cX9_refusalOf 71 = .ok (.aload_n 2, 1) := by decide +kernel
theorem dX9_refusalOf_72 : decode cX9_refusalOf 72 = .ok (.iconst 1, 1) := by decide +kernel
theorem dX9_refusalOf_73 : decode cX9_refusalOf 73 = .ok (.iaload, 1) := by decide +kernel
theorem dX9_refusalOf_74 : decode cX9_refusalOf 74 = .ok (.invokevirtual 54, 3) := by decide +kernel
theorem dX9_refusalOf_77 : decode cX9_refusalOf 77 = .ok (.areturn, 1) := by decide +kernel
theorem dX9_refusalOf_78 : decode cX9_refusalOf 78 = .ok (.aload_n 0, 1) := by decide +kernel
theorem dX9_refusalOf_79 : decode cX9_refusalOf 79 = .ok (.getfield 10, 3) := by decide +kernel
theorem dX9_refusalOf_82 : decode cX9_refusalOf 82 = .ok (.aload_n 2, 1) := by decide +kernel
theorem dX9_refusalOf_83 : decode cX9_refusalOf 83 = .ok (.iconst 0, 1) := by decide +kernel
theorem dX9_refusalOf_84 : decode cX9_refusalOf 84 = .ok (.iaload, 1) := by decide +kernel
theorem dX9_refusalOf_85 : decode cX9_refusalOf 85 = .ok (.invokevirtual 76, 3) := by decide +kernel
theorem dX9_refusalOf_88 : decode cX9_refusalOf 88 = .ok (.areturn, 1) := by decide +kernel
theorem dX9_refusalOf_89 : decode cX9_refusalOf 89 = .ok (.aload_n 0, 1) := by decide +kernel
theorem dX9_refusalOf_90 : decode cX9_refusalOf 90 = .ok (.getfield 10, 3) := by decide +kernel
theorem dX9_refusalOf_93 : decode cX9_refusalOf 93 = .ok (.aload_n 2, 1) := by decide +kernel
theorem dX9_refusalOf_94 : decode cX9_refusalOf 94 = .ok (.iconst 0, 1) := by decide +kernel
theorem dX9_refusalOf_95 : decode cX9_refusalOf 95 = .ok (.iaload, 1) := by decide +kernel
theorem dX9_refusalOf_96 : decode cX9_refusalOf 96 = .ok (.aload_n 2, 1) := by decide +kernel
theorem dX9_refusalOf_97 : decode cX9_refusalOf 97 = .ok (.iconst 1, 1) := by decide +kernel
theorem dX9_refusalOf_98 : decode cX9_refusalOf 98 = .ok (.iaload, 1) := by decide +kernel
theorem dX9_refusalOf_99 : decode cX9_refusalOf 99 = .ok (.aload_n 2, 1) := by decide +kernel
theorem dX9_refusalOf_100 : decode cX9_refusalOf 100 = .ok (.iconst 2, 1) := by decide +kernel
theorem dX9_refusalOf_101 : decode cX9_refusalOf 101 = .ok (.iaload, 1) := by decide +kernel
theorem dX9_refusalOf_102 : decode cX9_refusalOf 102 = .ok (.invokevirtual 99, 3) := by decide +kernel
theorem dX9_refusalOf_105 : decode cX9_refusalOf 105 = .ok (.areturn, 1) := by decide +kernel
theorem dX9_refusalOf_106 : decode cX9_refusalOf 106 = .ok (.aload_n 0, 1) := by decide +kernel
theorem dX9_refusalOf_107 : decode cX9_refusalOf 107 = .ok (.getfield 10, 3) := by decide +kernel
theorem dX9_refusalOf_110 : decode cX9_refusalOf 110 = .ok (.aload_n 2, 1) := by decide +kernel
theorem dX9_refusalOf_111 : decode cX9_refusalOf 111 = .ok (.iconst 0, 1) := by decide +kernel
theorem dX9_refusalOf_112 : decode cX9_refusalOf 112 = .ok (.iaload, 1) := by decide +kernel
theorem dX9_refusalOf_113 : decode cX9_refusalOf 113 = .ok (.aload_n 2, 1) := by decide +kernel
theorem dX9_refusalOf_114 : decode cX9_refusalOf 114 = .ok (.iconst 1, 1) := by decide +kernel
theorem dX9_refusalOf_115 : decode cX9_refusalOf 115 = .ok (.iaload, 1) := by decide +kernel
theorem dX9_refusalOf_116 : decode cX9_refusalOf 116 = .ok (.aload_n 2, 1) := by decide +kernel
theorem dX9_refusalOf_117 : decode cX9_refusalOf 117 = .ok (.iconst 2, 1) := by decide +kernel
theorem dX9_refusalOf_118 : decode cX9_refusalOf 118 = .ok (.iaload, 1) := by decide +kernel
theorem dX9_refusalOf_119 : decode cX9_refusalOf 119 = .ok (.aload_n 2, 1) := by decide +kernel
theorem dX9_refusalOf_120 : decode cX9_refusalOf 120 = .ok (.iconst 3, 1) := by decide +kernel
theorem dX9_refusalOf_121 : decode cX9_refusalOf 121 = .ok (.iaload, 1) := by decide +kernel
theorem dX9_refusalOf_122 : decode cX9_refusalOf 122 = .ok (.invokevirtual 121, 3) := by decide +kernel
theorem dX9_refusalOf_125 : decode cX9_refusalOf 125 = .ok (.areturn, 1) := by decide +kernel
theorem dX9_refusalOf_126 : decode cX9_refusalOf 126 = .ok (.aload_n 0, 1) := by decide +kernel
theorem dX9_refusalOf_127 : decode cX9_refusalOf 127 = .ok (.getfield 10, 3) := by decide +kernel
theorem dX9_refusalOf_130 : decode cX9_refusalOf 130 = .ok (.aload_n 2, 1) := by decide +kernel
theorem dX9_refusalOf_131 : decode cX9_refusalOf 131 = .ok (.iconst 0, 1) := by decide +kernel
theorem dX9_refusalOf_132 : decode cX9_refusalOf 132 = .ok (.iaload, 1) := by decide +kernel
theorem dX9_refusalOf_133 : decode cX9_refusalOf 133 = .ok (.invokevirtual 135, 3) := by decide +kernel
theorem dX9_refusalOf_136 : decode cX9_refusalOf 136 = .ok (.areturn, 1) := by decide +kernel
theorem dX9_refusalOf_137 : decode cX9_refusalOf 137 = .ok (.aload_n 0, 1) := by decide +kernel
theorem dX9_refusalOf_138 : decode cX9_refusalOf 138 = .ok (.getfield 10, 3) := by decide +kernel
theorem dX9_refusalOf_141 : decode cX9_refusalOf 141 = .ok (.aload_n 2, 1) := by decide +kernel
theorem dX9_refusalOf_142 : decode cX9_refusalOf 142 = .ok (.iconst 0, 1) := by decide +kernel
theorem dX9_refusalOf_143 : decode cX9_refusalOf 143 = .ok (.iaload, 1) := by decide +kernel
theorem dX9_refusalOf_144 : decode cX9_refusalOf 144 = .ok (.invokevirtual 141, 3) := by decide +kernel
theorem dX9_refusalOf_147 : decode cX9_refusalOf 147 = .ok (.areturn, 1) := by decide +kernel
theorem dX9_refusalOf_148 : decode cX9_refusalOf 148 = .ok (.aload_n 0, 1) := by decide +kernel
theorem dX9_refusalOf_149 : decode cX9_refusalOf 149 = .ok (.getfield 10, 3) := by decide +kernel
theorem dX9_refusalOf_152 : decode cX9_refusalOf 152 = .ok (.aload_n 2, 1) := by decide +kernel
theorem dX9_refusalOf_153 : decode cX9_refusalOf 153 = .ok (.iconst 0, 1) := by decide +kernel
theorem dX9_refusalOf_154 : decode cX9_refusalOf 154 = .ok (.iaload, 1) := by decide +kernel
theorem dX9_refusalOf_155 : decode cX9_refusalOf 155 = .ok (.aload_n 2, 1) := by decide +kernel
theorem dX9_refusalOf_156 : decode cX9_refusalOf 156 = .ok (.iconst 1, 1) := by decide +kernel
theorem dX9_refusalOf_157 : decode cX9_refusalOf 157 = .ok (.iaload, 1) := by decide +kernel
theorem dX9_refusalOf_158 : decode cX9_refusalOf 158 = .ok (.aload_n 2, 1) := by decide +kernel
theorem dX9_refusalOf_159 : decode cX9_refusalOf 159 = .ok (.iconst 2, 1) := by decide +kernel
theorem dX9_refusalOf_160 : decode cX9_refusalOf 160 = .ok (.iaload, 1) := by decide +kernel
theorem dX9_refusalOf_161 : decode cX9_refusalOf 161 = .ok (.invokevirtual 147, 3) := by decide +kernel
theorem dX9_refusalOf_164 : decode cX9_refusalOf 164 = .ok (.areturn, 1) := by decide +kernel
theorem dX9_refusalOf_165 : decode cX9_refusalOf 165 = .ok (.aload_n 0, 1) := by decide +kernel
theorem dX9_refusalOf_166 : decode cX9_refusalOf 166 = .ok (.getfield 10, 3) := by decide +kernel
theorem dX9_refusalOf_169 : decode cX9_refusalOf 169 = .ok (.aload_n 2, 1) := by decide +kernel
theorem dX9_refusalOf_170 : decode cX9_refusalOf 170 = .ok (.iconst 0, 1) := by decide +kernel
theorem dX9_refusalOf_171 : decode cX9_refusalOf 171 = .ok (.iaload, 1) := by decide +kernel
theorem dX9_refusalOf_172 : decode cX9_refusalOf 172 = .ok (.aload_n 2, 1) := by decide +kernel
theorem dX9_refusalOf_173 : decode cX9_refusalOf 173 = .ok (.iconst 1, 1) := by decide +kernel
theorem dX9_refusalOf_174 : decode cX9_refusalOf 174 = .ok (.iaload, 1) := by decide +kernel
theorem dX9_refusalOf_175 : decode cX9_refusalOf 175 = .ok (.invokevirtual 153, 3) := by decide +kernel
theorem dX9_refusalOf_178 : decode cX9_refusalOf 178 = .ok (.areturn, 1) := by decide +kernel
theorem dX9_refusalOf_179 : decode cX9_refusalOf 179 = .ok (.aload_n 0, 1) := by decide +kernel
theorem dX9_refusalOf_180 : decode cX9_refusalOf 180 = .ok (.getfield 10, 3) := by decide +kernel
theorem dX9_refusalOf_183 : decode cX9_refusalOf 183 = .ok (.invokevirtual 159, 3) := by decide +kernel
theorem dX9_refusalOf_186 : decode cX9_refusalOf 186 = .ok (.areturn, 1) := by decide +kernel
theorem dX9_carryOut_0 : decode cX9_carryOut 0 = .ok (.aload_n 0, 1) := by decide +kernel
theorem dX9_carryOut_1 : decode cX9_carryOut 1 = .ok (.getfield 32, 3) := by decide +kernel
theorem dX9_carryOut_4 : decode cX9_carryOut 4 = .ok (.getfield 446, 3) := by decide +kernel
theorem dX9_carryOut_7 : decode cX9_carryOut 7 = .ok (.iload_n 1, 1) := by decide +kernel
theorem dX9_carryOut_8 : decode cX9_carryOut 8 = .ok (.aaload, 1) := by decide +kernel
theorem dX9_carryOut_9 : decode cX9_carryOut 9 = .ok (.astore_n 2, 1) := by decide +kernel
theorem dX9_carryOut_10 : decode cX9_carryOut 10 = .ok (.aload_n 0, 1) := by decide +kernel
theorem dX9_carryOut_11 : decode cX9_carryOut 11 = .ok (.getfield 32, 3) := by decide +kernel
theorem dX9_carryOut_14 : decode cX9_carryOut 14 = .ok (.getfield 450, 3) := by decide +kernel
theorem dX9_carryOut_17 : decode cX9_carryOut 17 = .ok (.iload_n 1, 1) := by decide +kernel
theorem dX9_carryOut_18 : decode cX9_carryOut 18 = .ok (.iaload, 1) := by decide +kernel
theorem dX9_carryOut_19 : decode cX9_carryOut 19 = .ok (.tableswitch 196 0 7 #[45, 65, 82, 105, 131, 145, 159, 179], 45) := by decide +kernel
theorem dX9_carryOut_64 : decode cX9_carryOut 64 = .ok (.aload_n 0, 1) := by decide +kernel
theorem dX9_carryOut_65 : decode cX9_carryOut 65 = .ok (.getfield 10, 3) := by decide +kernel
theorem dX9_carryOut_68 : decode cX9_carryOut 68 = .ok (.getfield 66, 3) := by decide +kernel
theorem dX9_carryOut_71 : decode cX9_carryOut 71 = .ok (.aload_n 2, 1) := by decide +kernel
theorem dX9_carryOut_72 : decode cX9_carryOut 72 = .ok (.iconst 0, 1) := by decide +kernel
theorem dX9_carryOut_73 : decode cX9_carryOut 73 = .ok (.iaload, 1) := by decide +kernel
theorem dX9_carryOut_74 : decode cX9_carryOut 74 = .ok (.aload_n 2, 1) := by decide +kernel
theorem dX9_carryOut_75 : decode cX9_carryOut 75 = .ok (.iconst 1, 1) := by decide +kernel
theorem dX9_carryOut_76 : decode cX9_carryOut 76 = .ok (.iaload, 1) := by decide +kernel
theorem dX9_carryOut_77 : decode cX9_carryOut 77 = .ok (.invokevirtual 70, 3) := by decide +kernel
theorem dX9_carryOut_80 : decode cX9_carryOut 80 = .ok (.pop, 1) := by decide +kernel
theorem dX9_carryOut_81 : decode cX9_carryOut 81 = .ok (.goto 142, 3) := by decide +kernel
theorem dX9_carryOut_84 : decode cX9_carryOut 84 = .ok (.aload_n 0, 1) := by decide +kernel
theorem dX9_carryOut_85 : decode cX9_carryOut 85 = .ok (.getfield 10, 3) := by decide +kernel
theorem dX9_carryOut_88 : decode cX9_carryOut 88 = .ok (.getfield 66, 3) := by decide +kernel
theorem dX9_carryOut_91 : decode cX9_carryOut 91 = .ok (.aload_n 2, 1) := by decide +kernel
theorem dX9_carryOut_92 : decode cX9_carryOut 92 = .ok (.iconst 0, 1) := by decide +kernel
theorem dX9_carryOut_93 : decode cX9_carryOut 93 = .ok (.iaload, 1) := by decide +kernel
theorem dX9_carryOut_94 : decode cX9_carryOut 94 = .ok (.invokevirtual 80, 3) := by decide +kernel
theorem dX9_carryOut_97 : decode cX9_carryOut 97 = .ok (.pop, 1) := by decide +kernel
theorem dX9_carryOut_98 : decode cX9_carryOut 98 = .ok (.goto 125, 3) := by decide +kernel
theorem dX9_carryOut_101 : decode cX9_carryOut 101 = .ok (.aload_n 0, 1) := by decide +kernel
theorem dX9_carryOut_102 : decode cX9_carryOut 102 = .ok (.getfield 10, 3) := by decide +kernel
theorem dX9_carryOut_105 : decode cX9_carryOut 105 = .ok (.getfield 103, 3) := by decide +kernel
theorem dX9_carryOut_108 : decode cX9_carryOut 108 = .ok (.aload_n 2, 1) := by decide +kernel
theorem dX9_carryOut_109 : decode cX9_carryOut 109 = .ok (.iconst 0, 1) := by decide +kernel
theorem dX9_carryOut_110 : decode cX9_carryOut 110 = .ok (.iaload, 1) := by decide +kernel
theorem dX9_carryOut_111 : decode cX9_carryOut 111 = .ok (.aload_n 2, 1) := by decide +kernel
theorem dX9_carryOut_112 : decode cX9_carryOut 112 = .ok (.iconst 1, 1) := by decide +kernel
theorem dX9_carryOut_113 : decode cX9_carryOut 113 = .ok (.iaload, 1) := by decide +kernel
theorem dX9_carryOut_114 : decode cX9_carryOut 114 = .ok (.aload_n 2, 1) := by decide +kernel
theorem dX9_carryOut_115 : decode cX9_carryOut 115 = .ok (.iconst 2, 1) := by decide +kernel
theorem dX9_carryOut_116 : decode cX9_carryOut 116 = .ok (.iaload, 1) := by decide +kernel
theorem dX9_carryOut_117 : decode cX9_carryOut 117 = .ok (.invokevirtual 107, 3) := by decide +kernel
theorem dX9_carryOut_120 : decode cX9_carryOut 120 = .ok (.pop, 1) := by decide +kernel
theorem dX9_carryOut_121 : decode cX9_carryOut 121 = .ok (.goto 102, 3) := by decide +kernel
theorem dX9_carryOut_124 : decode cX9_carryOut 124 = .ok (.aload_n 0, 1) := by decide +kernel
theorem dX9_carryOut_125 : decode cX9_carryOut 125 = .ok (.getfield 10, 3) := by decide +kernel
theorem dX9_carryOut_128 : decode cX9_carryOut 128 = .ok (.getfield 125, 3) := by decide +kernel
theorem dX9_carryOut_131 : decode cX9_carryOut 131 = .ok (.aload_n 2, 1) := by decide +kernel
theorem dX9_carryOut_132 : decode cX9_carryOut 132 = .ok (.iconst 0, 1) := by decide +kernel
theorem dX9_carryOut_133 : decode cX9_carryOut 133 = .ok (.iaload, 1) := by decide +kernel
theorem dX9_carryOut_134 : decode cX9_carryOut 134 = .ok (.aload_n 2, 1) := by decide +kernel
theorem dX9_carryOut_135 : decode cX9_carryOut 135 = .ok (.iconst 1, 1) := by decide +kernel
theorem dX9_carryOut_136 : decode cX9_carryOut 136 = .ok (.iaload, 1) := by decide +kernel
theorem dX9_carryOut_137 : decode cX9_carryOut 137 = .ok (.aload_n 2, 1) := by decide +kernel
theorem dX9_carryOut_138 : decode cX9_carryOut 138 = .ok (.iconst 2, 1) := by decide +kernel
theorem dX9_carryOut_139 : decode cX9_carryOut 139 = .ok (.iaload, 1) := by decide +kernel
theorem dX9_carryOut_140 : decode cX9_carryOut 140 = .ok (.aload_n 2, 1) := by decide +kernel
theorem dX9_carryOut_141 : decode cX9_carryOut 141 = .ok (.iconst 3, 1) := by decide +kernel
theorem dX9_carryOut_142 : decode cX9_carryOut 142 = .ok (.iaload, 1) := by decide +kernel
theorem dX9_carryOut_143 : decode cX9_carryOut 143 = .ok (.invokevirtual 129, 3) := by decide +kernel
theorem dX9_carryOut_146 : decode cX9_carryOut 146 = .ok (.pop, 1) := by decide +kernel
theorem dX9_carryOut_147 : decode cX9_carryOut 147 = .ok (.goto 76, 3) := by decide +kernel
theorem dX9_carryOut_150 : decode cX9_carryOut 150 = .ok (.aload_n 0, 1) := by decide +kernel
theorem dX9_carryOut_151 : decode cX9_carryOut 151 = .ok (.getfield 10, 3) := by decide +kernel
theorem dX9_carryOut_154 : decode cX9_carryOut 154 = .ok (.aload_n 2, 1) := by decide +kernel
theorem dX9_carryOut_155 : decode cX9_carryOut 155 = .ok (.iconst 0, 1) := by decide +kernel
theorem dX9_carryOut_156 : decode cX9_carryOut 156 = .ok (.iaload, 1) := by decide +kernel
theorem dX9_carryOut_157 : decode cX9_carryOut 157 = .ok (.invokevirtual 138, 3) := by decide +kernel
theorem dX9_carryOut_160 : decode cX9_carryOut 160 = .ok (.pop, 1) := by decide +kernel
theorem dX9_carryOut_161 : decode cX9_carryOut 161 = .ok (.goto 62, 3) := by decide +kernel
theorem dX9_carryOut_164 : decode cX9_carryOut 164 = .ok (.aload_n 0, 1) := by decide +kernel
theorem dX9_carryOut_165 : decode cX9_carryOut 165 = .ok (.getfield 10, 3) := by decide +kernel
theorem dX9_carryOut_168 : decode cX9_carryOut 168 = .ok (.aload_n 2, 1) := by decide +kernel
theorem dX9_carryOut_169 : decode cX9_carryOut 169 = .ok (.iconst 0, 1) := by decide +kernel
theorem dX9_carryOut_170 : decode cX9_carryOut 170 = .ok (.iaload, 1) := by decide +kernel
theorem dX9_carryOut_171 : decode cX9_carryOut 171 = .ok (.invokevirtual 144, 3) := by decide +kernel
theorem dX9_carryOut_174 : decode cX9_carryOut 174 = .ok (.pop, 1) := by decide +kernel
theorem dX9_carryOut_175 : decode cX9_carryOut 175 = .ok (.goto 48, 3) := by decide +kernel
theorem dX9_carryOut_178 : decode cX9_carryOut 178 = .ok (.aload_n 0, 1) := by decide +kernel
theorem dX9_carryOut_179 : decode cX9_carryOut 179 = .ok (.getfield 10, 3) := by decide +kernel
theorem dX9_carryOut_182 : decode cX9_carryOut 182 = .ok (.aload_n 2, 1) := by decide +kernel
theorem dX9_carryOut_183 : decode cX9_carryOut 183 = .ok (.iconst 0, 1) := by decide +kernel
theorem dX9_carryOut_184 : decode cX9_carryOut 184 = .ok (.iaload, 1) := by decide +kernel
theorem dX9_carryOut_185 : decode cX9_carryOut 185 = .ok (.aload_n 2, 1) := by decide +kernel
theorem dX9_carryOut_186 : decode cX9_carryOut 186 = .ok (.iconst 1, 1) := by decide +kernel
theorem dX9_carryOut_187 : decode cX9_carryOut 187 = .ok (.iaload, 1) := by decide +kernel
theorem dX9_carryOut_188 : decode cX9_carryOut 188 = .ok (.aload_n 2, 1) := by decide +kernel
theorem dX9_carryOut_189 : decode cX9_carryOut 189 = .ok (.iconst 2, 1) := by decide +kernel
theorem dX9_carryOut_190 : decode cX9_carryOut 190 = .ok (.iaload, 1) := by decide +kernel
theorem dX9_carryOut_191 : decode cX9_carryOut 191 = .ok (.invokevirtual 150, 3) := by decide +kernel
theorem dX9_carryOut_194 : decode cX9_carryOut 194 = .ok (.pop, 1) := by decide +kernel
theorem dX9_carryOut_195 : decode cX9_carryOut 195 = .ok (.goto 28, 3) := by decide +kernel
theorem dX9_carryOut_198 : decode cX9_carryOut 198 = .ok (.aload_n 0, 1) := by decide +kernel
theorem dX9_carryOut_199 : decode cX9_carryOut 199 = .ok (.getfield 10, 3) := by decide +kernel
theorem dX9_carryOut_202 : decode cX9_carryOut 202 = .ok (.aload_n 2, 1) := by decide +kernel
theorem dX9_carryOut_203 : decode cX9_carryOut 203 = .ok (.iconst 0, 1) := by decide +kernel
theorem dX9_carryOut_204 : decode cX9_carryOut 204 = .ok (.iaload, 1) := by decide +kernel
theorem dX9_carryOut_205 : decode cX9_carryOut 205 = .ok (.aload_n 2, 1) := by decide +kernel
theorem dX9_carryOut_206 : decode cX9_carryOut 206 = .ok (.iconst 1, 1) := by decide +kernel
theorem dX9_carryOut_207 : decode cX9_carryOut 207 = .ok (.iaload, 1) := by decide +kernel
theorem dX9_carryOut_208 : decode cX9_carryOut 208 = .ok (.invokevirtual 156, 3) := by decide +kernel
theorem dX9_carryOut_211 : decode cX9_carryOut 211 = .ok (.pop, 1) := by decide +kernel
theorem dX9_carryOut_212 : decode cX9_carryOut 212 = .ok (.goto 11, 3) := by decide +kernel
theorem dX9_carryOut_215 : decode cX9_carryOut 215 = .ok (.aload_n 0, 1) := by decide +kernel
theorem dX9_carryOut_216 : decode cX9_carryOut 216 = .ok (.getfield 10, 3) := by decide +kernel
theorem dX9_carryOut_219 : decode cX9_carryOut 219 = .ok (.invokevirtual 163, 3) := by decide +kernel
theorem dX9_carryOut_222 : decode cX9_carryOut 222 = .ok (.pop, 1) := by decide +kernel
theorem dX9_carryOut_223 : decode cX9_carryOut 223 = .ok (.return_, 1) := by decide +kernel
theorem wd1322 : Cond.code yX7_findError cX7_findError 2 (some .int) ∈ gW := gW_in 1322 (by decide +kernel) (by decide +kernel)
theorem mvX7_findError : MV yX7_findError cX7_findError 2 (some .int) 0 := ⟨wd1322, wd32, by decide +kernel, by decide +kernel, by decide +kernel, by decide⟩
theorem wd1320 : Cond.instanceMethod yX7_findError ∈ gW := gW_in 1320 (by decide +kernel) (by decide +kernel)
theorem wd1321 : Cond.selects yX7_findError.cls yX7_findError yX7_findError ∈ gW := gW_in 1321 (by decide +kernel) (by decide +kernel)
theorem wd1319 : Cond.methodLink RX9 328 yX7_findError ∈ gW := gW_in 1319 (by decide +kernel) (by decide +kernel)
theorem wd1093 : Cond.fieldLink RX9 331 (TX7 1).1 (TX7 1).2.1 (TX7 1).2.2.1 ∈ gW := gW_in 1093 (by decide +kernel) (by decide +kernel)
theorem wd1119 : Cond.fieldLink RX9 19 (TX9 2).1 (TX9 2).2.1 (TX9 2).2.2.1 ∈ gW := gW_in 1119 (by decide +kernel) (by decide +kernel)
theorem wd510 : Cond.methodLink RX9 334 yX8_copyFrom ∈ gW := gW_in 510 (by decide +kernel) (by decide +kernel)
theorem wd1099 : Cond.fieldLink RX9 337 (TX7 4).1 (TX7 4).2.1 (TX7 4).2.2.1 ∈ gW := gW_in 1099 (by decide +kernel) (by decide +kernel)
theorem wd1378 : Cond.code yX9_refusalOf cX9_refusalOf 3 (some (.object "GlidingContest$Refusal")) ∈ gW := gW_in 1378 (by decide +kernel) (by decide +kernel)
theorem mvX9_refusalOf : MV yX9_refusalOf cX9_refusalOf 3 (some (.object "GlidingContest$Refusal")) 1 := ⟨wd1378, wd23, by decide +kernel, by decide +kernel, by decide +kernel, by decide⟩
theorem wd1377 : Cond.instanceMethod yX9_refusalOf ∈ gW := gW_in 1377 (by decide +kernel) (by decide +kernel)
theorem wd17 : Cond.selects yX9_refusalOf.cls yX9_refusalOf yX9_refusalOf ∈ gW := gW_in 17 (by decide +kernel) (by decide +kernel)
theorem wd1375 : Cond.methodLink RX9 340 yX9_refusalOf ∈ gW := gW_in 1375 (by decide +kernel) (by decide +kernel)
theorem wd1379 : Cond.fieldLink RX9 343 "GlidingContest$Refusal" "NONE" "LGlidingContest$Refusal;" ∈ gW := gW_in 1379 (by decide +kernel) (by decide +kernel)
theorem wd1384 : Cond.code yX9_carryOut cX9_carryOut 3 none ∈ gW := gW_in 1384 (by decide +kernel) (by decide +kernel)
theorem mvX9_carryOut : MV yX9_carryOut cX9_carryOut 3 none 1 := ⟨wd1384, wd23, by decide +kernel, by decide +kernel, by decide +kernel, by decide⟩
theorem wd1383 : Cond.instanceMethod yX9_carryOut ∈ gW := gW_in 1383 (by decide +kernel) (by decide +kernel)
theorem wd18 : Cond.selects yX9_carryOut.cls yX9_carryOut yX9_carryOut ∈ gW := gW_in 18 (by decide +kernel) (by decide +kernel)
theorem wd1381 : Cond.methodLink RX9 354 yX9_carryOut ∈ gW := gW_in 1381 (by decide +kernel) (by decide +kernel)
theorem wd1125 : Cond.fieldLink RX9 51 (TX9 8).1 (TX9 8).2.1 (TX9 8).2.2.1 ∈ gW := gW_in 1125 (by decide +kernel) (by decide +kernel)
theorem wd1124 : Cond.fieldLink RX9 47 (TX9 7).1 (TX9 7).2.1 (TX9 7).2.2.1 ∈ gW := gW_in 1124 (by decide +kernel) (by decide +kernel)
theorem dX9_run_0 : decode cX9_run 0 = .ok (.aload_n 0, 1) := by decide +kernel
theorem dX9_run_1 : decode cX9_run 1 = .ok (.getfield 32, 3) := by decide +kernel
theorem dX9_run_4 : decode cX9_run 4 = .ok (.invokevirtual 328, 3) := by decide +kernel
theorem dX9_run_7 : decode cX9_run 7 = .ok (.istore_n 1, 1) := by decide +kernel
theorem dX9_run_8 : decode cX9_run 8 = .ok (.aload_n 0, 1) := by decide +kernel
theorem dX9_run_9 : decode cX9_run 9 = .ok (.getfield 32, 3) := by decide +kernel
theorem dX9_run_12 : decode cX9_run 12 = .ok (.iconst 0, 1) := by decide +kernel
theorem dX9_run_13 : decode cX9_run 13 = .ok (.putfield 331, 3) := by decide +kernel
theorem dX9_run_16 : decode cX9_run 16 = .ok (.iload_n 1, 1) := by decide +kernel
theorem dX9_run_17 : decode cX9_run 17 = .ok (.iconst (-1), 1) := by decide +kernel
theorem dX9_run_18 : decode cX9_run 18 = .ok (.if_icmp .eq 19, 3) := by decide +kernel
theorem dX9_run_21 : decode cX9_run 21 = .ok (.aload_n 0, 1) := by decide +kernel
theorem dX9_run_22 : decode cX9_run 22 = .ok (.iload_n 1, 1) := by decide +kernel
theorem dX9_run_23 : decode cX9_run 23 = .ok (.putfield 47, 3) := by decide +kernel
theorem dX9_run_26 : decode cX9_run 26 = .ok (.new 113, 3) := by decide +kernel
theorem dX9_run_29 : decode cX9_run 29 = .ok (.dup, 1) := by decide +kernel
theorem dX9_run_30 : decode cX9_run 30 = .ok (.ldc_w 332, 3) := by decide +kernel
theorem dX9_run_33 : decode cX9_run 33 = .ok (.invokespecial 117, 3) := by decide +kernel
theorem dX9_run_36 : decode cX9_run 36 = .ok (.athrow, 1) := by decide +kernel
theorem dX9_run_37 : decode cX9_run 37 = .ok (.aload_n 0, 1) := by decide +kernel
theorem dX9_run_38 : decode cX9_run 38 = .ok (.getfield 19, 3) := by decide +kernel
theorem dX9_run_41 : decode cX9_run 41 = .ok (.aload_n 0, 1) := by decide +kernel
theorem dX9_run_42 : decode cX9_run 42 = .ok (.getfield 10, 3) := by decide +kernel
theorem dX9_run_45 : decode cX9_run 45 = .ok (.invokevirtual 334, 3) := by decide +kernel
theorem dX9_run_48 : decode cX9_run 48 = .ok (.iconst 0, 1) := by decide +kernel
theorem dX9_run_49 : decode cX9_run 49 = .ok (.istore_n 2, 1) := by decide +kernel
theorem dX9_run_50 : decode cX9_run 50 = .ok (.iload_n 2, 1) := by decide +kernel
theorem dX9_run_51 : decode cX9_run 51 = .ok (.aload_n 0, 1) := by decide +kernel
theorem dX9_run_52 : decode cX9_run 52 = .ok (.getfield 32, 3) := by decide +kernel
theorem dX9_run_55 : decode cX9_run 55 = .ok (.getfield 337, 3) := by decide +kernel
theorem dX9_run_58 : decode cX9_run 58 = .ok (.if_icmp .ge 52, 3) := by decide +kernel
theorem dX9_run_61 : decode cX9_run 61 = .ok (.aload_n 0, 1) := by decide +kernel
theorem dX9_run_62 : decode cX9_run 62 = .ok (.iload_n 2, 1) := by decide +kernel
theorem dX9_run_63 : decode cX9_run 63 = .ok (.invokevirtual 340, 3) := by decide +kernel
theorem dX9_run_66 : decode cX9_run 66 = .ok (.getstatic 343, 3) := by decide +kernel
theorem dX9_run_69 : decode cX9_run 69 = .ok (.if_acmp .eq 30, 3) := by decide +kernel
theorem dX9_run_72 : decode cX9_run 72 = .ok (.aload_n 0, 1) := by decide +kernel
theorem dX9_run_73 : decode cX9_run 73 = .ok (.getfield 10, 3) := by decide +kernel
theorem dX9_run_76 : decode cX9_run 76 = .ok (.aload_n 0, 1) := by decide +kernel
theorem dX9_run_77 : decode cX9_run 77 = .ok (.getfield 19, 3) := by decide +kernel
theorem dX9_run_80 : decode cX9_run 80 = .ok (.invokevirtual 334, 3) := by decide +kernel
theorem dX9_run_83 : decode cX9_run 83 = .ok (.aload_n 0, 1) := by decide +kernel
theorem dX9_run_84 : decode cX9_run 84 = .ok (.iload_n 2, 1) := by decide +kernel
theorem dX9_run_85 : decode cX9_run 85 = .ok (.putfield 51, 3) := by decide +kernel
theorem dX9_run_88 : decode cX9_run 88 = .ok (.new 349, 3) := by decide +kernel
theorem dX9_run_91 : decode cX9_run 91 = .ok (.dup, 1) := by decide +kernel
theorem dX9_run_92 : decode cX9_run 92 = .ok (.ldc_w 351, 3) := by decide +kernel
theorem dX9_run_95 : decode cX9_run 95 = .ok (.invokespecial 353, 3) := by decide +kernel
theorem dX9_run_98 : decode cX9_run 98 = .ok (.athrow, 1) := by decide +kernel
theorem dX9_run_99 : decode cX9_run 99 = .ok (.aload_n 0, 1) := by decide +kernel
theorem dX9_run_100 : decode cX9_run 100 = .ok (.iload_n 2, 1) := by decide +kernel
theorem dX9_run_101 : decode cX9_run 101 = .ok (.invokevirtual 354, 3) := by decide +kernel
theorem dX9_run_104 : decode cX9_run 104 = .ok (.iinc 2 1, 3) := by decide +kernel
theorem dX9_run_107 : decode cX9_run 107 = .ok (.goto (-57), 3) := by decide +kernel
theorem dX9_run_110 : decode cX9_run 110 = .ok (.aload_n 0, 1) := by decide +kernel
theorem dX9_run_111 : decode cX9_run 111 = .ok (.getfield 25, 3) := by decide +kernel
theorem dX9_run_114 : decode cX9_run 114 = .ok (.aload_n 0, 1) := by decide +kernel
theorem dX9_run_115 : decode cX9_run 115 = .ok (.getfield 19, 3) := by decide +kernel
theorem dX9_run_118 : decode cX9_run 118 = .ok (.invokevirtual 62, 3) := by decide +kernel
theorem dX9_run_121 : decode cX9_run 121 = .ok (.aload_n 0, 1) := by decide +kernel
theorem dX9_run_122 : decode cX9_run 122 = .ok (.getfield 32, 3) := by decide +kernel
theorem dX9_run_125 : decode cX9_run 125 = .ok (.getfield 337, 3) := by decide +kernel
theorem dX9_run_128 : decode cX9_run 128 = .ok (.ireturn, 1) := by decide +kernel
theorem wd1122 : Cond.fieldLink RX9 39 (TX9 5).1 (TX9 5).2.1 (TX9 5).2.2.1 ∈ gW := gW_in 1122 (by decide +kernel) (by decide +kernel)
theorem wd493 : Cond.code yX3_phaseSign cX3_phaseSign 1 (some .char) ∈ gW := gW_in 493 (by decide +kernel) (by decide +kernel)
theorem mvX3_phaseSign : MV yX3_phaseSign cX3_phaseSign 1 (some .char) 0 := ⟨wd493, wd28, by decide +kernel, by decide +kernel, by decide +kernel, by decide⟩
theorem wd491 : Cond.instanceMethod yX3_phaseSign ∈ gW := gW_in 491 (by decide +kernel) (by decide +kernel)
theorem wd492 : Cond.selects yX3_phaseSign.cls yX3_phaseSign yX3_phaseSign ∈ gW := gW_in 492 (by decide +kernel) (by decide +kernel)
theorem wd490 : Cond.methodLink RX9 435 yX3_phaseSign ∈ gW := gW_in 490 (by decide +kernel) (by decide +kernel)
theorem wd467 : Cond.code yJ4_append_cf468 cJ4_append_cf468 2 (some (.object "java/lang/StringBuilder")) ∈ gW := gW_in 467 (by decide +kernel) (by decide +kernel)
theorem wd34 : Cond.initialized RJ4 ∈ gW := gW_in 34 (by decide +kernel) (by decide +kernel)
theorem mvJ4_append_cf468 : MV yJ4_append_cf468 cJ4_append_cf468 2 (some (.object "java/lang/StringBuilder")) 1 := ⟨wd467, wd34, by decide +kernel, by decide +kernel, by decide +kernel, by decide⟩
theorem wd465 : Cond.instanceMethod yJ4_append_cf468 ∈ gW := gW_in 465 (by decide +kernel) (by decide +kernel)
theorem wd466 : Cond.selects yJ4_append_cf468.cls yJ4_append_cf468 yJ4_append_cf468 ∈ gW := gW_in 466 (by decide +kernel) (by decide +kernel)
theorem wd464 : Cond.methodLink RX9 372 yJ4_append_cf468 ∈ gW := gW_in 464 (by decide +kernel) (by decide +kernel)
theorem wd311 : Cond.code yJ4_append_bf812 cJ4_append_bf812 2 (some (.object "java/lang/StringBuilder")) ∈ gW := gW_in 311 (by decide +kernel) (by decide +kernel)
theorem mvJ4_append_bf812 : MV yJ4_append_bf812 cJ4_append_bf812 2 (some (.object "java/lang/StringBuilder")) 1 := ⟨wd311, wd34, by decide +kernel, by decide +kernel, by decide +kernel, by decide⟩
theorem wd309 : Cond.instanceMethod yJ4_append_bf812 ∈ gW := gW_in 309 (by decide +kernel) (by decide +kernel)
theorem wd310 : Cond.selects yJ4_append_bf812.cls yJ4_append_bf812 yJ4_append_bf812 ∈ gW := gW_in 310 (by decide +kernel) (by decide +kernel)
theorem wd461 : Cond.methodLink RX9 365 yJ4_append_bf812 ∈ gW := gW_in 461 (by decide +kernel) (by decide +kernel)
theorem wd191 : Cond.code yJ4_append_15ec4 cJ4_append_15ec4 2 (some (.object "java/lang/StringBuilder")) ∈ gW := gW_in 191 (by decide +kernel) (by decide +kernel)
theorem mvJ4_append_15ec4 : MV yJ4_append_15ec4 cJ4_append_15ec4 2 (some (.object "java/lang/StringBuilder")) 1 := ⟨wd191, wd34, by decide +kernel, by decide +kernel, by decide +kernel, by decide⟩
theorem wd189 : Cond.instanceMethod yJ4_append_15ec4 ∈ gW := gW_in 189 (by decide +kernel) (by decide +kernel)
theorem wd190 : Cond.selects yJ4_append_15ec4.cls yJ4_append_15ec4 yJ4_append_15ec4 ∈ gW := gW_in 190 (by decide +kernel) (by decide +kernel)
theorem wd499 : Cond.methodLink RX9 441 yJ4_append_15ec4 ∈ gW := gW_in 499 (by decide +kernel) (by decide +kernel)
theorem dX9_writeFlight_0 : decode cX9_writeFlight 0 = .ok (.aload_n 0, 1) := by decide +kernel
theorem dX9_writeFlight_1 : decode cX9_writeFlight 1 = .ok (.getfield 39, 3) := by decide +kernel
theorem dX9_writeFlight_4 : decode cX9_writeFlight 4 = .ok (.aload_n 1, 1) := by decide +kernel
theorem dX9_writeFlight_5 : decode cX9_writeFlight 5 = .ok (.invokevirtual 435, 3) := by decide +kernel
theorem dX9_writeFlight_8 : decode cX9_writeFlight 8 = .ok (.invokevirtual 372, 3) := by decide +kernel
theorem dX9_writeFlight_11 : decode cX9_writeFlight 11 = .ok (.aload_n 1, 1) := by decide +kernel
theorem dX9_writeFlight_12 : decode cX9_writeFlight 12 = .ok (.getfield 248, 3) := by decide +kernel
theorem dX9_writeFlight_15 : decode cX9_writeFlight 15 = .ok (.invokevirtual 365, 3) := by decide +kernel
theorem dX9_writeFlight_18 : decode cX9_writeFlight 18 = .ok (.bipush 44, 2) := by decide +kernel
theorem dX9_writeFlight_20 : decode cX9_writeFlight 20 = .ok (.invokevirtual 372, 3) := by decide +kernel
theorem dX9_writeFlight_23 : decode cX9_writeFlight 23 = .ok (.aload_n 1, 1) := by decide +kernel
theorem dX9_writeFlight_24 : decode cX9_writeFlight 24 = .ok (.getfield 251, 3) := by decide +kernel
theorem dX9_writeFlight_27 : decode cX9_writeFlight 27 = .ok (.invokevirtual 365, 3) := by decide +kernel
theorem dX9_writeFlight_30 : decode cX9_writeFlight 30 = .ok (.pop, 1) := by decide +kernel
theorem dX9_writeFlight_31 : decode cX9_writeFlight 31 = .ok (.aload_n 0, 1) := by decide +kernel
theorem dX9_writeFlight_32 : decode cX9_writeFlight 32 = .ok (.getfield 39, 3) := by decide +kernel
theorem dX9_writeFlight_35 : decode cX9_writeFlight 35 = .ok (.bipush 32, 2) := by decide +kernel
theorem dX9_writeFlight_37 : decode cX9_writeFlight 37 = .ok (.invokevirtual 372, 3) := by decide +kernel
theorem dX9_writeFlight_40 : decode cX9_writeFlight 40 = .ok (.aload_n 1, 1) := by decide +kernel
theorem dX9_writeFlight_41 : decode cX9_writeFlight 41 = .ok (.getfield 254, 3) := by decide +kernel
theorem dX9_writeFlight_44 : decode cX9_writeFlight 44 = .ok (.invokevirtual 365, 3) := by decide +kernel
theorem dX9_writeFlight_47 : decode cX9_writeFlight 47 = .ok (.ldc_w 439, 3) := by decide +kernel
theorem dX9_writeFlight_50 : decode cX9_writeFlight 50 = .ok (.invokevirtual 441, 3) := by decide +kernel
theorem dX9_writeFlight_53 : decode cX9_writeFlight 53 = .ok (.pop, 1) := by decide +kernel
theorem dX9_writeFlight_54 : decode cX9_writeFlight 54 = .ok (.aload_n 0, 1) := by decide +kernel
theorem dX9_writeFlight_55 : decode cX9_writeFlight 55 = .ok (.getfield 39, 3) := by decide +kernel
theorem dX9_writeFlight_58 : decode cX9_writeFlight 58 = .ok (.aload_n 1, 1) := by decide +kernel
theorem dX9_writeFlight_59 : decode cX9_writeFlight 59 = .ok (.getfield 263, 3) := by decide +kernel
theorem dX9_writeFlight_62 : decode cX9_writeFlight 62 = .ok (.invokevirtual 365, 3) := by decide +kernel
theorem dX9_writeFlight_65 : decode cX9_writeFlight 65 = .ok (.bipush 47, 2) := by decide +kernel
theorem dX9_writeFlight_67 : decode cX9_writeFlight 67 = .ok (.invokevirtual 372, 3) := by decide +kernel
theorem dX9_writeFlight_70 : decode cX9_writeFlight 70 = .ok (.aload_n 0, 1) := by decide +kernel
theorem dX9_writeFlight_71 : decode cX9_writeFlight 71 = .ok (.getfield 10, 3) := by decide +kernel
theorem dX9_writeFlight_74 : decode cX9_writeFlight 74 = .ok (.getfield 66, 3) := by decide +kernel
theorem dX9_writeFlight_77 : decode cX9_writeFlight 77 = .ok (.getfield 181, 3) := by decide +kernel
theorem dX9_writeFlight_80 : decode cX9_writeFlight 80 = .ok (.invokevirtual 365, 3) := by decide +kernel
theorem dX9_writeFlight_83 : decode cX9_writeFlight 83 = .ok (.pop, 1) := by decide +kernel
theorem dX9_writeFlight_84 : decode cX9_writeFlight 84 = .ok (.aload_n 1, 1) := by decide +kernel
theorem dX9_writeFlight_85 : decode cX9_writeFlight 85 = .ok (.getfield 260, 3) := by decide +kernel
theorem dX9_writeFlight_88 : decode cX9_writeFlight 88 = .ok (.ifCond .eq 21, 3) := by decide +kernel
theorem dX9_writeFlight_91 : decode cX9_writeFlight 91 = .ok (.aload_n 0, 1) := by decide +kernel
theorem dX9_writeFlight_92 : decode cX9_writeFlight 92 = .ok (.getfield 39, 3) := by decide +kernel
theorem dX9_writeFlight_95 : decode cX9_writeFlight 95 = .ok (.ldc_w 444, 3) := by decide +kernel
theorem dX9_writeFlight_98 : decode cX9_writeFlight 98 = .ok (.invokevirtual 441, 3) := by decide +kernel
theorem dX9_writeFlight_101 : decode cX9_writeFlight 101 = .ok (.aload_n 1, 1) := by decide +kernel
theorem dX9_writeFlight_102 : decode cX9_writeFlight 102 = .ok (.getfield 260, 3) := by decide +kernel
theorem dX9_writeFlight_105 : decode cX9_writeFlight 105 = .ok (.invokevirtual 365, 3) := by decide +kernel
theorem dX9_writeFlight_108 : decode cX9_writeFlight 108 = .ok (.pop, 1) := by decide +kernel
theorem dX9_writeFlight_109 : decode cX9_writeFlight 109 = .ok (.return_, 1) := by decide +kernel
theorem wd146 : Cond.code yJ4_setLength_d00df cJ4_setLength_d00df 2 none ∈ gW := gW_in 146 (by decide +kernel) (by decide +kernel)
theorem mvJ4_setLength_d00df : MV yJ4_setLength_d00df cJ4_setLength_d00df 2 none 1 := ⟨wd146, wd34, by decide +kernel, by decide +kernel, by decide +kernel, by decide⟩
theorem wd144 : Cond.instanceMethod yJ4_setLength_d00df ∈ gW := gW_in 144 (by decide +kernel) (by decide +kernel)
theorem wd145 : Cond.selects yJ4_setLength_d00df.cls yJ4_setLength_d00df yJ4_setLength_d00df ∈ gW := gW_in 145 (by decide +kernel) (by decide +kernel)
theorem wd143 : Cond.methodLink RX9 362 yJ4_setLength_d00df ∈ gW := gW_in 143 (by decide +kernel) (by decide +kernel)
theorem wd489 : Cond.code yX9_writeFlight cX9_writeFlight 2 none ∈ gW := gW_in 489 (by decide +kernel) (by decide +kernel)
theorem mvX9_writeFlight : MV yX9_writeFlight cX9_writeFlight 2 none 1 := ⟨wd489, wd23, by decide +kernel, by decide +kernel, by decide +kernel, by decide⟩
theorem wd488 : Cond.instanceMethod yX9_writeFlight ∈ gW := gW_in 488 (by decide +kernel) (by decide +kernel)
theorem wd2 : Cond.selects yX9_writeFlight.cls yX9_writeFlight yX9_writeFlight ∈ gW := gW_in 2 (by decide +kernel) (by decide +kernel)
theorem wd486 : Cond.methodLink RX9 375 yX9_writeFlight ∈ gW := gW_in 486 (by decide +kernel) (by decide +kernel)
theorem wd356 : Cond.code yJ4_length_8abf5 cJ4_length_8abf5 1 (some .int) ∈ gW := gW_in 356 (by decide +kernel) (by decide +kernel)
theorem mvJ4_length_8abf5 : MV yJ4_length_8abf5 cJ4_length_8abf5 1 (some .int) 0 := ⟨wd356, wd34, by decide +kernel, by decide +kernel, by decide +kernel, by decide⟩
theorem wd355 : Cond.instanceMethod yJ4_length_8abf5 ∈ gW := gW_in 355 (by decide +kernel) (by decide +kernel)
theorem wd1578 : Cond.selects yJ4_length_8abf5.cls yJ4_length_8abf5 yJ4_length_8abf5 ∈ gW := gW_in 1578 (by decide +kernel) (by decide +kernel)
theorem wd501 : Cond.methodLink RX9 379 yJ4_length_8abf5 ∈ gW := gW_in 501 (by decide +kernel) (by decide +kernel)
theorem dX9_writePilot_0 : decode cX9_writePilot 0 = .ok (.aload_n 0, 1) := by decide +kernel
theorem dX9_writePilot_1 : decode cX9_writePilot 1 = .ok (.iload_n 1, 1) := by decide +kernel
theorem dX9_writePilot_2 : decode cX9_writePilot 2 = .ok (.invokevirtual 221, 3) := by decide +kernel
theorem dX9_writePilot_5 : decode cX9_writePilot 5 = .ok (.astore_n 2, 1) := by decide +kernel
theorem dX9_writePilot_6 : decode cX9_writePilot 6 = .ok (.aload_n 0, 1) := by decide +kernel
theorem dX9_writePilot_7 : decode cX9_writePilot 7 = .ok (.getfield 39, 3) := by decide +kernel
theorem dX9_writePilot_10 : decode cX9_writePilot 10 = .ok (.iconst 0, 1) := by decide +kernel
theorem dX9_writePilot_11 : decode cX9_writePilot 11 = .ok (.invokevirtual 362, 3) := by decide +kernel
theorem dX9_writePilot_14 : decode cX9_writePilot 14 = .ok (.aload_n 0, 1) := by decide +kernel
theorem dX9_writePilot_15 : decode cX9_writePilot 15 = .ok (.getfield 39, 3) := by decide +kernel
theorem dX9_writePilot_18 : decode cX9_writePilot 18 = .ok (.iload_n 1, 1) := by decide +kernel
theorem dX9_writePilot_19 : decode cX9_writePilot 19 = .ok (.invokevirtual 365, 3) := by decide +kernel
theorem dX9_writePilot_22 : decode cX9_writePilot 22 = .ok (.pop, 1) := by decide +kernel
theorem dX9_writePilot_23 : decode cX9_writePilot 23 = .ok (.aload_n 2, 1) := by decide +kernel
theorem dX9_writePilot_24 : decode cX9_writePilot 24 = .ok (.getfield 225, 3) := by decide +kernel
theorem dX9_writePilot_27 : decode cX9_writePilot 27 = .ok (.getstatic 369, 3) := by decide +kernel
theorem dX9_writePilot_30 : decode cX9_writePilot 30 = .ok (.if_acmp .ne 16, 3) := by decide +kernel
theorem dX9_writePilot_33 : decode cX9_writePilot 33 = .ok (.aload_n 0, 1) := by decide +kernel
theorem dX9_writePilot_34 : decode cX9_writePilot 34 = .ok (.getfield 39, 3) := by decide +kernel
theorem dX9_writePilot_37 : decode cX9_writePilot 37 = .ok (.bipush 45, 2) := by decide +kernel
theorem dX9_writePilot_39 : decode cX9_writePilot 39 = .ok (.invokevirtual 372, 3) := by decide +kernel
theorem dX9_writePilot_42 : decode cX9_writePilot 42 = .ok (.pop, 1) := by decide +kernel
theorem dX9_writePilot_43 : decode cX9_writePilot 43 = .ok (.goto 8, 3) := by decide +kernel
theorem dX9_writePilot_46 : decode cX9_writePilot 46 = .ok (.aload_n 0, 1) := by decide +kernel
theorem dX9_writePilot_47 : decode cX9_writePilot 47 = .ok (.aload_n 2, 1) := by decide +kernel
theorem dX9_writePilot_48 : decode cX9_writePilot 48 = .ok (.invokevirtual 375, 3) := by decide +kernel
theorem dX9_writePilot_51 : decode cX9_writePilot 51 = .ok (.aload_n 0, 1) := by decide +kernel
theorem dX9_writePilot_52 : decode cX9_writePilot 52 = .ok (.getfield 39, 3) := by decide +kernel
theorem dX9_writePilot_55 : decode cX9_writePilot 55 = .ok (.invokevirtual 379, 3) := by decide +kernel
theorem dX9_writePilot_58 : decode cX9_writePilot 58 = .ok (.ireturn, 1) := by decide +kernel
theorem wd912 : Cond.fieldLink RX9 381 (TX2 4).1 (TX2 4).2.1 (TX2 4).2.2.1 ∈ gW := gW_in 912 (by decide +kernel) (by decide +kernel)
theorem dX9_writeTask_0 : decode cX9_writeTask 0 = .ok (.aload_n 0, 1) := by decide +kernel
theorem dX9_writeTask_1 : decode cX9_writeTask 1 = .ok (.getfield 39, 3) := by decide +kernel
theorem dX9_writeTask_4 : decode cX9_writeTask 4 = .ok (.iconst 0, 1) := by decide +kernel
theorem dX9_writeTask_5 : decode cX9_writeTask 5 = .ok (.invokevirtual 362, 3) := by decide +kernel
theorem dX9_writeTask_8 : decode cX9_writeTask 8 = .ok (.iconst 0, 1) := by decide +kernel
theorem dX9_writeTask_9 : decode cX9_writeTask 9 = .ok (.istore_n 1, 1) := by decide +kernel
theorem dX9_writeTask_10 : decode cX9_writeTask 10 = .ok (.iload_n 1, 1) := by decide +kernel
theorem dX9_writeTask_11 : decode cX9_writeTask 11 = .ok (.aload_n 0, 1) := by decide +kernel
theorem dX9_writeTask_12 : decode cX9_writeTask 12 = .ok (.getfield 10, 3) := by decide +kernel
theorem dX9_writeTask_15 : decode cX9_writeTask 15 = .ok (.getfield 66, 3) := by decide +kernel
theorem dX9_writeTask_18 : decode cX9_writeTask 18 = .ok (.getfield 181, 3) := by decide +kernel
theorem dX9_writeTask_21 : decode cX9_writeTask 21 = .ok (.if_icmp .ge 65, 3) := by decide +kernel
theorem dX9_writeTask_24 : decode cX9_writeTask 24 = .ok (.iload_n 1, 1) := by decide +kernel
theorem dX9_writeTask_25 : decode cX9_writeTask 25 = .ok (.ifCond .le 35, 3) := by decide +kernel
theorem dX9_writeTask_28 : decode cX9_writeTask 28 = .ok (.aload_n 0, 1) := by decide +kernel
theorem dX9_writeTask_29 : decode cX9_writeTask 29 = .ok (.getfield 39, 3) := by decide +kernel
theorem dX9_writeTask_32 : decode cX9_writeTask 32 = .ok (.bipush 45, 2) := by decide +kernel
theorem dX9_writeTask_34 : decode cX9_writeTask 34 = .ok (.invokevirtual 372, 3) := by decide +kernel
theorem dX9_writeTask_37 : decode cX9_writeTask 37 = .ok (.aload_n 0, 1) := by decide +kernel
theorem dX9_writeTask_38 : decode cX9_writeTask 38 = .ok (.getfield 10, 3) := by decide +kernel
theorem dX9_writeTask_41 : decode cX9_writeTask 41 = .ok (.getfield 66, 3) := by decide +kernel
theorem dX9_writeTask_44 : decode cX9_writeTask 44 = .ok (.getfield 381, 3) := by decide +kernel
theorem dX9_writeTask_47 : decode cX9_writeTask 47 = .ok (.iload_n 1, 1) := by decide +kernel
theorem dX9_writeTask_48 : decode cX9_writeTask 48 = .ok (.iconst 1, 1) := by decide +kernel
theorem dX9_writeTask_49 : decode cX9_writeTask 49 = .ok (.isub, 1) := by decide +kernel
theorem dX9_writeTask_50 : decode cX9_writeTask 50 = .ok (.iaload, 1) := by decide +kernel
theorem dX9_writeTask_51 : decode cX9_writeTask 51 = .ok (.invokevirtual 365, 3) := by decide +kernel
theorem dX9_writeTask_54 : decode cX9_writeTask 54 = .ok (.bipush 62, 2) := by decide +kernel
theorem dX9_writeTask_56 : decode cX9_writeTask 56 = .ok (.invokevirtual 372, 3) := by decide +kernel
theorem dX9_writeTask_59 : decode cX9_writeTask 59 = .ok (.pop, 1) := by decide +kernel
theorem dX9_writeTask_60 : decode cX9_writeTask 60 = .ok (.aload_n 0, 1) := by decide +kernel
theorem dX9_writeTask_61 : decode cX9_writeTask 61 = .ok (.getfield 39, 3) := by decide +kernel
theorem dX9_writeTask_64 : decode cX9_writeTask 64 = .ok (.aload_n 0, 1) := by decide +kernel
theorem dX9_writeTask_65 : decode cX9_writeTask 65 = .ok (.getfield 10, 3) := by decide +kernel
theorem dX9_writeTask_68 : decode cX9_writeTask 68 = .ok (.getfield 66, 3) := by decide +kernel
theorem dX9_writeTask_71 : decode cX9_writeTask 71 = .ok (.getfield 192, 3) := by decide +kernel
theorem dX9_writeTask_74 : decode cX9_writeTask 74 = .ok (.iload_n 1, 1) := by decide +kernel
theorem dX9_writeTask_75 : decode cX9_writeTask 75 = .ok (.iaload, 1) := by decide +kernel
theorem dX9_writeTask_76 : decode cX9_writeTask 76 = .ok (.invokevirtual 365, 3) := by decide +kernel
theorem dX9_writeTask_79 : decode cX9_writeTask 79 = .ok (.pop, 1) := by decide +kernel
theorem dX9_writeTask_80 : decode cX9_writeTask 80 = .ok (.iinc 1 1, 3) := by decide +kernel
theorem dX9_writeTask_83 : decode cX9_writeTask 83 = .ok (.goto (-73), 3) := by decide +kernel
theorem dX9_writeTask_86 : decode cX9_writeTask 86 = .ok (.aload_n 0, 1) := by decide +kernel
theorem dX9_writeTask_87 : decode cX9_writeTask 87 = .ok (.getfield 39, 3) := by decide +kernel
theorem dX9_writeTask_90 : decode cX9_writeTask 90 = .ok (.invokevirtual 379, 3) := by decide +kernel
theorem dX9_writeTask_93 : decode cX9_writeTask 93 = .ok (.ireturn, 1) := by decide +kernel
theorem wd1077 : Cond.fieldLink RX9 390 (TX4 1).1 (TX4 1).2.1 (TX4 1).2.2.1 ∈ gW := gW_in 1077 (by decide +kernel) (by decide +kernel)
theorem wd864 : Cond.code yX4_takeBack cX4_takeBack 2 none ∈ gW := gW_in 864 (by decide +kernel) (by decide +kernel)
theorem mvX4_takeBack : MV yX4_takeBack cX4_takeBack 2 none 1 := ⟨wd864, wd31, by decide +kernel, by decide +kernel, by decide +kernel, by decide⟩
theorem wd862 : Cond.instanceMethod yX4_takeBack ∈ gW := gW_in 862 (by decide +kernel) (by decide +kernel)
theorem wd863 : Cond.selects yX4_takeBack.cls yX4_takeBack yX4_takeBack ∈ gW := gW_in 863 (by decide +kernel) (by decide +kernel)
theorem wd861 : Cond.methodLink RX9 395 yX4_takeBack ∈ gW := gW_in 861 (by decide +kernel) (by decide +kernel)
theorem dX9_undo_0 : decode cX9_undo 0 = .ok (.aload_n 0, 1) := by decide +kernel
theorem dX9_undo_1 : decode cX9_undo 1 = .ok (.getfield 25, 3) := by decide +kernel
theorem dX9_undo_4 : decode cX9_undo 4 = .ok (.getfield 390, 3) := by decide +kernel
theorem dX9_undo_7 : decode cX9_undo 7 = .ok (.ifCond .gt 14, 3) := by decide +kernel
theorem dX9_undo_10 : decode cX9_undo 10 = .ok (.new 88, 3) := by decide +kernel
theorem dX9_undo_13 : decode cX9_undo 13 = .ok (.dup, 1) := by decide +kernel
theorem dX9_undo_14 : decode cX9_undo 14 = .ok (.ldc_w 393, 3) := by decide +kernel
theorem dX9_undo_17 : decode cX9_undo 17 = .ok (.invokespecial 92, 3) := by decide +kernel
theorem dX9_undo_20 : decode cX9_undo 20 = .ok (.athrow, 1) := by decide +kernel
theorem dX9_undo_21 : decode cX9_undo 21 = .ok (.aload_n 0, 1) := by decide +kernel
theorem dX9_undo_22 : decode cX9_undo 22 = .ok (.getfield 25, 3) := by decide +kernel
theorem dX9_undo_25 : decode cX9_undo 25 = .ok (.aload_n 0, 1) := by decide +kernel
theorem dX9_undo_26 : decode cX9_undo 26 = .ok (.getfield 10, 3) := by decide +kernel
theorem dX9_undo_29 : decode cX9_undo 29 = .ok (.invokevirtual 395, 3) := by decide +kernel
theorem dX9_undo_32 : decode cX9_undo 32 = .ok (.aload_n 0, 1) := by decide +kernel
theorem dX9_undo_33 : decode cX9_undo 33 = .ok (.getfield 25, 3) := by decide +kernel
theorem dX9_undo_36 : decode cX9_undo 36 = .ok (.getfield 390, 3) := by decide +kernel
theorem dX9_undo_39 : decode cX9_undo 39 = .ok (.ireturn, 1) := by decide +kernel
theorem wd1118 : Cond.fieldLink RX9 16 (TX9 1).1 (TX9 1).2.1 (TX9 1).2.2.1 ∈ gW := gW_in 1118 (by decide +kernel) (by decide +kernel)
theorem wd1123 : Cond.fieldLink RX9 43 (TX9 6).1 (TX9 6).2.1 (TX9 6).2.2.1 ∈ gW := gW_in 1123 (by decide +kernel) (by decide +kernel)
theorem dX9_save_0 : decode cX9_save 0 = .ok (.aload_n 0, 1) := by decide +kernel
theorem dX9_save_1 : decode cX9_save 1 = .ok (.getfield 16, 3) := by decide +kernel
theorem dX9_save_4 : decode cX9_save 4 = .ok (.aload_n 0, 1) := by decide +kernel
theorem dX9_save_5 : decode cX9_save 5 = .ok (.getfield 10, 3) := by decide +kernel
theorem dX9_save_8 : decode cX9_save 8 = .ok (.invokevirtual 334, 3) := by decide +kernel
theorem dX9_save_11 : decode cX9_save 11 = .ok (.aload_n 0, 1) := by decide +kernel
theorem dX9_save_12 : decode cX9_save 12 = .ok (.iconst 1, 1) := by decide +kernel
theorem dX9_save_13 : decode cX9_save 13 = .ok (.putfield 43, 3) := by decide +kernel
theorem dX9_save_16 : decode cX9_save 16 = .ok (.return_, 1) := by decide +kernel
theorem dX9_restore_0 : decode cX9_restore 0 = .ok (.aload_n 0, 1) := by decide +kernel
theorem dX9_restore_1 : decode cX9_restore 1 = .ok (.getfield 43, 3) := by decide +kernel
theorem dX9_restore_4 : decode cX9_restore 4 = .ok (.ifCond .ne 14, 3) := by decide +kernel
theorem dX9_restore_7 : decode cX9_restore 7 = .ok (.new 88, 3) := by decide +kernel
theorem dX9_restore_10 : decode cX9_restore 10 = .ok (.dup, 1) := by decide +kernel
theorem dX9_restore_11 : decode cX9_restore 11 = .ok (.ldc_w 398, 3) := by decide +kernel
theorem dX9_restore_14 : decode cX9_restore 14 = .ok (.invokespecial 92, 3) := by decide +kernel
theorem dX9_restore_17 : decode cX9_restore 17 = .ok (.athrow, 1) := by decide +kernel
theorem dX9_restore_18 : decode cX9_restore 18 = .ok (.aload_n 0, 1) := by decide +kernel
theorem dX9_restore_19 : decode cX9_restore 19 = .ok (.getfield 10, 3) := by decide +kernel
theorem dX9_restore_22 : decode cX9_restore 22 = .ok (.aload_n 0, 1) := by decide +kernel
theorem dX9_restore_23 : decode cX9_restore 23 = .ok (.getfield 16, 3) := by decide +kernel
theorem dX9_restore_26 : decode cX9_restore 26 = .ok (.invokevirtual 334, 3) := by decide +kernel
theorem dX9_restore_29 : decode cX9_restore 29 = .ok (.aload_n 0, 1) := by decide +kernel
theorem dX9_restore_30 : decode cX9_restore 30 = .ok (.getfield 25, 3) := by decide +kernel
theorem dX9_restore_33 : decode cX9_restore 33 = .ok (.iconst 0, 1) := by decide +kernel
theorem dX9_restore_34 : decode cX9_restore 34 = .ok (.putfield 390, 3) := by decide +kernel
theorem dX9_restore_37 : decode cX9_restore 37 = .ok (.return_, 1) := by decide +kernel
