/-! rows for the law: methods with a table of handlers, rows of ints that are read alone, doubles -/
def Ex2 (S Ln S' Ln' : Nat → Nat) : Prop := ∀ a, S a ≠ 0 → S' a = S a ∧ Ln' a = Ln a
theorem ex2_r {S Ln : Nat → Nat} : Ex2 S Ln S Ln := fun _ _ => ⟨rfl, rfl⟩
theorem ex2_t {S Ln S1 Ln1 S2 Ln2 : Nat → Nat} (h : Ex2 S Ln S1 Ln1) (h2 : Ex2 S1 Ln1 S2 Ln2) : Ex2 S Ln S2 Ln2 := fun a ha => by
  obtain ⟨e1, e2⟩ := h a ha
  obtain ⟨e3, e4⟩ := h2 a (by rw [e1]; exact ha)
  exact ⟨e3.trans e1, e4.trans e2⟩
theorem ex2_s {S Ln S1 Ln1 : Nat → Nat} (h : Ex2 S Ln S1 Ln1) {a kd : Nat} (hs : S a = kd) (h0 : kd ≠ 0) : S1 a = kd := (h a (by rw [hs]; exact h0)).1.trans hs
abbrev poW (q : Int) (S Ln S2 Ln2 : Nat → Nat) (M2 : gM) (R2 : gR) : gP := fun v _ S' Ln' M' R' => v = some (.int (iI q)) ∧ (-2147483648 ≤ q ∧ q < 2147483648) ∧ Ex2 S Ln S2 Ln2 ∧ S' = S2 ∧ Ln' = Ln2 ∧ M' = M2 ∧ R' = R2
def dI (v : UInt64) : Int := v.toInt64.toInt
def dD (z : Int) : UInt64 := (lI z).toUInt64
theorem dI_r (v : UInt64) : (-9223372036854775808 ≤ dI v ∧ dI v < 9223372036854775808) := ⟨Int64.le_toInt _, Int64.toInt_lt _⟩
theorem dD_dI (v : UInt64) : dD (dI v) = v := by unfold dD dI; rw [lI_self]; rfl
def i_dcl (x y : UInt64) : Int := (Op.cmpValue (FP.dcmp x y) .l).toInt
section JJL
variable {G : gE} {C : gC} {own : String} {cc : ByteArray} {nL : Nat} {ret : Option FieldType} {fr mc ms : Nat} {P : gP} {X : gX} {k n sz : Nat} {S Ln : Nat → Nat} {M : gM} {R : gR} {pc : Nat} {lv lv' : List (Nat × Value)} {st : List Value}
theorem po_kW {q : Int} {S0 Ln0 : Nat → Nat} (h : (-2147483648 ≤ q ∧ q < 2147483648) → Ex2 S0 Ln0 S Ln → ∀ sz, JJ G C k n sz S Ln M R pc lv (.int (iI q) :: st)) : ∀ v sz' S' Ln' M' R', poW q S0 Ln0 S Ln M R v sz' S' Ln' M' R' → JJ G C k n sz' S' Ln' M' R' pc lv (v.toList ++ st) := by
  rintro v sz' S' Ln' M' R' ⟨h1, h2, h3, h4, h5, h6, h7⟩; subst h1; rw [h4, h5, h6, h7]; exact h h2 h3 sz'
def CCo (C : gC) : Code := C.2.2.2.2.2.2.2.2.2.1
/-- the contract of a method with handlers that throws nothing -/
def CtW (l : Launch) (G : gE) (y : MethodName) (cc : ByteArray) (nL : Nat) (ret : Option FieldType) (hh : List (Nat × Nat × Nat × Nat)) (fr mc ms : Nat) (av : List Value) (sz : Nat) (S Ln : Nat → Nat) (M : gM) (R : gR) (P : gP) : Prop :=
  Met l y (.codeWith y cc nL ret hh :: gW) (gRm fr mc ms) (gPc G av sz S Ln M R) (gQc G P) mc ms (fun q => G.2.2.2.1 ≤ q)
theorem jj_startW {l : Launch} {y : MethodName} {av : List Value} {lv0 : List (Nat × Value)} {hh : List (Nat × Nat × Nat × Nat)} (hfl : l.stackTraces = false) (hy : plainName own = true) (hyo : y.cls = own) (how : own = "GlidingContestLaw") (hlv : lv_args 0 av = lv0) (hn : (lg_sl av).length ≤ nL)
    (body : ∀ C : gC, LV C = l → OKC G C own cc nL ret fr mc ms P noX → (CCo C).exceptionTable.toList = tableOf hh → JJ G C 0 0 sz S Ln M R 0 lv0 []) : CtW l G y cc nL ret hh fr mc ms av sz S Ln M R P := by
  subst hyo
  have hM : vx_Met l y (.codeWith y cc nL ret hh :: gW) (gRm fr mc ms) (gPc G av sz S Ln M R) (gQc G P) (gXc G noX) mc ms (fun q => G.2.2.2.1 ≤ q) := by
    refine vx_ofWH (cc := cc) (maxL := nL) (ret := ret) (hh := hh) hy rfl ?_
    intro p e s m args below meth c s₁ B hml hv
    obtain ⟨rfl, hR, hE, hz⟩ := hv
    have hok : OKC G (p, l, e, gRm fr mc ms, s, m, av.toArray, below, meth, c, vx_MQ below (gQc G P) (gXc G noX) av.toArray s mc ms (fun q => G.2.2.2.1 ≤ q)) y.cls cc nL ret fr mc ms P noX :=
      ⟨B.exec, B.bytes, hml, findClass_of_methodNamed B.named, fun w hw => atoms_spec (ws := .codeWith y cc nL ret hh :: gW) B.pre w (List.mem_cons_of_mem _ hw), hE, B.notSynchronized, B.returns, hfl, ⟨Nat.le_refl _, Nat.le_refl _, Nat.le_refl _, Nat.le_refl _⟩, rfl, fun h => absurd how h, hz⟩
    have hT : c.exceptionTable.toList = tableOf hh := vx_table (x := y) B (atoms_spec (ws := .codeWith y cc nL ret hh :: gW) B.pre _ List.mem_cons_self)
    have h := body _ rfl hok hT s.heap [] _ hR va_S.rf (by rw [hml, ← hlv]; exact lv_entry av (n := nL) hn)
    rw [lg_entry_eq]
    exact h
  intro p e ha hc hk s m args below hf happ hP hK
  obtain ⟨n, o, h1, h2, h3, h4⟩ := hM p e ha hc hk s m args below hf happ hP hK
  refine ⟨n, o, h1, h2, h3, ?_⟩
  rcases h4 with h4 | ⟨q, -, E, ce, L, ⟨⟨sz', S', Ln', M', R', hx, -⟩, -⟩, -⟩
  · exact h4
  · exact hx.elim
/-- caught by a row of the table -/
theorem jj_catch (hC : OKC G C own cc nL ret fr mc ms P X) {E : String} {hh h1 h2 : List (Nat × Nat × Nat × Nat)} {a b t ct : Nat} (hT : (CCo C).exceptionTable.toList = tableOf hh) (hsp : hh = h1 ++ (a, b, t, ct) :: h2) (hpass : ∀ z ∈ h1, ∃ nm, Cond.classLink own z.2.2.2 nm ∈ gW ∧ (E, nm) ∈ gNc ∧ z.2.2.2 ≠ 0) (hcov : covers ⟨a, b, t, ct⟩ pc = true) (h0 : ct ≠ 0) (hlk : Cond.classLink own ct E ∈ gW) (hca : Cond.castable E E ∈ gNW)
    (kk : ∀ q : Nat, JJ G C k n sz S Ln M R t lv [.ref q]) : JX G C k n E sz S Ln M R pc lv st := by
  obtain ⟨p, l, e, Rm, s, m, args, below, meth, c, Q⟩ := C
  obtain ⟨hx, hb, hml, hown, hts, hE, hlk2, hrt, hst, hRm, hQ, htab, hz⟩ := hC
  intro H locs ls q ce hR hS hl hce hcv hcl
  have hT9 : c.exceptionTable.toList = tableOf hh := hT
  refine vx_catch (own := own) (name := E) hown (tableOf h1) ⟨a, b, t, ct⟩ (tableOf h2) (by rw [hT9, hsp]; simp [tableOf]) ?_ hcov h0 (hts _ hlk) (va_Nw.use rfl (hE.2.1.1 _ hca)) hce hcv hcl (kk q H locs ls hR hS hl)
  intro z hz
  obtain ⟨y, hy, rfl⟩ := List.mem_map.mp hz
  obtain ⟨nm, g1, g2, g3⟩ := hpass y hy
  exact Or.inr ⟨g3, nm, hts _ g1, hE.2.1.2.1.1 _ g2⟩
def MVW (y : MethodName) (cc2 : ByteArray) (nL2 : Nat) (ret2 : Option FieldType) (hh : List (Nat × Nat × Nat × Nat)) (np : Nat) : Prop := Cond.codeWith y cc2 nL2 ret2 hh ∈ gW ∧ Cond.initialized y.cls ∈ gW ∧ y.cls ≠ "java/lang/invoke/MethodHandle" ∧ y.cls ≠ "java/lang/invoke/VarHandle" ∧ (parseMethodDescriptor y.desc).map (fun d => d.parameters.length) = some np ∧ nL2 ≤ 45
theorem jj_invSW (hC : OKC G C own cc nL ret fr mc ms P X) {y : MethodName} {cc2 : ByteArray} {nL2 : Nat} {ret2 : Option FieldType} {hh : List (Nat × Nat × Nat × Nat)} {np fr2 mc2 ms2 index : Nat} {As st0 : List Value} {P2 : gP}
    (hm : MVW y cc2 nL2 ret2 hh np) (hin : Cond.static y ∈ gW) (hlk : Cond.methodLink own index y ∈ gW) (hct : CtW (LV C) G y cc2 nL2 ret2 hh fr2 mc2 ms2 As sz S Ln M R P2) (hn : As.length = np) (hst0 : st0 = As.reverse ++ st) (hW : (st.map fun v => v.category).sum ≤ 8) (hfr : fr2 + 1 ≤ fr) (hk : k + mc2 ≤ mc) (hns : n + ms2 ≤ ms) (hdg : decode cc pc = .ok (.invokestatic index, 3))
    (kk : ∀ v sz S Ln M R, P2 v sz S Ln M R → JJ G C (k + mc2) (n + ms2) sz S Ln M R (pc + 3) lv (v.toList ++ st)) : JJ G C k n sz S Ln M R pc lv st0 := by
  obtain ⟨p, l, e, Rm, s, m, args, below, meth, c, Q⟩ := C
  obtain ⟨hx, hb, hml, hown, hts, hE, hlk2, hrt, hst, hRm, hQ, htab, hz⟩ := hC
  intro H locs ls hR hS hl
  obtain ⟨m1, m2, m3, m4, m5, m6⟩ := hm
  obtain ⟨rm1, rm2, rm3, rm4⟩ := hRm
  subst hst0
  exact jj_run (X2 := noX) (jj_va (vx_runSW (Ts := gW) (own := own) ⟨hx, hb, hml, hown, hts⟩ hct (vx_cwSW (ws' := gW) np hts (gW_cons hlk (gW_cons hin (gW_cons m2 (gW_cons m1 gW_good)))) rfl rfl rfl ⟨m3, m4, m5⟩ ⟨Nat.le_trans hfr rm1, by show 8 + (nL2 + 11) + 64 * fr2 ≤ Rm.locals; omega⟩)
    ⟨gPc_blind, fun U hU hW2 => jj_pre hE hR hS hz hU hW2⟩ rfl hn (by rw [← hml]; exact hl.1) rfl (lv_room hW) hdg ⟨Nat.le_trans hk rm2, Nat.le_trans hns rm3⟩)) hS hl (fun _ _ _ _ _ _ h => h.elim) kk
theorem jg_dast (hC : OKC G C own cc nL ret fr mc ms P X) {a : Nat} {i : Int} {v : UInt64} (hs : S a = 22) (h0 : 0 ≤ i) (h1 : i < Ln a) (hd : decode cc pc = .ok (.dastore, 1)) (kk : JJ G C k n sz S Ln (ua M a (us (M a) i (dI v))) R (pc + 1) lv st) : JJ G C k n sz S Ln M R pc lv (.double v :: .int (iI i) :: .ref a :: st) := by
  have h9 := jj_dast hC hs h0 h1 (dI_r v) hd kk
  have e9 : (lI (dI v)).toUInt64 = v := dD_dI v
  rw [e9] at h9
  exact h9
theorem jg_dald (hC : OKC G C own cc nL ret fr mc ms P X) {a : Nat} {i : Int} (hs : S a = 22) (h0 : 0 ≤ i) (h1 : i < Ln a) (hd : decode cc pc = .ok (.daload, 1)) (kk : JJ G C k n sz S Ln M R (pc + 1) lv (.double (dD (M a i)) :: st)) : JJ G C k n sz S Ln M R pc lv (.int (iI i) :: .ref a :: st) := jj_dald hC hs h0 h1 hd (fun _ => kk)
theorem jg_dcmpl (hC : OKC G C own cc nL ret fr mc ms P X) {x y : UInt64} (hd : decode cc pc = .ok (.dcmp .l, 1)) (kk : JJ G C k n sz S Ln M R (pc + 1) lv (.int (iI (i_dcl x y)) :: st)) : JJ G C k n sz S Ln M R pc lv (.double y :: .double x :: st) := by
  obtain ⟨p, l, e, Rm, s, m, args, below, meth, c, Q⟩ := C
  obtain ⟨hx, hb, hml, hown, hts, hE, hlk2, hrt, hst, hRm, hQ, htab, hz⟩ := hC
  intro H locs ls hR hS hl
  refine lv_dcmp hx hb hd ?_
  have e9 : Op.cmpValue (FP.dcmp x y) .l = iI (i_dcl x y) := (iI_self _).symm
  rw [e9]
  exact kk H locs ls hR hS hl
theorem i_dcl_r {x y : UInt64} : (-2147483648 ≤ i_dcl x y ∧ i_dcl x y < 2147483648) := iI_rng _
theorem jj_iald29 (hC : OKC G C own cc nL ret fr mc ms P X) {a : Nat} {i : Int} (hs : S a = 29) (h0 : 0 ≤ i) (h1 : i < Ln a) (hd : decode cc pc = .ok (.iaload, 1)) (kk : (-2147483648 ≤ M a i ∧ M a i < 2147483648) → JJ G C k n sz S Ln M R (pc + 1) lv (.int (iI (M a i)) :: st)) : JJ G C k n sz S Ln M R pc lv (.int (iI i) :: .ref a :: st) := by
  obtain ⟨p, l, e, Rm, s, m, args, below, meth, c, Q⟩ := C
  obtain ⟨hx, hb, hml, hown, hts, hE, hlk, hrt, hst, hRm, hQ, htab, hz⟩ := hC
  intro H locs ls hR hS hl
  obtain ⟨j, rfl⟩ : ∃ j : Nat, i = j := ⟨i.toNat, by omega⟩
  obtain ⟨⟨cl, hc, hcc, ⟨hl1, hl2, hl3⟩, hv1, hv2⟩, hr3, hln⟩ := hR.arq hs (by omega)
  have hcl : (iI (j : Int)).toNatClampNeg = j := by rw [iI_clamp (by omega) (by omega)]; rfl
  refine W.iald hx hb (v := .int (iI (M a (j : Int)))) hc (arq_of hE.2.1.2.2 hcc hv2) hv1 (fun q => iI_in h0 h1 hln (q.imp id (fun z => Nat.le_trans hl1 z))) ?_ rfl rfl hd (kk (hr3 j) H locs ls hR hS hl)
  rw [hcl, hl3 _ (by omega)]
  unfold gm_f
  rw [hs]
  rfl
theorem jj_alen29 (hC : OKC G C own cc nL ret fr mc ms P X) {a : Nat} (hs : S a = 29) (hd : decode cc pc = .ok (.arraylength, 1)) (kk : (Ln a : Int) < 2147483648 → JJ G C k n sz S Ln M R (pc + 1) lv (.int (iI (Ln a : Int)) :: st)) : JJ G C k n sz S Ln M R pc lv (.ref a :: st) := by
  obtain ⟨p, l, e, Rm, s, m, args, below, meth, c, Q⟩ := C
  obtain ⟨hx, hb, hml, hown, hts, hE, hlk, hrt, hst, hRm, hQ, htab, hz⟩ := hC
  intro H locs ls hR hS hl
  obtain ⟨⟨cl, hc, hcc, ⟨hl1, hl2, hl3⟩, hv1, hv2⟩, hr3, hln⟩ := hR.arq hs (by omega)
  refine W.alen (n := iI (Ln a : Int)) hx hb hc (arq_of hE.2.1.2.2 hcc hv2) ?_ rfl rfl hd (kk (by omega) H locs ls hR hS hl)
  exact hl2
end JJL
theorem wd974 : Cond.classLink RL 13 "java/lang/IllegalArgumentException" ∈ gW := gW_in 974 (by decide +kernel) (by decide +kernel)
theorem wd975 : Cond.classLink RL 15 "java/lang/IllegalStateException" ∈ gW := gW_in 975 (by decide +kernel) (by decide +kernel)
theorem wd1018 : Cond.castable "java/lang/IllegalStateException" "java/lang/IllegalStateException" ∈ gNW := gNW_in 1018 (by decide +kernel) (by decide +kernel)
theorem wd775 : Cond.castable "java/lang/IllegalArgumentException" "java/lang/IllegalArgumentException" ∈ gNW := gNW_in 775 (by decide +kernel) (by decide +kernel)
theorem wd979 : Cond.code yX9_addPoint cX9_addPoint 3 (some .int) ∈ gW := gW_in 979 (by decide +kernel) (by decide +kernel)
theorem mvX9_addPoint : MV yX9_addPoint cX9_addPoint 3 (some .int) 2 := ⟨wd979, wd78, by decide +kernel, by decide +kernel, by decide +kernel, by decide⟩
theorem wd977 : Cond.instanceMethod yX9_addPoint ∈ gW := gW_in 977 (by decide +kernel) (by decide +kernel)
theorem wd978 : Cond.selects yX9_addPoint.cls yX9_addPoint yX9_addPoint ∈ gW := gW_in 978 (by decide +kernel) (by decide +kernel)
theorem wd976 : Cond.methodLink RL 7 yX9_addPoint ∈ gW := gW_in 976 (by decide +kernel) (by decide +kernel)
theorem dL_addPoint_0 : decode cL_addPoint 0 = .ok (.aload_n 3, 1) := by decide +kernel
theorem dL_addPoint_1 : decode cL_addPoint 1 = .ok (.iconst 0, 1) := by decide +kernel
theorem dL_addPoint_2 : decode cL_addPoint 2 = .ok (.aload_n 0, 1) := by decide +kernel
theorem dL_addPoint_3 : decode cL_addPoint 3 = .ok (.iload_n 1, 1) := by decide +kernel
theorem dL_addPoint_4 : decode cL_addPoint 4 = .ok (.iload_n 2, 1) := by decide +kernel
theorem dL_addPoint_5 : decode cL_addPoint 5 = .ok (.invokevirtual 7, 3) := by decide +kernel
theorem dL_addPoint_8 : decode cL_addPoint 8 = .ok (.i2l, 1) := by decide +kernel
theorem dL_addPoint_9 : decode cL_addPoint 9 = .ok (.lastore, 1) := by decide +kernel
theorem dL_addPoint_10 : decode cL_addPoint 10 = .ok (.goto 11, 3) := by decide +kernel
theorem dL_addPoint_13 : decode cL_addPoint 13 = .ok (.astore 4, 2) := by decide +kernel
theorem dL_addPoint_15 : decode cL_addPoint 15 = .ok (.iconst 1, 1) := by decide +kernel
theorem dL_addPoint_16 : decode cL_addPoint 16 = .ok (.ireturn, 1) := by decide +kernel
theorem dL_addPoint_17 : decode cL_addPoint 17 = .ok (.astore 4, 2) := by decide +kernel
theorem dL_addPoint_19 : decode cL_addPoint 19 = .ok (.iconst 2, 1) := by decide +kernel
theorem dL_addPoint_20 : decode cL_addPoint 20 = .ok (.ireturn, 1) := by decide +kernel
theorem dL_addPoint_21 : decode cL_addPoint 21 = .ok (.iconst 0, 1) := by decide +kernel
theorem dL_addPoint_22 : decode cL_addPoint 22 = .ok (.ireturn, 1) := by decide +kernel
theorem wd1066 : Cond.classLink RL 21 "java/lang/IndexOutOfBoundsException" ∈ gW := gW_in 1066 (by decide +kernel) (by decide +kernel)
theorem wd1069 : Cond.classLink RL 23 "java/lang/UnsupportedOperationException" ∈ gW := gW_in 1069 (by decide +kernel) (by decide +kernel)
theorem wd1036 : Cond.castable "java/lang/UnsupportedOperationException" "java/lang/UnsupportedOperationException" ∈ gNW := gNW_in 1036 (by decide +kernel) (by decide +kernel)
theorem wd1000 : Cond.castable "java/lang/IndexOutOfBoundsException" "java/lang/IndexOutOfBoundsException" ∈ gNW := gNW_in 1000 (by decide +kernel) (by decide +kernel)
theorem wd1073 : Cond.code yX9_addTaskPoint cX9_addTaskPoint 2 (some .int) ∈ gW := gW_in 1073 (by decide +kernel) (by decide +kernel)
theorem mvX9_addTaskPoint : MV yX9_addTaskPoint cX9_addTaskPoint 2 (some .int) 1 := ⟨wd1073, wd78, by decide +kernel, by decide +kernel, by decide +kernel, by decide⟩
theorem wd1071 : Cond.instanceMethod yX9_addTaskPoint ∈ gW := gW_in 1071 (by decide +kernel) (by decide +kernel)
theorem wd1072 : Cond.selects yX9_addTaskPoint.cls yX9_addTaskPoint yX9_addTaskPoint ∈ gW := gW_in 1072 (by decide +kernel) (by decide +kernel)
theorem wd1070 : Cond.methodLink RL 17 yX9_addTaskPoint ∈ gW := gW_in 1070 (by decide +kernel) (by decide +kernel)
theorem dL_addTaskPoint_0 : decode cL_addTaskPoint 0 = .ok (.aload_n 2, 1) := by decide +kernel
theorem dL_addTaskPoint_1 : decode cL_addTaskPoint 1 = .ok (.iconst 0, 1) := by decide +kernel
theorem dL_addTaskPoint_2 : decode cL_addTaskPoint 2 = .ok (.aload_n 0, 1) := by decide +kernel
theorem dL_addTaskPoint_3 : decode cL_addTaskPoint 3 = .ok (.iload_n 1, 1) := by decide +kernel
theorem dL_addTaskPoint_4 : decode cL_addTaskPoint 4 = .ok (.invokevirtual 17, 3) := by decide +kernel
theorem dL_addTaskPoint_7 : decode cL_addTaskPoint 7 = .ok (.i2l, 1) := by decide +kernel
theorem dL_addTaskPoint_8 : decode cL_addTaskPoint 8 = .ok (.lastore, 1) := by decide +kernel
theorem dL_addTaskPoint_9 : decode cL_addTaskPoint 9 = .ok (.goto 12, 3) := by decide +kernel
theorem dL_addTaskPoint_12 : decode cL_addTaskPoint 12 = .ok (.astore_n 3, 1) := by decide +kernel
theorem dL_addTaskPoint_13 : decode cL_addTaskPoint 13 = .ok (.iconst 1, 1) := by decide +kernel
theorem dL_addTaskPoint_14 : decode cL_addTaskPoint 14 = .ok (.ireturn, 1) := by decide +kernel
theorem dL_addTaskPoint_15 : decode cL_addTaskPoint 15 = .ok (.astore_n 3, 1) := by decide +kernel
theorem dL_addTaskPoint_16 : decode cL_addTaskPoint 16 = .ok (.iconst 2, 1) := by decide +kernel
theorem dL_addTaskPoint_17 : decode cL_addTaskPoint 17 = .ok (.ireturn, 1) := by decide +kernel
theorem dL_addTaskPoint_18 : decode cL_addTaskPoint 18 = .ok (.astore_n 3, 1) := by decide +kernel
theorem dL_addTaskPoint_19 : decode cL_addTaskPoint 19 = .ok (.iconst 3, 1) := by decide +kernel
theorem dL_addTaskPoint_20 : decode cL_addTaskPoint 20 = .ok (.ireturn, 1) := by decide +kernel
theorem dL_addTaskPoint_21 : decode cL_addTaskPoint 21 = .ok (.iconst 0, 1) := by decide +kernel
theorem dL_addTaskPoint_22 : decode cL_addTaskPoint 22 = .ok (.ireturn, 1) := by decide +kernel
theorem wd1100 : Cond.code yX9_clearTask cX9_clearTask 1 (some .int) ∈ gW := gW_in 1100 (by decide +kernel) (by decide +kernel)
theorem mvX9_clearTask : MV yX9_clearTask cX9_clearTask 1 (some .int) 0 := ⟨wd1100, wd78, by decide +kernel, by decide +kernel, by decide +kernel, by decide⟩
theorem wd1098 : Cond.instanceMethod yX9_clearTask ∈ gW := gW_in 1098 (by decide +kernel) (by decide +kernel)
theorem wd1099 : Cond.selects yX9_clearTask.cls yX9_clearTask yX9_clearTask ∈ gW := gW_in 1099 (by decide +kernel) (by decide +kernel)
theorem wd1097 : Cond.methodLink RL 25 yX9_clearTask ∈ gW := gW_in 1097 (by decide +kernel) (by decide +kernel)
theorem dL_clearTask_0 : decode cL_clearTask 0 = .ok (.aload_n 1, 1) := by decide +kernel
theorem dL_clearTask_1 : decode cL_clearTask 1 = .ok (.iconst 0, 1) := by decide +kernel
theorem dL_clearTask_2 : decode cL_clearTask 2 = .ok (.aload_n 0, 1) := by decide +kernel
theorem dL_clearTask_3 : decode cL_clearTask 3 = .ok (.invokevirtual 25, 3) := by decide +kernel
theorem dL_clearTask_6 : decode cL_clearTask 6 = .ok (.i2l, 1) := by decide +kernel
theorem dL_clearTask_7 : decode cL_clearTask 7 = .ok (.lastore, 1) := by decide +kernel
theorem dL_clearTask_8 : decode cL_clearTask 8 = .ok (.goto 6, 3) := by decide +kernel
theorem dL_clearTask_11 : decode cL_clearTask 11 = .ok (.astore_n 2, 1) := by decide +kernel
theorem dL_clearTask_12 : decode cL_clearTask 12 = .ok (.iconst 1, 1) := by decide +kernel
theorem dL_clearTask_13 : decode cL_clearTask 13 = .ok (.ireturn, 1) := by decide +kernel
theorem dL_clearTask_14 : decode cL_clearTask 14 = .ok (.iconst 0, 1) := by decide +kernel
theorem dL_clearTask_15 : decode cL_clearTask 15 = .ok (.ireturn, 1) := by decide +kernel
theorem wd1112 : Cond.code yX9_addThermal cX9_addThermal 4 (some .int) ∈ gW := gW_in 1112 (by decide +kernel) (by decide +kernel)
theorem mvX9_addThermal : MV yX9_addThermal cX9_addThermal 4 (some .int) 3 := ⟨wd1112, wd78, by decide +kernel, by decide +kernel, by decide +kernel, by decide⟩
theorem wd1110 : Cond.instanceMethod yX9_addThermal ∈ gW := gW_in 1110 (by decide +kernel) (by decide +kernel)
theorem wd1111 : Cond.selects yX9_addThermal.cls yX9_addThermal yX9_addThermal ∈ gW := gW_in 1111 (by decide +kernel) (by decide +kernel)
theorem wd1109 : Cond.methodLink RL 29 yX9_addThermal ∈ gW := gW_in 1109 (by decide +kernel) (by decide +kernel)
theorem dL_addThermal_0 : decode cL_addThermal 0 = .ok (.aload 4, 2) := by decide +kernel
theorem dL_addThermal_2 : decode cL_addThermal 2 = .ok (.iconst 0, 1) := by decide +kernel
theorem dL_addThermal_3 : decode cL_addThermal 3 = .ok (.aload_n 0, 1) := by decide +kernel
theorem dL_addThermal_4 : decode cL_addThermal 4 = .ok (.iload_n 1, 1) := by decide +kernel
theorem dL_addThermal_5 : decode cL_addThermal 5 = .ok (.iload_n 2, 1) := by decide +kernel
theorem dL_addThermal_6 : decode cL_addThermal 6 = .ok (.iload_n 3, 1) := by decide +kernel
theorem dL_addThermal_7 : decode cL_addThermal 7 = .ok (.invokevirtual 29, 3) := by decide +kernel
theorem dL_addThermal_10 : decode cL_addThermal 10 = .ok (.i2l, 1) := by decide +kernel
theorem dL_addThermal_11 : decode cL_addThermal 11 = .ok (.lastore, 1) := by decide +kernel
theorem dL_addThermal_12 : decode cL_addThermal 12 = .ok (.goto 11, 3) := by decide +kernel
theorem dL_addThermal_15 : decode cL_addThermal 15 = .ok (.astore 5, 2) := by decide +kernel
theorem dL_addThermal_17 : decode cL_addThermal 17 = .ok (.iconst 1, 1) := by decide +kernel
theorem dL_addThermal_18 : decode cL_addThermal 18 = .ok (.ireturn, 1) := by decide +kernel
theorem dL_addThermal_19 : decode cL_addThermal 19 = .ok (.astore 5, 2) := by decide +kernel
theorem dL_addThermal_21 : decode cL_addThermal 21 = .ok (.iconst 2, 1) := by decide +kernel
theorem dL_addThermal_22 : decode cL_addThermal 22 = .ok (.ireturn, 1) := by decide +kernel
theorem dL_addThermal_23 : decode cL_addThermal 23 = .ok (.iconst 0, 1) := by decide +kernel
theorem dL_addThermal_24 : decode cL_addThermal 24 = .ok (.ireturn, 1) := by decide +kernel
theorem wd1127 : Cond.code yX9_setCloudBase cX9_setCloudBase 3 (some .int) ∈ gW := gW_in 1127 (by decide +kernel) (by decide +kernel)
theorem mvX9_setCloudBase : MV yX9_setCloudBase cX9_setCloudBase 3 (some .int) 1 := ⟨wd1127, wd78, by decide +kernel, by decide +kernel, by decide +kernel, by decide⟩
theorem wd1125 : Cond.instanceMethod yX9_setCloudBase ∈ gW := gW_in 1125 (by decide +kernel) (by decide +kernel)
theorem wd1126 : Cond.selects yX9_setCloudBase.cls yX9_setCloudBase yX9_setCloudBase ∈ gW := gW_in 1126 (by decide +kernel) (by decide +kernel)
theorem wd1124 : Cond.methodLink RL 33 yX9_setCloudBase ∈ gW := gW_in 1124 (by decide +kernel) (by decide +kernel)
theorem dL_setCloudBase_0 : decode cL_setCloudBase 0 = .ok (.aload_n 2, 1) := by decide +kernel
theorem dL_setCloudBase_1 : decode cL_setCloudBase 1 = .ok (.iconst 0, 1) := by decide +kernel
theorem dL_setCloudBase_2 : decode cL_setCloudBase 2 = .ok (.aload_n 0, 1) := by decide +kernel
theorem dL_setCloudBase_3 : decode cL_setCloudBase 3 = .ok (.iload_n 1, 1) := by decide +kernel
theorem dL_setCloudBase_4 : decode cL_setCloudBase 4 = .ok (.invokevirtual 33, 3) := by decide +kernel
theorem dL_setCloudBase_7 : decode cL_setCloudBase 7 = .ok (.i2l, 1) := by decide +kernel
theorem dL_setCloudBase_8 : decode cL_setCloudBase 8 = .ok (.lastore, 1) := by decide +kernel
theorem dL_setCloudBase_9 : decode cL_setCloudBase 9 = .ok (.goto 6, 3) := by decide +kernel
theorem dL_setCloudBase_12 : decode cL_setCloudBase 12 = .ok (.astore_n 3, 1) := by decide +kernel
theorem dL_setCloudBase_13 : decode cL_setCloudBase 13 = .ok (.iconst 1, 1) := by decide +kernel
theorem dL_setCloudBase_14 : decode cL_setCloudBase 14 = .ok (.ireturn, 1) := by decide +kernel
theorem dL_setCloudBase_15 : decode cL_setCloudBase 15 = .ok (.iconst 0, 1) := by decide +kernel
theorem dL_setCloudBase_16 : decode cL_setCloudBase 16 = .ok (.ireturn, 1) := by decide +kernel
theorem wd1135 : Cond.code yX9_addArea cX9_addArea 5 (some .int) ∈ gW := gW_in 1135 (by decide +kernel) (by decide +kernel)
theorem mvX9_addArea : MV yX9_addArea cX9_addArea 5 (some .int) 4 := ⟨wd1135, wd78, by decide +kernel, by decide +kernel, by decide +kernel, by decide⟩
theorem wd1133 : Cond.instanceMethod yX9_addArea ∈ gW := gW_in 1133 (by decide +kernel) (by decide +kernel)
theorem wd1134 : Cond.selects yX9_addArea.cls yX9_addArea yX9_addArea ∈ gW := gW_in 1134 (by decide +kernel) (by decide +kernel)
theorem wd1132 : Cond.methodLink RL 36 yX9_addArea ∈ gW := gW_in 1132 (by decide +kernel) (by decide +kernel)
theorem dL_addArea_0 : decode cL_addArea 0 = .ok (.aload 5, 2) := by decide +kernel
theorem dL_addArea_2 : decode cL_addArea 2 = .ok (.iconst 0, 1) := by decide +kernel
theorem dL_addArea_3 : decode cL_addArea 3 = .ok (.aload_n 0, 1) := by decide +kernel
theorem dL_addArea_4 : decode cL_addArea 4 = .ok (.iload_n 1, 1) := by decide +kernel
theorem dL_addArea_5 : decode cL_addArea 5 = .ok (.iload_n 2, 1) := by decide +kernel
theorem dL_addArea_6 : decode cL_addArea 6 = .ok (.iload_n 3, 1) := by decide +kernel
theorem dL_addArea_7 : decode cL_addArea 7 = .ok (.iload 4, 2) := by decide +kernel
theorem dL_addArea_9 : decode cL_addArea 9 = .ok (.invokevirtual 36, 3) := by decide +kernel
theorem dL_addArea_12 : decode cL_addArea 12 = .ok (.i2l, 1) := by decide +kernel
theorem dL_addArea_13 : decode cL_addArea 13 = .ok (.lastore, 1) := by decide +kernel
theorem dL_addArea_14 : decode cL_addArea 14 = .ok (.goto 11, 3) := by decide +kernel
theorem dL_addArea_17 : decode cL_addArea 17 = .ok (.astore 6, 2) := by decide +kernel
theorem dL_addArea_19 : decode cL_addArea 19 = .ok (.iconst 1, 1) := by decide +kernel
theorem dL_addArea_20 : decode cL_addArea 20 = .ok (.ireturn, 1) := by decide +kernel
theorem dL_addArea_21 : decode cL_addArea 21 = .ok (.astore 6, 2) := by decide +kernel
theorem dL_addArea_23 : decode cL_addArea 23 = .ok (.iconst 2, 1) := by decide +kernel
theorem dL_addArea_24 : decode cL_addArea 24 = .ok (.ireturn, 1) := by decide +kernel
theorem dL_addArea_25 : decode cL_addArea 25 = .ok (.iconst 0, 1) := by decide +kernel
theorem dL_addArea_26 : decode cL_addArea 26 = .ok (.ireturn, 1) := by decide +kernel
theorem wd1150 : Cond.code yX9_addPilot cX9_addPilot 2 (some .int) ∈ gW := gW_in 1150 (by decide +kernel) (by decide +kernel)
theorem mvX9_addPilot : MV yX9_addPilot cX9_addPilot 2 (some .int) 1 := ⟨wd1150, wd78, by decide +kernel, by decide +kernel, by decide +kernel, by decide⟩
theorem wd1148 : Cond.instanceMethod yX9_addPilot ∈ gW := gW_in 1148 (by decide +kernel) (by decide +kernel)
theorem wd1149 : Cond.selects yX9_addPilot.cls yX9_addPilot yX9_addPilot ∈ gW := gW_in 1149 (by decide +kernel) (by decide +kernel)
theorem wd1147 : Cond.methodLink RL 40 yX9_addPilot ∈ gW := gW_in 1147 (by decide +kernel) (by decide +kernel)
theorem dL_addPilot_0 : decode cL_addPilot 0 = .ok (.aload_n 2, 1) := by decide +kernel
theorem dL_addPilot_1 : decode cL_addPilot 1 = .ok (.iconst 0, 1) := by decide +kernel
theorem dL_addPilot_2 : decode cL_addPilot 2 = .ok (.aload_n 0, 1) := by decide +kernel
theorem dL_addPilot_3 : decode cL_addPilot 3 = .ok (.iload_n 1, 1) := by decide +kernel
theorem dL_addPilot_4 : decode cL_addPilot 4 = .ok (.invokevirtual 40, 3) := by decide +kernel
theorem dL_addPilot_7 : decode cL_addPilot 7 = .ok (.i2l, 1) := by decide +kernel
theorem dL_addPilot_8 : decode cL_addPilot 8 = .ok (.lastore, 1) := by decide +kernel
theorem dL_addPilot_9 : decode cL_addPilot 9 = .ok (.goto 9, 3) := by decide +kernel
theorem dL_addPilot_12 : decode cL_addPilot 12 = .ok (.astore_n 3, 1) := by decide +kernel
theorem dL_addPilot_13 : decode cL_addPilot 13 = .ok (.iconst 1, 1) := by decide +kernel
theorem dL_addPilot_14 : decode cL_addPilot 14 = .ok (.ireturn, 1) := by decide +kernel
theorem dL_addPilot_15 : decode cL_addPilot 15 = .ok (.astore_n 3, 1) := by decide +kernel
theorem dL_addPilot_16 : decode cL_addPilot 16 = .ok (.iconst 2, 1) := by decide +kernel
theorem dL_addPilot_17 : decode cL_addPilot 17 = .ok (.ireturn, 1) := by decide +kernel
theorem dL_addPilot_18 : decode cL_addPilot 18 = .ok (.iconst 0, 1) := by decide +kernel
theorem dL_addPilot_19 : decode cL_addPilot 19 = .ok (.ireturn, 1) := by decide +kernel
theorem wd1173 : Cond.code yX9_launch cX9_launch 2 (some .int) ∈ gW := gW_in 1173 (by decide +kernel) (by decide +kernel)
theorem mvX9_launch : MV yX9_launch cX9_launch 2 (some .int) 1 := ⟨wd1173, wd78, by decide +kernel, by decide +kernel, by decide +kernel, by decide⟩
theorem wd1171 : Cond.instanceMethod yX9_launch ∈ gW := gW_in 1171 (by decide +kernel) (by decide +kernel)
theorem wd1172 : Cond.selects yX9_launch.cls yX9_launch yX9_launch ∈ gW := gW_in 1172 (by decide +kernel) (by decide +kernel)
theorem wd1170 : Cond.methodLink RL 43 yX9_launch ∈ gW := gW_in 1170 (by decide +kernel) (by decide +kernel)
theorem dL_launch_0 : decode cL_launch 0 = .ok (.aload_n 2, 1) := by decide +kernel
theorem dL_launch_1 : decode cL_launch 1 = .ok (.iconst 0, 1) := by decide +kernel
theorem dL_launch_2 : decode cL_launch 2 = .ok (.aload_n 0, 1) := by decide +kernel
theorem dL_launch_3 : decode cL_launch 3 = .ok (.iload_n 1, 1) := by decide +kernel
theorem dL_launch_4 : decode cL_launch 4 = .ok (.invokevirtual 43, 3) := by decide +kernel
theorem dL_launch_7 : decode cL_launch 7 = .ok (.i2l, 1) := by decide +kernel
theorem dL_launch_8 : decode cL_launch 8 = .ok (.lastore, 1) := by decide +kernel
theorem dL_launch_9 : decode cL_launch 9 = .ok (.goto 12, 3) := by decide +kernel
theorem dL_launch_12 : decode cL_launch 12 = .ok (.astore_n 3, 1) := by decide +kernel
theorem dL_launch_13 : decode cL_launch 13 = .ok (.iconst 1, 1) := by decide +kernel
theorem dL_launch_14 : decode cL_launch 14 = .ok (.ireturn, 1) := by decide +kernel
theorem dL_launch_15 : decode cL_launch 15 = .ok (.astore_n 3, 1) := by decide +kernel
theorem dL_launch_16 : decode cL_launch 16 = .ok (.iconst 2, 1) := by decide +kernel
theorem dL_launch_17 : decode cL_launch 17 = .ok (.ireturn, 1) := by decide +kernel
theorem dL_launch_18 : decode cL_launch 18 = .ok (.astore_n 3, 1) := by decide +kernel
theorem dL_launch_19 : decode cL_launch 19 = .ok (.iconst 3, 1) := by decide +kernel
theorem dL_launch_20 : decode cL_launch 20 = .ok (.ireturn, 1) := by decide +kernel
theorem dL_launch_21 : decode cL_launch 21 = .ok (.iconst 0, 1) := by decide +kernel
theorem dL_launch_22 : decode cL_launch 22 = .ok (.ireturn, 1) := by decide +kernel
theorem wd1198 : Cond.code yX9_fly cX9_fly 4 (some .int) ∈ gW := gW_in 1198 (by decide +kernel) (by decide +kernel)
theorem mvX9_fly : MV yX9_fly cX9_fly 4 (some .int) 3 := ⟨wd1198, wd78, by decide +kernel, by decide +kernel, by decide +kernel, by decide⟩
theorem wd1196 : Cond.instanceMethod yX9_fly ∈ gW := gW_in 1196 (by decide +kernel) (by decide +kernel)
theorem wd1197 : Cond.selects yX9_fly.cls yX9_fly yX9_fly ∈ gW := gW_in 1197 (by decide +kernel) (by decide +kernel)
theorem wd1195 : Cond.methodLink RL 46 yX9_fly ∈ gW := gW_in 1195 (by decide +kernel) (by decide +kernel)
theorem dL_fly_0 : decode cL_fly 0 = .ok (.aload 4, 2) := by decide +kernel
theorem dL_fly_2 : decode cL_fly 2 = .ok (.iconst 0, 1) := by decide +kernel
theorem dL_fly_3 : decode cL_fly 3 = .ok (.aload_n 0, 1) := by decide +kernel
theorem dL_fly_4 : decode cL_fly 4 = .ok (.iload_n 1, 1) := by decide +kernel
theorem dL_fly_5 : decode cL_fly 5 = .ok (.iload_n 2, 1) := by decide +kernel
theorem dL_fly_6 : decode cL_fly 6 = .ok (.iload_n 3, 1) := by decide +kernel
theorem dL_fly_7 : decode cL_fly 7 = .ok (.invokevirtual 46, 3) := by decide +kernel
theorem dL_fly_10 : decode cL_fly 10 = .ok (.i2l, 1) := by decide +kernel
theorem dL_fly_11 : decode cL_fly 11 = .ok (.lastore, 1) := by decide +kernel
theorem dL_fly_12 : decode cL_fly 12 = .ok (.goto 19, 3) := by decide +kernel
theorem dL_fly_15 : decode cL_fly 15 = .ok (.astore 5, 2) := by decide +kernel
theorem dL_fly_17 : decode cL_fly 17 = .ok (.iconst 1, 1) := by decide +kernel
theorem dL_fly_18 : decode cL_fly 18 = .ok (.ireturn, 1) := by decide +kernel
theorem dL_fly_19 : decode cL_fly 19 = .ok (.astore 5, 2) := by decide +kernel
theorem dL_fly_21 : decode cL_fly 21 = .ok (.iconst 2, 1) := by decide +kernel
theorem dL_fly_22 : decode cL_fly 22 = .ok (.ireturn, 1) := by decide +kernel
theorem dL_fly_23 : decode cL_fly 23 = .ok (.astore 5, 2) := by decide +kernel
theorem dL_fly_25 : decode cL_fly 25 = .ok (.iconst 3, 1) := by decide +kernel
theorem dL_fly_26 : decode cL_fly 26 = .ok (.ireturn, 1) := by decide +kernel
theorem dL_fly_27 : decode cL_fly 27 = .ok (.astore 5, 2) := by decide +kernel
theorem dL_fly_29 : decode cL_fly 29 = .ok (.iconst 4, 1) := by decide +kernel
theorem dL_fly_30 : decode cL_fly 30 = .ok (.ireturn, 1) := by decide +kernel
theorem dL_fly_31 : decode cL_fly 31 = .ok (.iconst 0, 1) := by decide +kernel
theorem dL_fly_32 : decode cL_fly 32 = .ok (.ireturn, 1) := by decide +kernel
theorem wd1215 : Cond.code yX9_climb cX9_climb 3 (some .int) ∈ gW := gW_in 1215 (by decide +kernel) (by decide +kernel)
theorem mvX9_climb : MV yX9_climb cX9_climb 3 (some .int) 2 := ⟨wd1215, wd78, by decide +kernel, by decide +kernel, by decide +kernel, by decide⟩
theorem wd1213 : Cond.instanceMethod yX9_climb ∈ gW := gW_in 1213 (by decide +kernel) (by decide +kernel)
theorem wd1214 : Cond.selects yX9_climb.cls yX9_climb yX9_climb ∈ gW := gW_in 1214 (by decide +kernel) (by decide +kernel)
theorem wd1212 : Cond.methodLink RL 49 yX9_climb ∈ gW := gW_in 1212 (by decide +kernel) (by decide +kernel)
theorem dL_climb_0 : decode cL_climb 0 = .ok (.aload_n 3, 1) := by decide +kernel
theorem dL_climb_1 : decode cL_climb 1 = .ok (.iconst 0, 1) := by decide +kernel
theorem dL_climb_2 : decode cL_climb 2 = .ok (.aload_n 0, 1) := by decide +kernel
theorem dL_climb_3 : decode cL_climb 3 = .ok (.iload_n 1, 1) := by decide +kernel
theorem dL_climb_4 : decode cL_climb 4 = .ok (.iload_n 2, 1) := by decide +kernel
theorem dL_climb_5 : decode cL_climb 5 = .ok (.invokevirtual 49, 3) := by decide +kernel
theorem dL_climb_8 : decode cL_climb 8 = .ok (.i2l, 1) := by decide +kernel
theorem dL_climb_9 : decode cL_climb 9 = .ok (.lastore, 1) := by decide +kernel
theorem dL_climb_10 : decode cL_climb 10 = .ok (.goto 19, 3) := by decide +kernel
theorem dL_climb_13 : decode cL_climb 13 = .ok (.astore 4, 2) := by decide +kernel
theorem dL_climb_15 : decode cL_climb 15 = .ok (.iconst 1, 1) := by decide +kernel
theorem dL_climb_16 : decode cL_climb 16 = .ok (.ireturn, 1) := by decide +kernel
theorem dL_climb_17 : decode cL_climb 17 = .ok (.astore 4, 2) := by decide +kernel
theorem dL_climb_19 : decode cL_climb 19 = .ok (.iconst 2, 1) := by decide +kernel
theorem dL_climb_20 : decode cL_climb 20 = .ok (.ireturn, 1) := by decide +kernel
theorem dL_climb_21 : decode cL_climb 21 = .ok (.astore 4, 2) := by decide +kernel
theorem dL_climb_23 : decode cL_climb 23 = .ok (.iconst 3, 1) := by decide +kernel
theorem dL_climb_24 : decode cL_climb 24 = .ok (.ireturn, 1) := by decide +kernel
theorem dL_climb_25 : decode cL_climb 25 = .ok (.astore 4, 2) := by decide +kernel
theorem dL_climb_27 : decode cL_climb 27 = .ok (.iconst 4, 1) := by decide +kernel
theorem dL_climb_28 : decode cL_climb 28 = .ok (.ireturn, 1) := by decide +kernel
theorem dL_climb_29 : decode cL_climb 29 = .ok (.iconst 0, 1) := by decide +kernel
theorem dL_climb_30 : decode cL_climb 30 = .ok (.ireturn, 1) := by decide +kernel
theorem wd1240 : Cond.code yX9_endDay cX9_endDay 1 (some .int) ∈ gW := gW_in 1240 (by decide +kernel) (by decide +kernel)
theorem mvX9_endDay : MV yX9_endDay cX9_endDay 1 (some .int) 0 := ⟨wd1240, wd78, by decide +kernel, by decide +kernel, by decide +kernel, by decide⟩
theorem wd1238 : Cond.instanceMethod yX9_endDay ∈ gW := gW_in 1238 (by decide +kernel) (by decide +kernel)
theorem wd1239 : Cond.selects yX9_endDay.cls yX9_endDay yX9_endDay ∈ gW := gW_in 1239 (by decide +kernel) (by decide +kernel)
theorem wd1237 : Cond.methodLink RL 52 yX9_endDay ∈ gW := gW_in 1237 (by decide +kernel) (by decide +kernel)
theorem dL_endDay_0 : decode cL_endDay 0 = .ok (.aload_n 1, 1) := by decide +kernel
theorem dL_endDay_1 : decode cL_endDay 1 = .ok (.iconst 0, 1) := by decide +kernel
theorem dL_endDay_2 : decode cL_endDay 2 = .ok (.aload_n 0, 1) := by decide +kernel
theorem dL_endDay_3 : decode cL_endDay 3 = .ok (.invokevirtual 52, 3) := by decide +kernel
theorem dL_endDay_6 : decode cL_endDay 6 = .ok (.i2l, 1) := by decide +kernel
theorem dL_endDay_7 : decode cL_endDay 7 = .ok (.lastore, 1) := by decide +kernel
theorem dL_endDay_8 : decode cL_endDay 8 = .ok (.goto 6, 3) := by decide +kernel
theorem dL_endDay_11 : decode cL_endDay 11 = .ok (.astore_n 2, 1) := by decide +kernel
theorem dL_endDay_12 : decode cL_endDay 12 = .ok (.iconst 1, 1) := by decide +kernel
theorem dL_endDay_13 : decode cL_endDay 13 = .ok (.ireturn, 1) := by decide +kernel
theorem dL_endDay_14 : decode cL_endDay 14 = .ok (.iconst 0, 1) := by decide +kernel
theorem dL_endDay_15 : decode cL_endDay 15 = .ok (.ireturn, 1) := by decide +kernel
theorem wd1266 : Cond.code yX9_distance cX9_distance 3 (some .int) ∈ gW := gW_in 1266 (by decide +kernel) (by decide +kernel)
theorem mvX9_distance : MV yX9_distance cX9_distance 3 (some .int) 2 := ⟨wd1266, wd78, by decide +kernel, by decide +kernel, by decide +kernel, by decide⟩
theorem wd1264 : Cond.instanceMethod yX9_distance ∈ gW := gW_in 1264 (by decide +kernel) (by decide +kernel)
theorem wd1265 : Cond.selects yX9_distance.cls yX9_distance yX9_distance ∈ gW := gW_in 1265 (by decide +kernel) (by decide +kernel)
theorem wd1263 : Cond.methodLink RL 55 yX9_distance ∈ gW := gW_in 1263 (by decide +kernel) (by decide +kernel)
theorem dL_distance_0 : decode cL_distance 0 = .ok (.aload_n 3, 1) := by decide +kernel
theorem dL_distance_1 : decode cL_distance 1 = .ok (.iconst 0, 1) := by decide +kernel
theorem dL_distance_2 : decode cL_distance 2 = .ok (.aload_n 0, 1) := by decide +kernel
theorem dL_distance_3 : decode cL_distance 3 = .ok (.iload_n 1, 1) := by decide +kernel
theorem dL_distance_4 : decode cL_distance 4 = .ok (.iload_n 2, 1) := by decide +kernel
theorem dL_distance_5 : decode cL_distance 5 = .ok (.invokevirtual 55, 3) := by decide +kernel
theorem dL_distance_8 : decode cL_distance 8 = .ok (.i2l, 1) := by decide +kernel
theorem dL_distance_9 : decode cL_distance 9 = .ok (.lastore, 1) := by decide +kernel
theorem dL_distance_10 : decode cL_distance 10 = .ok (.goto 7, 3) := by decide +kernel
theorem dL_distance_13 : decode cL_distance 13 = .ok (.astore 4, 2) := by decide +kernel
theorem dL_distance_15 : decode cL_distance 15 = .ok (.iconst 1, 1) := by decide +kernel
theorem dL_distance_16 : decode cL_distance 16 = .ok (.ireturn, 1) := by decide +kernel
theorem dL_distance_17 : decode cL_distance 17 = .ok (.iconst 0, 1) := by decide +kernel
theorem dL_distance_18 : decode cL_distance 18 = .ok (.ireturn, 1) := by decide +kernel
theorem wd1273 : Cond.classLink RL 61 "java/util/NoSuchElementException" ∈ gW := gW_in 1273 (by decide +kernel) (by decide +kernel)
theorem wd1281 : Cond.castable "java/util/NoSuchElementException" "java/util/NoSuchElementException" ∈ gNW := gNW_in 1281 (by decide +kernel) (by decide +kernel)
theorem wd1277 : Cond.code yX9_taskPoint cX9_taskPoint 2 (some .int) ∈ gW := gW_in 1277 (by decide +kernel) (by decide +kernel)
theorem mvX9_taskPoint : MV yX9_taskPoint cX9_taskPoint 2 (some .int) 1 := ⟨wd1277, wd78, by decide +kernel, by decide +kernel, by decide +kernel, by decide⟩
theorem wd1275 : Cond.instanceMethod yX9_taskPoint ∈ gW := gW_in 1275 (by decide +kernel) (by decide +kernel)
theorem wd1276 : Cond.selects yX9_taskPoint.cls yX9_taskPoint yX9_taskPoint ∈ gW := gW_in 1276 (by decide +kernel) (by decide +kernel)
theorem wd1274 : Cond.methodLink RL 58 yX9_taskPoint ∈ gW := gW_in 1274 (by decide +kernel) (by decide +kernel)
theorem dL_taskPoint_0 : decode cL_taskPoint 0 = .ok (.aload_n 2, 1) := by decide +kernel
theorem dL_taskPoint_1 : decode cL_taskPoint 1 = .ok (.iconst 0, 1) := by decide +kernel
theorem dL_taskPoint_2 : decode cL_taskPoint 2 = .ok (.aload_n 0, 1) := by decide +kernel
theorem dL_taskPoint_3 : decode cL_taskPoint 3 = .ok (.iload_n 1, 1) := by decide +kernel
theorem dL_taskPoint_4 : decode cL_taskPoint 4 = .ok (.invokevirtual 58, 3) := by decide +kernel
theorem dL_taskPoint_7 : decode cL_taskPoint 7 = .ok (.i2l, 1) := by decide +kernel
theorem dL_taskPoint_8 : decode cL_taskPoint 8 = .ok (.lastore, 1) := by decide +kernel
theorem dL_taskPoint_9 : decode cL_taskPoint 9 = .ok (.goto 6, 3) := by decide +kernel
theorem dL_taskPoint_12 : decode cL_taskPoint 12 = .ok (.astore_n 3, 1) := by decide +kernel
theorem dL_taskPoint_13 : decode cL_taskPoint 13 = .ok (.iconst 1, 1) := by decide +kernel
theorem dL_taskPoint_14 : decode cL_taskPoint 14 = .ok (.ireturn, 1) := by decide +kernel
theorem dL_taskPoint_15 : decode cL_taskPoint 15 = .ok (.iconst 0, 1) := by decide +kernel
theorem dL_taskPoint_16 : decode cL_taskPoint 16 = .ok (.ireturn, 1) := by decide +kernel
theorem wd1301 : Cond.code yX9_strongestThermal cX9_strongestThermal 4 (some .int) ∈ gW := gW_in 1301 (by decide +kernel) (by decide +kernel)
theorem mvX9_strongestThermal : MV yX9_strongestThermal cX9_strongestThermal 4 (some .int) 2 := ⟨wd1301, wd78, by decide +kernel, by decide +kernel, by decide +kernel, by decide⟩
theorem wd1299 : Cond.instanceMethod yX9_strongestThermal ∈ gW := gW_in 1299 (by decide +kernel) (by decide +kernel)
theorem wd1300 : Cond.selects yX9_strongestThermal.cls yX9_strongestThermal yX9_strongestThermal ∈ gW := gW_in 1300 (by decide +kernel) (by decide +kernel)
theorem wd1298 : Cond.methodLink RL 63 yX9_strongestThermal ∈ gW := gW_in 1298 (by decide +kernel) (by decide +kernel)
theorem dL_strongestThermal_0 : decode cL_strongestThermal 0 = .ok (.aload_n 3, 1) := by decide +kernel
theorem dL_strongestThermal_1 : decode cL_strongestThermal 1 = .ok (.iconst 0, 1) := by decide +kernel
theorem dL_strongestThermal_2 : decode cL_strongestThermal 2 = .ok (.aload_n 0, 1) := by decide +kernel
theorem dL_strongestThermal_3 : decode cL_strongestThermal 3 = .ok (.iload_n 1, 1) := by decide +kernel
theorem dL_strongestThermal_4 : decode cL_strongestThermal 4 = .ok (.iload_n 2, 1) := by decide +kernel
theorem dL_strongestThermal_5 : decode cL_strongestThermal 5 = .ok (.invokevirtual 63, 3) := by decide +kernel
theorem dL_strongestThermal_8 : decode cL_strongestThermal 8 = .ok (.i2l, 1) := by decide +kernel
theorem dL_strongestThermal_9 : decode cL_strongestThermal 9 = .ok (.lastore, 1) := by decide +kernel
theorem dL_strongestThermal_10 : decode cL_strongestThermal 10 = .ok (.goto 11, 3) := by decide +kernel
theorem dL_strongestThermal_13 : decode cL_strongestThermal 13 = .ok (.astore 4, 2) := by decide +kernel
theorem dL_strongestThermal_15 : decode cL_strongestThermal 15 = .ok (.iconst 1, 1) := by decide +kernel
theorem dL_strongestThermal_16 : decode cL_strongestThermal 16 = .ok (.ireturn, 1) := by decide +kernel
theorem dL_strongestThermal_17 : decode cL_strongestThermal 17 = .ok (.astore 4, 2) := by decide +kernel
theorem dL_strongestThermal_19 : decode cL_strongestThermal 19 = .ok (.iconst 2, 1) := by decide +kernel
theorem dL_strongestThermal_20 : decode cL_strongestThermal 20 = .ok (.ireturn, 1) := by decide +kernel
theorem dL_strongestThermal_21 : decode cL_strongestThermal 21 = .ok (.iconst 0, 1) := by decide +kernel
theorem dL_strongestThermal_22 : decode cL_strongestThermal 22 = .ok (.ireturn, 1) := by decide +kernel
theorem wd1315 : Cond.code yX9_isRestricted cX9_isRestricted 3 (some .boolean) ∈ gW := gW_in 1315 (by decide +kernel) (by decide +kernel)
theorem mvX9_isRestricted : MV yX9_isRestricted cX9_isRestricted 3 (some .boolean) 2 := ⟨wd1315, wd78, by decide +kernel, by decide +kernel, by decide +kernel, by decide⟩
theorem wd1313 : Cond.instanceMethod yX9_isRestricted ∈ gW := gW_in 1313 (by decide +kernel) (by decide +kernel)
theorem wd1314 : Cond.selects yX9_isRestricted.cls yX9_isRestricted yX9_isRestricted ∈ gW := gW_in 1314 (by decide +kernel) (by decide +kernel)
theorem wd1312 : Cond.methodLink RL 66 yX9_isRestricted ∈ gW := gW_in 1312 (by decide +kernel) (by decide +kernel)
theorem dL_isRestricted_0 : decode cL_isRestricted 0 = .ok (.aload_n 3, 1) := by decide +kernel
theorem dL_isRestricted_1 : decode cL_isRestricted 1 = .ok (.iconst 0, 1) := by decide +kernel
theorem dL_isRestricted_2 : decode cL_isRestricted 2 = .ok (.aload_n 0, 1) := by decide +kernel
theorem dL_isRestricted_3 : decode cL_isRestricted 3 = .ok (.iload_n 1, 1) := by decide +kernel
theorem dL_isRestricted_4 : decode cL_isRestricted 4 = .ok (.iload_n 2, 1) := by decide +kernel
theorem dL_isRestricted_5 : decode cL_isRestricted 5 = .ok (.invokevirtual 66, 3) := by decide +kernel
theorem dL_isRestricted_8 : decode cL_isRestricted 8 = .ok (.ifCond .eq 7, 3) := by decide +kernel
theorem dL_isRestricted_11 : decode cL_isRestricted 11 = .ok (.lconst 1, 1) := by decide +kernel
theorem dL_isRestricted_12 : decode cL_isRestricted 12 = .ok (.goto 4, 3) := by decide +kernel
theorem dL_isRestricted_15 : decode cL_isRestricted 15 = .ok (.lconst 0, 1) := by decide +kernel
theorem dL_isRestricted_16 : decode cL_isRestricted 16 = .ok (.lastore, 1) := by decide +kernel
theorem dL_isRestricted_17 : decode cL_isRestricted 17 = .ok (.goto 7, 3) := by decide +kernel
theorem dL_isRestricted_20 : decode cL_isRestricted 20 = .ok (.astore 4, 2) := by decide +kernel
theorem dL_isRestricted_22 : decode cL_isRestricted 22 = .ok (.iconst 1, 1) := by decide +kernel
theorem dL_isRestricted_23 : decode cL_isRestricted 23 = .ok (.ireturn, 1) := by decide +kernel
theorem dL_isRestricted_24 : decode cL_isRestricted 24 = .ok (.iconst 0, 1) := by decide +kernel
theorem dL_isRestricted_25 : decode cL_isRestricted 25 = .ok (.ireturn, 1) := by decide +kernel
theorem wd1323 : Cond.code yX9_restrictedInRow cX9_restrictedInRow 2 (some .int) ∈ gW := gW_in 1323 (by decide +kernel) (by decide +kernel)
theorem mvX9_restrictedInRow : MV yX9_restrictedInRow cX9_restrictedInRow 2 (some .int) 1 := ⟨wd1323, wd78, by decide +kernel, by decide +kernel, by decide +kernel, by decide⟩
theorem wd1321 : Cond.instanceMethod yX9_restrictedInRow ∈ gW := gW_in 1321 (by decide +kernel) (by decide +kernel)
theorem wd1322 : Cond.selects yX9_restrictedInRow.cls yX9_restrictedInRow yX9_restrictedInRow ∈ gW := gW_in 1322 (by decide +kernel) (by decide +kernel)
theorem wd1320 : Cond.methodLink RL 70 yX9_restrictedInRow ∈ gW := gW_in 1320 (by decide +kernel) (by decide +kernel)
theorem dL_restrictedInRow_0 : decode cL_restrictedInRow 0 = .ok (.aload_n 2, 1) := by decide +kernel
theorem dL_restrictedInRow_1 : decode cL_restrictedInRow 1 = .ok (.iconst 0, 1) := by decide +kernel
theorem dL_restrictedInRow_2 : decode cL_restrictedInRow 2 = .ok (.aload_n 0, 1) := by decide +kernel
theorem dL_restrictedInRow_3 : decode cL_restrictedInRow 3 = .ok (.iload_n 1, 1) := by decide +kernel
theorem dL_restrictedInRow_4 : decode cL_restrictedInRow 4 = .ok (.invokevirtual 70, 3) := by decide +kernel
theorem dL_restrictedInRow_7 : decode cL_restrictedInRow 7 = .ok (.i2l, 1) := by decide +kernel
theorem dL_restrictedInRow_8 : decode cL_restrictedInRow 8 = .ok (.lastore, 1) := by decide +kernel
theorem dL_restrictedInRow_9 : decode cL_restrictedInRow 9 = .ok (.goto 6, 3) := by decide +kernel
theorem dL_restrictedInRow_12 : decode cL_restrictedInRow 12 = .ok (.astore_n 3, 1) := by decide +kernel
theorem dL_restrictedInRow_13 : decode cL_restrictedInRow 13 = .ok (.iconst 1, 1) := by decide +kernel
theorem dL_restrictedInRow_14 : decode cL_restrictedInRow 14 = .ok (.ireturn, 1) := by decide +kernel
theorem dL_restrictedInRow_15 : decode cL_restrictedInRow 15 = .ok (.iconst 0, 1) := by decide +kernel
theorem dL_restrictedInRow_16 : decode cL_restrictedInRow 16 = .ok (.ireturn, 1) := by decide +kernel
theorem wd1331 : Cond.code yX9_restrictedInRowByRanges cX9_restrictedInRowByRanges 2 (some .int) ∈ gW := gW_in 1331 (by decide +kernel) (by decide +kernel)
theorem mvX9_restrictedInRowByRanges : MV yX9_restrictedInRowByRanges cX9_restrictedInRowByRanges 2 (some .int) 1 := ⟨wd1331, wd78, by decide +kernel, by decide +kernel, by decide +kernel, by decide⟩
theorem wd1329 : Cond.instanceMethod yX9_restrictedInRowByRanges ∈ gW := gW_in 1329 (by decide +kernel) (by decide +kernel)
theorem wd1330 : Cond.selects yX9_restrictedInRowByRanges.cls yX9_restrictedInRowByRanges yX9_restrictedInRowByRanges ∈ gW := gW_in 1330 (by decide +kernel) (by decide +kernel)
theorem wd1328 : Cond.methodLink RL 73 yX9_restrictedInRowByRanges ∈ gW := gW_in 1328 (by decide +kernel) (by decide +kernel)
theorem dL_restrictedInRowByRanges_0 : decode cL_restrictedInRowByRanges 0 = .ok (.aload_n 2, 1) := by decide +kernel
theorem dL_restrictedInRowByRanges_1 : decode cL_restrictedInRowByRanges 1 = .ok (.iconst 0, 1) := by decide +kernel
theorem dL_restrictedInRowByRanges_2 : decode cL_restrictedInRowByRanges 2 = .ok (.aload_n 0, 1) := by decide +kernel
theorem dL_restrictedInRowByRanges_3 : decode cL_restrictedInRowByRanges 3 = .ok (.iload_n 1, 1) := by decide +kernel
theorem dL_restrictedInRowByRanges_4 : decode cL_restrictedInRowByRanges 4 = .ok (.invokevirtual 73, 3) := by decide +kernel
theorem dL_restrictedInRowByRanges_7 : decode cL_restrictedInRowByRanges 7 = .ok (.i2l, 1) := by decide +kernel
theorem dL_restrictedInRowByRanges_8 : decode cL_restrictedInRowByRanges 8 = .ok (.lastore, 1) := by decide +kernel
theorem dL_restrictedInRowByRanges_9 : decode cL_restrictedInRowByRanges 9 = .ok (.goto 6, 3) := by decide +kernel
theorem dL_restrictedInRowByRanges_12 : decode cL_restrictedInRowByRanges 12 = .ok (.astore_n 3, 1) := by decide +kernel
theorem dL_restrictedInRowByRanges_13 : decode cL_restrictedInRowByRanges 13 = .ok (.iconst 1, 1) := by decide +kernel
theorem dL_restrictedInRowByRanges_14 : decode cL_restrictedInRowByRanges 14 = .ok (.ireturn, 1) := by decide +kernel
theorem dL_restrictedInRowByRanges_15 : decode cL_restrictedInRowByRanges 15 = .ok (.iconst 0, 1) := by decide +kernel
theorem dL_restrictedInRowByRanges_16 : decode cL_restrictedInRowByRanges 16 = .ok (.ireturn, 1) := by decide +kernel
theorem wd1339 : Cond.code yX9_isFlying cX9_isFlying 2 (some .boolean) ∈ gW := gW_in 1339 (by decide +kernel) (by decide +kernel)
theorem mvX9_isFlying : MV yX9_isFlying cX9_isFlying 2 (some .boolean) 1 := ⟨wd1339, wd78, by decide +kernel, by decide +kernel, by decide +kernel, by decide⟩
theorem wd1337 : Cond.instanceMethod yX9_isFlying ∈ gW := gW_in 1337 (by decide +kernel) (by decide +kernel)
theorem wd1338 : Cond.selects yX9_isFlying.cls yX9_isFlying yX9_isFlying ∈ gW := gW_in 1338 (by decide +kernel) (by decide +kernel)
theorem wd1336 : Cond.methodLink RL 76 yX9_isFlying ∈ gW := gW_in 1336 (by decide +kernel) (by decide +kernel)
theorem dL_isFlying_0 : decode cL_isFlying 0 = .ok (.aload_n 2, 1) := by decide +kernel
theorem dL_isFlying_1 : decode cL_isFlying 1 = .ok (.iconst 0, 1) := by decide +kernel
theorem dL_isFlying_2 : decode cL_isFlying 2 = .ok (.aload_n 0, 1) := by decide +kernel
theorem dL_isFlying_3 : decode cL_isFlying 3 = .ok (.iload_n 1, 1) := by decide +kernel
theorem dL_isFlying_4 : decode cL_isFlying 4 = .ok (.invokevirtual 76, 3) := by decide +kernel
theorem dL_isFlying_7 : decode cL_isFlying 7 = .ok (.ifCond .eq 7, 3) := by decide +kernel
theorem dL_isFlying_10 : decode cL_isFlying 10 = .ok (.lconst 1, 1) := by decide +kernel
theorem dL_isFlying_11 : decode cL_isFlying 11 = .ok (.goto 4, 3) := by decide +kernel
theorem dL_isFlying_14 : decode cL_isFlying 14 = .ok (.lconst 0, 1) := by decide +kernel
theorem dL_isFlying_15 : decode cL_isFlying 15 = .ok (.lastore, 1) := by decide +kernel
theorem dL_isFlying_16 : decode cL_isFlying 16 = .ok (.goto 6, 3) := by decide +kernel
theorem dL_isFlying_19 : decode cL_isFlying 19 = .ok (.astore_n 3, 1) := by decide +kernel
theorem dL_isFlying_20 : decode cL_isFlying 20 = .ok (.iconst 1, 1) := by decide +kernel
theorem dL_isFlying_21 : decode cL_isFlying 21 = .ok (.ireturn, 1) := by decide +kernel
theorem dL_isFlying_22 : decode cL_isFlying 22 = .ok (.iconst 0, 1) := by decide +kernel
theorem dL_isFlying_23 : decode cL_isFlying 23 = .ok (.ireturn, 1) := by decide +kernel
theorem wd1353 : Cond.code yX9_isLanded cX9_isLanded 2 (some .boolean) ∈ gW := gW_in 1353 (by decide +kernel) (by decide +kernel)
theorem mvX9_isLanded : MV yX9_isLanded cX9_isLanded 2 (some .boolean) 1 := ⟨wd1353, wd78, by decide +kernel, by decide +kernel, by decide +kernel, by decide⟩
theorem wd1351 : Cond.instanceMethod yX9_isLanded ∈ gW := gW_in 1351 (by decide +kernel) (by decide +kernel)
theorem wd1352 : Cond.selects yX9_isLanded.cls yX9_isLanded yX9_isLanded ∈ gW := gW_in 1352 (by decide +kernel) (by decide +kernel)
theorem wd1350 : Cond.methodLink RL 80 yX9_isLanded ∈ gW := gW_in 1350 (by decide +kernel) (by decide +kernel)
theorem dL_isLanded_0 : decode cL_isLanded 0 = .ok (.aload_n 2, 1) := by decide +kernel
theorem dL_isLanded_1 : decode cL_isLanded 1 = .ok (.iconst 0, 1) := by decide +kernel
theorem dL_isLanded_2 : decode cL_isLanded 2 = .ok (.aload_n 0, 1) := by decide +kernel
theorem dL_isLanded_3 : decode cL_isLanded 3 = .ok (.iload_n 1, 1) := by decide +kernel
theorem dL_isLanded_4 : decode cL_isLanded 4 = .ok (.invokevirtual 80, 3) := by decide +kernel
theorem dL_isLanded_7 : decode cL_isLanded 7 = .ok (.ifCond .eq 7, 3) := by decide +kernel
theorem dL_isLanded_10 : decode cL_isLanded 10 = .ok (.lconst 1, 1) := by decide +kernel
theorem dL_isLanded_11 : decode cL_isLanded 11 = .ok (.goto 4, 3) := by decide +kernel
theorem dL_isLanded_14 : decode cL_isLanded 14 = .ok (.lconst 0, 1) := by decide +kernel
theorem dL_isLanded_15 : decode cL_isLanded 15 = .ok (.lastore, 1) := by decide +kernel
theorem dL_isLanded_16 : decode cL_isLanded 16 = .ok (.goto 6, 3) := by decide +kernel
theorem dL_isLanded_19 : decode cL_isLanded 19 = .ok (.astore_n 3, 1) := by decide +kernel
theorem dL_isLanded_20 : decode cL_isLanded 20 = .ok (.iconst 1, 1) := by decide +kernel
theorem dL_isLanded_21 : decode cL_isLanded 21 = .ok (.ireturn, 1) := by decide +kernel
theorem dL_isLanded_22 : decode cL_isLanded 22 = .ok (.iconst 0, 1) := by decide +kernel
theorem dL_isLanded_23 : decode cL_isLanded 23 = .ok (.ireturn, 1) := by decide +kernel
theorem wd1361 : Cond.code yX9_isFinished cX9_isFinished 2 (some .boolean) ∈ gW := gW_in 1361 (by decide +kernel) (by decide +kernel)
theorem mvX9_isFinished : MV yX9_isFinished cX9_isFinished 2 (some .boolean) 1 := ⟨wd1361, wd78, by decide +kernel, by decide +kernel, by decide +kernel, by decide⟩
theorem wd1359 : Cond.instanceMethod yX9_isFinished ∈ gW := gW_in 1359 (by decide +kernel) (by decide +kernel)
theorem wd1360 : Cond.selects yX9_isFinished.cls yX9_isFinished yX9_isFinished ∈ gW := gW_in 1360 (by decide +kernel) (by decide +kernel)
theorem wd1358 : Cond.methodLink RL 83 yX9_isFinished ∈ gW := gW_in 1358 (by decide +kernel) (by decide +kernel)
theorem dL_isFinished_0 : decode cL_isFinished 0 = .ok (.aload_n 2, 1) := by decide +kernel
theorem dL_isFinished_1 : decode cL_isFinished 1 = .ok (.iconst 0, 1) := by decide +kernel
theorem dL_isFinished_2 : decode cL_isFinished 2 = .ok (.aload_n 0, 1) := by decide +kernel
theorem dL_isFinished_3 : decode cL_isFinished 3 = .ok (.iload_n 1, 1) := by decide +kernel
theorem dL_isFinished_4 : decode cL_isFinished 4 = .ok (.invokevirtual 83, 3) := by decide +kernel
theorem dL_isFinished_7 : decode cL_isFinished 7 = .ok (.ifCond .eq 7, 3) := by decide +kernel
theorem dL_isFinished_10 : decode cL_isFinished 10 = .ok (.lconst 1, 1) := by decide +kernel
theorem dL_isFinished_11 : decode cL_isFinished 11 = .ok (.goto 4, 3) := by decide +kernel
theorem dL_isFinished_14 : decode cL_isFinished 14 = .ok (.lconst 0, 1) := by decide +kernel
theorem dL_isFinished_15 : decode cL_isFinished 15 = .ok (.lastore, 1) := by decide +kernel
theorem dL_isFinished_16 : decode cL_isFinished 16 = .ok (.goto 6, 3) := by decide +kernel
theorem dL_isFinished_19 : decode cL_isFinished 19 = .ok (.astore_n 3, 1) := by decide +kernel
theorem dL_isFinished_20 : decode cL_isFinished 20 = .ok (.iconst 1, 1) := by decide +kernel
theorem dL_isFinished_21 : decode cL_isFinished 21 = .ok (.ireturn, 1) := by decide +kernel
theorem dL_isFinished_22 : decode cL_isFinished 22 = .ok (.iconst 0, 1) := by decide +kernel
theorem dL_isFinished_23 : decode cL_isFinished 23 = .ok (.ireturn, 1) := by decide +kernel
theorem wd1369 : Cond.code yX9_sink cX9_sink 2 (some .int) ∈ gW := gW_in 1369 (by decide +kernel) (by decide +kernel)
theorem mvX9_sink : MV yX9_sink cX9_sink 2 (some .int) 1 := ⟨wd1369, wd78, by decide +kernel, by decide +kernel, by decide +kernel, by decide⟩
theorem wd1367 : Cond.instanceMethod yX9_sink ∈ gW := gW_in 1367 (by decide +kernel) (by decide +kernel)
theorem wd1368 : Cond.selects yX9_sink.cls yX9_sink yX9_sink ∈ gW := gW_in 1368 (by decide +kernel) (by decide +kernel)
theorem wd1366 : Cond.methodLink RL 86 yX9_sink ∈ gW := gW_in 1366 (by decide +kernel) (by decide +kernel)
theorem dL_sink_0 : decode cL_sink 0 = .ok (.aload_n 2, 1) := by decide +kernel
theorem dL_sink_1 : decode cL_sink 1 = .ok (.iconst 0, 1) := by decide +kernel
theorem dL_sink_2 : decode cL_sink 2 = .ok (.aload_n 0, 1) := by decide +kernel
theorem dL_sink_3 : decode cL_sink 3 = .ok (.iload_n 1, 1) := by decide +kernel
theorem dL_sink_4 : decode cL_sink 4 = .ok (.invokevirtual 86, 3) := by decide +kernel
theorem dL_sink_7 : decode cL_sink 7 = .ok (.i2l, 1) := by decide +kernel
theorem dL_sink_8 : decode cL_sink 8 = .ok (.lastore, 1) := by decide +kernel
theorem dL_sink_9 : decode cL_sink 9 = .ok (.goto 6, 3) := by decide +kernel
theorem dL_sink_12 : decode cL_sink 12 = .ok (.astore_n 3, 1) := by decide +kernel
theorem dL_sink_13 : decode cL_sink 13 = .ok (.iconst 1, 1) := by decide +kernel
theorem dL_sink_14 : decode cL_sink 14 = .ok (.ireturn, 1) := by decide +kernel
theorem dL_sink_15 : decode cL_sink 15 = .ok (.iconst 0, 1) := by decide +kernel
theorem dL_sink_16 : decode cL_sink 16 = .ok (.ireturn, 1) := by decide +kernel
theorem wd1377 : Cond.code yX9_x cX9_x 2 (some .int) ∈ gW := gW_in 1377 (by decide +kernel) (by decide +kernel)
theorem mvX9_x : MV yX9_x cX9_x 2 (some .int) 1 := ⟨wd1377, wd78, by decide +kernel, by decide +kernel, by decide +kernel, by decide⟩
theorem wd1375 : Cond.instanceMethod yX9_x ∈ gW := gW_in 1375 (by decide +kernel) (by decide +kernel)
theorem wd1376 : Cond.selects yX9_x.cls yX9_x yX9_x ∈ gW := gW_in 1376 (by decide +kernel) (by decide +kernel)
theorem wd1374 : Cond.methodLink RL 89 yX9_x ∈ gW := gW_in 1374 (by decide +kernel) (by decide +kernel)
theorem dL_x_0 : decode cL_x 0 = .ok (.aload_n 2, 1) := by decide +kernel
theorem dL_x_1 : decode cL_x 1 = .ok (.iconst 0, 1) := by decide +kernel
theorem dL_x_2 : decode cL_x 2 = .ok (.aload_n 0, 1) := by decide +kernel
theorem dL_x_3 : decode cL_x 3 = .ok (.iload_n 1, 1) := by decide +kernel
theorem dL_x_4 : decode cL_x 4 = .ok (.invokevirtual 89, 3) := by decide +kernel
theorem dL_x_7 : decode cL_x 7 = .ok (.i2l, 1) := by decide +kernel
theorem dL_x_8 : decode cL_x 8 = .ok (.lastore, 1) := by decide +kernel
theorem dL_x_9 : decode cL_x 9 = .ok (.goto 9, 3) := by decide +kernel
theorem dL_x_12 : decode cL_x 12 = .ok (.astore_n 3, 1) := by decide +kernel
theorem dL_x_13 : decode cL_x 13 = .ok (.iconst 1, 1) := by decide +kernel
theorem dL_x_14 : decode cL_x 14 = .ok (.ireturn, 1) := by decide +kernel
theorem dL_x_15 : decode cL_x 15 = .ok (.astore_n 3, 1) := by decide +kernel
theorem dL_x_16 : decode cL_x 16 = .ok (.iconst 2, 1) := by decide +kernel
theorem dL_x_17 : decode cL_x 17 = .ok (.ireturn, 1) := by decide +kernel
theorem dL_x_18 : decode cL_x 18 = .ok (.iconst 0, 1) := by decide +kernel
theorem dL_x_19 : decode cL_x 19 = .ok (.ireturn, 1) := by decide +kernel
theorem wd1390 : Cond.code yX9_y cX9_y 2 (some .int) ∈ gW := gW_in 1390 (by decide +kernel) (by decide +kernel)
theorem mvX9_y : MV yX9_y cX9_y 2 (some .int) 1 := ⟨wd1390, wd78, by decide +kernel, by decide +kernel, by decide +kernel, by decide⟩
theorem wd1388 : Cond.instanceMethod yX9_y ∈ gW := gW_in 1388 (by decide +kernel) (by decide +kernel)
theorem wd1389 : Cond.selects yX9_y.cls yX9_y yX9_y ∈ gW := gW_in 1389 (by decide +kernel) (by decide +kernel)
theorem wd1387 : Cond.methodLink RL 92 yX9_y ∈ gW := gW_in 1387 (by decide +kernel) (by decide +kernel)
theorem dL_y_0 : decode cL_y 0 = .ok (.aload_n 2, 1) := by decide +kernel
theorem dL_y_1 : decode cL_y 1 = .ok (.iconst 0, 1) := by decide +kernel
theorem dL_y_2 : decode cL_y 2 = .ok (.aload_n 0, 1) := by decide +kernel
theorem dL_y_3 : decode cL_y 3 = .ok (.iload_n 1, 1) := by decide +kernel
theorem dL_y_4 : decode cL_y 4 = .ok (.invokevirtual 92, 3) := by decide +kernel
theorem dL_y_7 : decode cL_y 7 = .ok (.i2l, 1) := by decide +kernel
theorem dL_y_8 : decode cL_y 8 = .ok (.lastore, 1) := by decide +kernel
theorem dL_y_9 : decode cL_y 9 = .ok (.goto 9, 3) := by decide +kernel
theorem dL_y_12 : decode cL_y 12 = .ok (.astore_n 3, 1) := by decide +kernel
theorem dL_y_13 : decode cL_y 13 = .ok (.iconst 1, 1) := by decide +kernel
theorem dL_y_14 : decode cL_y 14 = .ok (.ireturn, 1) := by decide +kernel
theorem dL_y_15 : decode cL_y 15 = .ok (.astore_n 3, 1) := by decide +kernel
theorem dL_y_16 : decode cL_y 16 = .ok (.iconst 2, 1) := by decide +kernel
theorem dL_y_17 : decode cL_y 17 = .ok (.ireturn, 1) := by decide +kernel
theorem dL_y_18 : decode cL_y 18 = .ok (.iconst 0, 1) := by decide +kernel
theorem dL_y_19 : decode cL_y 19 = .ok (.ireturn, 1) := by decide +kernel
theorem wd1397 : Cond.code yX9_height cX9_height 2 (some .int) ∈ gW := gW_in 1397 (by decide +kernel) (by decide +kernel)
theorem mvX9_height : MV yX9_height cX9_height 2 (some .int) 1 := ⟨wd1397, wd78, by decide +kernel, by decide +kernel, by decide +kernel, by decide⟩
theorem wd1395 : Cond.instanceMethod yX9_height ∈ gW := gW_in 1395 (by decide +kernel) (by decide +kernel)
theorem wd1396 : Cond.selects yX9_height.cls yX9_height yX9_height ∈ gW := gW_in 1396 (by decide +kernel) (by decide +kernel)
theorem wd1394 : Cond.methodLink RL 95 yX9_height ∈ gW := gW_in 1394 (by decide +kernel) (by decide +kernel)
theorem dL_height_0 : decode cL_height 0 = .ok (.aload_n 2, 1) := by decide +kernel
theorem dL_height_1 : decode cL_height 1 = .ok (.iconst 0, 1) := by decide +kernel
theorem dL_height_2 : decode cL_height 2 = .ok (.aload_n 0, 1) := by decide +kernel
theorem dL_height_3 : decode cL_height 3 = .ok (.iload_n 1, 1) := by decide +kernel
theorem dL_height_4 : decode cL_height 4 = .ok (.invokevirtual 95, 3) := by decide +kernel
theorem dL_height_7 : decode cL_height 7 = .ok (.i2l, 1) := by decide +kernel
theorem dL_height_8 : decode cL_height 8 = .ok (.lastore, 1) := by decide +kernel
theorem dL_height_9 : decode cL_height 9 = .ok (.goto 9, 3) := by decide +kernel
theorem dL_height_12 : decode cL_height 12 = .ok (.astore_n 3, 1) := by decide +kernel
theorem dL_height_13 : decode cL_height 13 = .ok (.iconst 1, 1) := by decide +kernel
theorem dL_height_14 : decode cL_height 14 = .ok (.ireturn, 1) := by decide +kernel
theorem dL_height_15 : decode cL_height 15 = .ok (.astore_n 3, 1) := by decide +kernel
theorem dL_height_16 : decode cL_height 16 = .ok (.iconst 2, 1) := by decide +kernel
theorem dL_height_17 : decode cL_height 17 = .ok (.ireturn, 1) := by decide +kernel
theorem dL_height_18 : decode cL_height 18 = .ok (.iconst 0, 1) := by decide +kernel
theorem dL_height_19 : decode cL_height 19 = .ok (.ireturn, 1) := by decide +kernel
theorem wd1404 : Cond.code yX9_minutes cX9_minutes 2 (some .int) ∈ gW := gW_in 1404 (by decide +kernel) (by decide +kernel)
theorem mvX9_minutes : MV yX9_minutes cX9_minutes 2 (some .int) 1 := ⟨wd1404, wd78, by decide +kernel, by decide +kernel, by decide +kernel, by decide⟩
theorem wd1402 : Cond.instanceMethod yX9_minutes ∈ gW := gW_in 1402 (by decide +kernel) (by decide +kernel)
theorem wd1403 : Cond.selects yX9_minutes.cls yX9_minutes yX9_minutes ∈ gW := gW_in 1403 (by decide +kernel) (by decide +kernel)
theorem wd1401 : Cond.methodLink RL 98 yX9_minutes ∈ gW := gW_in 1401 (by decide +kernel) (by decide +kernel)
theorem dL_minutes_0 : decode cL_minutes 0 = .ok (.aload_n 2, 1) := by decide +kernel
theorem dL_minutes_1 : decode cL_minutes 1 = .ok (.iconst 0, 1) := by decide +kernel
theorem dL_minutes_2 : decode cL_minutes 2 = .ok (.aload_n 0, 1) := by decide +kernel
theorem dL_minutes_3 : decode cL_minutes 3 = .ok (.iload_n 1, 1) := by decide +kernel
theorem dL_minutes_4 : decode cL_minutes 4 = .ok (.invokevirtual 98, 3) := by decide +kernel
theorem dL_minutes_7 : decode cL_minutes 7 = .ok (.i2l, 1) := by decide +kernel
theorem dL_minutes_8 : decode cL_minutes 8 = .ok (.lastore, 1) := by decide +kernel
theorem dL_minutes_9 : decode cL_minutes 9 = .ok (.goto 9, 3) := by decide +kernel
theorem dL_minutes_12 : decode cL_minutes 12 = .ok (.astore_n 3, 1) := by decide +kernel
theorem dL_minutes_13 : decode cL_minutes 13 = .ok (.iconst 1, 1) := by decide +kernel
theorem dL_minutes_14 : decode cL_minutes 14 = .ok (.ireturn, 1) := by decide +kernel
theorem dL_minutes_15 : decode cL_minutes 15 = .ok (.astore_n 3, 1) := by decide +kernel
theorem dL_minutes_16 : decode cL_minutes 16 = .ok (.iconst 2, 1) := by decide +kernel
theorem dL_minutes_17 : decode cL_minutes 17 = .ok (.ireturn, 1) := by decide +kernel
theorem dL_minutes_18 : decode cL_minutes 18 = .ok (.iconst 0, 1) := by decide +kernel
theorem dL_minutes_19 : decode cL_minutes 19 = .ok (.ireturn, 1) := by decide +kernel
theorem wd1411 : Cond.code yX9_penalty cX9_penalty 2 (some .int) ∈ gW := gW_in 1411 (by decide +kernel) (by decide +kernel)
theorem mvX9_penalty : MV yX9_penalty cX9_penalty 2 (some .int) 1 := ⟨wd1411, wd78, by decide +kernel, by decide +kernel, by decide +kernel, by decide⟩
theorem wd1409 : Cond.instanceMethod yX9_penalty ∈ gW := gW_in 1409 (by decide +kernel) (by decide +kernel)
theorem wd1410 : Cond.selects yX9_penalty.cls yX9_penalty yX9_penalty ∈ gW := gW_in 1410 (by decide +kernel) (by decide +kernel)
theorem wd1408 : Cond.methodLink RL 101 yX9_penalty ∈ gW := gW_in 1408 (by decide +kernel) (by decide +kernel)
theorem dL_penalty_0 : decode cL_penalty 0 = .ok (.aload_n 2, 1) := by decide +kernel
theorem dL_penalty_1 : decode cL_penalty 1 = .ok (.iconst 0, 1) := by decide +kernel
theorem dL_penalty_2 : decode cL_penalty 2 = .ok (.aload_n 0, 1) := by decide +kernel
theorem dL_penalty_3 : decode cL_penalty 3 = .ok (.iload_n 1, 1) := by decide +kernel
theorem dL_penalty_4 : decode cL_penalty 4 = .ok (.invokevirtual 101, 3) := by decide +kernel
theorem dL_penalty_7 : decode cL_penalty 7 = .ok (.i2l, 1) := by decide +kernel
theorem dL_penalty_8 : decode cL_penalty 8 = .ok (.lastore, 1) := by decide +kernel
theorem dL_penalty_9 : decode cL_penalty 9 = .ok (.goto 9, 3) := by decide +kernel
theorem dL_penalty_12 : decode cL_penalty 12 = .ok (.astore_n 3, 1) := by decide +kernel
theorem dL_penalty_13 : decode cL_penalty 13 = .ok (.iconst 1, 1) := by decide +kernel
theorem dL_penalty_14 : decode cL_penalty 14 = .ok (.ireturn, 1) := by decide +kernel
theorem dL_penalty_15 : decode cL_penalty 15 = .ok (.astore_n 3, 1) := by decide +kernel
theorem dL_penalty_16 : decode cL_penalty 16 = .ok (.iconst 2, 1) := by decide +kernel
theorem dL_penalty_17 : decode cL_penalty 17 = .ok (.ireturn, 1) := by decide +kernel
theorem dL_penalty_18 : decode cL_penalty 18 = .ok (.iconst 0, 1) := by decide +kernel
theorem dL_penalty_19 : decode cL_penalty 19 = .ok (.ireturn, 1) := by decide +kernel
theorem wd1418 : Cond.code yX9_reached cX9_reached 2 (some .int) ∈ gW := gW_in 1418 (by decide +kernel) (by decide +kernel)
theorem mvX9_reached : MV yX9_reached cX9_reached 2 (some .int) 1 := ⟨wd1418, wd78, by decide +kernel, by decide +kernel, by decide +kernel, by decide⟩
theorem wd1416 : Cond.instanceMethod yX9_reached ∈ gW := gW_in 1416 (by decide +kernel) (by decide +kernel)
theorem wd1417 : Cond.selects yX9_reached.cls yX9_reached yX9_reached ∈ gW := gW_in 1417 (by decide +kernel) (by decide +kernel)
theorem wd1415 : Cond.methodLink RL 104 yX9_reached ∈ gW := gW_in 1415 (by decide +kernel) (by decide +kernel)
theorem dL_reached_0 : decode cL_reached 0 = .ok (.aload_n 2, 1) := by decide +kernel
theorem dL_reached_1 : decode cL_reached 1 = .ok (.iconst 0, 1) := by decide +kernel
theorem dL_reached_2 : decode cL_reached 2 = .ok (.aload_n 0, 1) := by decide +kernel
theorem dL_reached_3 : decode cL_reached 3 = .ok (.iload_n 1, 1) := by decide +kernel
theorem dL_reached_4 : decode cL_reached 4 = .ok (.invokevirtual 104, 3) := by decide +kernel
theorem dL_reached_7 : decode cL_reached 7 = .ok (.i2l, 1) := by decide +kernel
theorem dL_reached_8 : decode cL_reached 8 = .ok (.lastore, 1) := by decide +kernel
theorem dL_reached_9 : decode cL_reached 9 = .ok (.goto 6, 3) := by decide +kernel
theorem dL_reached_12 : decode cL_reached 12 = .ok (.astore_n 3, 1) := by decide +kernel
theorem dL_reached_13 : decode cL_reached 13 = .ok (.iconst 1, 1) := by decide +kernel
theorem dL_reached_14 : decode cL_reached 14 = .ok (.ireturn, 1) := by decide +kernel
theorem dL_reached_15 : decode cL_reached 15 = .ok (.iconst 0, 1) := by decide +kernel
theorem dL_reached_16 : decode cL_reached 16 = .ok (.ireturn, 1) := by decide +kernel
theorem wd1425 : Cond.code yX9_remainingDistance cX9_remainingDistance 2 (some .int) ∈ gW := gW_in 1425 (by decide +kernel) (by decide +kernel)
theorem mvX9_remainingDistance : MV yX9_remainingDistance cX9_remainingDistance 2 (some .int) 1 := ⟨wd1425, wd78, by decide +kernel, by decide +kernel, by decide +kernel, by decide⟩
theorem wd1423 : Cond.instanceMethod yX9_remainingDistance ∈ gW := gW_in 1423 (by decide +kernel) (by decide +kernel)
theorem wd1424 : Cond.selects yX9_remainingDistance.cls yX9_remainingDistance yX9_remainingDistance ∈ gW := gW_in 1424 (by decide +kernel) (by decide +kernel)
theorem wd1422 : Cond.methodLink RL 107 yX9_remainingDistance ∈ gW := gW_in 1422 (by decide +kernel) (by decide +kernel)
theorem dL_remainingDistance_0 : decode cL_remainingDistance 0 = .ok (.aload_n 2, 1) := by decide +kernel
theorem dL_remainingDistance_1 : decode cL_remainingDistance 1 = .ok (.iconst 0, 1) := by decide +kernel
theorem dL_remainingDistance_2 : decode cL_remainingDistance 2 = .ok (.aload_n 0, 1) := by decide +kernel
theorem dL_remainingDistance_3 : decode cL_remainingDistance 3 = .ok (.iload_n 1, 1) := by decide +kernel
theorem dL_remainingDistance_4 : decode cL_remainingDistance 4 = .ok (.invokevirtual 107, 3) := by decide +kernel
theorem dL_remainingDistance_7 : decode cL_remainingDistance 7 = .ok (.i2l, 1) := by decide +kernel
theorem dL_remainingDistance_8 : decode cL_remainingDistance 8 = .ok (.lastore, 1) := by decide +kernel
theorem dL_remainingDistance_9 : decode cL_remainingDistance 9 = .ok (.goto 9, 3) := by decide +kernel
theorem dL_remainingDistance_12 : decode cL_remainingDistance 12 = .ok (.astore_n 3, 1) := by decide +kernel
theorem dL_remainingDistance_13 : decode cL_remainingDistance 13 = .ok (.iconst 1, 1) := by decide +kernel
theorem dL_remainingDistance_14 : decode cL_remainingDistance 14 = .ok (.ireturn, 1) := by decide +kernel
theorem dL_remainingDistance_15 : decode cL_remainingDistance 15 = .ok (.astore_n 3, 1) := by decide +kernel
theorem dL_remainingDistance_16 : decode cL_remainingDistance 16 = .ok (.iconst 2, 1) := by decide +kernel
theorem dL_remainingDistance_17 : decode cL_remainingDistance 17 = .ok (.ireturn, 1) := by decide +kernel
theorem dL_remainingDistance_18 : decode cL_remainingDistance 18 = .ok (.iconst 0, 1) := by decide +kernel
theorem dL_remainingDistance_19 : decode cL_remainingDistance 19 = .ok (.ireturn, 1) := by decide +kernel
theorem wd1438 : Cond.code yX9_canFinish cX9_canFinish 2 (some .boolean) ∈ gW := gW_in 1438 (by decide +kernel) (by decide +kernel)
theorem mvX9_canFinish : MV yX9_canFinish cX9_canFinish 2 (some .boolean) 1 := ⟨wd1438, wd78, by decide +kernel, by decide +kernel, by decide +kernel, by decide⟩
theorem wd1436 : Cond.instanceMethod yX9_canFinish ∈ gW := gW_in 1436 (by decide +kernel) (by decide +kernel)
theorem wd1437 : Cond.selects yX9_canFinish.cls yX9_canFinish yX9_canFinish ∈ gW := gW_in 1437 (by decide +kernel) (by decide +kernel)
theorem wd1435 : Cond.methodLink RL 110 yX9_canFinish ∈ gW := gW_in 1435 (by decide +kernel) (by decide +kernel)
theorem dL_canFinish_0 : decode cL_canFinish 0 = .ok (.aload_n 2, 1) := by decide +kernel
theorem dL_canFinish_1 : decode cL_canFinish 1 = .ok (.iconst 0, 1) := by decide +kernel
theorem dL_canFinish_2 : decode cL_canFinish 2 = .ok (.aload_n 0, 1) := by decide +kernel
theorem dL_canFinish_3 : decode cL_canFinish 3 = .ok (.iload_n 1, 1) := by decide +kernel
theorem dL_canFinish_4 : decode cL_canFinish 4 = .ok (.invokevirtual 110, 3) := by decide +kernel
theorem dL_canFinish_7 : decode cL_canFinish 7 = .ok (.ifCond .eq 7, 3) := by decide +kernel
theorem dL_canFinish_10 : decode cL_canFinish 10 = .ok (.lconst 1, 1) := by decide +kernel
theorem dL_canFinish_11 : decode cL_canFinish 11 = .ok (.goto 4, 3) := by decide +kernel
theorem dL_canFinish_14 : decode cL_canFinish 14 = .ok (.lconst 0, 1) := by decide +kernel
theorem dL_canFinish_15 : decode cL_canFinish 15 = .ok (.lastore, 1) := by decide +kernel
theorem dL_canFinish_16 : decode cL_canFinish 16 = .ok (.goto 9, 3) := by decide +kernel
theorem dL_canFinish_19 : decode cL_canFinish 19 = .ok (.astore_n 3, 1) := by decide +kernel
theorem dL_canFinish_20 : decode cL_canFinish 20 = .ok (.iconst 1, 1) := by decide +kernel
theorem dL_canFinish_21 : decode cL_canFinish 21 = .ok (.ireturn, 1) := by decide +kernel
theorem dL_canFinish_22 : decode cL_canFinish 22 = .ok (.astore_n 3, 1) := by decide +kernel
theorem dL_canFinish_23 : decode cL_canFinish 23 = .ok (.iconst 2, 1) := by decide +kernel
theorem dL_canFinish_24 : decode cL_canFinish 24 = .ok (.ireturn, 1) := by decide +kernel
theorem dL_canFinish_25 : decode cL_canFinish 25 = .ok (.iconst 0, 1) := by decide +kernel
theorem dL_canFinish_26 : decode cL_canFinish 26 = .ok (.ireturn, 1) := by decide +kernel
theorem wd1446 : Cond.code yX9_canFinishBySimulation cX9_canFinishBySimulation 2 (some .boolean) ∈ gW := gW_in 1446 (by decide +kernel) (by decide +kernel)
theorem mvX9_canFinishBySimulation : MV yX9_canFinishBySimulation cX9_canFinishBySimulation 2 (some .boolean) 1 := ⟨wd1446, wd78, by decide +kernel, by decide +kernel, by decide +kernel, by decide⟩
theorem wd1444 : Cond.instanceMethod yX9_canFinishBySimulation ∈ gW := gW_in 1444 (by decide +kernel) (by decide +kernel)
theorem wd1445 : Cond.selects yX9_canFinishBySimulation.cls yX9_canFinishBySimulation yX9_canFinishBySimulation ∈ gW := gW_in 1445 (by decide +kernel) (by decide +kernel)
theorem wd1443 : Cond.methodLink RL 113 yX9_canFinishBySimulation ∈ gW := gW_in 1443 (by decide +kernel) (by decide +kernel)
theorem dL_canFinishBySimulation_0 : decode cL_canFinishBySimulation 0 = .ok (.aload_n 2, 1) := by decide +kernel
theorem dL_canFinishBySimulation_1 : decode cL_canFinishBySimulation 1 = .ok (.iconst 0, 1) := by decide +kernel
theorem dL_canFinishBySimulation_2 : decode cL_canFinishBySimulation 2 = .ok (.aload_n 0, 1) := by decide +kernel
theorem dL_canFinishBySimulation_3 : decode cL_canFinishBySimulation 3 = .ok (.iload_n 1, 1) := by decide +kernel
theorem dL_canFinishBySimulation_4 : decode cL_canFinishBySimulation 4 = .ok (.invokevirtual 113, 3) := by decide +kernel
theorem dL_canFinishBySimulation_7 : decode cL_canFinishBySimulation 7 = .ok (.ifCond .eq 7, 3) := by decide +kernel
theorem dL_canFinishBySimulation_10 : decode cL_canFinishBySimulation 10 = .ok (.lconst 1, 1) := by decide +kernel
theorem dL_canFinishBySimulation_11 : decode cL_canFinishBySimulation 11 = .ok (.goto 4, 3) := by decide +kernel
theorem dL_canFinishBySimulation_14 : decode cL_canFinishBySimulation 14 = .ok (.lconst 0, 1) := by decide +kernel
theorem dL_canFinishBySimulation_15 : decode cL_canFinishBySimulation 15 = .ok (.lastore, 1) := by decide +kernel
theorem dL_canFinishBySimulation_16 : decode cL_canFinishBySimulation 16 = .ok (.goto 9, 3) := by decide +kernel
theorem dL_canFinishBySimulation_19 : decode cL_canFinishBySimulation 19 = .ok (.astore_n 3, 1) := by decide +kernel
theorem dL_canFinishBySimulation_20 : decode cL_canFinishBySimulation 20 = .ok (.iconst 1, 1) := by decide +kernel
theorem dL_canFinishBySimulation_21 : decode cL_canFinishBySimulation 21 = .ok (.ireturn, 1) := by decide +kernel
theorem dL_canFinishBySimulation_22 : decode cL_canFinishBySimulation 22 = .ok (.astore_n 3, 1) := by decide +kernel
theorem dL_canFinishBySimulation_23 : decode cL_canFinishBySimulation 23 = .ok (.iconst 2, 1) := by decide +kernel
theorem dL_canFinishBySimulation_24 : decode cL_canFinishBySimulation 24 = .ok (.ireturn, 1) := by decide +kernel
theorem dL_canFinishBySimulation_25 : decode cL_canFinishBySimulation 25 = .ok (.iconst 0, 1) := by decide +kernel
theorem dL_canFinishBySimulation_26 : decode cL_canFinishBySimulation 26 = .ok (.ireturn, 1) := by decide +kernel
theorem wd1454 : Cond.code yX9_achievedDistance cX9_achievedDistance 2 (some .int) ∈ gW := gW_in 1454 (by decide +kernel) (by decide +kernel)
theorem mvX9_achievedDistance : MV yX9_achievedDistance cX9_achievedDistance 2 (some .int) 1 := ⟨wd1454, wd78, by decide +kernel, by decide +kernel, by decide +kernel, by decide⟩
theorem wd1452 : Cond.instanceMethod yX9_achievedDistance ∈ gW := gW_in 1452 (by decide +kernel) (by decide +kernel)
theorem wd1453 : Cond.selects yX9_achievedDistance.cls yX9_achievedDistance yX9_achievedDistance ∈ gW := gW_in 1453 (by decide +kernel) (by decide +kernel)
theorem wd1451 : Cond.methodLink RL 116 yX9_achievedDistance ∈ gW := gW_in 1451 (by decide +kernel) (by decide +kernel)
theorem dL_achievedDistance_0 : decode cL_achievedDistance 0 = .ok (.aload_n 2, 1) := by decide +kernel
theorem dL_achievedDistance_1 : decode cL_achievedDistance 1 = .ok (.iconst 0, 1) := by decide +kernel
theorem dL_achievedDistance_2 : decode cL_achievedDistance 2 = .ok (.aload_n 0, 1) := by decide +kernel
theorem dL_achievedDistance_3 : decode cL_achievedDistance 3 = .ok (.iload_n 1, 1) := by decide +kernel
theorem dL_achievedDistance_4 : decode cL_achievedDistance 4 = .ok (.invokevirtual 116, 3) := by decide +kernel
theorem dL_achievedDistance_7 : decode cL_achievedDistance 7 = .ok (.i2l, 1) := by decide +kernel
theorem dL_achievedDistance_8 : decode cL_achievedDistance 8 = .ok (.lastore, 1) := by decide +kernel
theorem dL_achievedDistance_9 : decode cL_achievedDistance 9 = .ok (.goto 6, 3) := by decide +kernel
theorem dL_achievedDistance_12 : decode cL_achievedDistance 12 = .ok (.astore_n 3, 1) := by decide +kernel
theorem dL_achievedDistance_13 : decode cL_achievedDistance 13 = .ok (.iconst 1, 1) := by decide +kernel
theorem dL_achievedDistance_14 : decode cL_achievedDistance 14 = .ok (.ireturn, 1) := by decide +kernel
theorem dL_achievedDistance_15 : decode cL_achievedDistance 15 = .ok (.iconst 0, 1) := by decide +kernel
theorem dL_achievedDistance_16 : decode cL_achievedDistance 16 = .ok (.ireturn, 1) := by decide +kernel
theorem wd1462 : Cond.code yX9_dayScore cX9_dayScore 2 (some .int) ∈ gW := gW_in 1462 (by decide +kernel) (by decide +kernel)
theorem mvX9_dayScore : MV yX9_dayScore cX9_dayScore 2 (some .int) 1 := ⟨wd1462, wd78, by decide +kernel, by decide +kernel, by decide +kernel, by decide⟩
theorem wd1460 : Cond.instanceMethod yX9_dayScore ∈ gW := gW_in 1460 (by decide +kernel) (by decide +kernel)
theorem wd1461 : Cond.selects yX9_dayScore.cls yX9_dayScore yX9_dayScore ∈ gW := gW_in 1461 (by decide +kernel) (by decide +kernel)
theorem wd1459 : Cond.methodLink RL 119 yX9_dayScore ∈ gW := gW_in 1459 (by decide +kernel) (by decide +kernel)
theorem dL_dayScore_0 : decode cL_dayScore 0 = .ok (.aload_n 2, 1) := by decide +kernel
theorem dL_dayScore_1 : decode cL_dayScore 1 = .ok (.iconst 0, 1) := by decide +kernel
theorem dL_dayScore_2 : decode cL_dayScore 2 = .ok (.aload_n 0, 1) := by decide +kernel
theorem dL_dayScore_3 : decode cL_dayScore 3 = .ok (.iload_n 1, 1) := by decide +kernel
theorem dL_dayScore_4 : decode cL_dayScore 4 = .ok (.invokevirtual 119, 3) := by decide +kernel
theorem dL_dayScore_7 : decode cL_dayScore 7 = .ok (.i2l, 1) := by decide +kernel
theorem dL_dayScore_8 : decode cL_dayScore 8 = .ok (.lastore, 1) := by decide +kernel
theorem dL_dayScore_9 : decode cL_dayScore 9 = .ok (.goto 6, 3) := by decide +kernel
theorem dL_dayScore_12 : decode cL_dayScore 12 = .ok (.astore_n 3, 1) := by decide +kernel
theorem dL_dayScore_13 : decode cL_dayScore 13 = .ok (.iconst 1, 1) := by decide +kernel
theorem dL_dayScore_14 : decode cL_dayScore 14 = .ok (.ireturn, 1) := by decide +kernel
theorem dL_dayScore_15 : decode cL_dayScore 15 = .ok (.iconst 0, 1) := by decide +kernel
theorem dL_dayScore_16 : decode cL_dayScore 16 = .ok (.ireturn, 1) := by decide +kernel
theorem wd1470 : Cond.code yX9_total cX9_total 2 (some .long) ∈ gW := gW_in 1470 (by decide +kernel) (by decide +kernel)
theorem mvX9_total : MV yX9_total cX9_total 2 (some .long) 1 := ⟨wd1470, wd78, by decide +kernel, by decide +kernel, by decide +kernel, by decide⟩
theorem wd1468 : Cond.instanceMethod yX9_total ∈ gW := gW_in 1468 (by decide +kernel) (by decide +kernel)
theorem wd1469 : Cond.selects yX9_total.cls yX9_total yX9_total ∈ gW := gW_in 1469 (by decide +kernel) (by decide +kernel)
theorem wd1467 : Cond.methodLink RL 122 yX9_total ∈ gW := gW_in 1467 (by decide +kernel) (by decide +kernel)
theorem dL_total_0 : decode cL_total 0 = .ok (.aload_n 2, 1) := by decide +kernel
theorem dL_total_1 : decode cL_total 1 = .ok (.iconst 0, 1) := by decide +kernel
theorem dL_total_2 : decode cL_total 2 = .ok (.aload_n 0, 1) := by decide +kernel
theorem dL_total_3 : decode cL_total 3 = .ok (.iload_n 1, 1) := by decide +kernel
theorem dL_total_4 : decode cL_total 4 = .ok (.invokevirtual 122, 3) := by decide +kernel
theorem dL_total_7 : decode cL_total 7 = .ok (.lastore, 1) := by decide +kernel
theorem dL_total_8 : decode cL_total 8 = .ok (.goto 6, 3) := by decide +kernel
theorem dL_total_11 : decode cL_total 11 = .ok (.astore_n 3, 1) := by decide +kernel
theorem dL_total_12 : decode cL_total 12 = .ok (.iconst 1, 1) := by decide +kernel
theorem dL_total_13 : decode cL_total 13 = .ok (.ireturn, 1) := by decide +kernel
theorem dL_total_14 : decode cL_total 14 = .ok (.iconst 0, 1) := by decide +kernel
theorem dL_total_15 : decode cL_total 15 = .ok (.ireturn, 1) := by decide +kernel
theorem wd1477 : Cond.code yX9_pilotAtRank cX9_pilotAtRank 2 (some .int) ∈ gW := gW_in 1477 (by decide +kernel) (by decide +kernel)
theorem mvX9_pilotAtRank : MV yX9_pilotAtRank cX9_pilotAtRank 2 (some .int) 1 := ⟨wd1477, wd78, by decide +kernel, by decide +kernel, by decide +kernel, by decide⟩
theorem wd1475 : Cond.instanceMethod yX9_pilotAtRank ∈ gW := gW_in 1475 (by decide +kernel) (by decide +kernel)
theorem wd1476 : Cond.selects yX9_pilotAtRank.cls yX9_pilotAtRank yX9_pilotAtRank ∈ gW := gW_in 1476 (by decide +kernel) (by decide +kernel)
theorem wd1474 : Cond.methodLink RL 126 yX9_pilotAtRank ∈ gW := gW_in 1474 (by decide +kernel) (by decide +kernel)
theorem dL_pilotAtRank_0 : decode cL_pilotAtRank 0 = .ok (.aload_n 2, 1) := by decide +kernel
theorem dL_pilotAtRank_1 : decode cL_pilotAtRank 1 = .ok (.iconst 0, 1) := by decide +kernel
theorem dL_pilotAtRank_2 : decode cL_pilotAtRank 2 = .ok (.aload_n 0, 1) := by decide +kernel
theorem dL_pilotAtRank_3 : decode cL_pilotAtRank 3 = .ok (.iload_n 1, 1) := by decide +kernel
theorem dL_pilotAtRank_4 : decode cL_pilotAtRank 4 = .ok (.invokevirtual 126, 3) := by decide +kernel
theorem dL_pilotAtRank_7 : decode cL_pilotAtRank 7 = .ok (.i2l, 1) := by decide +kernel
theorem dL_pilotAtRank_8 : decode cL_pilotAtRank 8 = .ok (.lastore, 1) := by decide +kernel
theorem dL_pilotAtRank_9 : decode cL_pilotAtRank 9 = .ok (.goto 6, 3) := by decide +kernel
theorem dL_pilotAtRank_12 : decode cL_pilotAtRank 12 = .ok (.astore_n 3, 1) := by decide +kernel
theorem dL_pilotAtRank_13 : decode cL_pilotAtRank 13 = .ok (.iconst 1, 1) := by decide +kernel
theorem dL_pilotAtRank_14 : decode cL_pilotAtRank 14 = .ok (.ireturn, 1) := by decide +kernel
theorem dL_pilotAtRank_15 : decode cL_pilotAtRank 15 = .ok (.iconst 0, 1) := by decide +kernel
theorem dL_pilotAtRank_16 : decode cL_pilotAtRank 16 = .ok (.ireturn, 1) := by decide +kernel
theorem wd1497 : Cond.code yX9_speed cX9_speed 3 (some .float) ∈ gW := gW_in 1497 (by decide +kernel) (by decide +kernel)
theorem mvX9_speed : MV yX9_speed cX9_speed 3 (some .float) 1 := ⟨wd1497, wd78, by decide +kernel, by decide +kernel, by decide +kernel, by decide⟩
theorem wd1495 : Cond.instanceMethod yX9_speed ∈ gW := gW_in 1495 (by decide +kernel) (by decide +kernel)
theorem wd1496 : Cond.selects yX9_speed.cls yX9_speed yX9_speed ∈ gW := gW_in 1496 (by decide +kernel) (by decide +kernel)
theorem wd1494 : Cond.methodLink RL 129 yX9_speed ∈ gW := gW_in 1494 (by decide +kernel) (by decide +kernel)
theorem dL_speed_0 : decode cL_speed 0 = .ok (.aload_n 2, 1) := by decide +kernel
theorem dL_speed_1 : decode cL_speed 1 = .ok (.iconst 0, 1) := by decide +kernel
theorem dL_speed_2 : decode cL_speed 2 = .ok (.aload_n 0, 1) := by decide +kernel
theorem dL_speed_3 : decode cL_speed 3 = .ok (.iload_n 1, 1) := by decide +kernel
theorem dL_speed_4 : decode cL_speed 4 = .ok (.invokevirtual 129, 3) := by decide +kernel
theorem dL_speed_7 : decode cL_speed 7 = .ok (.f2d, 1) := by decide +kernel
theorem dL_speed_8 : decode cL_speed 8 = .ok (.dastore, 1) := by decide +kernel
theorem dL_speed_9 : decode cL_speed 9 = .ok (.goto 9, 3) := by decide +kernel
theorem dL_speed_12 : decode cL_speed 12 = .ok (.astore_n 3, 1) := by decide +kernel
theorem dL_speed_13 : decode cL_speed 13 = .ok (.iconst 1, 1) := by decide +kernel
theorem dL_speed_14 : decode cL_speed 14 = .ok (.ireturn, 1) := by decide +kernel
theorem dL_speed_15 : decode cL_speed 15 = .ok (.astore_n 3, 1) := by decide +kernel
theorem dL_speed_16 : decode cL_speed 16 = .ok (.iconst 2, 1) := by decide +kernel
theorem dL_speed_17 : decode cL_speed 17 = .ok (.ireturn, 1) := by decide +kernel
theorem dL_speed_18 : decode cL_speed 18 = .ok (.iconst 0, 1) := by decide +kernel
theorem dL_speed_19 : decode cL_speed 19 = .ok (.ireturn, 1) := by decide +kernel
theorem wd1501 : Cond.classLink RL 137 "java/lang/ArithmeticException" ∈ gW := gW_in 1501 (by decide +kernel) (by decide +kernel)
theorem wd1513 : Cond.castable "java/lang/ArithmeticException" "java/lang/ArithmeticException" ∈ gNW := gNW_in 1513 (by decide +kernel) (by decide +kernel)
theorem wd1518 : Cond.code yX9_meanScore cX9_meanScore 1 (some .double) ∈ gW := gW_in 1518 (by decide +kernel) (by decide +kernel)
theorem mvX9_meanScore : MV yX9_meanScore cX9_meanScore 1 (some .double) 0 := ⟨wd1518, wd78, by decide +kernel, by decide +kernel, by decide +kernel, by decide⟩
theorem wd1516 : Cond.instanceMethod yX9_meanScore ∈ gW := gW_in 1516 (by decide +kernel) (by decide +kernel)
theorem wd1517 : Cond.selects yX9_meanScore.cls yX9_meanScore yX9_meanScore ∈ gW := gW_in 1517 (by decide +kernel) (by decide +kernel)
theorem wd1515 : Cond.methodLink RL 133 yX9_meanScore ∈ gW := gW_in 1515 (by decide +kernel) (by decide +kernel)
theorem dL_meanScore_0 : decode cL_meanScore 0 = .ok (.aload_n 1, 1) := by decide +kernel
theorem dL_meanScore_1 : decode cL_meanScore 1 = .ok (.iconst 0, 1) := by decide +kernel
theorem dL_meanScore_2 : decode cL_meanScore 2 = .ok (.aload_n 0, 1) := by decide +kernel
theorem dL_meanScore_3 : decode cL_meanScore 3 = .ok (.invokevirtual 133, 3) := by decide +kernel
theorem dL_meanScore_6 : decode cL_meanScore 6 = .ok (.dastore, 1) := by decide +kernel
theorem dL_meanScore_7 : decode cL_meanScore 7 = .ok (.goto 6, 3) := by decide +kernel
theorem dL_meanScore_10 : decode cL_meanScore 10 = .ok (.astore_n 2, 1) := by decide +kernel
theorem dL_meanScore_11 : decode cL_meanScore 11 = .ok (.iconst 1, 1) := by decide +kernel
theorem dL_meanScore_12 : decode cL_meanScore 12 = .ok (.ireturn, 1) := by decide +kernel
theorem dL_meanScore_13 : decode cL_meanScore 13 = .ok (.iconst 0, 1) := by decide +kernel
theorem dL_meanScore_14 : decode cL_meanScore 14 = .ok (.ireturn, 1) := by decide +kernel
theorem wd1532 : Cond.code yX9_append cX9_append 2 (some .int) ∈ gW := gW_in 1532 (by decide +kernel) (by decide +kernel)
theorem mvX9_append : MV yX9_append cX9_append 2 (some .int) 1 := ⟨wd1532, wd78, by decide +kernel, by decide +kernel, by decide +kernel, by decide⟩
theorem wd1530 : Cond.instanceMethod yX9_append ∈ gW := gW_in 1530 (by decide +kernel) (by decide +kernel)
theorem wd1531 : Cond.selects yX9_append.cls yX9_append yX9_append ∈ gW := gW_in 1531 (by decide +kernel) (by decide +kernel)
theorem wd1529 : Cond.methodLink RL 139 yX9_append ∈ gW := gW_in 1529 (by decide +kernel) (by decide +kernel)
theorem dL_append_0 : decode cL_append 0 = .ok (.aload_n 2, 1) := by decide +kernel
theorem dL_append_1 : decode cL_append 1 = .ok (.iconst 0, 1) := by decide +kernel
theorem dL_append_2 : decode cL_append 2 = .ok (.aload_n 0, 1) := by decide +kernel
theorem dL_append_3 : decode cL_append 3 = .ok (.iload_n 1, 1) := by decide +kernel
theorem dL_append_4 : decode cL_append 4 = .ok (.invokevirtual 139, 3) := by decide +kernel
theorem dL_append_7 : decode cL_append 7 = .ok (.i2l, 1) := by decide +kernel
theorem dL_append_8 : decode cL_append 8 = .ok (.lastore, 1) := by decide +kernel
theorem dL_append_9 : decode cL_append 9 = .ok (.goto 6, 3) := by decide +kernel
theorem dL_append_12 : decode cL_append 12 = .ok (.astore_n 3, 1) := by decide +kernel
theorem dL_append_13 : decode cL_append 13 = .ok (.iconst 1, 1) := by decide +kernel
theorem dL_append_14 : decode cL_append 14 = .ok (.ireturn, 1) := by decide +kernel
theorem dL_append_15 : decode cL_append 15 = .ok (.iconst 0, 1) := by decide +kernel
theorem dL_append_16 : decode cL_append 16 = .ok (.ireturn, 1) := by decide +kernel
theorem wd1549 : Cond.code yX9_run cX9_run 3 (some .int) ∈ gW := gW_in 1549 (by decide +kernel) (by decide +kernel)
theorem mvX9_run : MV yX9_run cX9_run 3 (some .int) 0 := ⟨wd1549, wd78, by decide +kernel, by decide +kernel, by decide +kernel, by decide⟩
theorem wd1547 : Cond.instanceMethod yX9_run ∈ gW := gW_in 1547 (by decide +kernel) (by decide +kernel)
theorem wd1548 : Cond.selects yX9_run.cls yX9_run yX9_run ∈ gW := gW_in 1548 (by decide +kernel) (by decide +kernel)
theorem wd1546 : Cond.methodLink RL 143 yX9_run ∈ gW := gW_in 1546 (by decide +kernel) (by decide +kernel)
theorem dL_run_0 : decode cL_run 0 = .ok (.aload_n 1, 1) := by decide +kernel
theorem dL_run_1 : decode cL_run 1 = .ok (.iconst 0, 1) := by decide +kernel
theorem dL_run_2 : decode cL_run 2 = .ok (.aload_n 0, 1) := by decide +kernel
theorem dL_run_3 : decode cL_run 3 = .ok (.invokevirtual 143, 3) := by decide +kernel
theorem dL_run_6 : decode cL_run 6 = .ok (.i2l, 1) := by decide +kernel
theorem dL_run_7 : decode cL_run 7 = .ok (.lastore, 1) := by decide +kernel
theorem dL_run_8 : decode cL_run 8 = .ok (.goto 9, 3) := by decide +kernel
theorem dL_run_11 : decode cL_run 11 = .ok (.astore_n 2, 1) := by decide +kernel
theorem dL_run_12 : decode cL_run 12 = .ok (.iconst 1, 1) := by decide +kernel
theorem dL_run_13 : decode cL_run 13 = .ok (.ireturn, 1) := by decide +kernel
theorem dL_run_14 : decode cL_run 14 = .ok (.astore_n 2, 1) := by decide +kernel
theorem dL_run_15 : decode cL_run 15 = .ok (.iconst 2, 1) := by decide +kernel
theorem dL_run_16 : decode cL_run 16 = .ok (.ireturn, 1) := by decide +kernel
theorem dL_run_17 : decode cL_run 17 = .ok (.iconst 0, 1) := by decide +kernel
theorem dL_run_18 : decode cL_run 18 = .ok (.ireturn, 1) := by decide +kernel
theorem wd1636 : Cond.code yX9_errorPosition cX9_errorPosition 1 (some .int) ∈ gW := gW_in 1636 (by decide +kernel) (by decide +kernel)
theorem mvX9_errorPosition : MV yX9_errorPosition cX9_errorPosition 1 (some .int) 0 := ⟨wd1636, wd78, by decide +kernel, by decide +kernel, by decide +kernel, by decide⟩
theorem wd1634 : Cond.instanceMethod yX9_errorPosition ∈ gW := gW_in 1634 (by decide +kernel) (by decide +kernel)
theorem wd1635 : Cond.selects yX9_errorPosition.cls yX9_errorPosition yX9_errorPosition ∈ gW := gW_in 1635 (by decide +kernel) (by decide +kernel)
theorem wd1633 : Cond.methodLink RL 146 yX9_errorPosition ∈ gW := gW_in 1633 (by decide +kernel) (by decide +kernel)
theorem dL_errorPosition_0 : decode cL_errorPosition 0 = .ok (.aload_n 1, 1) := by decide +kernel
theorem dL_errorPosition_1 : decode cL_errorPosition 1 = .ok (.iconst 0, 1) := by decide +kernel
theorem dL_errorPosition_2 : decode cL_errorPosition 2 = .ok (.aload_n 0, 1) := by decide +kernel
theorem dL_errorPosition_3 : decode cL_errorPosition 3 = .ok (.invokevirtual 146, 3) := by decide +kernel
theorem dL_errorPosition_6 : decode cL_errorPosition 6 = .ok (.i2l, 1) := by decide +kernel
theorem dL_errorPosition_7 : decode cL_errorPosition 7 = .ok (.lastore, 1) := by decide +kernel
theorem dL_errorPosition_8 : decode cL_errorPosition 8 = .ok (.goto 6, 3) := by decide +kernel
theorem dL_errorPosition_11 : decode cL_errorPosition 11 = .ok (.astore_n 2, 1) := by decide +kernel
theorem dL_errorPosition_12 : decode cL_errorPosition 12 = .ok (.iconst 1, 1) := by decide +kernel
theorem dL_errorPosition_13 : decode cL_errorPosition 13 = .ok (.ireturn, 1) := by decide +kernel
theorem dL_errorPosition_14 : decode cL_errorPosition 14 = .ok (.iconst 0, 1) := by decide +kernel
theorem dL_errorPosition_15 : decode cL_errorPosition 15 = .ok (.ireturn, 1) := by decide +kernel
theorem wd1644 : Cond.code yX9_failedCommand cX9_failedCommand 1 (some .int) ∈ gW := gW_in 1644 (by decide +kernel) (by decide +kernel)
theorem mvX9_failedCommand : MV yX9_failedCommand cX9_failedCommand 1 (some .int) 0 := ⟨wd1644, wd78, by decide +kernel, by decide +kernel, by decide +kernel, by decide⟩
theorem wd1642 : Cond.instanceMethod yX9_failedCommand ∈ gW := gW_in 1642 (by decide +kernel) (by decide +kernel)
theorem wd1643 : Cond.selects yX9_failedCommand.cls yX9_failedCommand yX9_failedCommand ∈ gW := gW_in 1643 (by decide +kernel) (by decide +kernel)
theorem wd1641 : Cond.methodLink RL 149 yX9_failedCommand ∈ gW := gW_in 1641 (by decide +kernel) (by decide +kernel)
theorem dL_failedCommand_0 : decode cL_failedCommand 0 = .ok (.aload_n 1, 1) := by decide +kernel
theorem dL_failedCommand_1 : decode cL_failedCommand 1 = .ok (.iconst 0, 1) := by decide +kernel
theorem dL_failedCommand_2 : decode cL_failedCommand 2 = .ok (.aload_n 0, 1) := by decide +kernel
theorem dL_failedCommand_3 : decode cL_failedCommand 3 = .ok (.invokevirtual 149, 3) := by decide +kernel
theorem dL_failedCommand_6 : decode cL_failedCommand 6 = .ok (.i2l, 1) := by decide +kernel
theorem dL_failedCommand_7 : decode cL_failedCommand 7 = .ok (.lastore, 1) := by decide +kernel
theorem dL_failedCommand_8 : decode cL_failedCommand 8 = .ok (.goto 6, 3) := by decide +kernel
theorem dL_failedCommand_11 : decode cL_failedCommand 11 = .ok (.astore_n 2, 1) := by decide +kernel
theorem dL_failedCommand_12 : decode cL_failedCommand 12 = .ok (.iconst 1, 1) := by decide +kernel
theorem dL_failedCommand_13 : decode cL_failedCommand 13 = .ok (.ireturn, 1) := by decide +kernel
theorem dL_failedCommand_14 : decode cL_failedCommand 14 = .ok (.iconst 0, 1) := by decide +kernel
theorem dL_failedCommand_15 : decode cL_failedCommand 15 = .ok (.ireturn, 1) := by decide +kernel
theorem wd1652 : Cond.code yX9_writePilot cX9_writePilot 3 (some .int) ∈ gW := gW_in 1652 (by decide +kernel) (by decide +kernel)
theorem mvX9_writePilot : MV yX9_writePilot cX9_writePilot 3 (some .int) 1 := ⟨wd1652, wd78, by decide +kernel, by decide +kernel, by decide +kernel, by decide⟩
theorem wd1650 : Cond.instanceMethod yX9_writePilot ∈ gW := gW_in 1650 (by decide +kernel) (by decide +kernel)
theorem wd1651 : Cond.selects yX9_writePilot.cls yX9_writePilot yX9_writePilot ∈ gW := gW_in 1651 (by decide +kernel) (by decide +kernel)
theorem wd1649 : Cond.methodLink RL 152 yX9_writePilot ∈ gW := gW_in 1649 (by decide +kernel) (by decide +kernel)
theorem dL_writePilot_0 : decode cL_writePilot 0 = .ok (.aload_n 2, 1) := by decide +kernel
theorem dL_writePilot_1 : decode cL_writePilot 1 = .ok (.iconst 0, 1) := by decide +kernel
theorem dL_writePilot_2 : decode cL_writePilot 2 = .ok (.aload_n 0, 1) := by decide +kernel
theorem dL_writePilot_3 : decode cL_writePilot 3 = .ok (.iload_n 1, 1) := by decide +kernel
theorem dL_writePilot_4 : decode cL_writePilot 4 = .ok (.invokevirtual 152, 3) := by decide +kernel
theorem dL_writePilot_7 : decode cL_writePilot 7 = .ok (.i2l, 1) := by decide +kernel
theorem dL_writePilot_8 : decode cL_writePilot 8 = .ok (.lastore, 1) := by decide +kernel
theorem dL_writePilot_9 : decode cL_writePilot 9 = .ok (.goto 6, 3) := by decide +kernel
theorem dL_writePilot_12 : decode cL_writePilot 12 = .ok (.astore_n 3, 1) := by decide +kernel
theorem dL_writePilot_13 : decode cL_writePilot 13 = .ok (.iconst 1, 1) := by decide +kernel
theorem dL_writePilot_14 : decode cL_writePilot 14 = .ok (.ireturn, 1) := by decide +kernel
theorem dL_writePilot_15 : decode cL_writePilot 15 = .ok (.iconst 0, 1) := by decide +kernel
theorem dL_writePilot_16 : decode cL_writePilot 16 = .ok (.ireturn, 1) := by decide +kernel
theorem wd1671 : Cond.code yX9_outputAt cX9_outputAt 2 (some .char) ∈ gW := gW_in 1671 (by decide +kernel) (by decide +kernel)
theorem mvX9_outputAt : MV yX9_outputAt cX9_outputAt 2 (some .char) 1 := ⟨wd1671, wd78, by decide +kernel, by decide +kernel, by decide +kernel, by decide⟩
theorem wd1669 : Cond.instanceMethod yX9_outputAt ∈ gW := gW_in 1669 (by decide +kernel) (by decide +kernel)
theorem wd1670 : Cond.selects yX9_outputAt.cls yX9_outputAt yX9_outputAt ∈ gW := gW_in 1670 (by decide +kernel) (by decide +kernel)
theorem wd1668 : Cond.methodLink RL 155 yX9_outputAt ∈ gW := gW_in 1668 (by decide +kernel) (by decide +kernel)
theorem dL_outputAt_0 : decode cL_outputAt 0 = .ok (.aload_n 2, 1) := by decide +kernel
theorem dL_outputAt_1 : decode cL_outputAt 1 = .ok (.iconst 0, 1) := by decide +kernel
theorem dL_outputAt_2 : decode cL_outputAt 2 = .ok (.aload_n 0, 1) := by decide +kernel
theorem dL_outputAt_3 : decode cL_outputAt 3 = .ok (.iload_n 1, 1) := by decide +kernel
theorem dL_outputAt_4 : decode cL_outputAt 4 = .ok (.invokevirtual 155, 3) := by decide +kernel
theorem dL_outputAt_7 : decode cL_outputAt 7 = .ok (.i2l, 1) := by decide +kernel
theorem dL_outputAt_8 : decode cL_outputAt 8 = .ok (.lastore, 1) := by decide +kernel
theorem dL_outputAt_9 : decode cL_outputAt 9 = .ok (.goto 6, 3) := by decide +kernel
theorem dL_outputAt_12 : decode cL_outputAt 12 = .ok (.astore_n 3, 1) := by decide +kernel
theorem dL_outputAt_13 : decode cL_outputAt 13 = .ok (.iconst 1, 1) := by decide +kernel
theorem dL_outputAt_14 : decode cL_outputAt 14 = .ok (.ireturn, 1) := by decide +kernel
theorem dL_outputAt_15 : decode cL_outputAt 15 = .ok (.iconst 0, 1) := by decide +kernel
theorem dL_outputAt_16 : decode cL_outputAt 16 = .ok (.ireturn, 1) := by decide +kernel
theorem wd1689 : Cond.code yX9_undo cX9_undo 1 (some .int) ∈ gW := gW_in 1689 (by decide +kernel) (by decide +kernel)
theorem mvX9_undo : MV yX9_undo cX9_undo 1 (some .int) 0 := ⟨wd1689, wd78, by decide +kernel, by decide +kernel, by decide +kernel, by decide⟩
theorem wd1687 : Cond.instanceMethod yX9_undo ∈ gW := gW_in 1687 (by decide +kernel) (by decide +kernel)
theorem wd1688 : Cond.selects yX9_undo.cls yX9_undo yX9_undo ∈ gW := gW_in 1688 (by decide +kernel) (by decide +kernel)
theorem wd1686 : Cond.methodLink RL 159 yX9_undo ∈ gW := gW_in 1686 (by decide +kernel) (by decide +kernel)
theorem dL_undo_0 : decode cL_undo 0 = .ok (.aload_n 1, 1) := by decide +kernel
theorem dL_undo_1 : decode cL_undo 1 = .ok (.iconst 0, 1) := by decide +kernel
theorem dL_undo_2 : decode cL_undo 2 = .ok (.aload_n 0, 1) := by decide +kernel
theorem dL_undo_3 : decode cL_undo 3 = .ok (.invokevirtual 159, 3) := by decide +kernel
theorem dL_undo_6 : decode cL_undo 6 = .ok (.i2l, 1) := by decide +kernel
theorem dL_undo_7 : decode cL_undo 7 = .ok (.lastore, 1) := by decide +kernel
theorem dL_undo_8 : decode cL_undo 8 = .ok (.goto 6, 3) := by decide +kernel
theorem dL_undo_11 : decode cL_undo 11 = .ok (.astore_n 2, 1) := by decide +kernel
theorem dL_undo_12 : decode cL_undo 12 = .ok (.iconst 1, 1) := by decide +kernel
theorem dL_undo_13 : decode cL_undo 13 = .ok (.ireturn, 1) := by decide +kernel
theorem dL_undo_14 : decode cL_undo 14 = .ok (.iconst 0, 1) := by decide +kernel
theorem dL_undo_15 : decode cL_undo 15 = .ok (.ireturn, 1) := by decide +kernel
theorem wd1701 : Cond.code yX9_restore cX9_restore 1 none ∈ gW := gW_in 1701 (by decide +kernel) (by decide +kernel)
theorem mvX9_restore : MV yX9_restore cX9_restore 1 none 0 := ⟨wd1701, wd78, by decide +kernel, by decide +kernel, by decide +kernel, by decide⟩
theorem wd1699 : Cond.instanceMethod yX9_restore ∈ gW := gW_in 1699 (by decide +kernel) (by decide +kernel)
theorem wd1700 : Cond.selects yX9_restore.cls yX9_restore yX9_restore ∈ gW := gW_in 1700 (by decide +kernel) (by decide +kernel)
theorem wd1698 : Cond.methodLink RL 162 yX9_restore ∈ gW := gW_in 1698 (by decide +kernel) (by decide +kernel)
theorem dL_restore_0 : decode cL_restore 0 = .ok (.aload_n 0, 1) := by decide +kernel
theorem dL_restore_1 : decode cL_restore 1 = .ok (.invokevirtual 162, 3) := by decide +kernel
theorem dL_restore_4 : decode cL_restore 4 = .ok (.goto 6, 3) := by decide +kernel
theorem dL_restore_7 : decode cL_restore 7 = .ok (.astore_n 1, 1) := by decide +kernel
theorem dL_restore_8 : decode cL_restore 8 = .ok (.iconst 1, 1) := by decide +kernel
theorem dL_restore_9 : decode cL_restore 9 = .ok (.ireturn, 1) := by decide +kernel
theorem dL_restore_10 : decode cL_restore 10 = .ok (.iconst 0, 1) := by decide +kernel
theorem dL_restore_11 : decode cL_restore 11 = .ok (.ireturn, 1) := by decide +kernel
theorem fX9_writePilot_e {ad : Nat → Nat} {sz : Nat} {S Ln : Nat → Nat} {R : gR} {M : gM} {a0 : Nat} {x1 : Int} {e : String × (Nat → Nat) × (Nat → Nat) × gM × gR} (h : fX9_writePilot ad sz S Ln R M a0 x1 = some (.inr e)) : e.2.1 = S ∧ e.2.2.1 = Ln := by
  unfold fX9_writePilot at h
  obtain ⟨q, hq, h⟩ := bd_e h
  cases q with
  | inr e1 =>
    replace h := el_r h
    cases h
    exact ⟨rfl, rfl⟩
  | inl v1 =>
    replace h := el_l h
    obtain ⟨b2, -, -, h⟩ := rf_e h
    obtain ⟨q3, -, h⟩ := bd_e h
    obtain ⟨b4, -, -, h⟩ := rf_e h
    obtain ⟨q5, -, h⟩ := bd_e h
    obtain ⟨-, h⟩ := gd_e h
    split at h
    · obtain ⟨q7, -, h⟩ := bd_e h
      unfold fX9_writePilot_B51 at h
      obtain ⟨b8, -, -, h⟩ := rf_e h
      obtain ⟨q9, -, h⟩ := bd_e h
      cases h
    · obtain ⟨b10, -, -, h⟩ := rf_e h
      obtain ⟨q11, -, h⟩ := bd_e h
      unfold fX9_writePilot_B51 at h
      obtain ⟨b8, -, -, h⟩ := rf_e h
      obtain ⟨q9, -, h⟩ := bd_e h
      cases h
def fL_addPoint (ad S Ln : Nat → Nat) (R : gR) (M : gM) (x0 : Nat) (x1 : Int) (x2 : Int) (x3 : Nat) : Option (Int × gM × gR) :=
  bd (fX9_addPoint ad S Ln R M x0 x1 x2) fun q1 => Sum.elim (fun v1 => gd ((0 : Int) ≤ 0 ∧ 0 < (Ln x3 : Int)) (nam (wr v1.2.1 x3 0 v1.1) fun M2 => some ((0, M2, v1.2.2)))) (fun e1 => if e1.1 = "java/lang/IllegalArgumentException" then (some ((1, e1.2.1, e1.2.2))) else (if e1.1 = "java/lang/IllegalStateException" then (some ((2, e1.2.1, e1.2.2))) else (none))) q1
theorem xL_addPoint {l : Launch} {G : gE} {sz : Nat} {S Ln : Nat → Nat} {M : gM} {R : gR} (hl : l.stackTraces = false) {x0 : Nat} (hp0 : S x0 = 12) {x1 : Int} (hp1 : (-2147483648 ≤ x1 ∧ x1 < 2147483648)) {x2 : Int} (hp2 : (-2147483648 ≤ x2 ∧ x2 < 2147483648)) {x3 : Nat} (hp3 : S x3 = 21) {r : Int × gM × gR} (h : fL_addPoint G.2.2.2.2 S Ln R M x0 x1 x2 x3 = some r) : CtW l G yL_addPoint cL_addPoint 5 (some .int) [(0, 10, 13, 13), (0, 10, 17, 15)] 10 1 6 [.ref x0, .int (iI x1), .int (iI x2), .ref x3] sz S Ln M R (poW r.1 S Ln S Ln r.2.1 r.2.2) := by
  refine jj_startW (own := RL) (lv0 := [(0, .ref x0), (1, .int (iI x1)), (2, .int (iI x2)), (3, .ref x3)]) hl (by decide +kernel) rfl rfl rfl (c_le rfl) (fun C hCl hC hT => ?_)
  unfold fL_addPoint at h
  refine jj_aload_n hC dL_addPoint_0 rfl 3 rfl ?_
  refine jj_iconst hC dL_addPoint_1 ?_
  refine jj_aload_n hC dL_addPoint_2 rfl 0 rfl ?_
  refine jj_iload_n hC dL_addPoint_3 rfl 1 rfl ?_
  refine jj_iload_n hC dL_addPoint_4 rfl 2 rfl ?_
  obtain ⟨q1, hq1, h⟩ := bd_e h
  refine jj_invV hC mvX9_addPoint wd977 wd978 wd976 hp0 (by decide) rfl (xX9_addPoint (OKC.tr hC) hp0 hp1 hp2 hq1) rfl rfl (c_le rfl) (c_le rfl) (c_le rfl) (c_le rfl) dL_addPoint_5 (fun E1 sz1 S1 Ln1 M1 R1 hX1 => by
    obtain ⟨e1, he1, hz0, hz1, hz2, hz3, hz4⟩ := hX1
    subst he1
    replace h := el_r h
    rw [hz0, hz1, hz2, hz3, hz4]
    by_cases hE1_0 : e1.1 = "java/lang/IllegalArgumentException"
    · replace h := (if_pos hE1_0).symm.trans h
      rw [hE1_0]
      refine jj_catch hC hT (h1 := []) (h2 := [(0, 10, 17, 15)]) rfl (fun z hz => nomatch hz) (by decide) (by decide) wd974 wd775 (fun qx1 => ?_)
      refine jj_astore (lv' := [(4, .ref qx1), (0, .ref x0), (1, .int (iI x1)), (2, .int (iI x2)), (3, .ref x3)]) hC dL_addPoint_13 (by decide) rfl ?_
      refine jj_iconst hC dL_addPoint_15 ?_
      cases h
      exact jj_iret hC (c_le rfl) (c_le rfl) dL_addPoint_16 ⟨rfl, (show (-2147483648 ≤ (1 : Int) ∧ (1 : Int) < 2147483648) from by decide), ex2_r, rfl, rfl, rfl, rfl⟩
    · replace h := (if_neg hE1_0).symm.trans h
      by_cases hE1_1 : e1.1 = "java/lang/IllegalStateException"
      · replace h := (if_pos hE1_1).symm.trans h
        rw [hE1_1]
        refine jj_catch hC hT (h1 := [(0, 10, 13, 13)]) (h2 := []) rfl (List.forall_mem_cons.mpr ⟨⟨"java/lang/IllegalArgumentException", wd974, (by decide +kernel), (by decide)⟩, fun z hz => nomatch hz⟩) (by decide) (by decide) wd975 wd1018 (fun qx1 => ?_)
        refine jj_astore (lv' := [(4, .ref qx1), (0, .ref x0), (1, .int (iI x1)), (2, .int (iI x2)), (3, .ref x3)]) hC dL_addPoint_17 (by decide) rfl ?_
        refine jj_iconst hC dL_addPoint_19 ?_
        cases h
        exact jj_iret hC (c_le rfl) (c_le rfl) dL_addPoint_20 ⟨rfl, (show (-2147483648 ≤ (2 : Int) ∧ (2 : Int) < 2147483648) from by decide), ex2_r, rfl, rfl, rfl, rfl⟩
      · replace h := (if_neg hE1_1).symm.trans h
        cases h) (poS_k (fun v1 hv1 => po_kI (fun hr1 => ?_)))
  subst hv1
  replace h := el_l h
  refine jj_i2l hC dL_addPoint_8 hr1 ?_
  obtain ⟨⟨ha2, hb2⟩, h⟩ := gd_e h
  obtain ⟨M2, hM2, h⟩ := nam_e h
  refine jj_last hC hp3 ha2 hb2 (r_il hr1) dL_addPoint_9 (jj_M hM2 ?_)
  refine jj_goto (tgt := 21) hC dL_addPoint_10 rfl ?_
  refine jj_iconst hC dL_addPoint_21 ?_
  cases h
  exact jj_iret hC (c_le rfl) (c_le rfl) dL_addPoint_22 ⟨rfl, (show (-2147483648 ≤ (0 : Int) ∧ (0 : Int) < 2147483648) from by decide), ex2_r, rfl, rfl, rfl, rfl⟩
def fL_addTaskPoint (ad S Ln : Nat → Nat) (R : gR) (M : gM) (x0 : Nat) (x1 : Int) (x2 : Nat) : Option (Int × gM × gR) :=
  bd (fX9_addTaskPoint ad S Ln R M x0 x1) fun q1 => Sum.elim (fun v1 => gd ((0 : Int) ≤ 0 ∧ 0 < (Ln x2 : Int)) (nam (wr v1.2.1 x2 0 v1.1) fun M2 => some ((0, M2, v1.2.2)))) (fun e1 => if e1.1 = "java/lang/IndexOutOfBoundsException" then (some ((1, e1.2.1, e1.2.2))) else (if e1.1 = "java/lang/IllegalStateException" then (some ((2, e1.2.1, e1.2.2))) else (if e1.1 = "java/lang/UnsupportedOperationException" then (some ((3, e1.2.1, e1.2.2))) else (none)))) q1
theorem xL_addTaskPoint {l : Launch} {G : gE} {sz : Nat} {S Ln : Nat → Nat} {M : gM} {R : gR} (hl : l.stackTraces = false) {x0 : Nat} (hp0 : S x0 = 12) {x1 : Int} (hp1 : (-2147483648 ≤ x1 ∧ x1 < 2147483648)) {x2 : Nat} (hp2 : S x2 = 21) {r : Int × gM × gR} (h : fL_addTaskPoint G.2.2.2.2 S Ln R M x0 x1 x2 = some r) : CtW l G yL_addTaskPoint cL_addTaskPoint 4 (some .int) [(0, 9, 12, 21), (0, 9, 15, 15), (0, 9, 18, 23)] 10 1 6 [.ref x0, .int (iI x1), .ref x2] sz S Ln M R (poW r.1 S Ln S Ln r.2.1 r.2.2) := by
  refine jj_startW (own := RL) (lv0 := [(0, .ref x0), (1, .int (iI x1)), (2, .ref x2)]) hl (by decide +kernel) rfl rfl rfl (c_le rfl) (fun C hCl hC hT => ?_)
  unfold fL_addTaskPoint at h
  refine jj_aload_n hC dL_addTaskPoint_0 rfl 2 rfl ?_
  refine jj_iconst hC dL_addTaskPoint_1 ?_
  refine jj_aload_n hC dL_addTaskPoint_2 rfl 0 rfl ?_
  refine jj_iload_n hC dL_addTaskPoint_3 rfl 1 rfl ?_
  obtain ⟨q1, hq1, h⟩ := bd_e h
  refine jj_invV hC mvX9_addTaskPoint wd1071 wd1072 wd1070 hp0 (by decide) rfl (xX9_addTaskPoint (OKC.tr hC) hp0 hp1 hq1) rfl rfl (c_le rfl) (c_le rfl) (c_le rfl) (c_le rfl) dL_addTaskPoint_4 (fun E1 sz1 S1 Ln1 M1 R1 hX1 => by
    obtain ⟨e1, he1, hz0, hz1, hz2, hz3, hz4⟩ := hX1
    subst he1
    replace h := el_r h
    rw [hz0, hz1, hz2, hz3, hz4]
    by_cases hE1_0 : e1.1 = "java/lang/IndexOutOfBoundsException"
    · replace h := (if_pos hE1_0).symm.trans h
      rw [hE1_0]
      refine jj_catch hC hT (h1 := []) (h2 := [(0, 9, 15, 15), (0, 9, 18, 23)]) rfl (fun z hz => nomatch hz) (by decide) (by decide) wd1066 wd1000 (fun qx1 => ?_)
      refine jj_astore_n (lv' := [(3, .ref qx1), (0, .ref x0), (1, .int (iI x1)), (2, .ref x2)]) hC dL_addTaskPoint_12 rfl (by decide) rfl ?_
      refine jj_iconst hC dL_addTaskPoint_13 ?_
      cases h
      exact jj_iret hC (c_le rfl) (c_le rfl) dL_addTaskPoint_14 ⟨rfl, (show (-2147483648 ≤ (1 : Int) ∧ (1 : Int) < 2147483648) from by decide), ex2_r, rfl, rfl, rfl, rfl⟩
    · replace h := (if_neg hE1_0).symm.trans h
      by_cases hE1_1 : e1.1 = "java/lang/IllegalStateException"
      · replace h := (if_pos hE1_1).symm.trans h
        rw [hE1_1]
        refine jj_catch hC hT (h1 := [(0, 9, 12, 21)]) (h2 := [(0, 9, 18, 23)]) rfl (List.forall_mem_cons.mpr ⟨⟨"java/lang/IndexOutOfBoundsException", wd1066, (by decide +kernel), (by decide)⟩, fun z hz => nomatch hz⟩) (by decide) (by decide) wd975 wd1018 (fun qx1 => ?_)
        refine jj_astore_n (lv' := [(3, .ref qx1), (0, .ref x0), (1, .int (iI x1)), (2, .ref x2)]) hC dL_addTaskPoint_15 rfl (by decide) rfl ?_
        refine jj_iconst hC dL_addTaskPoint_16 ?_
        cases h
        exact jj_iret hC (c_le rfl) (c_le rfl) dL_addTaskPoint_17 ⟨rfl, (show (-2147483648 ≤ (2 : Int) ∧ (2 : Int) < 2147483648) from by decide), ex2_r, rfl, rfl, rfl, rfl⟩
      · replace h := (if_neg hE1_1).symm.trans h
        by_cases hE1_2 : e1.1 = "java/lang/UnsupportedOperationException"
        · replace h := (if_pos hE1_2).symm.trans h
          rw [hE1_2]
          refine jj_catch hC hT (h1 := [(0, 9, 12, 21), (0, 9, 15, 15)]) (h2 := []) rfl (List.forall_mem_cons.mpr ⟨⟨"java/lang/IndexOutOfBoundsException", wd1066, (by decide +kernel), (by decide)⟩, List.forall_mem_cons.mpr ⟨⟨"java/lang/IllegalStateException", wd975, (by decide +kernel), (by decide)⟩, fun z hz => nomatch hz⟩⟩) (by decide) (by decide) wd1069 wd1036 (fun qx1 => ?_)
          refine jj_astore_n (lv' := [(3, .ref qx1), (0, .ref x0), (1, .int (iI x1)), (2, .ref x2)]) hC dL_addTaskPoint_18 rfl (by decide) rfl ?_
          refine jj_iconst hC dL_addTaskPoint_19 ?_
          cases h
          exact jj_iret hC (c_le rfl) (c_le rfl) dL_addTaskPoint_20 ⟨rfl, (show (-2147483648 ≤ (3 : Int) ∧ (3 : Int) < 2147483648) from by decide), ex2_r, rfl, rfl, rfl, rfl⟩
        · replace h := (if_neg hE1_2).symm.trans h
          cases h) (poS_k (fun v1 hv1 => po_kI (fun hr1 => ?_)))
  subst hv1
  replace h := el_l h
  refine jj_i2l hC dL_addTaskPoint_7 hr1 ?_
  obtain ⟨⟨ha2, hb2⟩, h⟩ := gd_e h
  obtain ⟨M2, hM2, h⟩ := nam_e h
  refine jj_last hC hp2 ha2 hb2 (r_il hr1) dL_addTaskPoint_8 (jj_M hM2 ?_)
  refine jj_goto (tgt := 21) hC dL_addTaskPoint_9 rfl ?_
  refine jj_iconst hC dL_addTaskPoint_21 ?_
  cases h
  exact jj_iret hC (c_le rfl) (c_le rfl) dL_addTaskPoint_22 ⟨rfl, (show (-2147483648 ≤ (0 : Int) ∧ (0 : Int) < 2147483648) from by decide), ex2_r, rfl, rfl, rfl, rfl⟩
def fL_clearTask (ad S Ln : Nat → Nat) (R : gR) (M : gM) (x0 : Nat) (x1 : Nat) : Option (Int × gM × gR) :=
  bd (fX9_clearTask ad S Ln R M x0) fun q1 => Sum.elim (fun v1 => gd ((0 : Int) ≤ 0 ∧ 0 < (Ln x1 : Int)) (nam (wr v1.2.1 x1 0 v1.1) fun M2 => some ((0, M2, v1.2.2)))) (fun e1 => if e1.1 = "java/lang/IllegalStateException" then (some ((1, e1.2.1, e1.2.2))) else (none)) q1
theorem xL_clearTask {l : Launch} {G : gE} {sz : Nat} {S Ln : Nat → Nat} {M : gM} {R : gR} (hl : l.stackTraces = false) {x0 : Nat} (hp0 : S x0 = 12) {x1 : Nat} (hp1 : S x1 = 21) {r : Int × gM × gR} (h : fL_clearTask G.2.2.2.2 S Ln R M x0 x1 = some r) : CtW l G yL_clearTask cL_clearTask 3 (some .int) [(0, 8, 11, 15)] 9 1 6 [.ref x0, .ref x1] sz S Ln M R (poW r.1 S Ln S Ln r.2.1 r.2.2) := by
  refine jj_startW (own := RL) (lv0 := [(0, .ref x0), (1, .ref x1)]) hl (by decide +kernel) rfl rfl rfl (c_le rfl) (fun C hCl hC hT => ?_)
  unfold fL_clearTask at h
  refine jj_aload_n hC dL_clearTask_0 rfl 1 rfl ?_
  refine jj_iconst hC dL_clearTask_1 ?_
  refine jj_aload_n hC dL_clearTask_2 rfl 0 rfl ?_
  obtain ⟨q1, hq1, h⟩ := bd_e h
  refine jj_invV hC mvX9_clearTask wd1098 wd1099 wd1097 hp0 (by decide) rfl (xX9_clearTask (OKC.tr hC) hp0 hq1) rfl rfl (c_le rfl) (c_le rfl) (c_le rfl) (c_le rfl) dL_clearTask_3 (fun E1 sz1 S1 Ln1 M1 R1 hX1 => by
    obtain ⟨e1, he1, hz0, hz1, hz2, hz3, hz4⟩ := hX1
    subst he1
    replace h := el_r h
    rw [hz0, hz1, hz2, hz3, hz4]
    by_cases hE1_0 : e1.1 = "java/lang/IllegalStateException"
    · replace h := (if_pos hE1_0).symm.trans h
      rw [hE1_0]
      refine jj_catch hC hT (h1 := []) (h2 := []) rfl (fun z hz => nomatch hz) (by decide) (by decide) wd975 wd1018 (fun qx1 => ?_)
      refine jj_astore_n (lv' := [(2, .ref qx1), (0, .ref x0), (1, .ref x1)]) hC dL_clearTask_11 rfl (by decide) rfl ?_
      refine jj_iconst hC dL_clearTask_12 ?_
      cases h
      exact jj_iret hC (c_le rfl) (c_le rfl) dL_clearTask_13 ⟨rfl, (show (-2147483648 ≤ (1 : Int) ∧ (1 : Int) < 2147483648) from by decide), ex2_r, rfl, rfl, rfl, rfl⟩
    · replace h := (if_neg hE1_0).symm.trans h
      cases h) (poS_k (fun v1 hv1 => po_kI (fun hr1 => ?_)))
  subst hv1
  replace h := el_l h
  refine jj_i2l hC dL_clearTask_6 hr1 ?_
  obtain ⟨⟨ha2, hb2⟩, h⟩ := gd_e h
  obtain ⟨M2, hM2, h⟩ := nam_e h
  refine jj_last hC hp1 ha2 hb2 (r_il hr1) dL_clearTask_7 (jj_M hM2 ?_)
  refine jj_goto (tgt := 14) hC dL_clearTask_8 rfl ?_
  refine jj_iconst hC dL_clearTask_14 ?_
  cases h
  exact jj_iret hC (c_le rfl) (c_le rfl) dL_clearTask_15 ⟨rfl, (show (-2147483648 ≤ (0 : Int) ∧ (0 : Int) < 2147483648) from by decide), ex2_r, rfl, rfl, rfl, rfl⟩
def fL_addThermal (ad S Ln : Nat → Nat) (R : gR) (M : gM) (x0 : Nat) (x1 : Int) (x2 : Int) (x3 : Int) (x4 : Nat) : Option (Int × gM × gR) :=
  bd (fX9_addThermal ad S Ln R M x0 x1 x2 x3) fun q1 => Sum.elim (fun v1 => gd ((0 : Int) ≤ 0 ∧ 0 < (Ln x4 : Int)) (nam (wr v1.2.1 x4 0 v1.1) fun M2 => some ((0, M2, v1.2.2)))) (fun e1 => if e1.1 = "java/lang/IllegalArgumentException" then (some ((1, e1.2.1, e1.2.2))) else (if e1.1 = "java/lang/IllegalStateException" then (some ((2, e1.2.1, e1.2.2))) else (none))) q1
theorem xL_addThermal {l : Launch} {G : gE} {sz : Nat} {S Ln : Nat → Nat} {M : gM} {R : gR} (hl : l.stackTraces = false) {x0 : Nat} (hp0 : S x0 = 12) {x1 : Int} (hp1 : (-2147483648 ≤ x1 ∧ x1 < 2147483648)) {x2 : Int} (hp2 : (-2147483648 ≤ x2 ∧ x2 < 2147483648)) {x3 : Int} (hp3 : (-2147483648 ≤ x3 ∧ x3 < 2147483648)) {x4 : Nat} (hp4 : S x4 = 21) {r : Int × gM × gR} (h : fL_addThermal G.2.2.2.2 S Ln R M x0 x1 x2 x3 x4 = some r) : CtW l G yL_addThermal cL_addThermal 6 (some .int) [(0, 12, 15, 13), (0, 12, 19, 15)] 10 1 6 [.ref x0, .int (iI x1), .int (iI x2), .int (iI x3), .ref x4] sz S Ln M R (poW r.1 S Ln S Ln r.2.1 r.2.2) := by
  refine jj_startW (own := RL) (lv0 := [(0, .ref x0), (1, .int (iI x1)), (2, .int (iI x2)), (3, .int (iI x3)), (4, .ref x4)]) hl (by decide +kernel) rfl rfl rfl (c_le rfl) (fun C hCl hC hT => ?_)
  unfold fL_addThermal at h
  refine jj_aload hC dL_addThermal_0 4 rfl ?_
  refine jj_iconst hC dL_addThermal_2 ?_
  refine jj_aload_n hC dL_addThermal_3 rfl 0 rfl ?_
  refine jj_iload_n hC dL_addThermal_4 rfl 1 rfl ?_
  refine jj_iload_n hC dL_addThermal_5 rfl 2 rfl ?_
  refine jj_iload_n hC dL_addThermal_6 rfl 3 rfl ?_
  obtain ⟨q1, hq1, h⟩ := bd_e h
  refine jj_invV hC mvX9_addThermal wd1110 wd1111 wd1109 hp0 (by decide) rfl (xX9_addThermal (OKC.tr hC) hp0 hp1 hp2 hp3 hq1) rfl rfl (c_le rfl) (c_le rfl) (c_le rfl) (c_le rfl) dL_addThermal_7 (fun E1 sz1 S1 Ln1 M1 R1 hX1 => by
    obtain ⟨e1, he1, hz0, hz1, hz2, hz3, hz4⟩ := hX1
    subst he1
    replace h := el_r h
    rw [hz0, hz1, hz2, hz3, hz4]
    by_cases hE1_0 : e1.1 = "java/lang/IllegalArgumentException"
    · replace h := (if_pos hE1_0).symm.trans h
      rw [hE1_0]
      refine jj_catch hC hT (h1 := []) (h2 := [(0, 12, 19, 15)]) rfl (fun z hz => nomatch hz) (by decide) (by decide) wd974 wd775 (fun qx1 => ?_)
      refine jj_astore (lv' := [(5, .ref qx1), (0, .ref x0), (1, .int (iI x1)), (2, .int (iI x2)), (3, .int (iI x3)), (4, .ref x4)]) hC dL_addThermal_15 (by decide) rfl ?_
      refine jj_iconst hC dL_addThermal_17 ?_
      cases h
      exact jj_iret hC (c_le rfl) (c_le rfl) dL_addThermal_18 ⟨rfl, (show (-2147483648 ≤ (1 : Int) ∧ (1 : Int) < 2147483648) from by decide), ex2_r, rfl, rfl, rfl, rfl⟩
    · replace h := (if_neg hE1_0).symm.trans h
      by_cases hE1_1 : e1.1 = "java/lang/IllegalStateException"
      · replace h := (if_pos hE1_1).symm.trans h
        rw [hE1_1]
        refine jj_catch hC hT (h1 := [(0, 12, 15, 13)]) (h2 := []) rfl (List.forall_mem_cons.mpr ⟨⟨"java/lang/IllegalArgumentException", wd974, (by decide +kernel), (by decide)⟩, fun z hz => nomatch hz⟩) (by decide) (by decide) wd975 wd1018 (fun qx1 => ?_)
        refine jj_astore (lv' := [(5, .ref qx1), (0, .ref x0), (1, .int (iI x1)), (2, .int (iI x2)), (3, .int (iI x3)), (4, .ref x4)]) hC dL_addThermal_19 (by decide) rfl ?_
        refine jj_iconst hC dL_addThermal_21 ?_
        cases h
        exact jj_iret hC (c_le rfl) (c_le rfl) dL_addThermal_22 ⟨rfl, (show (-2147483648 ≤ (2 : Int) ∧ (2 : Int) < 2147483648) from by decide), ex2_r, rfl, rfl, rfl, rfl⟩
      · replace h := (if_neg hE1_1).symm.trans h
        cases h) (poS_k (fun v1 hv1 => po_kI (fun hr1 => ?_)))
  subst hv1
  replace h := el_l h
  refine jj_i2l hC dL_addThermal_10 hr1 ?_
  obtain ⟨⟨ha2, hb2⟩, h⟩ := gd_e h
  obtain ⟨M2, hM2, h⟩ := nam_e h
  refine jj_last hC hp4 ha2 hb2 (r_il hr1) dL_addThermal_11 (jj_M hM2 ?_)
  refine jj_goto (tgt := 23) hC dL_addThermal_12 rfl ?_
  refine jj_iconst hC dL_addThermal_23 ?_
  cases h
  exact jj_iret hC (c_le rfl) (c_le rfl) dL_addThermal_24 ⟨rfl, (show (-2147483648 ≤ (0 : Int) ∧ (0 : Int) < 2147483648) from by decide), ex2_r, rfl, rfl, rfl, rfl⟩
def fL_setCloudBase (ad S Ln : Nat → Nat) (R : gR) (M : gM) (x0 : Nat) (x1 : Int) (x2 : Nat) : Option (Int × gM × gR) :=
  bd (fX9_setCloudBase ad S Ln R M x0 x1) fun q1 => Sum.elim (fun v1 => gd ((0 : Int) ≤ 0 ∧ 0 < (Ln x2 : Int)) (nam (wr v1.2.1 x2 0 v1.1) fun M2 => some ((0, M2, v1.2.2)))) (fun e1 => if e1.1 = "java/lang/IllegalArgumentException" then (some ((1, e1.2.1, e1.2.2))) else (none)) q1
theorem xL_setCloudBase {l : Launch} {G : gE} {sz : Nat} {S Ln : Nat → Nat} {M : gM} {R : gR} (hl : l.stackTraces = false) {x0 : Nat} (hp0 : S x0 = 12) {x1 : Int} (hp1 : (-2147483648 ≤ x1 ∧ x1 < 2147483648)) {x2 : Nat} (hp2 : S x2 = 21) {r : Int × gM × gR} (h : fL_setCloudBase G.2.2.2.2 S Ln R M x0 x1 x2 = some r) : CtW l G yL_setCloudBase cL_setCloudBase 4 (some .int) [(0, 9, 12, 13)] 9 1 6 [.ref x0, .int (iI x1), .ref x2] sz S Ln M R (poW r.1 S Ln S Ln r.2.1 r.2.2) := by
  refine jj_startW (own := RL) (lv0 := [(0, .ref x0), (1, .int (iI x1)), (2, .ref x2)]) hl (by decide +kernel) rfl rfl rfl (c_le rfl) (fun C hCl hC hT => ?_)
  unfold fL_setCloudBase at h
  refine jj_aload_n hC dL_setCloudBase_0 rfl 2 rfl ?_
  refine jj_iconst hC dL_setCloudBase_1 ?_
  refine jj_aload_n hC dL_setCloudBase_2 rfl 0 rfl ?_
  refine jj_iload_n hC dL_setCloudBase_3 rfl 1 rfl ?_
  obtain ⟨q1, hq1, h⟩ := bd_e h
  refine jj_invV hC mvX9_setCloudBase wd1125 wd1126 wd1124 hp0 (by decide) rfl (xX9_setCloudBase (OKC.tr hC) hp0 hp1 hq1) rfl rfl (c_le rfl) (c_le rfl) (c_le rfl) (c_le rfl) dL_setCloudBase_4 (fun E1 sz1 S1 Ln1 M1 R1 hX1 => by
    obtain ⟨e1, he1, hz0, hz1, hz2, hz3, hz4⟩ := hX1
    subst he1
    replace h := el_r h
    rw [hz0, hz1, hz2, hz3, hz4]
    by_cases hE1_0 : e1.1 = "java/lang/IllegalArgumentException"
    · replace h := (if_pos hE1_0).symm.trans h
      rw [hE1_0]
      refine jj_catch hC hT (h1 := []) (h2 := []) rfl (fun z hz => nomatch hz) (by decide) (by decide) wd974 wd775 (fun qx1 => ?_)
      refine jj_astore_n (lv' := [(3, .ref qx1), (0, .ref x0), (1, .int (iI x1)), (2, .ref x2)]) hC dL_setCloudBase_12 rfl (by decide) rfl ?_
      refine jj_iconst hC dL_setCloudBase_13 ?_
      cases h
      exact jj_iret hC (c_le rfl) (c_le rfl) dL_setCloudBase_14 ⟨rfl, (show (-2147483648 ≤ (1 : Int) ∧ (1 : Int) < 2147483648) from by decide), ex2_r, rfl, rfl, rfl, rfl⟩
    · replace h := (if_neg hE1_0).symm.trans h
      cases h) (poS_k (fun v1 hv1 => po_kI (fun hr1 => ?_)))
  subst hv1
  replace h := el_l h
  refine jj_i2l hC dL_setCloudBase_7 hr1 ?_
  obtain ⟨⟨ha2, hb2⟩, h⟩ := gd_e h
  obtain ⟨M2, hM2, h⟩ := nam_e h
  refine jj_last hC hp2 ha2 hb2 (r_il hr1) dL_setCloudBase_8 (jj_M hM2 ?_)
  refine jj_goto (tgt := 15) hC dL_setCloudBase_9 rfl ?_
  refine jj_iconst hC dL_setCloudBase_15 ?_
  cases h
  exact jj_iret hC (c_le rfl) (c_le rfl) dL_setCloudBase_16 ⟨rfl, (show (-2147483648 ≤ (0 : Int) ∧ (0 : Int) < 2147483648) from by decide), ex2_r, rfl, rfl, rfl, rfl⟩
def fL_addArea (ad S Ln : Nat → Nat) (R : gR) (M : gM) (x0 : Nat) (x1 : Int) (x2 : Int) (x3 : Int) (x4 : Int) (x5 : Nat) : Option (Int × gM × gR) :=
  bd (fX9_addArea ad S Ln R M x0 x1 x2 x3 x4) fun q1 => Sum.elim (fun v1 => gd ((0 : Int) ≤ 0 ∧ 0 < (Ln x5 : Int)) (nam (wr v1.2.1 x5 0 v1.1) fun M2 => some ((0, M2, v1.2.2)))) (fun e1 => if e1.1 = "java/lang/IllegalArgumentException" then (some ((1, e1.2.1, e1.2.2))) else (if e1.1 = "java/lang/IllegalStateException" then (some ((2, e1.2.1, e1.2.2))) else (none))) q1
theorem xL_addArea {l : Launch} {G : gE} {sz : Nat} {S Ln : Nat → Nat} {M : gM} {R : gR} (hl : l.stackTraces = false) {x0 : Nat} (hp0 : S x0 = 12) {x1 : Int} (hp1 : (-2147483648 ≤ x1 ∧ x1 < 2147483648)) {x2 : Int} (hp2 : (-2147483648 ≤ x2 ∧ x2 < 2147483648)) {x3 : Int} (hp3 : (-2147483648 ≤ x3 ∧ x3 < 2147483648)) {x4 : Int} (hp4 : (-2147483648 ≤ x4 ∧ x4 < 2147483648)) {x5 : Nat} (hp5 : S x5 = 21) {r : Int × gM × gR} (h : fL_addArea G.2.2.2.2 S Ln R M x0 x1 x2 x3 x4 x5 = some r) : CtW l G yL_addArea cL_addArea 7 (some .int) [(0, 14, 17, 13), (0, 14, 21, 15)] 10 1 6 [.ref x0, .int (iI x1), .int (iI x2), .int (iI x3), .int (iI x4), .ref x5] sz S Ln M R (poW r.1 S Ln S Ln r.2.1 r.2.2) := by
  refine jj_startW (own := RL) (lv0 := [(0, .ref x0), (1, .int (iI x1)), (2, .int (iI x2)), (3, .int (iI x3)), (4, .int (iI x4)), (5, .ref x5)]) hl (by decide +kernel) rfl rfl rfl (c_le rfl) (fun C hCl hC hT => ?_)
  unfold fL_addArea at h
  refine jj_aload hC dL_addArea_0 5 rfl ?_
  refine jj_iconst hC dL_addArea_2 ?_
  refine jj_aload_n hC dL_addArea_3 rfl 0 rfl ?_
  refine jj_iload_n hC dL_addArea_4 rfl 1 rfl ?_
  refine jj_iload_n hC dL_addArea_5 rfl 2 rfl ?_
  refine jj_iload_n hC dL_addArea_6 rfl 3 rfl ?_
  refine jj_iload hC dL_addArea_7 4 rfl ?_
  obtain ⟨q1, hq1, h⟩ := bd_e h
  refine jj_invV hC mvX9_addArea wd1133 wd1134 wd1132 hp0 (by decide) rfl (xX9_addArea (OKC.tr hC) hp0 hp1 hp2 hp3 hp4 hq1) rfl rfl (c_le rfl) (c_le rfl) (c_le rfl) (c_le rfl) dL_addArea_9 (fun E1 sz1 S1 Ln1 M1 R1 hX1 => by
    obtain ⟨e1, he1, hz0, hz1, hz2, hz3, hz4⟩ := hX1
    subst he1
    replace h := el_r h
    rw [hz0, hz1, hz2, hz3, hz4]
    by_cases hE1_0 : e1.1 = "java/lang/IllegalArgumentException"
    · replace h := (if_pos hE1_0).symm.trans h
      rw [hE1_0]
      refine jj_catch hC hT (h1 := []) (h2 := [(0, 14, 21, 15)]) rfl (fun z hz => nomatch hz) (by decide) (by decide) wd974 wd775 (fun qx1 => ?_)
      refine jj_astore (lv' := [(6, .ref qx1), (0, .ref x0), (1, .int (iI x1)), (2, .int (iI x2)), (3, .int (iI x3)), (4, .int (iI x4)), (5, .ref x5)]) hC dL_addArea_17 (by decide) rfl ?_
      refine jj_iconst hC dL_addArea_19 ?_
      cases h
      exact jj_iret hC (c_le rfl) (c_le rfl) dL_addArea_20 ⟨rfl, (show (-2147483648 ≤ (1 : Int) ∧ (1 : Int) < 2147483648) from by decide), ex2_r, rfl, rfl, rfl, rfl⟩
    · replace h := (if_neg hE1_0).symm.trans h
      by_cases hE1_1 : e1.1 = "java/lang/IllegalStateException"
      · replace h := (if_pos hE1_1).symm.trans h
        rw [hE1_1]
        refine jj_catch hC hT (h1 := [(0, 14, 17, 13)]) (h2 := []) rfl (List.forall_mem_cons.mpr ⟨⟨"java/lang/IllegalArgumentException", wd974, (by decide +kernel), (by decide)⟩, fun z hz => nomatch hz⟩) (by decide) (by decide) wd975 wd1018 (fun qx1 => ?_)
        refine jj_astore (lv' := [(6, .ref qx1), (0, .ref x0), (1, .int (iI x1)), (2, .int (iI x2)), (3, .int (iI x3)), (4, .int (iI x4)), (5, .ref x5)]) hC dL_addArea_21 (by decide) rfl ?_
        refine jj_iconst hC dL_addArea_23 ?_
        cases h
        exact jj_iret hC (c_le rfl) (c_le rfl) dL_addArea_24 ⟨rfl, (show (-2147483648 ≤ (2 : Int) ∧ (2 : Int) < 2147483648) from by decide), ex2_r, rfl, rfl, rfl, rfl⟩
      · replace h := (if_neg hE1_1).symm.trans h
        cases h) (poS_k (fun v1 hv1 => po_kI (fun hr1 => ?_)))
  subst hv1
  replace h := el_l h
  refine jj_i2l hC dL_addArea_12 hr1 ?_
  obtain ⟨⟨ha2, hb2⟩, h⟩ := gd_e h
  obtain ⟨M2, hM2, h⟩ := nam_e h
  refine jj_last hC hp5 ha2 hb2 (r_il hr1) dL_addArea_13 (jj_M hM2 ?_)
  refine jj_goto (tgt := 25) hC dL_addArea_14 rfl ?_
  refine jj_iconst hC dL_addArea_25 ?_
  cases h
  exact jj_iret hC (c_le rfl) (c_le rfl) dL_addArea_26 ⟨rfl, (show (-2147483648 ≤ (0 : Int) ∧ (0 : Int) < 2147483648) from by decide), ex2_r, rfl, rfl, rfl, rfl⟩
def fL_addPilot (ad S Ln : Nat → Nat) (R : gR) (M : gM) (x0 : Nat) (x1 : Int) (x2 : Nat) : Option (Int × gM × gR) :=
  bd (fX9_addPilot ad S Ln R M x0 x1) fun q1 => Sum.elim (fun v1 => gd ((0 : Int) ≤ 0 ∧ 0 < (Ln x2 : Int)) (nam (wr v1.2.1 x2 0 v1.1) fun M2 => some ((0, M2, v1.2.2)))) (fun e1 => if e1.1 = "java/lang/IllegalArgumentException" then (some ((1, e1.2.1, e1.2.2))) else (if e1.1 = "java/lang/IllegalStateException" then (some ((2, e1.2.1, e1.2.2))) else (none))) q1
theorem xL_addPilot {l : Launch} {G : gE} {sz : Nat} {S Ln : Nat → Nat} {M : gM} {R : gR} (hl : l.stackTraces = false) {x0 : Nat} (hp0 : S x0 = 12) {x1 : Int} (hp1 : (-2147483648 ≤ x1 ∧ x1 < 2147483648)) {x2 : Nat} (hp2 : S x2 = 21) {r : Int × gM × gR} (h : fL_addPilot G.2.2.2.2 S Ln R M x0 x1 x2 = some r) : CtW l G yL_addPilot cL_addPilot 4 (some .int) [(0, 9, 12, 13), (0, 9, 15, 15)] 10 1 6 [.ref x0, .int (iI x1), .ref x2] sz S Ln M R (poW r.1 S Ln S Ln r.2.1 r.2.2) := by
  refine jj_startW (own := RL) (lv0 := [(0, .ref x0), (1, .int (iI x1)), (2, .ref x2)]) hl (by decide +kernel) rfl rfl rfl (c_le rfl) (fun C hCl hC hT => ?_)
  unfold fL_addPilot at h
  refine jj_aload_n hC dL_addPilot_0 rfl 2 rfl ?_
  refine jj_iconst hC dL_addPilot_1 ?_
  refine jj_aload_n hC dL_addPilot_2 rfl 0 rfl ?_
  refine jj_iload_n hC dL_addPilot_3 rfl 1 rfl ?_
  obtain ⟨q1, hq1, h⟩ := bd_e h
  refine jj_invV hC mvX9_addPilot wd1148 wd1149 wd1147 hp0 (by decide) rfl (xX9_addPilot (OKC.tr hC) hp0 hp1 hq1) rfl rfl (c_le rfl) (c_le rfl) (c_le rfl) (c_le rfl) dL_addPilot_4 (fun E1 sz1 S1 Ln1 M1 R1 hX1 => by
    obtain ⟨e1, he1, hz0, hz1, hz2, hz3, hz4⟩ := hX1
    subst he1
    replace h := el_r h
    rw [hz0, hz1, hz2, hz3, hz4]
    by_cases hE1_0 : e1.1 = "java/lang/IllegalArgumentException"
    · replace h := (if_pos hE1_0).symm.trans h
      rw [hE1_0]
      refine jj_catch hC hT (h1 := []) (h2 := [(0, 9, 15, 15)]) rfl (fun z hz => nomatch hz) (by decide) (by decide) wd974 wd775 (fun qx1 => ?_)
      refine jj_astore_n (lv' := [(3, .ref qx1), (0, .ref x0), (1, .int (iI x1)), (2, .ref x2)]) hC dL_addPilot_12 rfl (by decide) rfl ?_
      refine jj_iconst hC dL_addPilot_13 ?_
      cases h
      exact jj_iret hC (c_le rfl) (c_le rfl) dL_addPilot_14 ⟨rfl, (show (-2147483648 ≤ (1 : Int) ∧ (1 : Int) < 2147483648) from by decide), ex2_r, rfl, rfl, rfl, rfl⟩
    · replace h := (if_neg hE1_0).symm.trans h
      by_cases hE1_1 : e1.1 = "java/lang/IllegalStateException"
      · replace h := (if_pos hE1_1).symm.trans h
        rw [hE1_1]
        refine jj_catch hC hT (h1 := [(0, 9, 12, 13)]) (h2 := []) rfl (List.forall_mem_cons.mpr ⟨⟨"java/lang/IllegalArgumentException", wd974, (by decide +kernel), (by decide)⟩, fun z hz => nomatch hz⟩) (by decide) (by decide) wd975 wd1018 (fun qx1 => ?_)
        refine jj_astore_n (lv' := [(3, .ref qx1), (0, .ref x0), (1, .int (iI x1)), (2, .ref x2)]) hC dL_addPilot_15 rfl (by decide) rfl ?_
        refine jj_iconst hC dL_addPilot_16 ?_
        cases h
        exact jj_iret hC (c_le rfl) (c_le rfl) dL_addPilot_17 ⟨rfl, (show (-2147483648 ≤ (2 : Int) ∧ (2 : Int) < 2147483648) from by decide), ex2_r, rfl, rfl, rfl, rfl⟩
      · replace h := (if_neg hE1_1).symm.trans h
        cases h) (poS_k (fun v1 hv1 => po_kI (fun hr1 => ?_)))
  subst hv1
  replace h := el_l h
  refine jj_i2l hC dL_addPilot_7 hr1 ?_
  obtain ⟨⟨ha2, hb2⟩, h⟩ := gd_e h
  obtain ⟨M2, hM2, h⟩ := nam_e h
  refine jj_last hC hp2 ha2 hb2 (r_il hr1) dL_addPilot_8 (jj_M hM2 ?_)
  refine jj_goto (tgt := 18) hC dL_addPilot_9 rfl ?_
  refine jj_iconst hC dL_addPilot_18 ?_
  cases h
  exact jj_iret hC (c_le rfl) (c_le rfl) dL_addPilot_19 ⟨rfl, (show (-2147483648 ≤ (0 : Int) ∧ (0 : Int) < 2147483648) from by decide), ex2_r, rfl, rfl, rfl, rfl⟩
def fL_launch (ad S Ln : Nat → Nat) (R : gR) (M : gM) (x0 : Nat) (x1 : Int) (x2 : Nat) : Option (Int × gM × gR) :=
  bd (fX9_launch ad S Ln R M x0 x1) fun q1 => Sum.elim (fun v1 => gd ((0 : Int) ≤ 0 ∧ 0 < (Ln x2 : Int)) (nam (wr v1.2.1 x2 0 v1.1) fun M2 => some ((0, M2, v1.2.2)))) (fun e1 => if e1.1 = "java/lang/IndexOutOfBoundsException" then (some ((1, e1.2.1, e1.2.2))) else (if e1.1 = "java/lang/IllegalStateException" then (some ((2, e1.2.1, e1.2.2))) else (if e1.1 = "java/lang/UnsupportedOperationException" then (some ((3, e1.2.1, e1.2.2))) else (none)))) q1
theorem xL_launch {l : Launch} {G : gE} {sz : Nat} {S Ln : Nat → Nat} {M : gM} {R : gR} (hl : l.stackTraces = false) {x0 : Nat} (hp0 : S x0 = 12) {x1 : Int} (hp1 : (-2147483648 ≤ x1 ∧ x1 < 2147483648)) {x2 : Nat} (hp2 : S x2 = 21) {r : Int × gM × gR} (h : fL_launch G.2.2.2.2 S Ln R M x0 x1 x2 = some r) : CtW l G yL_launch cL_launch 4 (some .int) [(0, 9, 12, 21), (0, 9, 15, 15), (0, 9, 18, 23)] 10 1 6 [.ref x0, .int (iI x1), .ref x2] sz S Ln M R (poW r.1 S Ln S Ln r.2.1 r.2.2) := by
  refine jj_startW (own := RL) (lv0 := [(0, .ref x0), (1, .int (iI x1)), (2, .ref x2)]) hl (by decide +kernel) rfl rfl rfl (c_le rfl) (fun C hCl hC hT => ?_)
  unfold fL_launch at h
  refine jj_aload_n hC dL_launch_0 rfl 2 rfl ?_
  refine jj_iconst hC dL_launch_1 ?_
  refine jj_aload_n hC dL_launch_2 rfl 0 rfl ?_
  refine jj_iload_n hC dL_launch_3 rfl 1 rfl ?_
  obtain ⟨q1, hq1, h⟩ := bd_e h
  refine jj_invV hC mvX9_launch wd1171 wd1172 wd1170 hp0 (by decide) rfl (xX9_launch (OKC.tr hC) hp0 hp1 hq1) rfl rfl (c_le rfl) (c_le rfl) (c_le rfl) (c_le rfl) dL_launch_4 (fun E1 sz1 S1 Ln1 M1 R1 hX1 => by
    obtain ⟨e1, he1, hz0, hz1, hz2, hz3, hz4⟩ := hX1
    subst he1
    replace h := el_r h
    rw [hz0, hz1, hz2, hz3, hz4]
    by_cases hE1_0 : e1.1 = "java/lang/IndexOutOfBoundsException"
    · replace h := (if_pos hE1_0).symm.trans h
      rw [hE1_0]
      refine jj_catch hC hT (h1 := []) (h2 := [(0, 9, 15, 15), (0, 9, 18, 23)]) rfl (fun z hz => nomatch hz) (by decide) (by decide) wd1066 wd1000 (fun qx1 => ?_)
      refine jj_astore_n (lv' := [(3, .ref qx1), (0, .ref x0), (1, .int (iI x1)), (2, .ref x2)]) hC dL_launch_12 rfl (by decide) rfl ?_
      refine jj_iconst hC dL_launch_13 ?_
      cases h
      exact jj_iret hC (c_le rfl) (c_le rfl) dL_launch_14 ⟨rfl, (show (-2147483648 ≤ (1 : Int) ∧ (1 : Int) < 2147483648) from by decide), ex2_r, rfl, rfl, rfl, rfl⟩
    · replace h := (if_neg hE1_0).symm.trans h
      by_cases hE1_1 : e1.1 = "java/lang/IllegalStateException"
      · replace h := (if_pos hE1_1).symm.trans h
        rw [hE1_1]
        refine jj_catch hC hT (h1 := [(0, 9, 12, 21)]) (h2 := [(0, 9, 18, 23)]) rfl (List.forall_mem_cons.mpr ⟨⟨"java/lang/IndexOutOfBoundsException", wd1066, (by decide +kernel), (by decide)⟩, fun z hz => nomatch hz⟩) (by decide) (by decide) wd975 wd1018 (fun qx1 => ?_)
        refine jj_astore_n (lv' := [(3, .ref qx1), (0, .ref x0), (1, .int (iI x1)), (2, .ref x2)]) hC dL_launch_15 rfl (by decide) rfl ?_
        refine jj_iconst hC dL_launch_16 ?_
        cases h
        exact jj_iret hC (c_le rfl) (c_le rfl) dL_launch_17 ⟨rfl, (show (-2147483648 ≤ (2 : Int) ∧ (2 : Int) < 2147483648) from by decide), ex2_r, rfl, rfl, rfl, rfl⟩
      · replace h := (if_neg hE1_1).symm.trans h
        by_cases hE1_2 : e1.1 = "java/lang/UnsupportedOperationException"
        · replace h := (if_pos hE1_2).symm.trans h
          rw [hE1_2]
          refine jj_catch hC hT (h1 := [(0, 9, 12, 21), (0, 9, 15, 15)]) (h2 := []) rfl (List.forall_mem_cons.mpr ⟨⟨"java/lang/IndexOutOfBoundsException", wd1066, (by decide +kernel), (by decide)⟩, List.forall_mem_cons.mpr ⟨⟨"java/lang/IllegalStateException", wd975, (by decide +kernel), (by decide)⟩, fun z hz => nomatch hz⟩⟩) (by decide) (by decide) wd1069 wd1036 (fun qx1 => ?_)
          refine jj_astore_n (lv' := [(3, .ref qx1), (0, .ref x0), (1, .int (iI x1)), (2, .ref x2)]) hC dL_launch_18 rfl (by decide) rfl ?_
          refine jj_iconst hC dL_launch_19 ?_
          cases h
          exact jj_iret hC (c_le rfl) (c_le rfl) dL_launch_20 ⟨rfl, (show (-2147483648 ≤ (3 : Int) ∧ (3 : Int) < 2147483648) from by decide), ex2_r, rfl, rfl, rfl, rfl⟩
        · replace h := (if_neg hE1_2).symm.trans h
          cases h) (poS_k (fun v1 hv1 => po_kI (fun hr1 => ?_)))
  subst hv1
  replace h := el_l h
  refine jj_i2l hC dL_launch_7 hr1 ?_
  obtain ⟨⟨ha2, hb2⟩, h⟩ := gd_e h
  obtain ⟨M2, hM2, h⟩ := nam_e h
  refine jj_last hC hp2 ha2 hb2 (r_il hr1) dL_launch_8 (jj_M hM2 ?_)
  refine jj_goto (tgt := 21) hC dL_launch_9 rfl ?_
  refine jj_iconst hC dL_launch_21 ?_
  cases h
  exact jj_iret hC (c_le rfl) (c_le rfl) dL_launch_22 ⟨rfl, (show (-2147483648 ≤ (0 : Int) ∧ (0 : Int) < 2147483648) from by decide), ex2_r, rfl, rfl, rfl, rfl⟩
def fL_fly (ad S Ln : Nat → Nat) (R : gR) (M : gM) (x0 : Nat) (x1 : Int) (x2 : Int) (x3 : Int) (x4 : Nat) : Option (Int × gM × gR) :=
  bd (fX9_fly ad S Ln R M x0 x1 x2 x3) fun q1 => Sum.elim (fun v1 => gd ((0 : Int) ≤ 0 ∧ 0 < (Ln x4 : Int)) (nam (wr v1.2.1 x4 0 v1.1) fun M2 => some ((0, M2, v1.2.2)))) (fun e1 => if e1.1 = "java/lang/IndexOutOfBoundsException" then (some ((1, e1.2.1, e1.2.2))) else (if e1.1 = "java/lang/IllegalArgumentException" then (some ((2, e1.2.1, e1.2.2))) else (if e1.1 = "java/lang/IllegalStateException" then (some ((3, e1.2.1, e1.2.2))) else (if e1.1 = "java/lang/UnsupportedOperationException" then (some ((4, e1.2.1, e1.2.2))) else (none))))) q1
theorem xL_fly {l : Launch} {G : gE} {sz : Nat} {S Ln : Nat → Nat} {M : gM} {R : gR} (hl : l.stackTraces = false) {x0 : Nat} (hp0 : S x0 = 12) {x1 : Int} (hp1 : (-2147483648 ≤ x1 ∧ x1 < 2147483648)) {x2 : Int} (hp2 : (-2147483648 ≤ x2 ∧ x2 < 2147483648)) {x3 : Int} (hp3 : (-2147483648 ≤ x3 ∧ x3 < 2147483648)) {x4 : Nat} (hp4 : S x4 = 21) {r : Int × gM × gR} (h : fL_fly G.2.2.2.2 S Ln R M x0 x1 x2 x3 x4 = some r) : CtW l G yL_fly cL_fly 6 (some .int) [(0, 12, 15, 21), (0, 12, 19, 13), (0, 12, 23, 15), (0, 12, 27, 23)] 10 1 6 [.ref x0, .int (iI x1), .int (iI x2), .int (iI x3), .ref x4] sz S Ln M R (poW r.1 S Ln S Ln r.2.1 r.2.2) := by
  refine jj_startW (own := RL) (lv0 := [(0, .ref x0), (1, .int (iI x1)), (2, .int (iI x2)), (3, .int (iI x3)), (4, .ref x4)]) hl (by decide +kernel) rfl rfl rfl (c_le rfl) (fun C hCl hC hT => ?_)
  unfold fL_fly at h
  refine jj_aload hC dL_fly_0 4 rfl ?_
  refine jj_iconst hC dL_fly_2 ?_
  refine jj_aload_n hC dL_fly_3 rfl 0 rfl ?_
  refine jj_iload_n hC dL_fly_4 rfl 1 rfl ?_
  refine jj_iload_n hC dL_fly_5 rfl 2 rfl ?_
  refine jj_iload_n hC dL_fly_6 rfl 3 rfl ?_
  obtain ⟨q1, hq1, h⟩ := bd_e h
  refine jj_invV hC mvX9_fly wd1196 wd1197 wd1195 hp0 (by decide) rfl (xX9_fly (OKC.tr hC) hp0 hp1 hp2 hp3 hq1) rfl rfl (c_le rfl) (c_le rfl) (c_le rfl) (c_le rfl) dL_fly_7 (fun E1 sz1 S1 Ln1 M1 R1 hX1 => by
    obtain ⟨e1, he1, hz0, hz1, hz2, hz3, hz4⟩ := hX1
    subst he1
    replace h := el_r h
    rw [hz0, hz1, hz2, hz3, hz4]
    by_cases hE1_0 : e1.1 = "java/lang/IndexOutOfBoundsException"
    · replace h := (if_pos hE1_0).symm.trans h
      rw [hE1_0]
      refine jj_catch hC hT (h1 := []) (h2 := [(0, 12, 19, 13), (0, 12, 23, 15), (0, 12, 27, 23)]) rfl (fun z hz => nomatch hz) (by decide) (by decide) wd1066 wd1000 (fun qx1 => ?_)
      refine jj_astore (lv' := [(5, .ref qx1), (0, .ref x0), (1, .int (iI x1)), (2, .int (iI x2)), (3, .int (iI x3)), (4, .ref x4)]) hC dL_fly_15 (by decide) rfl ?_
      refine jj_iconst hC dL_fly_17 ?_
      cases h
      exact jj_iret hC (c_le rfl) (c_le rfl) dL_fly_18 ⟨rfl, (show (-2147483648 ≤ (1 : Int) ∧ (1 : Int) < 2147483648) from by decide), ex2_r, rfl, rfl, rfl, rfl⟩
    · replace h := (if_neg hE1_0).symm.trans h
      by_cases hE1_1 : e1.1 = "java/lang/IllegalArgumentException"
      · replace h := (if_pos hE1_1).symm.trans h
        rw [hE1_1]
        refine jj_catch hC hT (h1 := [(0, 12, 15, 21)]) (h2 := [(0, 12, 23, 15), (0, 12, 27, 23)]) rfl (List.forall_mem_cons.mpr ⟨⟨"java/lang/IndexOutOfBoundsException", wd1066, (by decide +kernel), (by decide)⟩, fun z hz => nomatch hz⟩) (by decide) (by decide) wd974 wd775 (fun qx1 => ?_)
        refine jj_astore (lv' := [(5, .ref qx1), (0, .ref x0), (1, .int (iI x1)), (2, .int (iI x2)), (3, .int (iI x3)), (4, .ref x4)]) hC dL_fly_19 (by decide) rfl ?_
        refine jj_iconst hC dL_fly_21 ?_
        cases h
        exact jj_iret hC (c_le rfl) (c_le rfl) dL_fly_22 ⟨rfl, (show (-2147483648 ≤ (2 : Int) ∧ (2 : Int) < 2147483648) from by decide), ex2_r, rfl, rfl, rfl, rfl⟩
      · replace h := (if_neg hE1_1).symm.trans h
        by_cases hE1_2 : e1.1 = "java/lang/IllegalStateException"
        · replace h := (if_pos hE1_2).symm.trans h
          rw [hE1_2]
          refine jj_catch hC hT (h1 := [(0, 12, 15, 21), (0, 12, 19, 13)]) (h2 := [(0, 12, 27, 23)]) rfl (List.forall_mem_cons.mpr ⟨⟨"java/lang/IndexOutOfBoundsException", wd1066, (by decide +kernel), (by decide)⟩, List.forall_mem_cons.mpr ⟨⟨"java/lang/IllegalArgumentException", wd974, (by decide +kernel), (by decide)⟩, fun z hz => nomatch hz⟩⟩) (by decide) (by decide) wd975 wd1018 (fun qx1 => ?_)
          refine jj_astore (lv' := [(5, .ref qx1), (0, .ref x0), (1, .int (iI x1)), (2, .int (iI x2)), (3, .int (iI x3)), (4, .ref x4)]) hC dL_fly_23 (by decide) rfl ?_
          refine jj_iconst hC dL_fly_25 ?_
          cases h
          exact jj_iret hC (c_le rfl) (c_le rfl) dL_fly_26 ⟨rfl, (show (-2147483648 ≤ (3 : Int) ∧ (3 : Int) < 2147483648) from by decide), ex2_r, rfl, rfl, rfl, rfl⟩
        · replace h := (if_neg hE1_2).symm.trans h
          by_cases hE1_3 : e1.1 = "java/lang/UnsupportedOperationException"
          · replace h := (if_pos hE1_3).symm.trans h
            rw [hE1_3]
            refine jj_catch hC hT (h1 := [(0, 12, 15, 21), (0, 12, 19, 13), (0, 12, 23, 15)]) (h2 := []) rfl (List.forall_mem_cons.mpr ⟨⟨"java/lang/IndexOutOfBoundsException", wd1066, (by decide +kernel), (by decide)⟩, List.forall_mem_cons.mpr ⟨⟨"java/lang/IllegalArgumentException", wd974, (by decide +kernel), (by decide)⟩, List.forall_mem_cons.mpr ⟨⟨"java/lang/IllegalStateException", wd975, (by decide +kernel), (by decide)⟩, fun z hz => nomatch hz⟩⟩⟩) (by decide) (by decide) wd1069 wd1036 (fun qx1 => ?_)
            refine jj_astore (lv' := [(5, .ref qx1), (0, .ref x0), (1, .int (iI x1)), (2, .int (iI x2)), (3, .int (iI x3)), (4, .ref x4)]) hC dL_fly_27 (by decide) rfl ?_
            refine jj_iconst hC dL_fly_29 ?_
            cases h
            exact jj_iret hC (c_le rfl) (c_le rfl) dL_fly_30 ⟨rfl, (show (-2147483648 ≤ (4 : Int) ∧ (4 : Int) < 2147483648) from by decide), ex2_r, rfl, rfl, rfl, rfl⟩
          · replace h := (if_neg hE1_3).symm.trans h
            cases h) (poS_k (fun v1 hv1 => po_kI (fun hr1 => ?_)))
  subst hv1
  replace h := el_l h
  refine jj_i2l hC dL_fly_10 hr1 ?_
  obtain ⟨⟨ha2, hb2⟩, h⟩ := gd_e h
  obtain ⟨M2, hM2, h⟩ := nam_e h
  refine jj_last hC hp4 ha2 hb2 (r_il hr1) dL_fly_11 (jj_M hM2 ?_)
  refine jj_goto (tgt := 31) hC dL_fly_12 rfl ?_
  refine jj_iconst hC dL_fly_31 ?_
  cases h
  exact jj_iret hC (c_le rfl) (c_le rfl) dL_fly_32 ⟨rfl, (show (-2147483648 ≤ (0 : Int) ∧ (0 : Int) < 2147483648) from by decide), ex2_r, rfl, rfl, rfl, rfl⟩
def fL_climb (ad S Ln : Nat → Nat) (R : gR) (M : gM) (x0 : Nat) (x1 : Int) (x2 : Int) (x3 : Nat) : Option (Int × gM × gR) :=
  bd (fX9_climb ad S Ln R M x0 x1 x2) fun q1 => Sum.elim (fun v1 => gd ((0 : Int) ≤ 0 ∧ 0 < (Ln x3 : Int)) (nam (wr v1.2.1 x3 0 v1.1) fun M2 => some ((0, M2, v1.2.2)))) (fun e1 => if e1.1 = "java/lang/IndexOutOfBoundsException" then (some ((1, e1.2.1, e1.2.2))) else (if e1.1 = "java/lang/IllegalArgumentException" then (some ((2, e1.2.1, e1.2.2))) else (if e1.1 = "java/lang/IllegalStateException" then (some ((3, e1.2.1, e1.2.2))) else (if e1.1 = "java/lang/UnsupportedOperationException" then (some ((4, e1.2.1, e1.2.2))) else (none))))) q1
theorem xL_climb {l : Launch} {G : gE} {sz : Nat} {S Ln : Nat → Nat} {M : gM} {R : gR} (hl : l.stackTraces = false) {x0 : Nat} (hp0 : S x0 = 12) {x1 : Int} (hp1 : (-2147483648 ≤ x1 ∧ x1 < 2147483648)) {x2 : Int} (hp2 : (-2147483648 ≤ x2 ∧ x2 < 2147483648)) {x3 : Nat} (hp3 : S x3 = 21) {r : Int × gM × gR} (h : fL_climb G.2.2.2.2 S Ln R M x0 x1 x2 x3 = some r) : CtW l G yL_climb cL_climb 5 (some .int) [(0, 10, 13, 21), (0, 10, 17, 13), (0, 10, 21, 15), (0, 10, 25, 23)] 10 1 6 [.ref x0, .int (iI x1), .int (iI x2), .ref x3] sz S Ln M R (poW r.1 S Ln S Ln r.2.1 r.2.2) := by
  refine jj_startW (own := RL) (lv0 := [(0, .ref x0), (1, .int (iI x1)), (2, .int (iI x2)), (3, .ref x3)]) hl (by decide +kernel) rfl rfl rfl (c_le rfl) (fun C hCl hC hT => ?_)
  unfold fL_climb at h
  refine jj_aload_n hC dL_climb_0 rfl 3 rfl ?_
  refine jj_iconst hC dL_climb_1 ?_
  refine jj_aload_n hC dL_climb_2 rfl 0 rfl ?_
  refine jj_iload_n hC dL_climb_3 rfl 1 rfl ?_
  refine jj_iload_n hC dL_climb_4 rfl 2 rfl ?_
  obtain ⟨q1, hq1, h⟩ := bd_e h
  refine jj_invV hC mvX9_climb wd1213 wd1214 wd1212 hp0 (by decide) rfl (xX9_climb (OKC.tr hC) hp0 hp1 hp2 hq1) rfl rfl (c_le rfl) (c_le rfl) (c_le rfl) (c_le rfl) dL_climb_5 (fun E1 sz1 S1 Ln1 M1 R1 hX1 => by
    obtain ⟨e1, he1, hz0, hz1, hz2, hz3, hz4⟩ := hX1
    subst he1
    replace h := el_r h
    rw [hz0, hz1, hz2, hz3, hz4]
    by_cases hE1_0 : e1.1 = "java/lang/IndexOutOfBoundsException"
    · replace h := (if_pos hE1_0).symm.trans h
      rw [hE1_0]
      refine jj_catch hC hT (h1 := []) (h2 := [(0, 10, 17, 13), (0, 10, 21, 15), (0, 10, 25, 23)]) rfl (fun z hz => nomatch hz) (by decide) (by decide) wd1066 wd1000 (fun qx1 => ?_)
      refine jj_astore (lv' := [(4, .ref qx1), (0, .ref x0), (1, .int (iI x1)), (2, .int (iI x2)), (3, .ref x3)]) hC dL_climb_13 (by decide) rfl ?_
      refine jj_iconst hC dL_climb_15 ?_
      cases h
      exact jj_iret hC (c_le rfl) (c_le rfl) dL_climb_16 ⟨rfl, (show (-2147483648 ≤ (1 : Int) ∧ (1 : Int) < 2147483648) from by decide), ex2_r, rfl, rfl, rfl, rfl⟩
    · replace h := (if_neg hE1_0).symm.trans h
      by_cases hE1_1 : e1.1 = "java/lang/IllegalArgumentException"
      · replace h := (if_pos hE1_1).symm.trans h
        rw [hE1_1]
        refine jj_catch hC hT (h1 := [(0, 10, 13, 21)]) (h2 := [(0, 10, 21, 15), (0, 10, 25, 23)]) rfl (List.forall_mem_cons.mpr ⟨⟨"java/lang/IndexOutOfBoundsException", wd1066, (by decide +kernel), (by decide)⟩, fun z hz => nomatch hz⟩) (by decide) (by decide) wd974 wd775 (fun qx1 => ?_)
        refine jj_astore (lv' := [(4, .ref qx1), (0, .ref x0), (1, .int (iI x1)), (2, .int (iI x2)), (3, .ref x3)]) hC dL_climb_17 (by decide) rfl ?_
        refine jj_iconst hC dL_climb_19 ?_
        cases h
        exact jj_iret hC (c_le rfl) (c_le rfl) dL_climb_20 ⟨rfl, (show (-2147483648 ≤ (2 : Int) ∧ (2 : Int) < 2147483648) from by decide), ex2_r, rfl, rfl, rfl, rfl⟩
      · replace h := (if_neg hE1_1).symm.trans h
        by_cases hE1_2 : e1.1 = "java/lang/IllegalStateException"
        · replace h := (if_pos hE1_2).symm.trans h
          rw [hE1_2]
          refine jj_catch hC hT (h1 := [(0, 10, 13, 21), (0, 10, 17, 13)]) (h2 := [(0, 10, 25, 23)]) rfl (List.forall_mem_cons.mpr ⟨⟨"java/lang/IndexOutOfBoundsException", wd1066, (by decide +kernel), (by decide)⟩, List.forall_mem_cons.mpr ⟨⟨"java/lang/IllegalArgumentException", wd974, (by decide +kernel), (by decide)⟩, fun z hz => nomatch hz⟩⟩) (by decide) (by decide) wd975 wd1018 (fun qx1 => ?_)
          refine jj_astore (lv' := [(4, .ref qx1), (0, .ref x0), (1, .int (iI x1)), (2, .int (iI x2)), (3, .ref x3)]) hC dL_climb_21 (by decide) rfl ?_
          refine jj_iconst hC dL_climb_23 ?_
          cases h
          exact jj_iret hC (c_le rfl) (c_le rfl) dL_climb_24 ⟨rfl, (show (-2147483648 ≤ (3 : Int) ∧ (3 : Int) < 2147483648) from by decide), ex2_r, rfl, rfl, rfl, rfl⟩
        · replace h := (if_neg hE1_2).symm.trans h
          by_cases hE1_3 : e1.1 = "java/lang/UnsupportedOperationException"
          · replace h := (if_pos hE1_3).symm.trans h
            rw [hE1_3]
            refine jj_catch hC hT (h1 := [(0, 10, 13, 21), (0, 10, 17, 13), (0, 10, 21, 15)]) (h2 := []) rfl (List.forall_mem_cons.mpr ⟨⟨"java/lang/IndexOutOfBoundsException", wd1066, (by decide +kernel), (by decide)⟩, List.forall_mem_cons.mpr ⟨⟨"java/lang/IllegalArgumentException", wd974, (by decide +kernel), (by decide)⟩, List.forall_mem_cons.mpr ⟨⟨"java/lang/IllegalStateException", wd975, (by decide +kernel), (by decide)⟩, fun z hz => nomatch hz⟩⟩⟩) (by decide) (by decide) wd1069 wd1036 (fun qx1 => ?_)
            refine jj_astore (lv' := [(4, .ref qx1), (0, .ref x0), (1, .int (iI x1)), (2, .int (iI x2)), (3, .ref x3)]) hC dL_climb_25 (by decide) rfl ?_
            refine jj_iconst hC dL_climb_27 ?_
            cases h
            exact jj_iret hC (c_le rfl) (c_le rfl) dL_climb_28 ⟨rfl, (show (-2147483648 ≤ (4 : Int) ∧ (4 : Int) < 2147483648) from by decide), ex2_r, rfl, rfl, rfl, rfl⟩
          · replace h := (if_neg hE1_3).symm.trans h
            cases h) (poS_k (fun v1 hv1 => po_kI (fun hr1 => ?_)))
  subst hv1
  replace h := el_l h
  refine jj_i2l hC dL_climb_8 hr1 ?_
  obtain ⟨⟨ha2, hb2⟩, h⟩ := gd_e h
  obtain ⟨M2, hM2, h⟩ := nam_e h
  refine jj_last hC hp3 ha2 hb2 (r_il hr1) dL_climb_9 (jj_M hM2 ?_)
  refine jj_goto (tgt := 29) hC dL_climb_10 rfl ?_
  refine jj_iconst hC dL_climb_29 ?_
  cases h
  exact jj_iret hC (c_le rfl) (c_le rfl) dL_climb_30 ⟨rfl, (show (-2147483648 ≤ (0 : Int) ∧ (0 : Int) < 2147483648) from by decide), ex2_r, rfl, rfl, rfl, rfl⟩
def fL_endDay (ad S Ln : Nat → Nat) (R : gR) (M : gM) (x0 : Nat) (x1 : Nat) : Option (Int × gM × gR) :=
  bd (fX9_endDay ad S Ln R M x0) fun q1 => Sum.elim (fun v1 => gd ((0 : Int) ≤ 0 ∧ 0 < (Ln x1 : Int)) (nam (wr v1.2.1 x1 0 v1.1) fun M2 => some ((0, M2, v1.2.2)))) (fun e1 => if e1.1 = "java/lang/IllegalStateException" then (some ((1, e1.2.1, e1.2.2))) else (none)) q1
theorem xL_endDay {l : Launch} {G : gE} {sz : Nat} {S Ln : Nat → Nat} {M : gM} {R : gR} (hl : l.stackTraces = false) {x0 : Nat} (hp0 : S x0 = 12) {x1 : Nat} (hp1 : S x1 = 21) {r : Int × gM × gR} (h : fL_endDay G.2.2.2.2 S Ln R M x0 x1 = some r) : CtW l G yL_endDay cL_endDay 3 (some .int) [(0, 8, 11, 15)] 10 1 6 [.ref x0, .ref x1] sz S Ln M R (poW r.1 S Ln S Ln r.2.1 r.2.2) := by
  refine jj_startW (own := RL) (lv0 := [(0, .ref x0), (1, .ref x1)]) hl (by decide +kernel) rfl rfl rfl (c_le rfl) (fun C hCl hC hT => ?_)
  unfold fL_endDay at h
  refine jj_aload_n hC dL_endDay_0 rfl 1 rfl ?_
  refine jj_iconst hC dL_endDay_1 ?_
  refine jj_aload_n hC dL_endDay_2 rfl 0 rfl ?_
  obtain ⟨q1, hq1, h⟩ := bd_e h
  refine jj_invV hC mvX9_endDay wd1238 wd1239 wd1237 hp0 (by decide) rfl (xX9_endDay (OKC.tr hC) hp0 hq1) rfl rfl (c_le rfl) (c_le rfl) (c_le rfl) (c_le rfl) dL_endDay_3 (fun E1 sz1 S1 Ln1 M1 R1 hX1 => by
    obtain ⟨e1, he1, hz0, hz1, hz2, hz3, hz4⟩ := hX1
    subst he1
    replace h := el_r h
    rw [hz0, hz1, hz2, hz3, hz4]
    by_cases hE1_0 : e1.1 = "java/lang/IllegalStateException"
    · replace h := (if_pos hE1_0).symm.trans h
      rw [hE1_0]
      refine jj_catch hC hT (h1 := []) (h2 := []) rfl (fun z hz => nomatch hz) (by decide) (by decide) wd975 wd1018 (fun qx1 => ?_)
      refine jj_astore_n (lv' := [(2, .ref qx1), (0, .ref x0), (1, .ref x1)]) hC dL_endDay_11 rfl (by decide) rfl ?_
      refine jj_iconst hC dL_endDay_12 ?_
      cases h
      exact jj_iret hC (c_le rfl) (c_le rfl) dL_endDay_13 ⟨rfl, (show (-2147483648 ≤ (1 : Int) ∧ (1 : Int) < 2147483648) from by decide), ex2_r, rfl, rfl, rfl, rfl⟩
    · replace h := (if_neg hE1_0).symm.trans h
      cases h) (poS_k (fun v1 hv1 => po_kI (fun hr1 => ?_)))
  subst hv1
  replace h := el_l h
  refine jj_i2l hC dL_endDay_6 hr1 ?_
  obtain ⟨⟨ha2, hb2⟩, h⟩ := gd_e h
  obtain ⟨M2, hM2, h⟩ := nam_e h
  refine jj_last hC hp1 ha2 hb2 (r_il hr1) dL_endDay_7 (jj_M hM2 ?_)
  refine jj_goto (tgt := 14) hC dL_endDay_8 rfl ?_
  refine jj_iconst hC dL_endDay_14 ?_
  cases h
  exact jj_iret hC (c_le rfl) (c_le rfl) dL_endDay_15 ⟨rfl, (show (-2147483648 ≤ (0 : Int) ∧ (0 : Int) < 2147483648) from by decide), ex2_r, rfl, rfl, rfl, rfl⟩
def fL_distance (ad S Ln : Nat → Nat) (R : gR) (M : gM) (x0 : Nat) (x1 : Int) (x2 : Int) (x3 : Nat) : Option (Int × gM) :=
  bd (fX9_distance ad S Ln R M x0 x1 x2) fun q1 => Sum.elim (fun v1 => gd ((0 : Int) ≤ 0 ∧ 0 < (Ln x3 : Int)) (nam (wr M x3 0 v1) fun M2 => some ((0, M2)))) (fun e1 => if e1 = "java/lang/IndexOutOfBoundsException" then (some ((1, M))) else (none)) q1
theorem xL_distance {l : Launch} {G : gE} {sz : Nat} {S Ln : Nat → Nat} {M : gM} {R : gR} (hl : l.stackTraces = false) {x0 : Nat} (hp0 : S x0 = 12) {x1 : Int} (hp1 : (-2147483648 ≤ x1 ∧ x1 < 2147483648)) {x2 : Int} (hp2 : (-2147483648 ≤ x2 ∧ x2 < 2147483648)) {x3 : Nat} (hp3 : S x3 = 21) {r : Int × gM} (h : fL_distance G.2.2.2.2 S Ln R M x0 x1 x2 x3 = some r) : CtW l G yL_distance cL_distance 5 (some .int) [(0, 10, 13, 21)] 9 1 6 [.ref x0, .int (iI x1), .int (iI x2), .ref x3] sz S Ln M R (poW r.1 S Ln S Ln r.2 R) := by
  refine jj_startW (own := RL) (lv0 := [(0, .ref x0), (1, .int (iI x1)), (2, .int (iI x2)), (3, .ref x3)]) hl (by decide +kernel) rfl rfl rfl (c_le rfl) (fun C hCl hC hT => ?_)
  unfold fL_distance at h
  refine jj_aload_n hC dL_distance_0 rfl 3 rfl ?_
  refine jj_iconst hC dL_distance_1 ?_
  refine jj_aload_n hC dL_distance_2 rfl 0 rfl ?_
  refine jj_iload_n hC dL_distance_3 rfl 1 rfl ?_
  refine jj_iload_n hC dL_distance_4 rfl 2 rfl ?_
  obtain ⟨q1, hq1, h⟩ := bd_e h
  refine jj_invV hC mvX9_distance wd1264 wd1265 wd1263 hp0 (by decide) rfl (xX9_distance (OKC.tr hC) hp0 hp1 hp2 hq1) rfl rfl (c_le rfl) (c_le rfl) (c_le rfl) (c_le rfl) dL_distance_5 (fun E1 sz1 S1 Ln1 M1 R1 hX1 => by
    obtain ⟨e1, he1, hz0, hz1, hz2, hz3, hz4⟩ := hX1
    subst he1
    replace h := el_r h
    rw [hz0, hz1, hz2, hz3, hz4]
    by_cases hE1_0 : e1 = "java/lang/IndexOutOfBoundsException"
    · replace h := (if_pos hE1_0).symm.trans h
      rw [hE1_0]
      refine jj_catch hC hT (h1 := []) (h2 := []) rfl (fun z hz => nomatch hz) (by decide) (by decide) wd1066 wd1000 (fun qx1 => ?_)
      refine jj_astore (lv' := [(4, .ref qx1), (0, .ref x0), (1, .int (iI x1)), (2, .int (iI x2)), (3, .ref x3)]) hC dL_distance_13 (by decide) rfl ?_
      refine jj_iconst hC dL_distance_15 ?_
      cases h
      exact jj_iret hC (c_le rfl) (c_le rfl) dL_distance_16 ⟨rfl, (show (-2147483648 ≤ (1 : Int) ∧ (1 : Int) < 2147483648) from by decide), ex2_r, rfl, rfl, rfl, rfl⟩
    · replace h := (if_neg hE1_0).symm.trans h
      cases h) (poS_k (fun v1 hv1 => po_kI (fun hr1 => ?_)))
  subst hv1
  replace h := el_l h
  refine jj_i2l hC dL_distance_8 hr1 ?_
  obtain ⟨⟨ha2, hb2⟩, h⟩ := gd_e h
  obtain ⟨M2, hM2, h⟩ := nam_e h
  refine jj_last hC hp3 ha2 hb2 (r_il hr1) dL_distance_9 (jj_M hM2 ?_)
  refine jj_goto (tgt := 17) hC dL_distance_10 rfl ?_
  refine jj_iconst hC dL_distance_17 ?_
  cases h
  exact jj_iret hC (c_le rfl) (c_le rfl) dL_distance_18 ⟨rfl, (show (-2147483648 ≤ (0 : Int) ∧ (0 : Int) < 2147483648) from by decide), ex2_r, rfl, rfl, rfl, rfl⟩
def fL_taskPoint (ad S Ln : Nat → Nat) (R : gR) (M : gM) (x0 : Nat) (x1 : Int) (x2 : Nat) : Option (Int × gM) :=
  bd (fX9_taskPoint ad S Ln R M x0 x1) fun q1 => Sum.elim (fun v1 => gd ((0 : Int) ≤ 0 ∧ 0 < (Ln x2 : Int)) (nam (wr M x2 0 v1) fun M2 => some ((0, M2)))) (fun e1 => if e1 = "java/util/NoSuchElementException" then (some ((1, M))) else (none)) q1
theorem xL_taskPoint {l : Launch} {G : gE} {sz : Nat} {S Ln : Nat → Nat} {M : gM} {R : gR} (hl : l.stackTraces = false) {x0 : Nat} (hp0 : S x0 = 12) {x1 : Int} (hp1 : (-2147483648 ≤ x1 ∧ x1 < 2147483648)) {x2 : Nat} (hp2 : S x2 = 21) {r : Int × gM} (h : fL_taskPoint G.2.2.2.2 S Ln R M x0 x1 x2 = some r) : CtW l G yL_taskPoint cL_taskPoint 4 (some .int) [(0, 9, 12, 61)] 9 1 6 [.ref x0, .int (iI x1), .ref x2] sz S Ln M R (poW r.1 S Ln S Ln r.2 R) := by
  refine jj_startW (own := RL) (lv0 := [(0, .ref x0), (1, .int (iI x1)), (2, .ref x2)]) hl (by decide +kernel) rfl rfl rfl (c_le rfl) (fun C hCl hC hT => ?_)
  unfold fL_taskPoint at h
  refine jj_aload_n hC dL_taskPoint_0 rfl 2 rfl ?_
  refine jj_iconst hC dL_taskPoint_1 ?_
  refine jj_aload_n hC dL_taskPoint_2 rfl 0 rfl ?_
  refine jj_iload_n hC dL_taskPoint_3 rfl 1 rfl ?_
  obtain ⟨q1, hq1, h⟩ := bd_e h
  refine jj_invV hC mvX9_taskPoint wd1275 wd1276 wd1274 hp0 (by decide) rfl (xX9_taskPoint (OKC.tr hC) hp0 hp1 hq1) rfl rfl (c_le rfl) (c_le rfl) (c_le rfl) (c_le rfl) dL_taskPoint_4 (fun E1 sz1 S1 Ln1 M1 R1 hX1 => by
    obtain ⟨e1, he1, hz0, hz1, hz2, hz3, hz4⟩ := hX1
    subst he1
    replace h := el_r h
    rw [hz0, hz1, hz2, hz3, hz4]
    by_cases hE1_0 : e1 = "java/util/NoSuchElementException"
    · replace h := (if_pos hE1_0).symm.trans h
      rw [hE1_0]
      refine jj_catch hC hT (h1 := []) (h2 := []) rfl (fun z hz => nomatch hz) (by decide) (by decide) wd1273 wd1281 (fun qx1 => ?_)
      refine jj_astore_n (lv' := [(3, .ref qx1), (0, .ref x0), (1, .int (iI x1)), (2, .ref x2)]) hC dL_taskPoint_12 rfl (by decide) rfl ?_
      refine jj_iconst hC dL_taskPoint_13 ?_
      cases h
      exact jj_iret hC (c_le rfl) (c_le rfl) dL_taskPoint_14 ⟨rfl, (show (-2147483648 ≤ (1 : Int) ∧ (1 : Int) < 2147483648) from by decide), ex2_r, rfl, rfl, rfl, rfl⟩
    · replace h := (if_neg hE1_0).symm.trans h
      cases h) (poS_k (fun v1 hv1 => po_kI (fun hr1 => ?_)))
  subst hv1
  replace h := el_l h
  refine jj_i2l hC dL_taskPoint_7 hr1 ?_
  obtain ⟨⟨ha2, hb2⟩, h⟩ := gd_e h
  obtain ⟨M2, hM2, h⟩ := nam_e h
  refine jj_last hC hp2 ha2 hb2 (r_il hr1) dL_taskPoint_8 (jj_M hM2 ?_)
  refine jj_goto (tgt := 15) hC dL_taskPoint_9 rfl ?_
  refine jj_iconst hC dL_taskPoint_15 ?_
  cases h
  exact jj_iret hC (c_le rfl) (c_le rfl) dL_taskPoint_16 ⟨rfl, (show (-2147483648 ≤ (0 : Int) ∧ (0 : Int) < 2147483648) from by decide), ex2_r, rfl, rfl, rfl, rfl⟩
def fL_strongestThermal (ad S Ln : Nat → Nat) (R : gR) (M : gM) (x0 : Nat) (x1 : Int) (x2 : Int) (x3 : Nat) : Option (Int × gM) :=
  bd (fX9_strongestThermal ad S Ln R M x0 x1 x2) fun q1 => Sum.elim (fun v1 => gd ((0 : Int) ≤ 0 ∧ 0 < (Ln x3 : Int)) (nam (wr M x3 0 v1) fun M2 => some ((0, M2)))) (fun e1 => if e1 = "java/lang/IllegalArgumentException" then (some ((1, M))) else (if e1 = "java/util/NoSuchElementException" then (some ((2, M))) else (none))) q1
theorem xL_strongestThermal {l : Launch} {G : gE} {sz : Nat} {S Ln : Nat → Nat} {M : gM} {R : gR} (hl : l.stackTraces = false) {x0 : Nat} (hp0 : S x0 = 12) {x1 : Int} (hp1 : (-2147483648 ≤ x1 ∧ x1 < 2147483648)) {x2 : Int} (hp2 : (-2147483648 ≤ x2 ∧ x2 < 2147483648)) {x3 : Nat} (hp3 : S x3 = 21) {r : Int × gM} (h : fL_strongestThermal G.2.2.2.2 S Ln R M x0 x1 x2 x3 = some r) : CtW l G yL_strongestThermal cL_strongestThermal 5 (some .int) [(0, 10, 13, 13), (0, 10, 17, 61)] 10 2 12 [.ref x0, .int (iI x1), .int (iI x2), .ref x3] sz S Ln M R (poW r.1 S Ln S Ln r.2 R) := by
  refine jj_startW (own := RL) (lv0 := [(0, .ref x0), (1, .int (iI x1)), (2, .int (iI x2)), (3, .ref x3)]) hl (by decide +kernel) rfl rfl rfl (c_le rfl) (fun C hCl hC hT => ?_)
  unfold fL_strongestThermal at h
  refine jj_aload_n hC dL_strongestThermal_0 rfl 3 rfl ?_
  refine jj_iconst hC dL_strongestThermal_1 ?_
  refine jj_aload_n hC dL_strongestThermal_2 rfl 0 rfl ?_
  refine jj_iload_n hC dL_strongestThermal_3 rfl 1 rfl ?_
  refine jj_iload_n hC dL_strongestThermal_4 rfl 2 rfl ?_
  obtain ⟨q1, hq1, h⟩ := bd_e h
  refine jj_invV hC mvX9_strongestThermal wd1299 wd1300 wd1298 hp0 (by decide) rfl (xX9_strongestThermal (OKC.tr hC) hp0 hp1 hp2 hq1) rfl rfl (c_le rfl) (c_le rfl) (c_le rfl) (c_le rfl) dL_strongestThermal_5 (fun E1 sz1 S1 Ln1 M1 R1 hX1 => by
    obtain ⟨e1, he1, hz0, hz1, hz2, hz3, hz4⟩ := hX1
    subst he1
    replace h := el_r h
    rw [hz0, hz1, hz2, hz3, hz4]
    by_cases hE1_0 : e1 = "java/lang/IllegalArgumentException"
    · replace h := (if_pos hE1_0).symm.trans h
      rw [hE1_0]
      refine jj_catch hC hT (h1 := []) (h2 := [(0, 10, 17, 61)]) rfl (fun z hz => nomatch hz) (by decide) (by decide) wd974 wd775 (fun qx1 => ?_)
      refine jj_astore (lv' := [(4, .ref qx1), (0, .ref x0), (1, .int (iI x1)), (2, .int (iI x2)), (3, .ref x3)]) hC dL_strongestThermal_13 (by decide) rfl ?_
      refine jj_iconst hC dL_strongestThermal_15 ?_
      cases h
      exact jj_iret hC (c_le rfl) (c_le rfl) dL_strongestThermal_16 ⟨rfl, (show (-2147483648 ≤ (1 : Int) ∧ (1 : Int) < 2147483648) from by decide), ex2_r, rfl, rfl, rfl, rfl⟩
    · replace h := (if_neg hE1_0).symm.trans h
      by_cases hE1_1 : e1 = "java/util/NoSuchElementException"
      · replace h := (if_pos hE1_1).symm.trans h
        rw [hE1_1]
        refine jj_catch hC hT (h1 := [(0, 10, 13, 13)]) (h2 := []) rfl (List.forall_mem_cons.mpr ⟨⟨"java/lang/IllegalArgumentException", wd974, (by decide +kernel), (by decide)⟩, fun z hz => nomatch hz⟩) (by decide) (by decide) wd1273 wd1281 (fun qx1 => ?_)
        refine jj_astore (lv' := [(4, .ref qx1), (0, .ref x0), (1, .int (iI x1)), (2, .int (iI x2)), (3, .ref x3)]) hC dL_strongestThermal_17 (by decide) rfl ?_
        refine jj_iconst hC dL_strongestThermal_19 ?_
        cases h
        exact jj_iret hC (c_le rfl) (c_le rfl) dL_strongestThermal_20 ⟨rfl, (show (-2147483648 ≤ (2 : Int) ∧ (2 : Int) < 2147483648) from by decide), ex2_r, rfl, rfl, rfl, rfl⟩
      · replace h := (if_neg hE1_1).symm.trans h
        cases h) (poS_k (fun v1 hv1 => po_kI (fun hr1 => ?_)))
  subst hv1
  replace h := el_l h
  refine jj_i2l hC dL_strongestThermal_8 hr1 ?_
  obtain ⟨⟨ha2, hb2⟩, h⟩ := gd_e h
  obtain ⟨M2, hM2, h⟩ := nam_e h
  refine jj_last hC hp3 ha2 hb2 (r_il hr1) dL_strongestThermal_9 (jj_M hM2 ?_)
  refine jj_goto (tgt := 21) hC dL_strongestThermal_10 rfl ?_
  refine jj_iconst hC dL_strongestThermal_21 ?_
  cases h
  exact jj_iret hC (c_le rfl) (c_le rfl) dL_strongestThermal_22 ⟨rfl, (show (-2147483648 ≤ (0 : Int) ∧ (0 : Int) < 2147483648) from by decide), ex2_r, rfl, rfl, rfl, rfl⟩
def fL_isRestricted_B16 (ad S Ln : Nat → Nat) (R : gR) (M16 : gM) (s0_16 : Int) (s1_16 : Int) (s2_16 : Nat) : Option (Int × gM) :=
  gd ((0 : Int) ≤ s1_16 ∧ s1_16 < (Ln s2_16 : Int)) (nam (wr M16 s2_16 s1_16 s0_16) fun M2 => some ((0, M2)))
def fL_isRestricted (ad S Ln : Nat → Nat) (R : gR) (M : gM) (x0 : Nat) (x1 : Int) (x2 : Int) (x3 : Nat) : Option (Int × gM) :=
  bd (fX9_isRestricted ad S Ln R M x0 x1 x2) fun q1 => Sum.elim (fun v1 => if v1 = 0 then (fL_isRestricted_B16 ad S Ln R M 0 0 x3) else (fL_isRestricted_B16 ad S Ln R M 1 0 x3)) (fun e1 => if e1 = "java/lang/IllegalArgumentException" then (some ((1, M))) else (none)) q1
theorem xL_isRestricted {l : Launch} {G : gE} {sz : Nat} {S Ln : Nat → Nat} {M : gM} {R : gR} (hl : l.stackTraces = false) {x0 : Nat} (hp0 : S x0 = 12) {x1 : Int} (hp1 : (-2147483648 ≤ x1 ∧ x1 < 2147483648)) {x2 : Int} (hp2 : (-2147483648 ≤ x2 ∧ x2 < 2147483648)) {x3 : Nat} (hp3 : S x3 = 21) {r : Int × gM} (h : fL_isRestricted G.2.2.2.2 S Ln R M x0 x1 x2 x3 = some r) : CtW l G yL_isRestricted cL_isRestricted 5 (some .int) [(0, 17, 20, 13)] 10 1 6 [.ref x0, .int (iI x1), .int (iI x2), .ref x3] sz S Ln M R (poW r.1 S Ln S Ln r.2 R) := by
  refine jj_startW (own := RL) (lv0 := [(0, .ref x0), (1, .int (iI x1)), (2, .int (iI x2)), (3, .ref x3)]) hl (by decide +kernel) rfl rfl rfl (c_le rfl) (fun C hCl hC hT => ?_)
  have hB16 : ∀ (M16 : gM) (s0_16 : Int) (s1_16 : Int) (s2_16 : Nat), (-9223372036854775808 ≤ s0_16 ∧ s0_16 < 9223372036854775808) → (0 ≤ s1_16 ∧ s1_16 ≤ 1) → S s2_16 = 21 → fL_isRestricted_B16 G.2.2.2.2 S Ln R M16 s0_16 s1_16 s2_16 = some r → JJ G C 1 6 sz S Ln M16 R 16 [] [.long (lI s0_16), .int (iI s1_16), .ref s2_16] := by
    intro M16 s0_16 s1_16 s2_16 hs0_16 hs1_16 hs2_16 h
    unfold fL_isRestricted_B16 at h
    obtain ⟨⟨ha2, hb2⟩, h⟩ := gd_e h
    obtain ⟨M2, hM2, h⟩ := nam_e h
    refine jj_last hC hs2_16 ha2 hb2 hs0_16 dL_isRestricted_16 (jj_M hM2 ?_)
    refine jj_goto (tgt := 24) hC dL_isRestricted_17 rfl ?_
    refine jj_iconst hC dL_isRestricted_24 ?_
    cases h
    exact jj_iret hC (c_le rfl) (c_le rfl) dL_isRestricted_25 ⟨rfl, (show (-2147483648 ≤ (0 : Int) ∧ (0 : Int) < 2147483648) from by decide), ex2_r, rfl, rfl, rfl, rfl⟩
  unfold fL_isRestricted at h
  refine jj_aload_n hC dL_isRestricted_0 rfl 3 rfl ?_
  refine jj_iconst hC dL_isRestricted_1 ?_
  refine jj_aload_n hC dL_isRestricted_2 rfl 0 rfl ?_
  refine jj_iload_n hC dL_isRestricted_3 rfl 1 rfl ?_
  refine jj_iload_n hC dL_isRestricted_4 rfl 2 rfl ?_
  obtain ⟨q1, hq1, h⟩ := bd_e h
  refine jj_invV hC mvX9_isRestricted wd1313 wd1314 wd1312 hp0 (by decide) rfl (xX9_isRestricted (OKC.tr hC) hp0 hp1 hp2 hq1) rfl rfl (c_le rfl) (c_le rfl) (c_le rfl) (c_le rfl) dL_isRestricted_5 (fun E1 sz1 S1 Ln1 M1 R1 hX1 => by
    obtain ⟨e1, he1, hz0, hz1, hz2, hz3, hz4⟩ := hX1
    subst he1
    replace h := el_r h
    rw [hz0, hz1, hz2, hz3, hz4]
    by_cases hE1_0 : e1 = "java/lang/IllegalArgumentException"
    · replace h := (if_pos hE1_0).symm.trans h
      rw [hE1_0]
      refine jj_catch hC hT (h1 := []) (h2 := []) rfl (fun z hz => nomatch hz) (by decide) (by decide) wd974 wd775 (fun qx1 => ?_)
      refine jj_astore (lv' := [(4, .ref qx1), (0, .ref x0), (1, .int (iI x1)), (2, .int (iI x2)), (3, .ref x3)]) hC dL_isRestricted_20 (by decide) rfl ?_
      refine jj_iconst hC dL_isRestricted_22 ?_
      cases h
      exact jj_iret hC (c_le rfl) (c_le rfl) dL_isRestricted_23 ⟨rfl, (show (-2147483648 ≤ (1 : Int) ∧ (1 : Int) < 2147483648) from by decide), ex2_r, rfl, rfl, rfl, rfl⟩
    · replace h := (if_neg hE1_0).symm.trans h
      cases h) (poS_k (fun v1 hv1 => po_kZ (fun hr1 => ?_)))
  subst hv1
  replace h := el_l h
  refine jj_if_eq (tgt := 15) hC dL_isRestricted_8 rfl (r_z hr1) (fun hc => ?_) (fun hc => ?_)
  · replace h := (if_pos hc).symm.trans h
    refine jj_lconst (z := 0) hC dL_isRestricted_15 rfl ?_
    refine jj_lv (lv' := []) [] rfl ?_
    exact hB16 M 0 0 x3 (show (-9223372036854775808 ≤ (0 : Int) ∧ (0 : Int) < 9223372036854775808) from by decide) (show (0 ≤ (0 : Int) ∧ (0 : Int) ≤ 1) from by decide) hp3 h
  · replace h := (if_neg (hc)).symm.trans h
    refine jj_lconst (z := 1) hC dL_isRestricted_11 rfl ?_
    refine jj_goto (tgt := 16) hC dL_isRestricted_12 rfl ?_
    refine jj_lv (lv' := []) [] rfl ?_
    exact hB16 M 1 0 x3 (show (-9223372036854775808 ≤ (1 : Int) ∧ (1 : Int) < 9223372036854775808) from by decide) (show (0 ≤ (0 : Int) ∧ (0 : Int) ≤ 1) from by decide) hp3 h
def fL_restrictedInRow (ad S Ln : Nat → Nat) (R : gR) (M : gM) (x0 : Nat) (x1 : Int) (x2 : Nat) : Option (Int × gM) :=
  bd (fX9_restrictedInRow ad S Ln R M x0 x1) fun q1 => Sum.elim (fun v1 => gd ((0 : Int) ≤ 0 ∧ 0 < (Ln x2 : Int)) (nam (wr M x2 0 v1) fun M2 => some ((0, M2)))) (fun e1 => if e1 = "java/lang/IllegalArgumentException" then (some ((1, M))) else (none)) q1
theorem xL_restrictedInRow {l : Launch} {G : gE} {sz : Nat} {S Ln : Nat → Nat} {M : gM} {R : gR} (hl : l.stackTraces = false) {x0 : Nat} (hp0 : S x0 = 12) {x1 : Int} (hp1 : (-2147483648 ≤ x1 ∧ x1 < 2147483648)) {x2 : Nat} (hp2 : S x2 = 21) {r : Int × gM} (h : fL_restrictedInRow G.2.2.2.2 S Ln R M x0 x1 x2 = some r) : CtW l G yL_restrictedInRow cL_restrictedInRow 4 (some .int) [(0, 9, 12, 13)] 10 1 6 [.ref x0, .int (iI x1), .ref x2] sz S Ln M R (poW r.1 S Ln S Ln r.2 R) := by
  refine jj_startW (own := RL) (lv0 := [(0, .ref x0), (1, .int (iI x1)), (2, .ref x2)]) hl (by decide +kernel) rfl rfl rfl (c_le rfl) (fun C hCl hC hT => ?_)
  unfold fL_restrictedInRow at h
  refine jj_aload_n hC dL_restrictedInRow_0 rfl 2 rfl ?_
  refine jj_iconst hC dL_restrictedInRow_1 ?_
  refine jj_aload_n hC dL_restrictedInRow_2 rfl 0 rfl ?_
  refine jj_iload_n hC dL_restrictedInRow_3 rfl 1 rfl ?_
  obtain ⟨q1, hq1, h⟩ := bd_e h
  refine jj_invV hC mvX9_restrictedInRow wd1321 wd1322 wd1320 hp0 (by decide) rfl (xX9_restrictedInRow (OKC.tr hC) hp0 hp1 hq1) rfl rfl (c_le rfl) (c_le rfl) (c_le rfl) (c_le rfl) dL_restrictedInRow_4 (fun E1 sz1 S1 Ln1 M1 R1 hX1 => by
    obtain ⟨e1, he1, hz0, hz1, hz2, hz3, hz4⟩ := hX1
    subst he1
    replace h := el_r h
    rw [hz0, hz1, hz2, hz3, hz4]
    by_cases hE1_0 : e1 = "java/lang/IllegalArgumentException"
    · replace h := (if_pos hE1_0).symm.trans h
      rw [hE1_0]
      refine jj_catch hC hT (h1 := []) (h2 := []) rfl (fun z hz => nomatch hz) (by decide) (by decide) wd974 wd775 (fun qx1 => ?_)
      refine jj_astore_n (lv' := [(3, .ref qx1), (0, .ref x0), (1, .int (iI x1)), (2, .ref x2)]) hC dL_restrictedInRow_12 rfl (by decide) rfl ?_
      refine jj_iconst hC dL_restrictedInRow_13 ?_
      cases h
      exact jj_iret hC (c_le rfl) (c_le rfl) dL_restrictedInRow_14 ⟨rfl, (show (-2147483648 ≤ (1 : Int) ∧ (1 : Int) < 2147483648) from by decide), ex2_r, rfl, rfl, rfl, rfl⟩
    · replace h := (if_neg hE1_0).symm.trans h
      cases h) (poS_k (fun v1 hv1 => po_kI (fun hr1 => ?_)))
  subst hv1
  replace h := el_l h
  refine jj_i2l hC dL_restrictedInRow_7 hr1 ?_
  obtain ⟨⟨ha2, hb2⟩, h⟩ := gd_e h
  obtain ⟨M2, hM2, h⟩ := nam_e h
  refine jj_last hC hp2 ha2 hb2 (r_il hr1) dL_restrictedInRow_8 (jj_M hM2 ?_)
  refine jj_goto (tgt := 15) hC dL_restrictedInRow_9 rfl ?_
  refine jj_iconst hC dL_restrictedInRow_15 ?_
  cases h
  exact jj_iret hC (c_le rfl) (c_le rfl) dL_restrictedInRow_16 ⟨rfl, (show (-2147483648 ≤ (0 : Int) ∧ (0 : Int) < 2147483648) from by decide), ex2_r, rfl, rfl, rfl, rfl⟩
def fL_restrictedInRowByRanges (ad S Ln : Nat → Nat) (R : gR) (M : gM) (x0 : Nat) (x1 : Int) (x2 : Nat) : Option (Int × gM) :=
  bd (fX9_restrictedInRowByRanges ad S Ln R M x0 x1) fun q1 => Sum.elim (fun v1 => gd ((0 : Int) ≤ 0 ∧ 0 < (Ln x2 : Int)) (nam (wr v1.2 x2 0 v1.1) fun M2 => some ((0, M2)))) (fun e1 => if e1.1 = "java/lang/IllegalArgumentException" then (some ((1, e1.2))) else (none)) q1
theorem xL_restrictedInRowByRanges {l : Launch} {G : gE} {sz : Nat} {S Ln : Nat → Nat} {M : gM} {R : gR} (hl : l.stackTraces = false) {x0 : Nat} (hp0 : S x0 = 12) {x1 : Int} (hp1 : (-2147483648 ≤ x1 ∧ x1 < 2147483648)) {x2 : Nat} (hp2 : S x2 = 21) {r : Int × gM} (h : fL_restrictedInRowByRanges G.2.2.2.2 S Ln R M x0 x1 x2 = some r) : CtW l G yL_restrictedInRowByRanges cL_restrictedInRowByRanges 4 (some .int) [(0, 9, 12, 13)] 10 1 6 [.ref x0, .int (iI x1), .ref x2] sz S Ln M R (poW r.1 S Ln S Ln r.2 R) := by
  refine jj_startW (own := RL) (lv0 := [(0, .ref x0), (1, .int (iI x1)), (2, .ref x2)]) hl (by decide +kernel) rfl rfl rfl (c_le rfl) (fun C hCl hC hT => ?_)
  unfold fL_restrictedInRowByRanges at h
  refine jj_aload_n hC dL_restrictedInRowByRanges_0 rfl 2 rfl ?_
  refine jj_iconst hC dL_restrictedInRowByRanges_1 ?_
  refine jj_aload_n hC dL_restrictedInRowByRanges_2 rfl 0 rfl ?_
  refine jj_iload_n hC dL_restrictedInRowByRanges_3 rfl 1 rfl ?_
  obtain ⟨q1, hq1, h⟩ := bd_e h
  refine jj_invV hC mvX9_restrictedInRowByRanges wd1329 wd1330 wd1328 hp0 (by decide) rfl (xX9_restrictedInRowByRanges (OKC.tr hC) hp0 hp1 hq1) rfl rfl (c_le rfl) (c_le rfl) (c_le rfl) (c_le rfl) dL_restrictedInRowByRanges_4 (fun E1 sz1 S1 Ln1 M1 R1 hX1 => by
    obtain ⟨e1, he1, hz0, hz1, hz2, hz3, hz4⟩ := hX1
    subst he1
    replace h := el_r h
    rw [hz0, hz1, hz2, hz3, hz4]
    by_cases hE1_0 : e1.1 = "java/lang/IllegalArgumentException"
    · replace h := (if_pos hE1_0).symm.trans h
      rw [hE1_0]
      refine jj_catch hC hT (h1 := []) (h2 := []) rfl (fun z hz => nomatch hz) (by decide) (by decide) wd974 wd775 (fun qx1 => ?_)
      refine jj_astore_n (lv' := [(3, .ref qx1), (0, .ref x0), (1, .int (iI x1)), (2, .ref x2)]) hC dL_restrictedInRowByRanges_12 rfl (by decide) rfl ?_
      refine jj_iconst hC dL_restrictedInRowByRanges_13 ?_
      cases h
      exact jj_iret hC (c_le rfl) (c_le rfl) dL_restrictedInRowByRanges_14 ⟨rfl, (show (-2147483648 ≤ (1 : Int) ∧ (1 : Int) < 2147483648) from by decide), ex2_r, rfl, rfl, rfl, rfl⟩
    · replace h := (if_neg hE1_0).symm.trans h
      cases h) (poS_k (fun v1 hv1 => po_kI (fun hr1 => ?_)))
  subst hv1
  replace h := el_l h
  refine jj_i2l hC dL_restrictedInRowByRanges_7 hr1 ?_
  obtain ⟨⟨ha2, hb2⟩, h⟩ := gd_e h
  obtain ⟨M2, hM2, h⟩ := nam_e h
  refine jj_last hC hp2 ha2 hb2 (r_il hr1) dL_restrictedInRowByRanges_8 (jj_M hM2 ?_)
  refine jj_goto (tgt := 15) hC dL_restrictedInRowByRanges_9 rfl ?_
  refine jj_iconst hC dL_restrictedInRowByRanges_15 ?_
  cases h
  exact jj_iret hC (c_le rfl) (c_le rfl) dL_restrictedInRowByRanges_16 ⟨rfl, (show (-2147483648 ≤ (0 : Int) ∧ (0 : Int) < 2147483648) from by decide), ex2_r, rfl, rfl, rfl, rfl⟩
def fL_isFlying_B15 (ad S Ln : Nat → Nat) (R : gR) (M15 : gM) (s0_15 : Int) (s1_15 : Int) (s2_15 : Nat) : Option (Int × gM) :=
  gd ((0 : Int) ≤ s1_15 ∧ s1_15 < (Ln s2_15 : Int)) (nam (wr M15 s2_15 s1_15 s0_15) fun M2 => some ((0, M2)))
def fL_isFlying (ad S Ln : Nat → Nat) (R : gR) (M : gM) (x0 : Nat) (x1 : Int) (x2 : Nat) : Option (Int × gM) :=
  bd (fX9_isFlying ad S Ln R M x0 x1) fun q1 => Sum.elim (fun v1 => if v1 = 0 then (fL_isFlying_B15 ad S Ln R M 0 0 x2) else (fL_isFlying_B15 ad S Ln R M 1 0 x2)) (fun e1 => if e1 = "java/lang/IndexOutOfBoundsException" then (some ((1, M))) else (none)) q1
theorem xL_isFlying {l : Launch} {G : gE} {sz : Nat} {S Ln : Nat → Nat} {M : gM} {R : gR} (hl : l.stackTraces = false) {x0 : Nat} (hp0 : S x0 = 12) {x1 : Int} (hp1 : (-2147483648 ≤ x1 ∧ x1 < 2147483648)) {x2 : Nat} (hp2 : S x2 = 21) {r : Int × gM} (h : fL_isFlying G.2.2.2.2 S Ln R M x0 x1 x2 = some r) : CtW l G yL_isFlying cL_isFlying 4 (some .int) [(0, 16, 19, 21)] 10 1 6 [.ref x0, .int (iI x1), .ref x2] sz S Ln M R (poW r.1 S Ln S Ln r.2 R) := by
  refine jj_startW (own := RL) (lv0 := [(0, .ref x0), (1, .int (iI x1)), (2, .ref x2)]) hl (by decide +kernel) rfl rfl rfl (c_le rfl) (fun C hCl hC hT => ?_)
  have hB15 : ∀ (M15 : gM) (s0_15 : Int) (s1_15 : Int) (s2_15 : Nat), (-9223372036854775808 ≤ s0_15 ∧ s0_15 < 9223372036854775808) → (0 ≤ s1_15 ∧ s1_15 ≤ 1) → S s2_15 = 21 → fL_isFlying_B15 G.2.2.2.2 S Ln R M15 s0_15 s1_15 s2_15 = some r → JJ G C 1 6 sz S Ln M15 R 15 [] [.long (lI s0_15), .int (iI s1_15), .ref s2_15] := by
    intro M15 s0_15 s1_15 s2_15 hs0_15 hs1_15 hs2_15 h
    unfold fL_isFlying_B15 at h
    obtain ⟨⟨ha2, hb2⟩, h⟩ := gd_e h
    obtain ⟨M2, hM2, h⟩ := nam_e h
    refine jj_last hC hs2_15 ha2 hb2 hs0_15 dL_isFlying_15 (jj_M hM2 ?_)
    refine jj_goto (tgt := 22) hC dL_isFlying_16 rfl ?_
    refine jj_iconst hC dL_isFlying_22 ?_
    cases h
    exact jj_iret hC (c_le rfl) (c_le rfl) dL_isFlying_23 ⟨rfl, (show (-2147483648 ≤ (0 : Int) ∧ (0 : Int) < 2147483648) from by decide), ex2_r, rfl, rfl, rfl, rfl⟩
  unfold fL_isFlying at h
  refine jj_aload_n hC dL_isFlying_0 rfl 2 rfl ?_
  refine jj_iconst hC dL_isFlying_1 ?_
  refine jj_aload_n hC dL_isFlying_2 rfl 0 rfl ?_
  refine jj_iload_n hC dL_isFlying_3 rfl 1 rfl ?_
  obtain ⟨q1, hq1, h⟩ := bd_e h
  refine jj_invV hC mvX9_isFlying wd1337 wd1338 wd1336 hp0 (by decide) rfl (xX9_isFlying (OKC.tr hC) hp0 hp1 hq1) rfl rfl (c_le rfl) (c_le rfl) (c_le rfl) (c_le rfl) dL_isFlying_4 (fun E1 sz1 S1 Ln1 M1 R1 hX1 => by
    obtain ⟨e1, he1, hz0, hz1, hz2, hz3, hz4⟩ := hX1
    subst he1
    replace h := el_r h
    rw [hz0, hz1, hz2, hz3, hz4]
    by_cases hE1_0 : e1 = "java/lang/IndexOutOfBoundsException"
    · replace h := (if_pos hE1_0).symm.trans h
      rw [hE1_0]
      refine jj_catch hC hT (h1 := []) (h2 := []) rfl (fun z hz => nomatch hz) (by decide) (by decide) wd1066 wd1000 (fun qx1 => ?_)
      refine jj_astore_n (lv' := [(3, .ref qx1), (0, .ref x0), (1, .int (iI x1)), (2, .ref x2)]) hC dL_isFlying_19 rfl (by decide) rfl ?_
      refine jj_iconst hC dL_isFlying_20 ?_
      cases h
      exact jj_iret hC (c_le rfl) (c_le rfl) dL_isFlying_21 ⟨rfl, (show (-2147483648 ≤ (1 : Int) ∧ (1 : Int) < 2147483648) from by decide), ex2_r, rfl, rfl, rfl, rfl⟩
    · replace h := (if_neg hE1_0).symm.trans h
      cases h) (poS_k (fun v1 hv1 => po_kZ (fun hr1 => ?_)))
  subst hv1
  replace h := el_l h
  refine jj_if_eq (tgt := 14) hC dL_isFlying_7 rfl (r_z hr1) (fun hc => ?_) (fun hc => ?_)
  · replace h := (if_pos hc).symm.trans h
    refine jj_lconst (z := 0) hC dL_isFlying_14 rfl ?_
    refine jj_lv (lv' := []) [] rfl ?_
    exact hB15 M 0 0 x2 (show (-9223372036854775808 ≤ (0 : Int) ∧ (0 : Int) < 9223372036854775808) from by decide) (show (0 ≤ (0 : Int) ∧ (0 : Int) ≤ 1) from by decide) hp2 h
  · replace h := (if_neg (hc)).symm.trans h
    refine jj_lconst (z := 1) hC dL_isFlying_10 rfl ?_
    refine jj_goto (tgt := 15) hC dL_isFlying_11 rfl ?_
    refine jj_lv (lv' := []) [] rfl ?_
    exact hB15 M 1 0 x2 (show (-9223372036854775808 ≤ (1 : Int) ∧ (1 : Int) < 9223372036854775808) from by decide) (show (0 ≤ (0 : Int) ∧ (0 : Int) ≤ 1) from by decide) hp2 h
def fL_isLanded_B15 (ad S Ln : Nat → Nat) (R : gR) (M15 : gM) (s0_15 : Int) (s1_15 : Int) (s2_15 : Nat) : Option (Int × gM) :=
  gd ((0 : Int) ≤ s1_15 ∧ s1_15 < (Ln s2_15 : Int)) (nam (wr M15 s2_15 s1_15 s0_15) fun M2 => some ((0, M2)))
def fL_isLanded (ad S Ln : Nat → Nat) (R : gR) (M : gM) (x0 : Nat) (x1 : Int) (x2 : Nat) : Option (Int × gM) :=
  bd (fX9_isLanded ad S Ln R M x0 x1) fun q1 => Sum.elim (fun v1 => if v1 = 0 then (fL_isLanded_B15 ad S Ln R M 0 0 x2) else (fL_isLanded_B15 ad S Ln R M 1 0 x2)) (fun e1 => if e1 = "java/lang/IndexOutOfBoundsException" then (some ((1, M))) else (none)) q1
theorem xL_isLanded {l : Launch} {G : gE} {sz : Nat} {S Ln : Nat → Nat} {M : gM} {R : gR} (hl : l.stackTraces = false) {x0 : Nat} (hp0 : S x0 = 12) {x1 : Int} (hp1 : (-2147483648 ≤ x1 ∧ x1 < 2147483648)) {x2 : Nat} (hp2 : S x2 = 21) {r : Int × gM} (h : fL_isLanded G.2.2.2.2 S Ln R M x0 x1 x2 = some r) : CtW l G yL_isLanded cL_isLanded 4 (some .int) [(0, 16, 19, 21)] 10 1 6 [.ref x0, .int (iI x1), .ref x2] sz S Ln M R (poW r.1 S Ln S Ln r.2 R) := by
  refine jj_startW (own := RL) (lv0 := [(0, .ref x0), (1, .int (iI x1)), (2, .ref x2)]) hl (by decide +kernel) rfl rfl rfl (c_le rfl) (fun C hCl hC hT => ?_)
  have hB15 : ∀ (M15 : gM) (s0_15 : Int) (s1_15 : Int) (s2_15 : Nat), (-9223372036854775808 ≤ s0_15 ∧ s0_15 < 9223372036854775808) → (0 ≤ s1_15 ∧ s1_15 ≤ 1) → S s2_15 = 21 → fL_isLanded_B15 G.2.2.2.2 S Ln R M15 s0_15 s1_15 s2_15 = some r → JJ G C 1 6 sz S Ln M15 R 15 [] [.long (lI s0_15), .int (iI s1_15), .ref s2_15] := by
    intro M15 s0_15 s1_15 s2_15 hs0_15 hs1_15 hs2_15 h
    unfold fL_isLanded_B15 at h
    obtain ⟨⟨ha2, hb2⟩, h⟩ := gd_e h
    obtain ⟨M2, hM2, h⟩ := nam_e h
    refine jj_last hC hs2_15 ha2 hb2 hs0_15 dL_isLanded_15 (jj_M hM2 ?_)
    refine jj_goto (tgt := 22) hC dL_isLanded_16 rfl ?_
    refine jj_iconst hC dL_isLanded_22 ?_
    cases h
    exact jj_iret hC (c_le rfl) (c_le rfl) dL_isLanded_23 ⟨rfl, (show (-2147483648 ≤ (0 : Int) ∧ (0 : Int) < 2147483648) from by decide), ex2_r, rfl, rfl, rfl, rfl⟩
  unfold fL_isLanded at h
  refine jj_aload_n hC dL_isLanded_0 rfl 2 rfl ?_
  refine jj_iconst hC dL_isLanded_1 ?_
  refine jj_aload_n hC dL_isLanded_2 rfl 0 rfl ?_
  refine jj_iload_n hC dL_isLanded_3 rfl 1 rfl ?_
  obtain ⟨q1, hq1, h⟩ := bd_e h
  refine jj_invV hC mvX9_isLanded wd1351 wd1352 wd1350 hp0 (by decide) rfl (xX9_isLanded (OKC.tr hC) hp0 hp1 hq1) rfl rfl (c_le rfl) (c_le rfl) (c_le rfl) (c_le rfl) dL_isLanded_4 (fun E1 sz1 S1 Ln1 M1 R1 hX1 => by
    obtain ⟨e1, he1, hz0, hz1, hz2, hz3, hz4⟩ := hX1
    subst he1
    replace h := el_r h
    rw [hz0, hz1, hz2, hz3, hz4]
    by_cases hE1_0 : e1 = "java/lang/IndexOutOfBoundsException"
    · replace h := (if_pos hE1_0).symm.trans h
      rw [hE1_0]
      refine jj_catch hC hT (h1 := []) (h2 := []) rfl (fun z hz => nomatch hz) (by decide) (by decide) wd1066 wd1000 (fun qx1 => ?_)
      refine jj_astore_n (lv' := [(3, .ref qx1), (0, .ref x0), (1, .int (iI x1)), (2, .ref x2)]) hC dL_isLanded_19 rfl (by decide) rfl ?_
      refine jj_iconst hC dL_isLanded_20 ?_
      cases h
      exact jj_iret hC (c_le rfl) (c_le rfl) dL_isLanded_21 ⟨rfl, (show (-2147483648 ≤ (1 : Int) ∧ (1 : Int) < 2147483648) from by decide), ex2_r, rfl, rfl, rfl, rfl⟩
    · replace h := (if_neg hE1_0).symm.trans h
      cases h) (poS_k (fun v1 hv1 => po_kZ (fun hr1 => ?_)))
  subst hv1
  replace h := el_l h
  refine jj_if_eq (tgt := 14) hC dL_isLanded_7 rfl (r_z hr1) (fun hc => ?_) (fun hc => ?_)
  · replace h := (if_pos hc).symm.trans h
    refine jj_lconst (z := 0) hC dL_isLanded_14 rfl ?_
    refine jj_lv (lv' := []) [] rfl ?_
    exact hB15 M 0 0 x2 (show (-9223372036854775808 ≤ (0 : Int) ∧ (0 : Int) < 9223372036854775808) from by decide) (show (0 ≤ (0 : Int) ∧ (0 : Int) ≤ 1) from by decide) hp2 h
  · replace h := (if_neg (hc)).symm.trans h
    refine jj_lconst (z := 1) hC dL_isLanded_10 rfl ?_
    refine jj_goto (tgt := 15) hC dL_isLanded_11 rfl ?_
    refine jj_lv (lv' := []) [] rfl ?_
    exact hB15 M 1 0 x2 (show (-9223372036854775808 ≤ (1 : Int) ∧ (1 : Int) < 9223372036854775808) from by decide) (show (0 ≤ (0 : Int) ∧ (0 : Int) ≤ 1) from by decide) hp2 h
def fL_isFinished_B15 (ad S Ln : Nat → Nat) (R : gR) (M15 : gM) (s0_15 : Int) (s1_15 : Int) (s2_15 : Nat) : Option (Int × gM) :=
  gd ((0 : Int) ≤ s1_15 ∧ s1_15 < (Ln s2_15 : Int)) (nam (wr M15 s2_15 s1_15 s0_15) fun M2 => some ((0, M2)))
def fL_isFinished (ad S Ln : Nat → Nat) (R : gR) (M : gM) (x0 : Nat) (x1 : Int) (x2 : Nat) : Option (Int × gM) :=
  bd (fX9_isFinished ad S Ln R M x0 x1) fun q1 => Sum.elim (fun v1 => if v1 = 0 then (fL_isFinished_B15 ad S Ln R M 0 0 x2) else (fL_isFinished_B15 ad S Ln R M 1 0 x2)) (fun e1 => if e1 = "java/lang/IndexOutOfBoundsException" then (some ((1, M))) else (none)) q1
theorem xL_isFinished {l : Launch} {G : gE} {sz : Nat} {S Ln : Nat → Nat} {M : gM} {R : gR} (hl : l.stackTraces = false) {x0 : Nat} (hp0 : S x0 = 12) {x1 : Int} (hp1 : (-2147483648 ≤ x1 ∧ x1 < 2147483648)) {x2 : Nat} (hp2 : S x2 = 21) {r : Int × gM} (h : fL_isFinished G.2.2.2.2 S Ln R M x0 x1 x2 = some r) : CtW l G yL_isFinished cL_isFinished 4 (some .int) [(0, 16, 19, 21)] 10 1 6 [.ref x0, .int (iI x1), .ref x2] sz S Ln M R (poW r.1 S Ln S Ln r.2 R) := by
  refine jj_startW (own := RL) (lv0 := [(0, .ref x0), (1, .int (iI x1)), (2, .ref x2)]) hl (by decide +kernel) rfl rfl rfl (c_le rfl) (fun C hCl hC hT => ?_)
  have hB15 : ∀ (M15 : gM) (s0_15 : Int) (s1_15 : Int) (s2_15 : Nat), (-9223372036854775808 ≤ s0_15 ∧ s0_15 < 9223372036854775808) → (0 ≤ s1_15 ∧ s1_15 ≤ 1) → S s2_15 = 21 → fL_isFinished_B15 G.2.2.2.2 S Ln R M15 s0_15 s1_15 s2_15 = some r → JJ G C 1 6 sz S Ln M15 R 15 [] [.long (lI s0_15), .int (iI s1_15), .ref s2_15] := by
    intro M15 s0_15 s1_15 s2_15 hs0_15 hs1_15 hs2_15 h
    unfold fL_isFinished_B15 at h
    obtain ⟨⟨ha2, hb2⟩, h⟩ := gd_e h
    obtain ⟨M2, hM2, h⟩ := nam_e h
    refine jj_last hC hs2_15 ha2 hb2 hs0_15 dL_isFinished_15 (jj_M hM2 ?_)
    refine jj_goto (tgt := 22) hC dL_isFinished_16 rfl ?_
    refine jj_iconst hC dL_isFinished_22 ?_
    cases h
    exact jj_iret hC (c_le rfl) (c_le rfl) dL_isFinished_23 ⟨rfl, (show (-2147483648 ≤ (0 : Int) ∧ (0 : Int) < 2147483648) from by decide), ex2_r, rfl, rfl, rfl, rfl⟩
  unfold fL_isFinished at h
  refine jj_aload_n hC dL_isFinished_0 rfl 2 rfl ?_
  refine jj_iconst hC dL_isFinished_1 ?_
  refine jj_aload_n hC dL_isFinished_2 rfl 0 rfl ?_
  refine jj_iload_n hC dL_isFinished_3 rfl 1 rfl ?_
  obtain ⟨q1, hq1, h⟩ := bd_e h
  refine jj_invV hC mvX9_isFinished wd1359 wd1360 wd1358 hp0 (by decide) rfl (xX9_isFinished (OKC.tr hC) hp0 hp1 hq1) rfl rfl (c_le rfl) (c_le rfl) (c_le rfl) (c_le rfl) dL_isFinished_4 (fun E1 sz1 S1 Ln1 M1 R1 hX1 => by
    obtain ⟨e1, he1, hz0, hz1, hz2, hz3, hz4⟩ := hX1
    subst he1
    replace h := el_r h
    rw [hz0, hz1, hz2, hz3, hz4]
    by_cases hE1_0 : e1 = "java/lang/IndexOutOfBoundsException"
    · replace h := (if_pos hE1_0).symm.trans h
      rw [hE1_0]
      refine jj_catch hC hT (h1 := []) (h2 := []) rfl (fun z hz => nomatch hz) (by decide) (by decide) wd1066 wd1000 (fun qx1 => ?_)
      refine jj_astore_n (lv' := [(3, .ref qx1), (0, .ref x0), (1, .int (iI x1)), (2, .ref x2)]) hC dL_isFinished_19 rfl (by decide) rfl ?_
      refine jj_iconst hC dL_isFinished_20 ?_
      cases h
      exact jj_iret hC (c_le rfl) (c_le rfl) dL_isFinished_21 ⟨rfl, (show (-2147483648 ≤ (1 : Int) ∧ (1 : Int) < 2147483648) from by decide), ex2_r, rfl, rfl, rfl, rfl⟩
    · replace h := (if_neg hE1_0).symm.trans h
      cases h) (poS_k (fun v1 hv1 => po_kZ (fun hr1 => ?_)))
  subst hv1
  replace h := el_l h
  refine jj_if_eq (tgt := 14) hC dL_isFinished_7 rfl (r_z hr1) (fun hc => ?_) (fun hc => ?_)
  · replace h := (if_pos hc).symm.trans h
    refine jj_lconst (z := 0) hC dL_isFinished_14 rfl ?_
    refine jj_lv (lv' := []) [] rfl ?_
    exact hB15 M 0 0 x2 (show (-9223372036854775808 ≤ (0 : Int) ∧ (0 : Int) < 9223372036854775808) from by decide) (show (0 ≤ (0 : Int) ∧ (0 : Int) ≤ 1) from by decide) hp2 h
  · replace h := (if_neg (hc)).symm.trans h
    refine jj_lconst (z := 1) hC dL_isFinished_10 rfl ?_
    refine jj_goto (tgt := 15) hC dL_isFinished_11 rfl ?_
    refine jj_lv (lv' := []) [] rfl ?_
    exact hB15 M 1 0 x2 (show (-9223372036854775808 ≤ (1 : Int) ∧ (1 : Int) < 9223372036854775808) from by decide) (show (0 ≤ (0 : Int) ∧ (0 : Int) ≤ 1) from by decide) hp2 h
def fL_sink (ad S Ln : Nat → Nat) (R : gR) (M : gM) (x0 : Nat) (x1 : Int) (x2 : Nat) : Option (Int × gM) :=
  bd (fX9_sink ad S Ln R M x0 x1) fun q1 => Sum.elim (fun v1 => gd ((0 : Int) ≤ 0 ∧ 0 < (Ln x2 : Int)) (nam (wr M x2 0 v1) fun M2 => some ((0, M2)))) (fun e1 => if e1 = "java/lang/IndexOutOfBoundsException" then (some ((1, M))) else (none)) q1
theorem xL_sink {l : Launch} {G : gE} {sz : Nat} {S Ln : Nat → Nat} {M : gM} {R : gR} (hl : l.stackTraces = false) {x0 : Nat} (hp0 : S x0 = 12) {x1 : Int} (hp1 : (-2147483648 ≤ x1 ∧ x1 < 2147483648)) {x2 : Nat} (hp2 : S x2 = 21) {r : Int × gM} (h : fL_sink G.2.2.2.2 S Ln R M x0 x1 x2 = some r) : CtW l G yL_sink cL_sink 4 (some .int) [(0, 9, 12, 21)] 10 1 6 [.ref x0, .int (iI x1), .ref x2] sz S Ln M R (poW r.1 S Ln S Ln r.2 R) := by
  refine jj_startW (own := RL) (lv0 := [(0, .ref x0), (1, .int (iI x1)), (2, .ref x2)]) hl (by decide +kernel) rfl rfl rfl (c_le rfl) (fun C hCl hC hT => ?_)
  unfold fL_sink at h
  refine jj_aload_n hC dL_sink_0 rfl 2 rfl ?_
  refine jj_iconst hC dL_sink_1 ?_
  refine jj_aload_n hC dL_sink_2 rfl 0 rfl ?_
  refine jj_iload_n hC dL_sink_3 rfl 1 rfl ?_
  obtain ⟨q1, hq1, h⟩ := bd_e h
  refine jj_invV hC mvX9_sink wd1367 wd1368 wd1366 hp0 (by decide) rfl (xX9_sink (OKC.tr hC) hp0 hp1 hq1) rfl rfl (c_le rfl) (c_le rfl) (c_le rfl) (c_le rfl) dL_sink_4 (fun E1 sz1 S1 Ln1 M1 R1 hX1 => by
    obtain ⟨e1, he1, hz0, hz1, hz2, hz3, hz4⟩ := hX1
    subst he1
    replace h := el_r h
    rw [hz0, hz1, hz2, hz3, hz4]
    by_cases hE1_0 : e1 = "java/lang/IndexOutOfBoundsException"
    · replace h := (if_pos hE1_0).symm.trans h
      rw [hE1_0]
      refine jj_catch hC hT (h1 := []) (h2 := []) rfl (fun z hz => nomatch hz) (by decide) (by decide) wd1066 wd1000 (fun qx1 => ?_)
      refine jj_astore_n (lv' := [(3, .ref qx1), (0, .ref x0), (1, .int (iI x1)), (2, .ref x2)]) hC dL_sink_12 rfl (by decide) rfl ?_
      refine jj_iconst hC dL_sink_13 ?_
      cases h
      exact jj_iret hC (c_le rfl) (c_le rfl) dL_sink_14 ⟨rfl, (show (-2147483648 ≤ (1 : Int) ∧ (1 : Int) < 2147483648) from by decide), ex2_r, rfl, rfl, rfl, rfl⟩
    · replace h := (if_neg hE1_0).symm.trans h
      cases h) (poS_k (fun v1 hv1 => po_kI (fun hr1 => ?_)))
  subst hv1
  replace h := el_l h
  refine jj_i2l hC dL_sink_7 hr1 ?_
  obtain ⟨⟨ha2, hb2⟩, h⟩ := gd_e h
  obtain ⟨M2, hM2, h⟩ := nam_e h
  refine jj_last hC hp2 ha2 hb2 (r_il hr1) dL_sink_8 (jj_M hM2 ?_)
  refine jj_goto (tgt := 15) hC dL_sink_9 rfl ?_
  refine jj_iconst hC dL_sink_15 ?_
  cases h
  exact jj_iret hC (c_le rfl) (c_le rfl) dL_sink_16 ⟨rfl, (show (-2147483648 ≤ (0 : Int) ∧ (0 : Int) < 2147483648) from by decide), ex2_r, rfl, rfl, rfl, rfl⟩
def fL_x (ad S Ln : Nat → Nat) (R : gR) (M : gM) (x0 : Nat) (x1 : Int) (x2 : Nat) : Option (Int × gM) :=
  bd (fX9_x ad S Ln R M x0 x1) fun q1 => Sum.elim (fun v1 => gd ((0 : Int) ≤ 0 ∧ 0 < (Ln x2 : Int)) (nam (wr M x2 0 v1) fun M2 => some ((0, M2)))) (fun e1 => if e1 = "java/lang/IndexOutOfBoundsException" then (some ((1, M))) else (if e1 = "java/lang/IllegalStateException" then (some ((2, M))) else (none))) q1
theorem xL_x {l : Launch} {G : gE} {sz : Nat} {S Ln : Nat → Nat} {M : gM} {R : gR} (hl : l.stackTraces = false) {x0 : Nat} (hp0 : S x0 = 12) {x1 : Int} (hp1 : (-2147483648 ≤ x1 ∧ x1 < 2147483648)) {x2 : Nat} (hp2 : S x2 = 21) {r : Int × gM} (h : fL_x G.2.2.2.2 S Ln R M x0 x1 x2 = some r) : CtW l G yL_x cL_x 4 (some .int) [(0, 9, 12, 21), (0, 9, 15, 15)] 11 2 12 [.ref x0, .int (iI x1), .ref x2] sz S Ln M R (poW r.1 S Ln S Ln r.2 R) := by
  refine jj_startW (own := RL) (lv0 := [(0, .ref x0), (1, .int (iI x1)), (2, .ref x2)]) hl (by decide +kernel) rfl rfl rfl (c_le rfl) (fun C hCl hC hT => ?_)
  unfold fL_x at h
  refine jj_aload_n hC dL_x_0 rfl 2 rfl ?_
  refine jj_iconst hC dL_x_1 ?_
  refine jj_aload_n hC dL_x_2 rfl 0 rfl ?_
  refine jj_iload_n hC dL_x_3 rfl 1 rfl ?_
  obtain ⟨q1, hq1, h⟩ := bd_e h
  refine jj_invV hC mvX9_x wd1375 wd1376 wd1374 hp0 (by decide) rfl (xX9_x (OKC.tr hC) hp0 hp1 hq1) rfl rfl (c_le rfl) (c_le rfl) (c_le rfl) (c_le rfl) dL_x_4 (fun E1 sz1 S1 Ln1 M1 R1 hX1 => by
    obtain ⟨e1, he1, hz0, hz1, hz2, hz3, hz4⟩ := hX1
    subst he1
    replace h := el_r h
    rw [hz0, hz1, hz2, hz3, hz4]
    by_cases hE1_0 : e1 = "java/lang/IndexOutOfBoundsException"
    · replace h := (if_pos hE1_0).symm.trans h
      rw [hE1_0]
      refine jj_catch hC hT (h1 := []) (h2 := [(0, 9, 15, 15)]) rfl (fun z hz => nomatch hz) (by decide) (by decide) wd1066 wd1000 (fun qx1 => ?_)
      refine jj_astore_n (lv' := [(3, .ref qx1), (0, .ref x0), (1, .int (iI x1)), (2, .ref x2)]) hC dL_x_12 rfl (by decide) rfl ?_
      refine jj_iconst hC dL_x_13 ?_
      cases h
      exact jj_iret hC (c_le rfl) (c_le rfl) dL_x_14 ⟨rfl, (show (-2147483648 ≤ (1 : Int) ∧ (1 : Int) < 2147483648) from by decide), ex2_r, rfl, rfl, rfl, rfl⟩
    · replace h := (if_neg hE1_0).symm.trans h
      by_cases hE1_1 : e1 = "java/lang/IllegalStateException"
      · replace h := (if_pos hE1_1).symm.trans h
        rw [hE1_1]
        refine jj_catch hC hT (h1 := [(0, 9, 12, 21)]) (h2 := []) rfl (List.forall_mem_cons.mpr ⟨⟨"java/lang/IndexOutOfBoundsException", wd1066, (by decide +kernel), (by decide)⟩, fun z hz => nomatch hz⟩) (by decide) (by decide) wd975 wd1018 (fun qx1 => ?_)
        refine jj_astore_n (lv' := [(3, .ref qx1), (0, .ref x0), (1, .int (iI x1)), (2, .ref x2)]) hC dL_x_15 rfl (by decide) rfl ?_
        refine jj_iconst hC dL_x_16 ?_
        cases h
        exact jj_iret hC (c_le rfl) (c_le rfl) dL_x_17 ⟨rfl, (show (-2147483648 ≤ (2 : Int) ∧ (2 : Int) < 2147483648) from by decide), ex2_r, rfl, rfl, rfl, rfl⟩
      · replace h := (if_neg hE1_1).symm.trans h
        cases h) (poS_k (fun v1 hv1 => po_kI (fun hr1 => ?_)))
  subst hv1
  replace h := el_l h
  refine jj_i2l hC dL_x_7 hr1 ?_
  obtain ⟨⟨ha2, hb2⟩, h⟩ := gd_e h
  obtain ⟨M2, hM2, h⟩ := nam_e h
  refine jj_last hC hp2 ha2 hb2 (r_il hr1) dL_x_8 (jj_M hM2 ?_)
  refine jj_goto (tgt := 18) hC dL_x_9 rfl ?_
  refine jj_iconst hC dL_x_18 ?_
  cases h
  exact jj_iret hC (c_le rfl) (c_le rfl) dL_x_19 ⟨rfl, (show (-2147483648 ≤ (0 : Int) ∧ (0 : Int) < 2147483648) from by decide), ex2_r, rfl, rfl, rfl, rfl⟩
def fL_y (ad S Ln : Nat → Nat) (R : gR) (M : gM) (x0 : Nat) (x1 : Int) (x2 : Nat) : Option (Int × gM) :=
  bd (fX9_y ad S Ln R M x0 x1) fun q1 => Sum.elim (fun v1 => gd ((0 : Int) ≤ 0 ∧ 0 < (Ln x2 : Int)) (nam (wr M x2 0 v1) fun M2 => some ((0, M2)))) (fun e1 => if e1 = "java/lang/IndexOutOfBoundsException" then (some ((1, M))) else (if e1 = "java/lang/IllegalStateException" then (some ((2, M))) else (none))) q1
theorem xL_y {l : Launch} {G : gE} {sz : Nat} {S Ln : Nat → Nat} {M : gM} {R : gR} (hl : l.stackTraces = false) {x0 : Nat} (hp0 : S x0 = 12) {x1 : Int} (hp1 : (-2147483648 ≤ x1 ∧ x1 < 2147483648)) {x2 : Nat} (hp2 : S x2 = 21) {r : Int × gM} (h : fL_y G.2.2.2.2 S Ln R M x0 x1 x2 = some r) : CtW l G yL_y cL_y 4 (some .int) [(0, 9, 12, 21), (0, 9, 15, 15)] 11 2 12 [.ref x0, .int (iI x1), .ref x2] sz S Ln M R (poW r.1 S Ln S Ln r.2 R) := by
  refine jj_startW (own := RL) (lv0 := [(0, .ref x0), (1, .int (iI x1)), (2, .ref x2)]) hl (by decide +kernel) rfl rfl rfl (c_le rfl) (fun C hCl hC hT => ?_)
  unfold fL_y at h
  refine jj_aload_n hC dL_y_0 rfl 2 rfl ?_
  refine jj_iconst hC dL_y_1 ?_
  refine jj_aload_n hC dL_y_2 rfl 0 rfl ?_
  refine jj_iload_n hC dL_y_3 rfl 1 rfl ?_
  obtain ⟨q1, hq1, h⟩ := bd_e h
  refine jj_invV hC mvX9_y wd1388 wd1389 wd1387 hp0 (by decide) rfl (xX9_y (OKC.tr hC) hp0 hp1 hq1) rfl rfl (c_le rfl) (c_le rfl) (c_le rfl) (c_le rfl) dL_y_4 (fun E1 sz1 S1 Ln1 M1 R1 hX1 => by
    obtain ⟨e1, he1, hz0, hz1, hz2, hz3, hz4⟩ := hX1
    subst he1
    replace h := el_r h
    rw [hz0, hz1, hz2, hz3, hz4]
    by_cases hE1_0 : e1 = "java/lang/IndexOutOfBoundsException"
    · replace h := (if_pos hE1_0).symm.trans h
      rw [hE1_0]
      refine jj_catch hC hT (h1 := []) (h2 := [(0, 9, 15, 15)]) rfl (fun z hz => nomatch hz) (by decide) (by decide) wd1066 wd1000 (fun qx1 => ?_)
      refine jj_astore_n (lv' := [(3, .ref qx1), (0, .ref x0), (1, .int (iI x1)), (2, .ref x2)]) hC dL_y_12 rfl (by decide) rfl ?_
      refine jj_iconst hC dL_y_13 ?_
      cases h
      exact jj_iret hC (c_le rfl) (c_le rfl) dL_y_14 ⟨rfl, (show (-2147483648 ≤ (1 : Int) ∧ (1 : Int) < 2147483648) from by decide), ex2_r, rfl, rfl, rfl, rfl⟩
    · replace h := (if_neg hE1_0).symm.trans h
      by_cases hE1_1 : e1 = "java/lang/IllegalStateException"
      · replace h := (if_pos hE1_1).symm.trans h
        rw [hE1_1]
        refine jj_catch hC hT (h1 := [(0, 9, 12, 21)]) (h2 := []) rfl (List.forall_mem_cons.mpr ⟨⟨"java/lang/IndexOutOfBoundsException", wd1066, (by decide +kernel), (by decide)⟩, fun z hz => nomatch hz⟩) (by decide) (by decide) wd975 wd1018 (fun qx1 => ?_)
        refine jj_astore_n (lv' := [(3, .ref qx1), (0, .ref x0), (1, .int (iI x1)), (2, .ref x2)]) hC dL_y_15 rfl (by decide) rfl ?_
        refine jj_iconst hC dL_y_16 ?_
        cases h
        exact jj_iret hC (c_le rfl) (c_le rfl) dL_y_17 ⟨rfl, (show (-2147483648 ≤ (2 : Int) ∧ (2 : Int) < 2147483648) from by decide), ex2_r, rfl, rfl, rfl, rfl⟩
      · replace h := (if_neg hE1_1).symm.trans h
        cases h) (poS_k (fun v1 hv1 => po_kI (fun hr1 => ?_)))
  subst hv1
  replace h := el_l h
  refine jj_i2l hC dL_y_7 hr1 ?_
  obtain ⟨⟨ha2, hb2⟩, h⟩ := gd_e h
  obtain ⟨M2, hM2, h⟩ := nam_e h
  refine jj_last hC hp2 ha2 hb2 (r_il hr1) dL_y_8 (jj_M hM2 ?_)
  refine jj_goto (tgt := 18) hC dL_y_9 rfl ?_
  refine jj_iconst hC dL_y_18 ?_
  cases h
  exact jj_iret hC (c_le rfl) (c_le rfl) dL_y_19 ⟨rfl, (show (-2147483648 ≤ (0 : Int) ∧ (0 : Int) < 2147483648) from by decide), ex2_r, rfl, rfl, rfl, rfl⟩
def fL_height (ad S Ln : Nat → Nat) (R : gR) (M : gM) (x0 : Nat) (x1 : Int) (x2 : Nat) : Option (Int × gM) :=
  bd (fX9_height ad S Ln R M x0 x1) fun q1 => Sum.elim (fun v1 => gd ((0 : Int) ≤ 0 ∧ 0 < (Ln x2 : Int)) (nam (wr M x2 0 v1) fun M2 => some ((0, M2)))) (fun e1 => if e1 = "java/lang/IndexOutOfBoundsException" then (some ((1, M))) else (if e1 = "java/lang/IllegalStateException" then (some ((2, M))) else (none))) q1
theorem xL_height {l : Launch} {G : gE} {sz : Nat} {S Ln : Nat → Nat} {M : gM} {R : gR} (hl : l.stackTraces = false) {x0 : Nat} (hp0 : S x0 = 12) {x1 : Int} (hp1 : (-2147483648 ≤ x1 ∧ x1 < 2147483648)) {x2 : Nat} (hp2 : S x2 = 21) {r : Int × gM} (h : fL_height G.2.2.2.2 S Ln R M x0 x1 x2 = some r) : CtW l G yL_height cL_height 4 (some .int) [(0, 9, 12, 21), (0, 9, 15, 15)] 11 2 12 [.ref x0, .int (iI x1), .ref x2] sz S Ln M R (poW r.1 S Ln S Ln r.2 R) := by
  refine jj_startW (own := RL) (lv0 := [(0, .ref x0), (1, .int (iI x1)), (2, .ref x2)]) hl (by decide +kernel) rfl rfl rfl (c_le rfl) (fun C hCl hC hT => ?_)
  unfold fL_height at h
  refine jj_aload_n hC dL_height_0 rfl 2 rfl ?_
  refine jj_iconst hC dL_height_1 ?_
  refine jj_aload_n hC dL_height_2 rfl 0 rfl ?_
  refine jj_iload_n hC dL_height_3 rfl 1 rfl ?_
  obtain ⟨q1, hq1, h⟩ := bd_e h
  refine jj_invV hC mvX9_height wd1395 wd1396 wd1394 hp0 (by decide) rfl (xX9_height (OKC.tr hC) hp0 hp1 hq1) rfl rfl (c_le rfl) (c_le rfl) (c_le rfl) (c_le rfl) dL_height_4 (fun E1 sz1 S1 Ln1 M1 R1 hX1 => by
    obtain ⟨e1, he1, hz0, hz1, hz2, hz3, hz4⟩ := hX1
    subst he1
    replace h := el_r h
    rw [hz0, hz1, hz2, hz3, hz4]
    by_cases hE1_0 : e1 = "java/lang/IndexOutOfBoundsException"
    · replace h := (if_pos hE1_0).symm.trans h
      rw [hE1_0]
      refine jj_catch hC hT (h1 := []) (h2 := [(0, 9, 15, 15)]) rfl (fun z hz => nomatch hz) (by decide) (by decide) wd1066 wd1000 (fun qx1 => ?_)
      refine jj_astore_n (lv' := [(3, .ref qx1), (0, .ref x0), (1, .int (iI x1)), (2, .ref x2)]) hC dL_height_12 rfl (by decide) rfl ?_
      refine jj_iconst hC dL_height_13 ?_
      cases h
      exact jj_iret hC (c_le rfl) (c_le rfl) dL_height_14 ⟨rfl, (show (-2147483648 ≤ (1 : Int) ∧ (1 : Int) < 2147483648) from by decide), ex2_r, rfl, rfl, rfl, rfl⟩
    · replace h := (if_neg hE1_0).symm.trans h
      by_cases hE1_1 : e1 = "java/lang/IllegalStateException"
      · replace h := (if_pos hE1_1).symm.trans h
        rw [hE1_1]
        refine jj_catch hC hT (h1 := [(0, 9, 12, 21)]) (h2 := []) rfl (List.forall_mem_cons.mpr ⟨⟨"java/lang/IndexOutOfBoundsException", wd1066, (by decide +kernel), (by decide)⟩, fun z hz => nomatch hz⟩) (by decide) (by decide) wd975 wd1018 (fun qx1 => ?_)
        refine jj_astore_n (lv' := [(3, .ref qx1), (0, .ref x0), (1, .int (iI x1)), (2, .ref x2)]) hC dL_height_15 rfl (by decide) rfl ?_
        refine jj_iconst hC dL_height_16 ?_
        cases h
        exact jj_iret hC (c_le rfl) (c_le rfl) dL_height_17 ⟨rfl, (show (-2147483648 ≤ (2 : Int) ∧ (2 : Int) < 2147483648) from by decide), ex2_r, rfl, rfl, rfl, rfl⟩
      · replace h := (if_neg hE1_1).symm.trans h
        cases h) (poS_k (fun v1 hv1 => po_kI (fun hr1 => ?_)))
  subst hv1
  replace h := el_l h
  refine jj_i2l hC dL_height_7 hr1 ?_
  obtain ⟨⟨ha2, hb2⟩, h⟩ := gd_e h
  obtain ⟨M2, hM2, h⟩ := nam_e h
  refine jj_last hC hp2 ha2 hb2 (r_il hr1) dL_height_8 (jj_M hM2 ?_)
  refine jj_goto (tgt := 18) hC dL_height_9 rfl ?_
  refine jj_iconst hC dL_height_18 ?_
  cases h
  exact jj_iret hC (c_le rfl) (c_le rfl) dL_height_19 ⟨rfl, (show (-2147483648 ≤ (0 : Int) ∧ (0 : Int) < 2147483648) from by decide), ex2_r, rfl, rfl, rfl, rfl⟩
def fL_minutes (ad S Ln : Nat → Nat) (R : gR) (M : gM) (x0 : Nat) (x1 : Int) (x2 : Nat) : Option (Int × gM) :=
  bd (fX9_minutes ad S Ln R M x0 x1) fun q1 => Sum.elim (fun v1 => gd ((0 : Int) ≤ 0 ∧ 0 < (Ln x2 : Int)) (nam (wr M x2 0 v1) fun M2 => some ((0, M2)))) (fun e1 => if e1 = "java/lang/IndexOutOfBoundsException" then (some ((1, M))) else (if e1 = "java/lang/IllegalStateException" then (some ((2, M))) else (none))) q1
theorem xL_minutes {l : Launch} {G : gE} {sz : Nat} {S Ln : Nat → Nat} {M : gM} {R : gR} (hl : l.stackTraces = false) {x0 : Nat} (hp0 : S x0 = 12) {x1 : Int} (hp1 : (-2147483648 ≤ x1 ∧ x1 < 2147483648)) {x2 : Nat} (hp2 : S x2 = 21) {r : Int × gM} (h : fL_minutes G.2.2.2.2 S Ln R M x0 x1 x2 = some r) : CtW l G yL_minutes cL_minutes 4 (some .int) [(0, 9, 12, 21), (0, 9, 15, 15)] 11 2 12 [.ref x0, .int (iI x1), .ref x2] sz S Ln M R (poW r.1 S Ln S Ln r.2 R) := by
  refine jj_startW (own := RL) (lv0 := [(0, .ref x0), (1, .int (iI x1)), (2, .ref x2)]) hl (by decide +kernel) rfl rfl rfl (c_le rfl) (fun C hCl hC hT => ?_)
  unfold fL_minutes at h
  refine jj_aload_n hC dL_minutes_0 rfl 2 rfl ?_
  refine jj_iconst hC dL_minutes_1 ?_
  refine jj_aload_n hC dL_minutes_2 rfl 0 rfl ?_
  refine jj_iload_n hC dL_minutes_3 rfl 1 rfl ?_
  obtain ⟨q1, hq1, h⟩ := bd_e h
  refine jj_invV hC mvX9_minutes wd1402 wd1403 wd1401 hp0 (by decide) rfl (xX9_minutes (OKC.tr hC) hp0 hp1 hq1) rfl rfl (c_le rfl) (c_le rfl) (c_le rfl) (c_le rfl) dL_minutes_4 (fun E1 sz1 S1 Ln1 M1 R1 hX1 => by
    obtain ⟨e1, he1, hz0, hz1, hz2, hz3, hz4⟩ := hX1
    subst he1
    replace h := el_r h
    rw [hz0, hz1, hz2, hz3, hz4]
    by_cases hE1_0 : e1 = "java/lang/IndexOutOfBoundsException"
    · replace h := (if_pos hE1_0).symm.trans h
      rw [hE1_0]
      refine jj_catch hC hT (h1 := []) (h2 := [(0, 9, 15, 15)]) rfl (fun z hz => nomatch hz) (by decide) (by decide) wd1066 wd1000 (fun qx1 => ?_)
      refine jj_astore_n (lv' := [(3, .ref qx1), (0, .ref x0), (1, .int (iI x1)), (2, .ref x2)]) hC dL_minutes_12 rfl (by decide) rfl ?_
      refine jj_iconst hC dL_minutes_13 ?_
      cases h
      exact jj_iret hC (c_le rfl) (c_le rfl) dL_minutes_14 ⟨rfl, (show (-2147483648 ≤ (1 : Int) ∧ (1 : Int) < 2147483648) from by decide), ex2_r, rfl, rfl, rfl, rfl⟩
    · replace h := (if_neg hE1_0).symm.trans h
      by_cases hE1_1 : e1 = "java/lang/IllegalStateException"
      · replace h := (if_pos hE1_1).symm.trans h
        rw [hE1_1]
        refine jj_catch hC hT (h1 := [(0, 9, 12, 21)]) (h2 := []) rfl (List.forall_mem_cons.mpr ⟨⟨"java/lang/IndexOutOfBoundsException", wd1066, (by decide +kernel), (by decide)⟩, fun z hz => nomatch hz⟩) (by decide) (by decide) wd975 wd1018 (fun qx1 => ?_)
        refine jj_astore_n (lv' := [(3, .ref qx1), (0, .ref x0), (1, .int (iI x1)), (2, .ref x2)]) hC dL_minutes_15 rfl (by decide) rfl ?_
        refine jj_iconst hC dL_minutes_16 ?_
        cases h
        exact jj_iret hC (c_le rfl) (c_le rfl) dL_minutes_17 ⟨rfl, (show (-2147483648 ≤ (2 : Int) ∧ (2 : Int) < 2147483648) from by decide), ex2_r, rfl, rfl, rfl, rfl⟩
      · replace h := (if_neg hE1_1).symm.trans h
        cases h) (poS_k (fun v1 hv1 => po_kI (fun hr1 => ?_)))
  subst hv1
  replace h := el_l h
  refine jj_i2l hC dL_minutes_7 hr1 ?_
  obtain ⟨⟨ha2, hb2⟩, h⟩ := gd_e h
  obtain ⟨M2, hM2, h⟩ := nam_e h
  refine jj_last hC hp2 ha2 hb2 (r_il hr1) dL_minutes_8 (jj_M hM2 ?_)
  refine jj_goto (tgt := 18) hC dL_minutes_9 rfl ?_
  refine jj_iconst hC dL_minutes_18 ?_
  cases h
  exact jj_iret hC (c_le rfl) (c_le rfl) dL_minutes_19 ⟨rfl, (show (-2147483648 ≤ (0 : Int) ∧ (0 : Int) < 2147483648) from by decide), ex2_r, rfl, rfl, rfl, rfl⟩
def fL_penalty (ad S Ln : Nat → Nat) (R : gR) (M : gM) (x0 : Nat) (x1 : Int) (x2 : Nat) : Option (Int × gM) :=
  bd (fX9_penalty ad S Ln R M x0 x1) fun q1 => Sum.elim (fun v1 => gd ((0 : Int) ≤ 0 ∧ 0 < (Ln x2 : Int)) (nam (wr M x2 0 v1) fun M2 => some ((0, M2)))) (fun e1 => if e1 = "java/lang/IndexOutOfBoundsException" then (some ((1, M))) else (if e1 = "java/lang/IllegalStateException" then (some ((2, M))) else (none))) q1
theorem xL_penalty {l : Launch} {G : gE} {sz : Nat} {S Ln : Nat → Nat} {M : gM} {R : gR} (hl : l.stackTraces = false) {x0 : Nat} (hp0 : S x0 = 12) {x1 : Int} (hp1 : (-2147483648 ≤ x1 ∧ x1 < 2147483648)) {x2 : Nat} (hp2 : S x2 = 21) {r : Int × gM} (h : fL_penalty G.2.2.2.2 S Ln R M x0 x1 x2 = some r) : CtW l G yL_penalty cL_penalty 4 (some .int) [(0, 9, 12, 21), (0, 9, 15, 15)] 11 2 12 [.ref x0, .int (iI x1), .ref x2] sz S Ln M R (poW r.1 S Ln S Ln r.2 R) := by
  refine jj_startW (own := RL) (lv0 := [(0, .ref x0), (1, .int (iI x1)), (2, .ref x2)]) hl (by decide +kernel) rfl rfl rfl (c_le rfl) (fun C hCl hC hT => ?_)
  unfold fL_penalty at h
  refine jj_aload_n hC dL_penalty_0 rfl 2 rfl ?_
  refine jj_iconst hC dL_penalty_1 ?_
  refine jj_aload_n hC dL_penalty_2 rfl 0 rfl ?_
  refine jj_iload_n hC dL_penalty_3 rfl 1 rfl ?_
  obtain ⟨q1, hq1, h⟩ := bd_e h
  refine jj_invV hC mvX9_penalty wd1409 wd1410 wd1408 hp0 (by decide) rfl (xX9_penalty (OKC.tr hC) hp0 hp1 hq1) rfl rfl (c_le rfl) (c_le rfl) (c_le rfl) (c_le rfl) dL_penalty_4 (fun E1 sz1 S1 Ln1 M1 R1 hX1 => by
    obtain ⟨e1, he1, hz0, hz1, hz2, hz3, hz4⟩ := hX1
    subst he1
    replace h := el_r h
    rw [hz0, hz1, hz2, hz3, hz4]
    by_cases hE1_0 : e1 = "java/lang/IndexOutOfBoundsException"
    · replace h := (if_pos hE1_0).symm.trans h
      rw [hE1_0]
      refine jj_catch hC hT (h1 := []) (h2 := [(0, 9, 15, 15)]) rfl (fun z hz => nomatch hz) (by decide) (by decide) wd1066 wd1000 (fun qx1 => ?_)
      refine jj_astore_n (lv' := [(3, .ref qx1), (0, .ref x0), (1, .int (iI x1)), (2, .ref x2)]) hC dL_penalty_12 rfl (by decide) rfl ?_
      refine jj_iconst hC dL_penalty_13 ?_
      cases h
      exact jj_iret hC (c_le rfl) (c_le rfl) dL_penalty_14 ⟨rfl, (show (-2147483648 ≤ (1 : Int) ∧ (1 : Int) < 2147483648) from by decide), ex2_r, rfl, rfl, rfl, rfl⟩
    · replace h := (if_neg hE1_0).symm.trans h
      by_cases hE1_1 : e1 = "java/lang/IllegalStateException"
      · replace h := (if_pos hE1_1).symm.trans h
        rw [hE1_1]
        refine jj_catch hC hT (h1 := [(0, 9, 12, 21)]) (h2 := []) rfl (List.forall_mem_cons.mpr ⟨⟨"java/lang/IndexOutOfBoundsException", wd1066, (by decide +kernel), (by decide)⟩, fun z hz => nomatch hz⟩) (by decide) (by decide) wd975 wd1018 (fun qx1 => ?_)
        refine jj_astore_n (lv' := [(3, .ref qx1), (0, .ref x0), (1, .int (iI x1)), (2, .ref x2)]) hC dL_penalty_15 rfl (by decide) rfl ?_
        refine jj_iconst hC dL_penalty_16 ?_
        cases h
        exact jj_iret hC (c_le rfl) (c_le rfl) dL_penalty_17 ⟨rfl, (show (-2147483648 ≤ (2 : Int) ∧ (2 : Int) < 2147483648) from by decide), ex2_r, rfl, rfl, rfl, rfl⟩
      · replace h := (if_neg hE1_1).symm.trans h
        cases h) (poS_k (fun v1 hv1 => po_kI (fun hr1 => ?_)))
  subst hv1
  replace h := el_l h
  refine jj_i2l hC dL_penalty_7 hr1 ?_
  obtain ⟨⟨ha2, hb2⟩, h⟩ := gd_e h
  obtain ⟨M2, hM2, h⟩ := nam_e h
  refine jj_last hC hp2 ha2 hb2 (r_il hr1) dL_penalty_8 (jj_M hM2 ?_)
  refine jj_goto (tgt := 18) hC dL_penalty_9 rfl ?_
  refine jj_iconst hC dL_penalty_18 ?_
  cases h
  exact jj_iret hC (c_le rfl) (c_le rfl) dL_penalty_19 ⟨rfl, (show (-2147483648 ≤ (0 : Int) ∧ (0 : Int) < 2147483648) from by decide), ex2_r, rfl, rfl, rfl, rfl⟩
def fL_reached (ad S Ln : Nat → Nat) (R : gR) (M : gM) (x0 : Nat) (x1 : Int) (x2 : Nat) : Option (Int × gM) :=
  bd (fX9_reached ad S Ln R M x0 x1) fun q1 => Sum.elim (fun v1 => gd ((0 : Int) ≤ 0 ∧ 0 < (Ln x2 : Int)) (nam (wr M x2 0 v1) fun M2 => some ((0, M2)))) (fun e1 => if e1 = "java/lang/IndexOutOfBoundsException" then (some ((1, M))) else (none)) q1
theorem xL_reached {l : Launch} {G : gE} {sz : Nat} {S Ln : Nat → Nat} {M : gM} {R : gR} (hl : l.stackTraces = false) {x0 : Nat} (hp0 : S x0 = 12) {x1 : Int} (hp1 : (-2147483648 ≤ x1 ∧ x1 < 2147483648)) {x2 : Nat} (hp2 : S x2 = 21) {r : Int × gM} (h : fL_reached G.2.2.2.2 S Ln R M x0 x1 x2 = some r) : CtW l G yL_reached cL_reached 4 (some .int) [(0, 9, 12, 21)] 10 1 6 [.ref x0, .int (iI x1), .ref x2] sz S Ln M R (poW r.1 S Ln S Ln r.2 R) := by
  refine jj_startW (own := RL) (lv0 := [(0, .ref x0), (1, .int (iI x1)), (2, .ref x2)]) hl (by decide +kernel) rfl rfl rfl (c_le rfl) (fun C hCl hC hT => ?_)
  unfold fL_reached at h
  refine jj_aload_n hC dL_reached_0 rfl 2 rfl ?_
  refine jj_iconst hC dL_reached_1 ?_
  refine jj_aload_n hC dL_reached_2 rfl 0 rfl ?_
  refine jj_iload_n hC dL_reached_3 rfl 1 rfl ?_
  obtain ⟨q1, hq1, h⟩ := bd_e h
  refine jj_invV hC mvX9_reached wd1416 wd1417 wd1415 hp0 (by decide) rfl (xX9_reached (OKC.tr hC) hp0 hp1 hq1) rfl rfl (c_le rfl) (c_le rfl) (c_le rfl) (c_le rfl) dL_reached_4 (fun E1 sz1 S1 Ln1 M1 R1 hX1 => by
    obtain ⟨e1, he1, hz0, hz1, hz2, hz3, hz4⟩ := hX1
    subst he1
    replace h := el_r h
    rw [hz0, hz1, hz2, hz3, hz4]
    by_cases hE1_0 : e1 = "java/lang/IndexOutOfBoundsException"
    · replace h := (if_pos hE1_0).symm.trans h
      rw [hE1_0]
      refine jj_catch hC hT (h1 := []) (h2 := []) rfl (fun z hz => nomatch hz) (by decide) (by decide) wd1066 wd1000 (fun qx1 => ?_)
      refine jj_astore_n (lv' := [(3, .ref qx1), (0, .ref x0), (1, .int (iI x1)), (2, .ref x2)]) hC dL_reached_12 rfl (by decide) rfl ?_
      refine jj_iconst hC dL_reached_13 ?_
      cases h
      exact jj_iret hC (c_le rfl) (c_le rfl) dL_reached_14 ⟨rfl, (show (-2147483648 ≤ (1 : Int) ∧ (1 : Int) < 2147483648) from by decide), ex2_r, rfl, rfl, rfl, rfl⟩
    · replace h := (if_neg hE1_0).symm.trans h
      cases h) (poS_k (fun v1 hv1 => po_kI (fun hr1 => ?_)))
  subst hv1
  replace h := el_l h
  refine jj_i2l hC dL_reached_7 hr1 ?_
  obtain ⟨⟨ha2, hb2⟩, h⟩ := gd_e h
  obtain ⟨M2, hM2, h⟩ := nam_e h
  refine jj_last hC hp2 ha2 hb2 (r_il hr1) dL_reached_8 (jj_M hM2 ?_)
  refine jj_goto (tgt := 15) hC dL_reached_9 rfl ?_
  refine jj_iconst hC dL_reached_15 ?_
  cases h
  exact jj_iret hC (c_le rfl) (c_le rfl) dL_reached_16 ⟨rfl, (show (-2147483648 ≤ (0 : Int) ∧ (0 : Int) < 2147483648) from by decide), ex2_r, rfl, rfl, rfl, rfl⟩
def fL_remainingDistance (ad S Ln : Nat → Nat) (R : gR) (M : gM) (x0 : Nat) (x1 : Int) (x2 : Nat) : Option (Int × gM) :=
  bd (fX9_remainingDistance ad S Ln R M x0 x1) fun q1 => Sum.elim (fun v1 => gd ((0 : Int) ≤ 0 ∧ 0 < (Ln x2 : Int)) (nam (wr M x2 0 v1) fun M2 => some ((0, M2)))) (fun e1 => if e1 = "java/lang/IndexOutOfBoundsException" then (some ((1, M))) else (if e1 = "java/lang/IllegalStateException" then (some ((2, M))) else (none))) q1
theorem xL_remainingDistance {l : Launch} {G : gE} {sz : Nat} {S Ln : Nat → Nat} {M : gM} {R : gR} (hl : l.stackTraces = false) {x0 : Nat} (hp0 : S x0 = 12) {x1 : Int} (hp1 : (-2147483648 ≤ x1 ∧ x1 < 2147483648)) {x2 : Nat} (hp2 : S x2 = 21) {r : Int × gM} (h : fL_remainingDistance G.2.2.2.2 S Ln R M x0 x1 x2 = some r) : CtW l G yL_remainingDistance cL_remainingDistance 4 (some .int) [(0, 9, 12, 21), (0, 9, 15, 15)] 11 2 12 [.ref x0, .int (iI x1), .ref x2] sz S Ln M R (poW r.1 S Ln S Ln r.2 R) := by
  refine jj_startW (own := RL) (lv0 := [(0, .ref x0), (1, .int (iI x1)), (2, .ref x2)]) hl (by decide +kernel) rfl rfl rfl (c_le rfl) (fun C hCl hC hT => ?_)
  unfold fL_remainingDistance at h
  refine jj_aload_n hC dL_remainingDistance_0 rfl 2 rfl ?_
  refine jj_iconst hC dL_remainingDistance_1 ?_
  refine jj_aload_n hC dL_remainingDistance_2 rfl 0 rfl ?_
  refine jj_iload_n hC dL_remainingDistance_3 rfl 1 rfl ?_
  obtain ⟨q1, hq1, h⟩ := bd_e h
  refine jj_invV hC mvX9_remainingDistance wd1423 wd1424 wd1422 hp0 (by decide) rfl (xX9_remainingDistance (OKC.tr hC) hp0 hp1 hq1) rfl rfl (c_le rfl) (c_le rfl) (c_le rfl) (c_le rfl) dL_remainingDistance_4 (fun E1 sz1 S1 Ln1 M1 R1 hX1 => by
    obtain ⟨e1, he1, hz0, hz1, hz2, hz3, hz4⟩ := hX1
    subst he1
    replace h := el_r h
    rw [hz0, hz1, hz2, hz3, hz4]
    by_cases hE1_0 : e1 = "java/lang/IndexOutOfBoundsException"
    · replace h := (if_pos hE1_0).symm.trans h
      rw [hE1_0]
      refine jj_catch hC hT (h1 := []) (h2 := [(0, 9, 15, 15)]) rfl (fun z hz => nomatch hz) (by decide) (by decide) wd1066 wd1000 (fun qx1 => ?_)
      refine jj_astore_n (lv' := [(3, .ref qx1), (0, .ref x0), (1, .int (iI x1)), (2, .ref x2)]) hC dL_remainingDistance_12 rfl (by decide) rfl ?_
      refine jj_iconst hC dL_remainingDistance_13 ?_
      cases h
      exact jj_iret hC (c_le rfl) (c_le rfl) dL_remainingDistance_14 ⟨rfl, (show (-2147483648 ≤ (1 : Int) ∧ (1 : Int) < 2147483648) from by decide), ex2_r, rfl, rfl, rfl, rfl⟩
    · replace h := (if_neg hE1_0).symm.trans h
      by_cases hE1_1 : e1 = "java/lang/IllegalStateException"
      · replace h := (if_pos hE1_1).symm.trans h
        rw [hE1_1]
        refine jj_catch hC hT (h1 := [(0, 9, 12, 21)]) (h2 := []) rfl (List.forall_mem_cons.mpr ⟨⟨"java/lang/IndexOutOfBoundsException", wd1066, (by decide +kernel), (by decide)⟩, fun z hz => nomatch hz⟩) (by decide) (by decide) wd975 wd1018 (fun qx1 => ?_)
        refine jj_astore_n (lv' := [(3, .ref qx1), (0, .ref x0), (1, .int (iI x1)), (2, .ref x2)]) hC dL_remainingDistance_15 rfl (by decide) rfl ?_
        refine jj_iconst hC dL_remainingDistance_16 ?_
        cases h
        exact jj_iret hC (c_le rfl) (c_le rfl) dL_remainingDistance_17 ⟨rfl, (show (-2147483648 ≤ (2 : Int) ∧ (2 : Int) < 2147483648) from by decide), ex2_r, rfl, rfl, rfl, rfl⟩
      · replace h := (if_neg hE1_1).symm.trans h
        cases h) (poS_k (fun v1 hv1 => po_kI (fun hr1 => ?_)))
  subst hv1
  replace h := el_l h
  refine jj_i2l hC dL_remainingDistance_7 hr1 ?_
  obtain ⟨⟨ha2, hb2⟩, h⟩ := gd_e h
  obtain ⟨M2, hM2, h⟩ := nam_e h
  refine jj_last hC hp2 ha2 hb2 (r_il hr1) dL_remainingDistance_8 (jj_M hM2 ?_)
  refine jj_goto (tgt := 18) hC dL_remainingDistance_9 rfl ?_
  refine jj_iconst hC dL_remainingDistance_18 ?_
  cases h
  exact jj_iret hC (c_le rfl) (c_le rfl) dL_remainingDistance_19 ⟨rfl, (show (-2147483648 ≤ (0 : Int) ∧ (0 : Int) < 2147483648) from by decide), ex2_r, rfl, rfl, rfl, rfl⟩
def fL_canFinish_B15 (ad S Ln : Nat → Nat) (R : gR) (M15 : gM) (s0_15 : Int) (s1_15 : Int) (s2_15 : Nat) : Option (Int × gM) :=
  gd ((0 : Int) ≤ s1_15 ∧ s1_15 < (Ln s2_15 : Int)) (nam (wr M15 s2_15 s1_15 s0_15) fun M2 => some ((0, M2)))
def fL_canFinish (ad S Ln : Nat → Nat) (R : gR) (M : gM) (x0 : Nat) (x1 : Int) (x2 : Nat) : Option (Int × gM) :=
  bd (fX9_canFinish ad S Ln R M x0 x1) fun q1 => Sum.elim (fun v1 => if v1 = 0 then (fL_canFinish_B15 ad S Ln R M 0 0 x2) else (fL_canFinish_B15 ad S Ln R M 1 0 x2)) (fun e1 => if e1 = "java/lang/IndexOutOfBoundsException" then (some ((1, M))) else (if e1 = "java/lang/IllegalStateException" then (some ((2, M))) else (none))) q1
theorem xL_canFinish {l : Launch} {G : gE} {sz : Nat} {S Ln : Nat → Nat} {M : gM} {R : gR} (hl : l.stackTraces = false) {x0 : Nat} (hp0 : S x0 = 12) {x1 : Int} (hp1 : (-2147483648 ≤ x1 ∧ x1 < 2147483648)) {x2 : Nat} (hp2 : S x2 = 21) {r : Int × gM} (h : fL_canFinish G.2.2.2.2 S Ln R M x0 x1 x2 = some r) : CtW l G yL_canFinish cL_canFinish 4 (some .int) [(0, 16, 19, 21), (0, 16, 22, 15)] 11 2 12 [.ref x0, .int (iI x1), .ref x2] sz S Ln M R (poW r.1 S Ln S Ln r.2 R) := by
  refine jj_startW (own := RL) (lv0 := [(0, .ref x0), (1, .int (iI x1)), (2, .ref x2)]) hl (by decide +kernel) rfl rfl rfl (c_le rfl) (fun C hCl hC hT => ?_)
  have hB15 : ∀ (M15 : gM) (s0_15 : Int) (s1_15 : Int) (s2_15 : Nat), (-9223372036854775808 ≤ s0_15 ∧ s0_15 < 9223372036854775808) → (0 ≤ s1_15 ∧ s1_15 ≤ 1) → S s2_15 = 21 → fL_canFinish_B15 G.2.2.2.2 S Ln R M15 s0_15 s1_15 s2_15 = some r → JJ G C 2 12 sz S Ln M15 R 15 [] [.long (lI s0_15), .int (iI s1_15), .ref s2_15] := by
    intro M15 s0_15 s1_15 s2_15 hs0_15 hs1_15 hs2_15 h
    unfold fL_canFinish_B15 at h
    obtain ⟨⟨ha2, hb2⟩, h⟩ := gd_e h
    obtain ⟨M2, hM2, h⟩ := nam_e h
    refine jj_last hC hs2_15 ha2 hb2 hs0_15 dL_canFinish_15 (jj_M hM2 ?_)
    refine jj_goto (tgt := 25) hC dL_canFinish_16 rfl ?_
    refine jj_iconst hC dL_canFinish_25 ?_
    cases h
    exact jj_iret hC (c_le rfl) (c_le rfl) dL_canFinish_26 ⟨rfl, (show (-2147483648 ≤ (0 : Int) ∧ (0 : Int) < 2147483648) from by decide), ex2_r, rfl, rfl, rfl, rfl⟩
  unfold fL_canFinish at h
  refine jj_aload_n hC dL_canFinish_0 rfl 2 rfl ?_
  refine jj_iconst hC dL_canFinish_1 ?_
  refine jj_aload_n hC dL_canFinish_2 rfl 0 rfl ?_
  refine jj_iload_n hC dL_canFinish_3 rfl 1 rfl ?_
  obtain ⟨q1, hq1, h⟩ := bd_e h
  refine jj_invV hC mvX9_canFinish wd1436 wd1437 wd1435 hp0 (by decide) rfl (xX9_canFinish (OKC.tr hC) hp0 hp1 hq1) rfl rfl (c_le rfl) (c_le rfl) (c_le rfl) (c_le rfl) dL_canFinish_4 (fun E1 sz1 S1 Ln1 M1 R1 hX1 => by
    obtain ⟨e1, he1, hz0, hz1, hz2, hz3, hz4⟩ := hX1
    subst he1
    replace h := el_r h
    rw [hz0, hz1, hz2, hz3, hz4]
    by_cases hE1_0 : e1 = "java/lang/IndexOutOfBoundsException"
    · replace h := (if_pos hE1_0).symm.trans h
      rw [hE1_0]
      refine jj_catch hC hT (h1 := []) (h2 := [(0, 16, 22, 15)]) rfl (fun z hz => nomatch hz) (by decide) (by decide) wd1066 wd1000 (fun qx1 => ?_)
      refine jj_astore_n (lv' := [(3, .ref qx1), (0, .ref x0), (1, .int (iI x1)), (2, .ref x2)]) hC dL_canFinish_19 rfl (by decide) rfl ?_
      refine jj_iconst hC dL_canFinish_20 ?_
      cases h
      exact jj_iret hC (c_le rfl) (c_le rfl) dL_canFinish_21 ⟨rfl, (show (-2147483648 ≤ (1 : Int) ∧ (1 : Int) < 2147483648) from by decide), ex2_r, rfl, rfl, rfl, rfl⟩
    · replace h := (if_neg hE1_0).symm.trans h
      by_cases hE1_1 : e1 = "java/lang/IllegalStateException"
      · replace h := (if_pos hE1_1).symm.trans h
        rw [hE1_1]
        refine jj_catch hC hT (h1 := [(0, 16, 19, 21)]) (h2 := []) rfl (List.forall_mem_cons.mpr ⟨⟨"java/lang/IndexOutOfBoundsException", wd1066, (by decide +kernel), (by decide)⟩, fun z hz => nomatch hz⟩) (by decide) (by decide) wd975 wd1018 (fun qx1 => ?_)
        refine jj_astore_n (lv' := [(3, .ref qx1), (0, .ref x0), (1, .int (iI x1)), (2, .ref x2)]) hC dL_canFinish_22 rfl (by decide) rfl ?_
        refine jj_iconst hC dL_canFinish_23 ?_
        cases h
        exact jj_iret hC (c_le rfl) (c_le rfl) dL_canFinish_24 ⟨rfl, (show (-2147483648 ≤ (2 : Int) ∧ (2 : Int) < 2147483648) from by decide), ex2_r, rfl, rfl, rfl, rfl⟩
      · replace h := (if_neg hE1_1).symm.trans h
        cases h) (poS_k (fun v1 hv1 => po_kZ (fun hr1 => ?_)))
  subst hv1
  replace h := el_l h
  refine jj_if_eq (tgt := 14) hC dL_canFinish_7 rfl (r_z hr1) (fun hc => ?_) (fun hc => ?_)
  · replace h := (if_pos hc).symm.trans h
    refine jj_lconst (z := 0) hC dL_canFinish_14 rfl ?_
    refine jj_lv (lv' := []) [] rfl ?_
    exact hB15 M 0 0 x2 (show (-9223372036854775808 ≤ (0 : Int) ∧ (0 : Int) < 9223372036854775808) from by decide) (show (0 ≤ (0 : Int) ∧ (0 : Int) ≤ 1) from by decide) hp2 h
  · replace h := (if_neg (hc)).symm.trans h
    refine jj_lconst (z := 1) hC dL_canFinish_10 rfl ?_
    refine jj_goto (tgt := 15) hC dL_canFinish_11 rfl ?_
    refine jj_lv (lv' := []) [] rfl ?_
    exact hB15 M 1 0 x2 (show (-9223372036854775808 ≤ (1 : Int) ∧ (1 : Int) < 9223372036854775808) from by decide) (show (0 ≤ (0 : Int) ∧ (0 : Int) ≤ 1) from by decide) hp2 h
def fL_canFinishBySimulation_B15 (ad S Ln : Nat → Nat) (R : gR) (M15 : gM) (s0_15 : Int) (s1_15 : Int) (s2_15 : Nat) : Option (Int × gM) :=
  gd ((0 : Int) ≤ s1_15 ∧ s1_15 < (Ln s2_15 : Int)) (nam (wr M15 s2_15 s1_15 s0_15) fun M2 => some ((0, M2)))
def fL_canFinishBySimulation (ad S Ln : Nat → Nat) (R : gR) (M : gM) (x0 : Nat) (x1 : Int) (x2 : Nat) : Option (Int × gM) :=
  bd (fX9_canFinishBySimulation ad S Ln R M x0 x1) fun q1 => Sum.elim (fun v1 => if v1.1 = 0 then (fL_canFinishBySimulation_B15 ad S Ln R v1.2 0 0 x2) else (fL_canFinishBySimulation_B15 ad S Ln R v1.2 1 0 x2)) (fun e1 => if e1.1 = "java/lang/IndexOutOfBoundsException" then (some ((1, e1.2))) else (if e1.1 = "java/lang/IllegalStateException" then (some ((2, e1.2))) else (none))) q1
theorem xL_canFinishBySimulation {l : Launch} {G : gE} {sz : Nat} {S Ln : Nat → Nat} {M : gM} {R : gR} (hl : l.stackTraces = false) {x0 : Nat} (hp0 : S x0 = 12) {x1 : Int} (hp1 : (-2147483648 ≤ x1 ∧ x1 < 2147483648)) {x2 : Nat} (hp2 : S x2 = 21) {r : Int × gM} (h : fL_canFinishBySimulation G.2.2.2.2 S Ln R M x0 x1 x2 = some r) : CtW l G yL_canFinishBySimulation cL_canFinishBySimulation 4 (some .int) [(0, 16, 19, 21), (0, 16, 22, 15)] 11 2 12 [.ref x0, .int (iI x1), .ref x2] sz S Ln M R (poW r.1 S Ln S Ln r.2 R) := by
  refine jj_startW (own := RL) (lv0 := [(0, .ref x0), (1, .int (iI x1)), (2, .ref x2)]) hl (by decide +kernel) rfl rfl rfl (c_le rfl) (fun C hCl hC hT => ?_)
  have hB15 : ∀ (M15 : gM) (s0_15 : Int) (s1_15 : Int) (s2_15 : Nat), (-9223372036854775808 ≤ s0_15 ∧ s0_15 < 9223372036854775808) → (0 ≤ s1_15 ∧ s1_15 ≤ 1) → S s2_15 = 21 → fL_canFinishBySimulation_B15 G.2.2.2.2 S Ln R M15 s0_15 s1_15 s2_15 = some r → JJ G C 2 12 sz S Ln M15 R 15 [] [.long (lI s0_15), .int (iI s1_15), .ref s2_15] := by
    intro M15 s0_15 s1_15 s2_15 hs0_15 hs1_15 hs2_15 h
    unfold fL_canFinishBySimulation_B15 at h
    obtain ⟨⟨ha2, hb2⟩, h⟩ := gd_e h
    obtain ⟨M2, hM2, h⟩ := nam_e h
    refine jj_last hC hs2_15 ha2 hb2 hs0_15 dL_canFinishBySimulation_15 (jj_M hM2 ?_)
    refine jj_goto (tgt := 25) hC dL_canFinishBySimulation_16 rfl ?_
    refine jj_iconst hC dL_canFinishBySimulation_25 ?_
    cases h
    exact jj_iret hC (c_le rfl) (c_le rfl) dL_canFinishBySimulation_26 ⟨rfl, (show (-2147483648 ≤ (0 : Int) ∧ (0 : Int) < 2147483648) from by decide), ex2_r, rfl, rfl, rfl, rfl⟩
  unfold fL_canFinishBySimulation at h
  refine jj_aload_n hC dL_canFinishBySimulation_0 rfl 2 rfl ?_
  refine jj_iconst hC dL_canFinishBySimulation_1 ?_
  refine jj_aload_n hC dL_canFinishBySimulation_2 rfl 0 rfl ?_
  refine jj_iload_n hC dL_canFinishBySimulation_3 rfl 1 rfl ?_
  obtain ⟨q1, hq1, h⟩ := bd_e h
  refine jj_invV hC mvX9_canFinishBySimulation wd1444 wd1445 wd1443 hp0 (by decide) rfl (xX9_canFinishBySimulation (OKC.tr hC) hp0 hp1 hq1) rfl rfl (c_le rfl) (c_le rfl) (c_le rfl) (c_le rfl) dL_canFinishBySimulation_4 (fun E1 sz1 S1 Ln1 M1 R1 hX1 => by
    obtain ⟨e1, he1, hz0, hz1, hz2, hz3, hz4⟩ := hX1
    subst he1
    replace h := el_r h
    rw [hz0, hz1, hz2, hz3, hz4]
    by_cases hE1_0 : e1.1 = "java/lang/IndexOutOfBoundsException"
    · replace h := (if_pos hE1_0).symm.trans h
      rw [hE1_0]
      refine jj_catch hC hT (h1 := []) (h2 := [(0, 16, 22, 15)]) rfl (fun z hz => nomatch hz) (by decide) (by decide) wd1066 wd1000 (fun qx1 => ?_)
      refine jj_astore_n (lv' := [(3, .ref qx1), (0, .ref x0), (1, .int (iI x1)), (2, .ref x2)]) hC dL_canFinishBySimulation_19 rfl (by decide) rfl ?_
      refine jj_iconst hC dL_canFinishBySimulation_20 ?_
      cases h
      exact jj_iret hC (c_le rfl) (c_le rfl) dL_canFinishBySimulation_21 ⟨rfl, (show (-2147483648 ≤ (1 : Int) ∧ (1 : Int) < 2147483648) from by decide), ex2_r, rfl, rfl, rfl, rfl⟩
    · replace h := (if_neg hE1_0).symm.trans h
      by_cases hE1_1 : e1.1 = "java/lang/IllegalStateException"
      · replace h := (if_pos hE1_1).symm.trans h
        rw [hE1_1]
        refine jj_catch hC hT (h1 := [(0, 16, 19, 21)]) (h2 := []) rfl (List.forall_mem_cons.mpr ⟨⟨"java/lang/IndexOutOfBoundsException", wd1066, (by decide +kernel), (by decide)⟩, fun z hz => nomatch hz⟩) (by decide) (by decide) wd975 wd1018 (fun qx1 => ?_)
        refine jj_astore_n (lv' := [(3, .ref qx1), (0, .ref x0), (1, .int (iI x1)), (2, .ref x2)]) hC dL_canFinishBySimulation_22 rfl (by decide) rfl ?_
        refine jj_iconst hC dL_canFinishBySimulation_23 ?_
        cases h
        exact jj_iret hC (c_le rfl) (c_le rfl) dL_canFinishBySimulation_24 ⟨rfl, (show (-2147483648 ≤ (2 : Int) ∧ (2 : Int) < 2147483648) from by decide), ex2_r, rfl, rfl, rfl, rfl⟩
      · replace h := (if_neg hE1_1).symm.trans h
        cases h) (poS_k (fun v1 hv1 => po_kZ (fun hr1 => ?_)))
  subst hv1
  replace h := el_l h
  refine jj_if_eq (tgt := 14) hC dL_canFinishBySimulation_7 rfl (r_z hr1) (fun hc => ?_) (fun hc => ?_)
  · replace h := (if_pos hc).symm.trans h
    refine jj_lconst (z := 0) hC dL_canFinishBySimulation_14 rfl ?_
    refine jj_lv (lv' := []) [] rfl ?_
    exact hB15 v1.2 0 0 x2 (show (-9223372036854775808 ≤ (0 : Int) ∧ (0 : Int) < 9223372036854775808) from by decide) (show (0 ≤ (0 : Int) ∧ (0 : Int) ≤ 1) from by decide) hp2 h
  · replace h := (if_neg (hc)).symm.trans h
    refine jj_lconst (z := 1) hC dL_canFinishBySimulation_10 rfl ?_
    refine jj_goto (tgt := 15) hC dL_canFinishBySimulation_11 rfl ?_
    refine jj_lv (lv' := []) [] rfl ?_
    exact hB15 v1.2 1 0 x2 (show (-9223372036854775808 ≤ (1 : Int) ∧ (1 : Int) < 9223372036854775808) from by decide) (show (0 ≤ (0 : Int) ∧ (0 : Int) ≤ 1) from by decide) hp2 h
def fL_achievedDistance (ad S Ln : Nat → Nat) (R : gR) (M : gM) (x0 : Nat) (x1 : Int) (x2 : Nat) : Option (Int × gM) :=
  bd (fX9_achievedDistance ad S Ln R M x0 x1) fun q1 => Sum.elim (fun v1 => gd ((0 : Int) ≤ 0 ∧ 0 < (Ln x2 : Int)) (nam (wr M x2 0 v1) fun M2 => some ((0, M2)))) (fun e1 => if e1 = "java/lang/IndexOutOfBoundsException" then (some ((1, M))) else (none)) q1
theorem xL_achievedDistance {l : Launch} {G : gE} {sz : Nat} {S Ln : Nat → Nat} {M : gM} {R : gR} (hl : l.stackTraces = false) {x0 : Nat} (hp0 : S x0 = 12) {x1 : Int} (hp1 : (-2147483648 ≤ x1 ∧ x1 < 2147483648)) {x2 : Nat} (hp2 : S x2 = 21) {r : Int × gM} (h : fL_achievedDistance G.2.2.2.2 S Ln R M x0 x1 x2 = some r) : CtW l G yL_achievedDistance cL_achievedDistance 4 (some .int) [(0, 9, 12, 21)] 10 1 6 [.ref x0, .int (iI x1), .ref x2] sz S Ln M R (poW r.1 S Ln S Ln r.2 R) := by
  refine jj_startW (own := RL) (lv0 := [(0, .ref x0), (1, .int (iI x1)), (2, .ref x2)]) hl (by decide +kernel) rfl rfl rfl (c_le rfl) (fun C hCl hC hT => ?_)
  unfold fL_achievedDistance at h
  refine jj_aload_n hC dL_achievedDistance_0 rfl 2 rfl ?_
  refine jj_iconst hC dL_achievedDistance_1 ?_
  refine jj_aload_n hC dL_achievedDistance_2 rfl 0 rfl ?_
  refine jj_iload_n hC dL_achievedDistance_3 rfl 1 rfl ?_
  obtain ⟨q1, hq1, h⟩ := bd_e h
  refine jj_invV hC mvX9_achievedDistance wd1452 wd1453 wd1451 hp0 (by decide) rfl (xX9_achievedDistance (OKC.tr hC) hp0 hp1 hq1) rfl rfl (c_le rfl) (c_le rfl) (c_le rfl) (c_le rfl) dL_achievedDistance_4 (fun E1 sz1 S1 Ln1 M1 R1 hX1 => by
    obtain ⟨e1, he1, hz0, hz1, hz2, hz3, hz4⟩ := hX1
    subst he1
    replace h := el_r h
    rw [hz0, hz1, hz2, hz3, hz4]
    by_cases hE1_0 : e1 = "java/lang/IndexOutOfBoundsException"
    · replace h := (if_pos hE1_0).symm.trans h
      rw [hE1_0]
      refine jj_catch hC hT (h1 := []) (h2 := []) rfl (fun z hz => nomatch hz) (by decide) (by decide) wd1066 wd1000 (fun qx1 => ?_)
      refine jj_astore_n (lv' := [(3, .ref qx1), (0, .ref x0), (1, .int (iI x1)), (2, .ref x2)]) hC dL_achievedDistance_12 rfl (by decide) rfl ?_
      refine jj_iconst hC dL_achievedDistance_13 ?_
      cases h
      exact jj_iret hC (c_le rfl) (c_le rfl) dL_achievedDistance_14 ⟨rfl, (show (-2147483648 ≤ (1 : Int) ∧ (1 : Int) < 2147483648) from by decide), ex2_r, rfl, rfl, rfl, rfl⟩
    · replace h := (if_neg hE1_0).symm.trans h
      cases h) (poS_k (fun v1 hv1 => po_kI (fun hr1 => ?_)))
  subst hv1
  replace h := el_l h
  refine jj_i2l hC dL_achievedDistance_7 hr1 ?_
  obtain ⟨⟨ha2, hb2⟩, h⟩ := gd_e h
  obtain ⟨M2, hM2, h⟩ := nam_e h
  refine jj_last hC hp2 ha2 hb2 (r_il hr1) dL_achievedDistance_8 (jj_M hM2 ?_)
  refine jj_goto (tgt := 15) hC dL_achievedDistance_9 rfl ?_
  refine jj_iconst hC dL_achievedDistance_15 ?_
  cases h
  exact jj_iret hC (c_le rfl) (c_le rfl) dL_achievedDistance_16 ⟨rfl, (show (-2147483648 ≤ (0 : Int) ∧ (0 : Int) < 2147483648) from by decide), ex2_r, rfl, rfl, rfl, rfl⟩
def fL_dayScore (ad S Ln : Nat → Nat) (R : gR) (M : gM) (x0 : Nat) (x1 : Int) (x2 : Nat) : Option (Int × gM) :=
  bd (fX9_dayScore ad S Ln R M x0 x1) fun q1 => Sum.elim (fun v1 => gd ((0 : Int) ≤ 0 ∧ 0 < (Ln x2 : Int)) (nam (wr M x2 0 v1) fun M2 => some ((0, M2)))) (fun e1 => if e1 = "java/lang/IndexOutOfBoundsException" then (some ((1, M))) else (none)) q1
theorem xL_dayScore {l : Launch} {G : gE} {sz : Nat} {S Ln : Nat → Nat} {M : gM} {R : gR} (hl : l.stackTraces = false) {x0 : Nat} (hp0 : S x0 = 12) {x1 : Int} (hp1 : (-2147483648 ≤ x1 ∧ x1 < 2147483648)) {x2 : Nat} (hp2 : S x2 = 21) {r : Int × gM} (h : fL_dayScore G.2.2.2.2 S Ln R M x0 x1 x2 = some r) : CtW l G yL_dayScore cL_dayScore 4 (some .int) [(0, 9, 12, 21)] 10 1 6 [.ref x0, .int (iI x1), .ref x2] sz S Ln M R (poW r.1 S Ln S Ln r.2 R) := by
  refine jj_startW (own := RL) (lv0 := [(0, .ref x0), (1, .int (iI x1)), (2, .ref x2)]) hl (by decide +kernel) rfl rfl rfl (c_le rfl) (fun C hCl hC hT => ?_)
  unfold fL_dayScore at h
  refine jj_aload_n hC dL_dayScore_0 rfl 2 rfl ?_
  refine jj_iconst hC dL_dayScore_1 ?_
  refine jj_aload_n hC dL_dayScore_2 rfl 0 rfl ?_
  refine jj_iload_n hC dL_dayScore_3 rfl 1 rfl ?_
  obtain ⟨q1, hq1, h⟩ := bd_e h
  refine jj_invV hC mvX9_dayScore wd1460 wd1461 wd1459 hp0 (by decide) rfl (xX9_dayScore (OKC.tr hC) hp0 hp1 hq1) rfl rfl (c_le rfl) (c_le rfl) (c_le rfl) (c_le rfl) dL_dayScore_4 (fun E1 sz1 S1 Ln1 M1 R1 hX1 => by
    obtain ⟨e1, he1, hz0, hz1, hz2, hz3, hz4⟩ := hX1
    subst he1
    replace h := el_r h
    rw [hz0, hz1, hz2, hz3, hz4]
    by_cases hE1_0 : e1 = "java/lang/IndexOutOfBoundsException"
    · replace h := (if_pos hE1_0).symm.trans h
      rw [hE1_0]
      refine jj_catch hC hT (h1 := []) (h2 := []) rfl (fun z hz => nomatch hz) (by decide) (by decide) wd1066 wd1000 (fun qx1 => ?_)
      refine jj_astore_n (lv' := [(3, .ref qx1), (0, .ref x0), (1, .int (iI x1)), (2, .ref x2)]) hC dL_dayScore_12 rfl (by decide) rfl ?_
      refine jj_iconst hC dL_dayScore_13 ?_
      cases h
      exact jj_iret hC (c_le rfl) (c_le rfl) dL_dayScore_14 ⟨rfl, (show (-2147483648 ≤ (1 : Int) ∧ (1 : Int) < 2147483648) from by decide), ex2_r, rfl, rfl, rfl, rfl⟩
    · replace h := (if_neg hE1_0).symm.trans h
      cases h) (poS_k (fun v1 hv1 => po_kI (fun hr1 => ?_)))
  subst hv1
  replace h := el_l h
  refine jj_i2l hC dL_dayScore_7 hr1 ?_
  obtain ⟨⟨ha2, hb2⟩, h⟩ := gd_e h
  obtain ⟨M2, hM2, h⟩ := nam_e h
  refine jj_last hC hp2 ha2 hb2 (r_il hr1) dL_dayScore_8 (jj_M hM2 ?_)
  refine jj_goto (tgt := 15) hC dL_dayScore_9 rfl ?_
  refine jj_iconst hC dL_dayScore_15 ?_
  cases h
  exact jj_iret hC (c_le rfl) (c_le rfl) dL_dayScore_16 ⟨rfl, (show (-2147483648 ≤ (0 : Int) ∧ (0 : Int) < 2147483648) from by decide), ex2_r, rfl, rfl, rfl, rfl⟩
def fL_total (ad S Ln : Nat → Nat) (R : gR) (M : gM) (x0 : Nat) (x1 : Int) (x2 : Nat) : Option (Int × gM) :=
  bd (fX9_total ad S Ln R M x0 x1) fun q1 => Sum.elim (fun v1 => gd ((0 : Int) ≤ 0 ∧ 0 < (Ln x2 : Int)) (nam (wr M x2 0 v1) fun M2 => some ((0, M2)))) (fun e1 => if e1 = "java/lang/IndexOutOfBoundsException" then (some ((1, M))) else (none)) q1
theorem xL_total {l : Launch} {G : gE} {sz : Nat} {S Ln : Nat → Nat} {M : gM} {R : gR} (hl : l.stackTraces = false) {x0 : Nat} (hp0 : S x0 = 12) {x1 : Int} (hp1 : (-2147483648 ≤ x1 ∧ x1 < 2147483648)) {x2 : Nat} (hp2 : S x2 = 21) {r : Int × gM} (h : fL_total G.2.2.2.2 S Ln R M x0 x1 x2 = some r) : CtW l G yL_total cL_total 4 (some .int) [(0, 8, 11, 21)] 10 1 6 [.ref x0, .int (iI x1), .ref x2] sz S Ln M R (poW r.1 S Ln S Ln r.2 R) := by
  refine jj_startW (own := RL) (lv0 := [(0, .ref x0), (1, .int (iI x1)), (2, .ref x2)]) hl (by decide +kernel) rfl rfl rfl (c_le rfl) (fun C hCl hC hT => ?_)
  unfold fL_total at h
  refine jj_aload_n hC dL_total_0 rfl 2 rfl ?_
  refine jj_iconst hC dL_total_1 ?_
  refine jj_aload_n hC dL_total_2 rfl 0 rfl ?_
  refine jj_iload_n hC dL_total_3 rfl 1 rfl ?_
  obtain ⟨q1, hq1, h⟩ := bd_e h
  refine jj_invV hC mvX9_total wd1468 wd1469 wd1467 hp0 (by decide) rfl (xX9_total (OKC.tr hC) hp0 hp1 hq1) rfl rfl (c_le rfl) (c_le rfl) (c_le rfl) (c_le rfl) dL_total_4 (fun E1 sz1 S1 Ln1 M1 R1 hX1 => by
    obtain ⟨e1, he1, hz0, hz1, hz2, hz3, hz4⟩ := hX1
    subst he1
    replace h := el_r h
    rw [hz0, hz1, hz2, hz3, hz4]
    by_cases hE1_0 : e1 = "java/lang/IndexOutOfBoundsException"
    · replace h := (if_pos hE1_0).symm.trans h
      rw [hE1_0]
      refine jj_catch hC hT (h1 := []) (h2 := []) rfl (fun z hz => nomatch hz) (by decide) (by decide) wd1066 wd1000 (fun qx1 => ?_)
      refine jj_astore_n (lv' := [(3, .ref qx1), (0, .ref x0), (1, .int (iI x1)), (2, .ref x2)]) hC dL_total_11 rfl (by decide) rfl ?_
      refine jj_iconst hC dL_total_12 ?_
      cases h
      exact jj_iret hC (c_le rfl) (c_le rfl) dL_total_13 ⟨rfl, (show (-2147483648 ≤ (1 : Int) ∧ (1 : Int) < 2147483648) from by decide), ex2_r, rfl, rfl, rfl, rfl⟩
    · replace h := (if_neg hE1_0).symm.trans h
      cases h) (poS_k (fun v1 hv1 => po_kL (fun hr1 => ?_)))
  subst hv1
  replace h := el_l h
  obtain ⟨⟨ha2, hb2⟩, h⟩ := gd_e h
  obtain ⟨M2, hM2, h⟩ := nam_e h
  refine jj_last hC hp2 ha2 hb2 hr1 dL_total_7 (jj_M hM2 ?_)
  refine jj_goto (tgt := 14) hC dL_total_8 rfl ?_
  refine jj_iconst hC dL_total_14 ?_
  cases h
  exact jj_iret hC (c_le rfl) (c_le rfl) dL_total_15 ⟨rfl, (show (-2147483648 ≤ (0 : Int) ∧ (0 : Int) < 2147483648) from by decide), ex2_r, rfl, rfl, rfl, rfl⟩
def fL_pilotAtRank (ad S Ln : Nat → Nat) (R : gR) (M : gM) (x0 : Nat) (x1 : Int) (x2 : Nat) : Option (Int × gM) :=
  bd (fX9_pilotAtRank ad S Ln R M x0 x1) fun q1 => Sum.elim (fun v1 => gd ((0 : Int) ≤ 0 ∧ 0 < (Ln x2 : Int)) (nam (wr v1.2 x2 0 v1.1) fun M2 => some ((0, M2)))) (fun e1 => if e1.1 = "java/util/NoSuchElementException" then (some ((1, e1.2))) else (none)) q1
theorem xL_pilotAtRank {l : Launch} {G : gE} {sz : Nat} {S Ln : Nat → Nat} {M : gM} {R : gR} (hl : l.stackTraces = false) {x0 : Nat} (hp0 : S x0 = 12) {x1 : Int} (hp1 : (-2147483648 ≤ x1 ∧ x1 < 2147483648)) {x2 : Nat} (hp2 : S x2 = 21) {r : Int × gM} (h : fL_pilotAtRank G.2.2.2.2 S Ln R M x0 x1 x2 = some r) : CtW l G yL_pilotAtRank cL_pilotAtRank 4 (some .int) [(0, 9, 12, 61)] 9 1 6 [.ref x0, .int (iI x1), .ref x2] sz S Ln M R (poW r.1 S Ln S Ln r.2 R) := by
  refine jj_startW (own := RL) (lv0 := [(0, .ref x0), (1, .int (iI x1)), (2, .ref x2)]) hl (by decide +kernel) rfl rfl rfl (c_le rfl) (fun C hCl hC hT => ?_)
  unfold fL_pilotAtRank at h
  refine jj_aload_n hC dL_pilotAtRank_0 rfl 2 rfl ?_
  refine jj_iconst hC dL_pilotAtRank_1 ?_
  refine jj_aload_n hC dL_pilotAtRank_2 rfl 0 rfl ?_
  refine jj_iload_n hC dL_pilotAtRank_3 rfl 1 rfl ?_
  obtain ⟨q1, hq1, h⟩ := bd_e h
  refine jj_invV hC mvX9_pilotAtRank wd1475 wd1476 wd1474 hp0 (by decide) rfl (xX9_pilotAtRank (OKC.tr hC) hp0 hp1 hq1) rfl rfl (c_le rfl) (c_le rfl) (c_le rfl) (c_le rfl) dL_pilotAtRank_4 (fun E1 sz1 S1 Ln1 M1 R1 hX1 => by
    obtain ⟨e1, he1, hz0, hz1, hz2, hz3, hz4⟩ := hX1
    subst he1
    replace h := el_r h
    rw [hz0, hz1, hz2, hz3, hz4]
    by_cases hE1_0 : e1.1 = "java/util/NoSuchElementException"
    · replace h := (if_pos hE1_0).symm.trans h
      rw [hE1_0]
      refine jj_catch hC hT (h1 := []) (h2 := []) rfl (fun z hz => nomatch hz) (by decide) (by decide) wd1273 wd1281 (fun qx1 => ?_)
      refine jj_astore_n (lv' := [(3, .ref qx1), (0, .ref x0), (1, .int (iI x1)), (2, .ref x2)]) hC dL_pilotAtRank_12 rfl (by decide) rfl ?_
      refine jj_iconst hC dL_pilotAtRank_13 ?_
      cases h
      exact jj_iret hC (c_le rfl) (c_le rfl) dL_pilotAtRank_14 ⟨rfl, (show (-2147483648 ≤ (1 : Int) ∧ (1 : Int) < 2147483648) from by decide), ex2_r, rfl, rfl, rfl, rfl⟩
    · replace h := (if_neg hE1_0).symm.trans h
      cases h) (poS_k (fun v1 hv1 => po_kI (fun hr1 => ?_)))
  subst hv1
  replace h := el_l h
  refine jj_i2l hC dL_pilotAtRank_7 hr1 ?_
  obtain ⟨⟨ha2, hb2⟩, h⟩ := gd_e h
  obtain ⟨M2, hM2, h⟩ := nam_e h
  refine jj_last hC hp2 ha2 hb2 (r_il hr1) dL_pilotAtRank_8 (jj_M hM2 ?_)
  refine jj_goto (tgt := 15) hC dL_pilotAtRank_9 rfl ?_
  refine jj_iconst hC dL_pilotAtRank_15 ?_
  cases h
  exact jj_iret hC (c_le rfl) (c_le rfl) dL_pilotAtRank_16 ⟨rfl, (show (-2147483648 ≤ (0 : Int) ∧ (0 : Int) < 2147483648) from by decide), ex2_r, rfl, rfl, rfl, rfl⟩
def fL_speed (ad S Ln : Nat → Nat) (R : gR) (M : gM) (x0 : Nat) (x1 : Int) (x2 : Nat) : Option (Int × gM) :=
  bd (fX9_speed ad S Ln R M x0 x1) fun q1 => Sum.elim (fun v1 => gd (FP.f2d v1 &&& 0x7fffffffffffffff ≤ 0x7ff0000000000000) (gd ((0 : Int) ≤ 0 ∧ 0 < (Ln x2 : Int)) (nam (wr M x2 0 (dI (FP.f2d v1))) fun M3 => some ((0, M3))))) (fun e1 => if e1 = "java/lang/IndexOutOfBoundsException" then (some ((1, M))) else (if e1 = "java/lang/IllegalStateException" then (some ((2, M))) else (none))) q1
theorem xL_speed {l : Launch} {G : gE} {sz : Nat} {S Ln : Nat → Nat} {M : gM} {R : gR} (hl : l.stackTraces = false) {x0 : Nat} (hp0 : S x0 = 12) {x1 : Int} (hp1 : (-2147483648 ≤ x1 ∧ x1 < 2147483648)) {x2 : Nat} (hp2 : S x2 = 22) {r : Int × gM} (h : fL_speed G.2.2.2.2 S Ln R M x0 x1 x2 = some r) : CtW l G yL_speed cL_speed 4 (some .int) [(0, 9, 12, 21), (0, 9, 15, 15)] 11 2 12 [.ref x0, .int (iI x1), .ref x2] sz S Ln M R (poW r.1 S Ln S Ln r.2 R) := by
  refine jj_startW (own := RL) (lv0 := [(0, .ref x0), (1, .int (iI x1)), (2, .ref x2)]) hl (by decide +kernel) rfl rfl rfl (c_le rfl) (fun C hCl hC hT => ?_)
  unfold fL_speed at h
  refine jj_aload_n hC dL_speed_0 rfl 2 rfl ?_
  refine jj_iconst hC dL_speed_1 ?_
  refine jj_aload_n hC dL_speed_2 rfl 0 rfl ?_
  refine jj_iload_n hC dL_speed_3 rfl 1 rfl ?_
  obtain ⟨q1, hq1, h⟩ := bd_e h
  refine jj_invV hC mvX9_speed wd1495 wd1496 wd1494 hp0 (by decide) rfl (xX9_speed (OKC.tr hC) hp0 hp1 hq1) rfl rfl (c_le rfl) (c_le rfl) (c_le rfl) (c_le rfl) dL_speed_4 (fun E1 sz1 S1 Ln1 M1 R1 hX1 => by
    obtain ⟨e1, he1, hz0, hz1, hz2, hz3, hz4⟩ := hX1
    subst he1
    replace h := el_r h
    rw [hz0, hz1, hz2, hz3, hz4]
    by_cases hE1_0 : e1 = "java/lang/IndexOutOfBoundsException"
    · replace h := (if_pos hE1_0).symm.trans h
      rw [hE1_0]
      refine jj_catch hC hT (h1 := []) (h2 := [(0, 9, 15, 15)]) rfl (fun z hz => nomatch hz) (by decide) (by decide) wd1066 wd1000 (fun qx1 => ?_)
      refine jj_astore_n (lv' := [(3, .ref qx1), (0, .ref x0), (1, .int (iI x1)), (2, .ref x2)]) hC dL_speed_12 rfl (by decide) rfl ?_
      refine jj_iconst hC dL_speed_13 ?_
      cases h
      exact jj_iret hC (c_le rfl) (c_le rfl) dL_speed_14 ⟨rfl, (show (-2147483648 ≤ (1 : Int) ∧ (1 : Int) < 2147483648) from by decide), ex2_r, rfl, rfl, rfl, rfl⟩
    · replace h := (if_neg hE1_0).symm.trans h
      by_cases hE1_1 : e1 = "java/lang/IllegalStateException"
      · replace h := (if_pos hE1_1).symm.trans h
        rw [hE1_1]
        refine jj_catch hC hT (h1 := [(0, 9, 12, 21)]) (h2 := []) rfl (List.forall_mem_cons.mpr ⟨⟨"java/lang/IndexOutOfBoundsException", wd1066, (by decide +kernel), (by decide)⟩, fun z hz => nomatch hz⟩) (by decide) (by decide) wd975 wd1018 (fun qx1 => ?_)
        refine jj_astore_n (lv' := [(3, .ref qx1), (0, .ref x0), (1, .int (iI x1)), (2, .ref x2)]) hC dL_speed_15 rfl (by decide) rfl ?_
        refine jj_iconst hC dL_speed_16 ?_
        cases h
        exact jj_iret hC (c_le rfl) (c_le rfl) dL_speed_17 ⟨rfl, (show (-2147483648 ≤ (2 : Int) ∧ (2 : Int) < 2147483648) from by decide), ex2_r, rfl, rfl, rfl, rfl⟩
      · replace h := (if_neg hE1_1).symm.trans h
        cases h) (poS_k (fun v1 hv1 => po_kF ?_))
  subst hv1
  replace h := el_l h
  obtain ⟨hg2, h⟩ := gd_e h
  refine jj_f2d hC hg2 dL_speed_7 ?_
  obtain ⟨⟨ha3, hb3⟩, h⟩ := gd_e h
  obtain ⟨M3, hM3, h⟩ := nam_e h
  refine jg_dast hC hp2 ha3 hb3 dL_speed_8 (jj_M hM3 ?_)
  refine jj_goto (tgt := 18) hC dL_speed_9 rfl ?_
  refine jj_iconst hC dL_speed_18 ?_
  cases h
  exact jj_iret hC (c_le rfl) (c_le rfl) dL_speed_19 ⟨rfl, (show (-2147483648 ≤ (0 : Int) ∧ (0 : Int) < 2147483648) from by decide), ex2_r, rfl, rfl, rfl, rfl⟩
def fL_meanScore (ad S Ln : Nat → Nat) (R : gR) (M : gM) (x0 : Nat) (x1 : Nat) : Option (Int × gM) :=
  bd (fX9_meanScore ad S Ln R M x0) fun q1 => Sum.elim (fun v1 => gd ((0 : Int) ≤ 0 ∧ 0 < (Ln x1 : Int)) (nam (wr M x1 0 (dI v1)) fun M2 => some ((0, M2)))) (fun e1 => if e1 = "java/lang/ArithmeticException" then (some ((1, M))) else (none)) q1
theorem xL_meanScore {l : Launch} {G : gE} {sz : Nat} {S Ln : Nat → Nat} {M : gM} {R : gR} (hl : l.stackTraces = false) {x0 : Nat} (hp0 : S x0 = 12) {x1 : Nat} (hp1 : S x1 = 22) {r : Int × gM} (h : fL_meanScore G.2.2.2.2 S Ln R M x0 x1 = some r) : CtW l G yL_meanScore cL_meanScore 3 (some .int) [(0, 7, 10, 137)] 9 1 6 [.ref x0, .ref x1] sz S Ln M R (poW r.1 S Ln S Ln r.2 R) := by
  refine jj_startW (own := RL) (lv0 := [(0, .ref x0), (1, .ref x1)]) hl (by decide +kernel) rfl rfl rfl (c_le rfl) (fun C hCl hC hT => ?_)
  unfold fL_meanScore at h
  refine jj_aload_n hC dL_meanScore_0 rfl 1 rfl ?_
  refine jj_iconst hC dL_meanScore_1 ?_
  refine jj_aload_n hC dL_meanScore_2 rfl 0 rfl ?_
  obtain ⟨q1, hq1, h⟩ := bd_e h
  refine jj_invV hC mvX9_meanScore wd1516 wd1517 wd1515 hp0 (by decide) rfl (xX9_meanScore (OKC.tr hC) hp0 hq1) rfl rfl (c_le rfl) (c_le rfl) (c_le rfl) (c_le rfl) dL_meanScore_3 (fun E1 sz1 S1 Ln1 M1 R1 hX1 => by
    obtain ⟨e1, he1, hz0, hz1, hz2, hz3, hz4⟩ := hX1
    subst he1
    replace h := el_r h
    rw [hz0, hz1, hz2, hz3, hz4]
    by_cases hE1_0 : e1 = "java/lang/ArithmeticException"
    · replace h := (if_pos hE1_0).symm.trans h
      rw [hE1_0]
      refine jj_catch hC hT (h1 := []) (h2 := []) rfl (fun z hz => nomatch hz) (by decide) (by decide) wd1501 wd1513 (fun qx1 => ?_)
      refine jj_astore_n (lv' := [(2, .ref qx1), (0, .ref x0), (1, .ref x1)]) hC dL_meanScore_10 rfl (by decide) rfl ?_
      refine jj_iconst hC dL_meanScore_11 ?_
      cases h
      exact jj_iret hC (c_le rfl) (c_le rfl) dL_meanScore_12 ⟨rfl, (show (-2147483648 ≤ (1 : Int) ∧ (1 : Int) < 2147483648) from by decide), ex2_r, rfl, rfl, rfl, rfl⟩
    · replace h := (if_neg hE1_0).symm.trans h
      cases h) (poS_k (fun v1 hv1 => po_kD ?_))
  subst hv1
  replace h := el_l h
  obtain ⟨⟨ha2, hb2⟩, h⟩ := gd_e h
  obtain ⟨M2, hM2, h⟩ := nam_e h
  refine jg_dast hC hp1 ha2 hb2 dL_meanScore_6 (jj_M hM2 ?_)
  refine jj_goto (tgt := 13) hC dL_meanScore_7 rfl ?_
  refine jj_iconst hC dL_meanScore_13 ?_
  cases h
  exact jj_iret hC (c_le rfl) (c_le rfl) dL_meanScore_14 ⟨rfl, (show (-2147483648 ≤ (0 : Int) ∧ (0 : Int) < 2147483648) from by decide), ex2_r, rfl, rfl, rfl, rfl⟩
def fL_append (ad S Ln : Nat → Nat) (R : gR) (M : gM) (x0 : Nat) (x1 : Int) (x2 : Nat) : Option (Int × gM) :=
  bd (fX9_append ad S Ln R M x0 x1) fun q1 => Sum.elim (fun v1 => gd ((0 : Int) ≤ 0 ∧ 0 < (Ln x2 : Int)) (nam (wr v1.2 x2 0 v1.1) fun M2 => some ((0, M2)))) (fun e1 => if e1.1 = "java/lang/IllegalStateException" then (some ((1, e1.2))) else (none)) q1
theorem xL_append {l : Launch} {G : gE} {sz : Nat} {S Ln : Nat → Nat} {M : gM} {R : gR} (hl : l.stackTraces = false) {x0 : Nat} (hp0 : S x0 = 12) {x1 : Int} (hp1 : (0 ≤ x1 ∧ x1 < 65536)) {x2 : Nat} (hp2 : S x2 = 21) {r : Int × gM} (h : fL_append G.2.2.2.2 S Ln R M x0 x1 x2 = some r) : CtW l G yL_append cL_append 4 (some .int) [(0, 9, 12, 15)] 9 1 6 [.ref x0, .int (iI x1), .ref x2] sz S Ln M R (poW r.1 S Ln S Ln r.2 R) := by
  refine jj_startW (own := RL) (lv0 := [(0, .ref x0), (1, .int (iI x1)), (2, .ref x2)]) hl (by decide +kernel) rfl rfl rfl (c_le rfl) (fun C hCl hC hT => ?_)
  unfold fL_append at h
  refine jj_aload_n hC dL_append_0 rfl 2 rfl ?_
  refine jj_iconst hC dL_append_1 ?_
  refine jj_aload_n hC dL_append_2 rfl 0 rfl ?_
  refine jj_iload_n hC dL_append_3 rfl 1 rfl ?_
  obtain ⟨q1, hq1, h⟩ := bd_e h
  refine jj_invV hC mvX9_append wd1530 wd1531 wd1529 hp0 (by decide) rfl (xX9_append (OKC.tr hC) hp0 hp1 hq1) rfl rfl (c_le rfl) (c_le rfl) (c_le rfl) (c_le rfl) dL_append_4 (fun E1 sz1 S1 Ln1 M1 R1 hX1 => by
    obtain ⟨e1, he1, hz0, hz1, hz2, hz3, hz4⟩ := hX1
    subst he1
    replace h := el_r h
    rw [hz0, hz1, hz2, hz3, hz4]
    by_cases hE1_0 : e1.1 = "java/lang/IllegalStateException"
    · replace h := (if_pos hE1_0).symm.trans h
      rw [hE1_0]
      refine jj_catch hC hT (h1 := []) (h2 := []) rfl (fun z hz => nomatch hz) (by decide) (by decide) wd975 wd1018 (fun qx1 => ?_)
      refine jj_astore_n (lv' := [(3, .ref qx1), (0, .ref x0), (1, .int (iI x1)), (2, .ref x2)]) hC dL_append_12 rfl (by decide) rfl ?_
      refine jj_iconst hC dL_append_13 ?_
      cases h
      exact jj_iret hC (c_le rfl) (c_le rfl) dL_append_14 ⟨rfl, (show (-2147483648 ≤ (1 : Int) ∧ (1 : Int) < 2147483648) from by decide), ex2_r, rfl, rfl, rfl, rfl⟩
    · replace h := (if_neg hE1_0).symm.trans h
      cases h) (poS_k (fun v1 hv1 => po_kI (fun hr1 => ?_)))
  subst hv1
  replace h := el_l h
  refine jj_i2l hC dL_append_7 hr1 ?_
  obtain ⟨⟨ha2, hb2⟩, h⟩ := gd_e h
  obtain ⟨M2, hM2, h⟩ := nam_e h
  refine jj_last hC hp2 ha2 hb2 (r_il hr1) dL_append_8 (jj_M hM2 ?_)
  refine jj_goto (tgt := 15) hC dL_append_9 rfl ?_
  refine jj_iconst hC dL_append_15 ?_
  cases h
  exact jj_iret hC (c_le rfl) (c_le rfl) dL_append_16 ⟨rfl, (show (-2147483648 ≤ (0 : Int) ∧ (0 : Int) < 2147483648) from by decide), ex2_r, rfl, rfl, rfl, rfl⟩
def fL_run (ad S Ln : Nat → Nat) (R : gR) (M : gM) (x0 : Nat) (x1 : Nat) : Option (Int × gM × gR) :=
  bd (fX9_run ad S Ln R M x0) fun q1 => Sum.elim (fun v1 => gd ((0 : Int) ≤ 0 ∧ 0 < (Ln x1 : Int)) (nam (wr v1.2.1 x1 0 v1.1) fun M2 => some ((0, M2, v1.2.2)))) (fun e1 => if e1.1 = "java/lang/IllegalArgumentException" then (some ((1, e1.2.1, e1.2.2))) else (if e1.1 = "java/lang/UnsupportedOperationException" then (some ((2, e1.2.1, e1.2.2))) else (none))) q1
theorem xL_run {l : Launch} {G : gE} {sz : Nat} {S Ln : Nat → Nat} {M : gM} {R : gR} (hl : l.stackTraces = false) {x0 : Nat} (hp0 : S x0 = 12) {x1 : Nat} (hp1 : S x1 = 21) {r : Int × gM × gR} (h : fL_run G.2.2.2.2 S Ln R M x0 x1 = some r) : CtW l G yL_run cL_run 3 (some .int) [(0, 8, 11, 13), (0, 8, 14, 23)] 18 1 6 [.ref x0, .ref x1] sz S Ln M R (poW r.1 S Ln S Ln r.2.1 r.2.2) := by
  refine jj_startW (own := RL) (lv0 := [(0, .ref x0), (1, .ref x1)]) hl (by decide +kernel) rfl rfl rfl (c_le rfl) (fun C hCl hC hT => ?_)
  unfold fL_run at h
  refine jj_aload_n hC dL_run_0 rfl 1 rfl ?_
  refine jj_iconst hC dL_run_1 ?_
  refine jj_aload_n hC dL_run_2 rfl 0 rfl ?_
  obtain ⟨q1, hq1, h⟩ := bd_e h
  refine jj_invV hC mvX9_run wd1547 wd1548 wd1546 hp0 (by decide) rfl (xX9_run (OKC.tr hC) hp0 hq1) rfl rfl (c_le rfl) (c_le rfl) (c_le rfl) (c_le rfl) dL_run_3 (fun E1 sz1 S1 Ln1 M1 R1 hX1 => by
    obtain ⟨e1, he1, hz0, hz1, hz2, hz3, hz4⟩ := hX1
    subst he1
    replace h := el_r h
    rw [hz0, hz1, hz2, hz3, hz4]
    by_cases hE1_0 : e1.1 = "java/lang/IllegalArgumentException"
    · replace h := (if_pos hE1_0).symm.trans h
      rw [hE1_0]
      refine jj_catch hC hT (h1 := []) (h2 := [(0, 8, 14, 23)]) rfl (fun z hz => nomatch hz) (by decide) (by decide) wd974 wd775 (fun qx1 => ?_)
      refine jj_astore_n (lv' := [(2, .ref qx1), (0, .ref x0), (1, .ref x1)]) hC dL_run_11 rfl (by decide) rfl ?_
      refine jj_iconst hC dL_run_12 ?_
      cases h
      exact jj_iret hC (c_le rfl) (c_le rfl) dL_run_13 ⟨rfl, (show (-2147483648 ≤ (1 : Int) ∧ (1 : Int) < 2147483648) from by decide), ex2_r, rfl, rfl, rfl, rfl⟩
    · replace h := (if_neg hE1_0).symm.trans h
      by_cases hE1_1 : e1.1 = "java/lang/UnsupportedOperationException"
      · replace h := (if_pos hE1_1).symm.trans h
        rw [hE1_1]
        refine jj_catch hC hT (h1 := [(0, 8, 11, 13)]) (h2 := []) rfl (List.forall_mem_cons.mpr ⟨⟨"java/lang/IllegalArgumentException", wd974, (by decide +kernel), (by decide)⟩, fun z hz => nomatch hz⟩) (by decide) (by decide) wd1069 wd1036 (fun qx1 => ?_)
        refine jj_astore_n (lv' := [(2, .ref qx1), (0, .ref x0), (1, .ref x1)]) hC dL_run_14 rfl (by decide) rfl ?_
        refine jj_iconst hC dL_run_15 ?_
        cases h
        exact jj_iret hC (c_le rfl) (c_le rfl) dL_run_16 ⟨rfl, (show (-2147483648 ≤ (2 : Int) ∧ (2 : Int) < 2147483648) from by decide), ex2_r, rfl, rfl, rfl, rfl⟩
      · replace h := (if_neg hE1_1).symm.trans h
        cases h) (poS_k (fun v1 hv1 => po_kI (fun hr1 => ?_)))
  subst hv1
  replace h := el_l h
  refine jj_i2l hC dL_run_6 hr1 ?_
  obtain ⟨⟨ha2, hb2⟩, h⟩ := gd_e h
  obtain ⟨M2, hM2, h⟩ := nam_e h
  refine jj_last hC hp1 ha2 hb2 (r_il hr1) dL_run_7 (jj_M hM2 ?_)
  refine jj_goto (tgt := 17) hC dL_run_8 rfl ?_
  refine jj_iconst hC dL_run_17 ?_
  cases h
  exact jj_iret hC (c_le rfl) (c_le rfl) dL_run_18 ⟨rfl, (show (-2147483648 ≤ (0 : Int) ∧ (0 : Int) < 2147483648) from by decide), ex2_r, rfl, rfl, rfl, rfl⟩
def fL_errorPosition (ad S Ln : Nat → Nat) (R : gR) (M : gM) (x0 : Nat) (x1 : Nat) : Option (Int × gM) :=
  bd (fX9_errorPosition ad S Ln R M x0) fun q1 => Sum.elim (fun v1 => gd ((0 : Int) ≤ 0 ∧ 0 < (Ln x1 : Int)) (nam (wr M x1 0 v1) fun M2 => some ((0, M2)))) (fun e1 => if e1 = "java/util/NoSuchElementException" then (some ((1, M))) else (none)) q1
theorem xL_errorPosition {l : Launch} {G : gE} {sz : Nat} {S Ln : Nat → Nat} {M : gM} {R : gR} (hl : l.stackTraces = false) {x0 : Nat} (hp0 : S x0 = 12) {x1 : Nat} (hp1 : S x1 = 21) {r : Int × gM} (h : fL_errorPosition G.2.2.2.2 S Ln R M x0 x1 = some r) : CtW l G yL_errorPosition cL_errorPosition 3 (some .int) [(0, 8, 11, 61)] 9 1 6 [.ref x0, .ref x1] sz S Ln M R (poW r.1 S Ln S Ln r.2 R) := by
  refine jj_startW (own := RL) (lv0 := [(0, .ref x0), (1, .ref x1)]) hl (by decide +kernel) rfl rfl rfl (c_le rfl) (fun C hCl hC hT => ?_)
  unfold fL_errorPosition at h
  refine jj_aload_n hC dL_errorPosition_0 rfl 1 rfl ?_
  refine jj_iconst hC dL_errorPosition_1 ?_
  refine jj_aload_n hC dL_errorPosition_2 rfl 0 rfl ?_
  obtain ⟨q1, hq1, h⟩ := bd_e h
  refine jj_invV hC mvX9_errorPosition wd1634 wd1635 wd1633 hp0 (by decide) rfl (xX9_errorPosition (OKC.tr hC) hp0 hq1) rfl rfl (c_le rfl) (c_le rfl) (c_le rfl) (c_le rfl) dL_errorPosition_3 (fun E1 sz1 S1 Ln1 M1 R1 hX1 => by
    obtain ⟨e1, he1, hz0, hz1, hz2, hz3, hz4⟩ := hX1
    subst he1
    replace h := el_r h
    rw [hz0, hz1, hz2, hz3, hz4]
    by_cases hE1_0 : e1 = "java/util/NoSuchElementException"
    · replace h := (if_pos hE1_0).symm.trans h
      rw [hE1_0]
      refine jj_catch hC hT (h1 := []) (h2 := []) rfl (fun z hz => nomatch hz) (by decide) (by decide) wd1273 wd1281 (fun qx1 => ?_)
      refine jj_astore_n (lv' := [(2, .ref qx1), (0, .ref x0), (1, .ref x1)]) hC dL_errorPosition_11 rfl (by decide) rfl ?_
      refine jj_iconst hC dL_errorPosition_12 ?_
      cases h
      exact jj_iret hC (c_le rfl) (c_le rfl) dL_errorPosition_13 ⟨rfl, (show (-2147483648 ≤ (1 : Int) ∧ (1 : Int) < 2147483648) from by decide), ex2_r, rfl, rfl, rfl, rfl⟩
    · replace h := (if_neg hE1_0).symm.trans h
      cases h) (poS_k (fun v1 hv1 => po_kI (fun hr1 => ?_)))
  subst hv1
  replace h := el_l h
  refine jj_i2l hC dL_errorPosition_6 hr1 ?_
  obtain ⟨⟨ha2, hb2⟩, h⟩ := gd_e h
  obtain ⟨M2, hM2, h⟩ := nam_e h
  refine jj_last hC hp1 ha2 hb2 (r_il hr1) dL_errorPosition_7 (jj_M hM2 ?_)
  refine jj_goto (tgt := 14) hC dL_errorPosition_8 rfl ?_
  refine jj_iconst hC dL_errorPosition_14 ?_
  cases h
  exact jj_iret hC (c_le rfl) (c_le rfl) dL_errorPosition_15 ⟨rfl, (show (-2147483648 ≤ (0 : Int) ∧ (0 : Int) < 2147483648) from by decide), ex2_r, rfl, rfl, rfl, rfl⟩
def fL_failedCommand (ad S Ln : Nat → Nat) (R : gR) (M : gM) (x0 : Nat) (x1 : Nat) : Option (Int × gM) :=
  bd (fX9_failedCommand ad S Ln R M x0) fun q1 => Sum.elim (fun v1 => gd ((0 : Int) ≤ 0 ∧ 0 < (Ln x1 : Int)) (nam (wr M x1 0 v1) fun M2 => some ((0, M2)))) (fun e1 => if e1 = "java/util/NoSuchElementException" then (some ((1, M))) else (none)) q1
theorem xL_failedCommand {l : Launch} {G : gE} {sz : Nat} {S Ln : Nat → Nat} {M : gM} {R : gR} (hl : l.stackTraces = false) {x0 : Nat} (hp0 : S x0 = 12) {x1 : Nat} (hp1 : S x1 = 21) {r : Int × gM} (h : fL_failedCommand G.2.2.2.2 S Ln R M x0 x1 = some r) : CtW l G yL_failedCommand cL_failedCommand 3 (some .int) [(0, 8, 11, 61)] 9 1 6 [.ref x0, .ref x1] sz S Ln M R (poW r.1 S Ln S Ln r.2 R) := by
  refine jj_startW (own := RL) (lv0 := [(0, .ref x0), (1, .ref x1)]) hl (by decide +kernel) rfl rfl rfl (c_le rfl) (fun C hCl hC hT => ?_)
  unfold fL_failedCommand at h
  refine jj_aload_n hC dL_failedCommand_0 rfl 1 rfl ?_
  refine jj_iconst hC dL_failedCommand_1 ?_
  refine jj_aload_n hC dL_failedCommand_2 rfl 0 rfl ?_
  obtain ⟨q1, hq1, h⟩ := bd_e h
  refine jj_invV hC mvX9_failedCommand wd1642 wd1643 wd1641 hp0 (by decide) rfl (xX9_failedCommand (OKC.tr hC) hp0 hq1) rfl rfl (c_le rfl) (c_le rfl) (c_le rfl) (c_le rfl) dL_failedCommand_3 (fun E1 sz1 S1 Ln1 M1 R1 hX1 => by
    obtain ⟨e1, he1, hz0, hz1, hz2, hz3, hz4⟩ := hX1
    subst he1
    replace h := el_r h
    rw [hz0, hz1, hz2, hz3, hz4]
    by_cases hE1_0 : e1 = "java/util/NoSuchElementException"
    · replace h := (if_pos hE1_0).symm.trans h
      rw [hE1_0]
      refine jj_catch hC hT (h1 := []) (h2 := []) rfl (fun z hz => nomatch hz) (by decide) (by decide) wd1273 wd1281 (fun qx1 => ?_)
      refine jj_astore_n (lv' := [(2, .ref qx1), (0, .ref x0), (1, .ref x1)]) hC dL_failedCommand_11 rfl (by decide) rfl ?_
      refine jj_iconst hC dL_failedCommand_12 ?_
      cases h
      exact jj_iret hC (c_le rfl) (c_le rfl) dL_failedCommand_13 ⟨rfl, (show (-2147483648 ≤ (1 : Int) ∧ (1 : Int) < 2147483648) from by decide), ex2_r, rfl, rfl, rfl, rfl⟩
    · replace h := (if_neg hE1_0).symm.trans h
      cases h) (poS_k (fun v1 hv1 => po_kI (fun hr1 => ?_)))
  subst hv1
  replace h := el_l h
  refine jj_i2l hC dL_failedCommand_6 hr1 ?_
  obtain ⟨⟨ha2, hb2⟩, h⟩ := gd_e h
  obtain ⟨M2, hM2, h⟩ := nam_e h
  refine jj_last hC hp1 ha2 hb2 (r_il hr1) dL_failedCommand_7 (jj_M hM2 ?_)
  refine jj_goto (tgt := 14) hC dL_failedCommand_8 rfl ?_
  refine jj_iconst hC dL_failedCommand_14 ?_
  cases h
  exact jj_iret hC (c_le rfl) (c_le rfl) dL_failedCommand_15 ⟨rfl, (show (-2147483648 ≤ (0 : Int) ∧ (0 : Int) < 2147483648) from by decide), ex2_r, rfl, rfl, rfl, rfl⟩
def fL_writePilot (ad : Nat → Nat) (sz : Nat) (S Ln : Nat → Nat) (R : gR) (M : gM) (x0 : Nat) (x1 : Int) (x2 : Nat) : Option (Int × (Nat → Nat) × (Nat → Nat) × gM × gR) :=
  bd (fX9_writePilot ad sz S Ln R M x0 x1) fun q1 => Sum.elim (fun v1 => gd ((0 : Int) ≤ 0 ∧ 0 < (v1.2.2.2.1 x2 : Int)) (nam (wr v1.2.2.2.2.1 x2 0 v1.1) fun M2 => some ((0, v1.2.2.1, v1.2.2.2.1, M2, v1.2.2.2.2.2)))) (fun e1 => if e1.1 = "java/lang/IndexOutOfBoundsException" then (some ((1, S, Ln, e1.2.2.2.1, e1.2.2.2.2))) else (none)) q1
theorem xL_writePilot {l : Launch} {G : gE} {sz : Nat} {S Ln : Nat → Nat} {M : gM} {R : gR} (hl : l.stackTraces = false) {x0 : Nat} (hp0 : S x0 = 12) {x1 : Int} (hp1 : (-2147483648 ≤ x1 ∧ x1 < 2147483648)) {x2 : Nat} (hp2 : S x2 = 21) {r : Int × (Nat → Nat) × (Nat → Nat) × gM × gR} (h : fL_writePilot G.2.2.2.2 sz S Ln R M x0 x1 x2 = some r) : CtW l G yL_writePilot cL_writePilot 4 (some .int) [(0, 9, 12, 21)] 14 15 3840 [.ref x0, .int (iI x1), .ref x2] sz S Ln M R (poW r.1 S Ln r.2.1 r.2.2.1 r.2.2.2.1 r.2.2.2.2) := by
  refine jj_startW (own := RL) (lv0 := [(0, .ref x0), (1, .int (iI x1)), (2, .ref x2)]) hl (by decide +kernel) rfl rfl rfl (c_le rfl) (fun C hCl hC hT => ?_)
  unfold fL_writePilot at h
  refine jj_aload_n hC dL_writePilot_0 rfl 2 rfl ?_
  refine jj_iconst hC dL_writePilot_1 ?_
  refine jj_aload_n hC dL_writePilot_2 rfl 0 rfl ?_
  refine jj_iload_n hC dL_writePilot_3 rfl 1 rfl ?_
  obtain ⟨q1, hq1, h⟩ := bd_e h
  refine jj_invV hC mvX9_writePilot wd1650 wd1651 wd1649 hp0 (by decide) rfl (xX9_writePilot (OKC.tr hC) hp0 hp1 hq1) rfl rfl (c_le rfl) (c_le rfl) (by omega) (by omega) dL_writePilot_4 (fun E1 sz1 S1 Ln1 M1 R1 hX1 => by
    obtain ⟨e1, he1, hz0, hz1, hz2, hz3, hz4⟩ := hX1
    subst he1
    replace h := el_r h
    obtain ⟨hS9, hLn9⟩ := fX9_writePilot_e hq1
    rw [hS9] at hz1
    rw [hLn9] at hz2
    rw [hz0, hz1, hz2, hz3, hz4]
    by_cases hE1_0 : e1.1 = "java/lang/IndexOutOfBoundsException"
    · replace h := (if_pos hE1_0).symm.trans h
      rw [hE1_0]
      refine jj_catch hC hT (h1 := []) (h2 := []) rfl (fun z hz => nomatch hz) (by decide) (by decide) wd1066 wd1000 (fun qx1 => ?_)
      refine jj_astore_n (lv' := [(3, .ref qx1), (0, .ref x0), (1, .int (iI x1)), (2, .ref x2)]) hC dL_writePilot_12 rfl (by decide) rfl ?_
      refine jj_iconst hC dL_writePilot_13 ?_
      cases h
      exact jj_iret hC (by omega) (by omega) dL_writePilot_14 ⟨rfl, (show (-2147483648 ≤ (1 : Int) ∧ (1 : Int) < 2147483648) from by decide), ex2_r, rfl, rfl, rfl, rfl⟩
    · replace h := (if_neg hE1_0).symm.trans h
      cases h) (poS_k (fun v1 hv1 => poX_k (fun hx1 => po_kI (fun hr1 => ?_))))
  refine jj_widen (k' := 15) (n' := 3840) (by omega) (by omega) ?_
  subst hv1
  replace h := el_l h
  refine jj_i2l hC dL_writePilot_7 hr1 ?_
  obtain ⟨⟨ha2, hb2⟩, h⟩ := gd_e h
  obtain ⟨M2, hM2, h⟩ := nam_e h
  refine jj_last hC (ext_s hx1 hp2 (by decide)) ha2 hb2 (r_il hr1) dL_writePilot_8 (jj_M hM2 ?_)
  refine jj_goto (tgt := 15) hC dL_writePilot_9 rfl ?_
  refine jj_iconst hC dL_writePilot_15 ?_
  cases h
  exact jj_iret hC (by omega) (by omega) dL_writePilot_16 ⟨rfl, (show (-2147483648 ≤ (0 : Int) ∧ (0 : Int) < 2147483648) from by decide), hx1.2, rfl, rfl, rfl, rfl⟩
def fL_outputAt (ad S Ln : Nat → Nat) (R : gR) (M : gM) (x0 : Nat) (x1 : Int) (x2 : Nat) : Option (Int × gM) :=
  bd (fX9_outputAt ad S Ln R M x0 x1) fun q1 => Sum.elim (fun v1 => gd ((0 : Int) ≤ 0 ∧ 0 < (Ln x2 : Int)) (nam (wr M x2 0 v1) fun M2 => some ((0, M2)))) (fun e1 => if e1 = "java/lang/IndexOutOfBoundsException" then (some ((1, M))) else (none)) q1
theorem xL_outputAt {l : Launch} {G : gE} {sz : Nat} {S Ln : Nat → Nat} {M : gM} {R : gR} (hl : l.stackTraces = false) {x0 : Nat} (hp0 : S x0 = 12) {x1 : Int} (hp1 : (-2147483648 ≤ x1 ∧ x1 < 2147483648)) {x2 : Nat} (hp2 : S x2 = 21) {r : Int × gM} (h : fL_outputAt G.2.2.2.2 S Ln R M x0 x1 x2 = some r) : CtW l G yL_outputAt cL_outputAt 4 (some .int) [(0, 9, 12, 21)] 13 1 6 [.ref x0, .int (iI x1), .ref x2] sz S Ln M R (poW r.1 S Ln S Ln r.2 R) := by
  refine jj_startW (own := RL) (lv0 := [(0, .ref x0), (1, .int (iI x1)), (2, .ref x2)]) hl (by decide +kernel) rfl rfl rfl (c_le rfl) (fun C hCl hC hT => ?_)
  unfold fL_outputAt at h
  refine jj_aload_n hC dL_outputAt_0 rfl 2 rfl ?_
  refine jj_iconst hC dL_outputAt_1 ?_
  refine jj_aload_n hC dL_outputAt_2 rfl 0 rfl ?_
  refine jj_iload_n hC dL_outputAt_3 rfl 1 rfl ?_
  obtain ⟨q1, hq1, h⟩ := bd_e h
  refine jj_invV hC mvX9_outputAt wd1669 wd1670 wd1668 hp0 (by decide) rfl (xX9_outputAt (OKC.tr hC) hp0 hp1 hq1) rfl rfl (c_le rfl) (c_le rfl) (c_le rfl) (c_le rfl) dL_outputAt_4 (fun E1 sz1 S1 Ln1 M1 R1 hX1 => by
    obtain ⟨e1, he1, hz0, hz1, hz2, hz3, hz4⟩ := hX1
    subst he1
    replace h := el_r h
    rw [hz0, hz1, hz2, hz3, hz4]
    by_cases hE1_0 : e1 = "java/lang/IndexOutOfBoundsException"
    · replace h := (if_pos hE1_0).symm.trans h
      rw [hE1_0]
      refine jj_catch hC hT (h1 := []) (h2 := []) rfl (fun z hz => nomatch hz) (by decide) (by decide) wd1066 wd1000 (fun qx1 => ?_)
      refine jj_astore_n (lv' := [(3, .ref qx1), (0, .ref x0), (1, .int (iI x1)), (2, .ref x2)]) hC dL_outputAt_12 rfl (by decide) rfl ?_
      refine jj_iconst hC dL_outputAt_13 ?_
      cases h
      exact jj_iret hC (c_le rfl) (c_le rfl) dL_outputAt_14 ⟨rfl, (show (-2147483648 ≤ (1 : Int) ∧ (1 : Int) < 2147483648) from by decide), ex2_r, rfl, rfl, rfl, rfl⟩
    · replace h := (if_neg hE1_0).symm.trans h
      cases h) (poS_k (fun v1 hv1 => po_kC (fun hr1 => ?_)))
  subst hv1
  replace h := el_l h
  refine jj_i2l hC dL_outputAt_7 (r_c hr1) ?_
  obtain ⟨⟨ha2, hb2⟩, h⟩ := gd_e h
  obtain ⟨M2, hM2, h⟩ := nam_e h
  refine jj_last hC hp2 ha2 hb2 (r_il (r_c hr1)) dL_outputAt_8 (jj_M hM2 ?_)
  refine jj_goto (tgt := 15) hC dL_outputAt_9 rfl ?_
  refine jj_iconst hC dL_outputAt_15 ?_
  cases h
  exact jj_iret hC (c_le rfl) (c_le rfl) dL_outputAt_16 ⟨rfl, (show (-2147483648 ≤ (0 : Int) ∧ (0 : Int) < 2147483648) from by decide), ex2_r, rfl, rfl, rfl, rfl⟩
def fL_undo (ad S Ln : Nat → Nat) (R : gR) (M : gM) (x0 : Nat) (x1 : Nat) : Option (Int × gM) :=
  bd (fX9_undo ad S Ln R M x0) fun q1 => Sum.elim (fun v1 => gd ((0 : Int) ≤ 0 ∧ 0 < (Ln x1 : Int)) (nam (wr v1.2 x1 0 v1.1) fun M2 => some ((0, M2)))) (fun e1 => if e1.1 = "java/lang/IllegalStateException" then (some ((1, e1.2))) else (none)) q1
theorem xL_undo {l : Launch} {G : gE} {sz : Nat} {S Ln : Nat → Nat} {M : gM} {R : gR} (hl : l.stackTraces = false) {x0 : Nat} (hp0 : S x0 = 12) {x1 : Nat} (hp1 : S x1 = 21) {r : Int × gM} (h : fL_undo G.2.2.2.2 S Ln R M x0 x1 = some r) : CtW l G yL_undo cL_undo 3 (some .int) [(0, 8, 11, 15)] 9 1 6 [.ref x0, .ref x1] sz S Ln M R (poW r.1 S Ln S Ln r.2 R) := by
  refine jj_startW (own := RL) (lv0 := [(0, .ref x0), (1, .ref x1)]) hl (by decide +kernel) rfl rfl rfl (c_le rfl) (fun C hCl hC hT => ?_)
  unfold fL_undo at h
  refine jj_aload_n hC dL_undo_0 rfl 1 rfl ?_
  refine jj_iconst hC dL_undo_1 ?_
  refine jj_aload_n hC dL_undo_2 rfl 0 rfl ?_
  obtain ⟨q1, hq1, h⟩ := bd_e h
  refine jj_invV hC mvX9_undo wd1687 wd1688 wd1686 hp0 (by decide) rfl (xX9_undo (OKC.tr hC) hp0 hq1) rfl rfl (c_le rfl) (c_le rfl) (c_le rfl) (c_le rfl) dL_undo_3 (fun E1 sz1 S1 Ln1 M1 R1 hX1 => by
    obtain ⟨e1, he1, hz0, hz1, hz2, hz3, hz4⟩ := hX1
    subst he1
    replace h := el_r h
    rw [hz0, hz1, hz2, hz3, hz4]
    by_cases hE1_0 : e1.1 = "java/lang/IllegalStateException"
    · replace h := (if_pos hE1_0).symm.trans h
      rw [hE1_0]
      refine jj_catch hC hT (h1 := []) (h2 := []) rfl (fun z hz => nomatch hz) (by decide) (by decide) wd975 wd1018 (fun qx1 => ?_)
      refine jj_astore_n (lv' := [(2, .ref qx1), (0, .ref x0), (1, .ref x1)]) hC dL_undo_11 rfl (by decide) rfl ?_
      refine jj_iconst hC dL_undo_12 ?_
      cases h
      exact jj_iret hC (c_le rfl) (c_le rfl) dL_undo_13 ⟨rfl, (show (-2147483648 ≤ (1 : Int) ∧ (1 : Int) < 2147483648) from by decide), ex2_r, rfl, rfl, rfl, rfl⟩
    · replace h := (if_neg hE1_0).symm.trans h
      cases h) (poS_k (fun v1 hv1 => po_kI (fun hr1 => ?_)))
  subst hv1
  replace h := el_l h
  refine jj_i2l hC dL_undo_6 hr1 ?_
  obtain ⟨⟨ha2, hb2⟩, h⟩ := gd_e h
  obtain ⟨M2, hM2, h⟩ := nam_e h
  refine jj_last hC hp1 ha2 hb2 (r_il hr1) dL_undo_7 (jj_M hM2 ?_)
  refine jj_goto (tgt := 14) hC dL_undo_8 rfl ?_
  refine jj_iconst hC dL_undo_14 ?_
  cases h
  exact jj_iret hC (c_le rfl) (c_le rfl) dL_undo_15 ⟨rfl, (show (-2147483648 ≤ (0 : Int) ∧ (0 : Int) < 2147483648) from by decide), ex2_r, rfl, rfl, rfl, rfl⟩
def fL_restore (ad S Ln : Nat → Nat) (R : gR) (M : gM) (x0 : Nat) : Option (Int × gM) :=
  bd (fX9_restore ad S Ln R M x0) fun q1 => Sum.elim (fun v1 => some ((0, v1))) (fun e1 => if e1.1 = "java/lang/IllegalStateException" then (some ((1, e1.2))) else (none)) q1
theorem xL_restore {l : Launch} {G : gE} {sz : Nat} {S Ln : Nat → Nat} {M : gM} {R : gR} (hl : l.stackTraces = false) {x0 : Nat} (hp0 : S x0 = 12) {r : Int × gM} (h : fL_restore G.2.2.2.2 S Ln R M x0 = some r) : CtW l G yL_restore cL_restore 2 (some .int) [(0, 4, 7, 15)] 9 1 6 [.ref x0] sz S Ln M R (poW r.1 S Ln S Ln r.2 R) := by
  refine jj_startW (own := RL) (lv0 := [(0, .ref x0)]) hl (by decide +kernel) rfl rfl rfl (c_le rfl) (fun C hCl hC hT => ?_)
  unfold fL_restore at h
  refine jj_aload_n hC dL_restore_0 rfl 0 rfl ?_
  obtain ⟨q1, hq1, h⟩ := bd_e h
  refine jj_invV hC mvX9_restore wd1699 wd1700 wd1698 hp0 (by decide) rfl (xX9_restore (OKC.tr hC) hp0 hq1) rfl rfl (c_le rfl) (c_le rfl) (c_le rfl) (c_le rfl) dL_restore_1 (fun E1 sz1 S1 Ln1 M1 R1 hX1 => by
    obtain ⟨e1, he1, hz0, hz1, hz2, hz3, hz4⟩ := hX1
    subst he1
    replace h := el_r h
    rw [hz0, hz1, hz2, hz3, hz4]
    by_cases hE1_0 : e1.1 = "java/lang/IllegalStateException"
    · replace h := (if_pos hE1_0).symm.trans h
      rw [hE1_0]
      refine jj_catch hC hT (h1 := []) (h2 := []) rfl (fun z hz => nomatch hz) (by decide) (by decide) wd975 wd1018 (fun qx1 => ?_)
      refine jj_astore_n (lv' := [(1, .ref qx1), (0, .ref x0)]) hC dL_restore_7 rfl (by decide) rfl ?_
      refine jj_iconst hC dL_restore_8 ?_
      cases h
      exact jj_iret hC (c_le rfl) (c_le rfl) dL_restore_9 ⟨rfl, (show (-2147483648 ≤ (1 : Int) ∧ (1 : Int) < 2147483648) from by decide), ex2_r, rfl, rfl, rfl, rfl⟩
    · replace h := (if_neg hE1_0).symm.trans h
      cases h) (poS_k (fun v1 hv1 => po_kV ?_))
  subst hv1
  replace h := el_l h
  refine jj_goto (tgt := 10) hC dL_restore_4 rfl ?_
  refine jj_iconst hC dL_restore_10 ?_
  cases h
  exact jj_iret hC (c_le rfl) (c_le rfl) dL_restore_11 ⟨rfl, (show (-2147483648 ≤ (0 : Int) ∧ (0 : Int) < 2147483648) from by decide), ex2_r, rfl, rfl, rfl, rfl⟩
