/-! rows for the law: methods with a table of handlers, rows of ints that are read alone, doubles -/
def Ex2 (S Ln S' Ln' : Nat → Nat) : Prop := ∀ a, S a ≠ 0 → S' a = S a ∧ Ln' a = Ln a
theorem ex2_r {S Ln : Nat → Nat} : Ex2 S Ln S Ln := fun _ _ => ⟨rfl, rfl⟩
theorem ex2_t {S Ln S1 Ln1 S2 Ln2 : Nat → Nat} (h : Ex2 S Ln S1 Ln1) (h2 : Ex2 S1 Ln1 S2 Ln2) : Ex2 S Ln S2 Ln2 := fun a ha => by
  obtain ⟨e1, e2⟩ := h a ha
  obtain ⟨e3, e4⟩ := h2 a (by rw [e1]; exact ha)
  exact ⟨e3.trans e1, e4.trans e2⟩
theorem ex2_s {S Ln S1 Ln1 : Nat → Nat} (h : Ex2 S Ln S1 Ln1) {a kd : Nat} (hs : S a = kd) (h0 : kd ≠ 0) : S1 a = kd := (h a (by rw [hs]; exact h0)).1.trans hs
abbrev poW (q : Int) (S Ln S2 Ln2 : Nat → Nat) (M2 : gM) (R2 : gR) : gP := fun v _ S' Ln' M' R' => v = some (.int (iI q)) ∧ (-2147483648 ≤ q ∧ q < 2147483648) ∧ Ex2 S Ln S2 Ln2 ∧ S' = S2 ∧ Ln' = Ln2 ∧ M' = M2 ∧ R' = R2
def dI (v : UInt64) : Int := v.toInt64.toInt
def dD (z : Int) : UInt64 := (lI z).toUInt64
theorem dI_r (v : UInt64) : (-9223372036854775808 ≤ dI v ∧ dI v < 9223372036854775808) := ⟨Int64.le_toInt _, Int64.toInt_lt _⟩
theorem dD_dI (v : UInt64) : dD (dI v) = v := by unfold dD dI; rw [lI_self]; rfl
def i_dcl (x y : UInt64) : Int := (Op.cmpValue (FP.dcmp x y) .l).toInt
section JJL
variable {G : gE} {C : gC} {own : String} {cc : ByteArray} {nL : Nat} {ret : Option FieldType} {fr mc ms : Nat} {P : gP} {X : gX} {k n sz : Nat} {S Ln : Nat → Nat} {M : gM} {R : gR} {pc : Nat} {lv lv' : List (Nat × Value)} {st : List Value}
theorem po_kW {q : Int} {S0 Ln0 : Nat → Nat} (h : (-2147483648 ≤ q ∧ q < 2147483648) → Ex2 S0 Ln0 S Ln → ∀ sz, JJ G C k n sz S Ln M R pc lv (.int (iI q) :: st)) : ∀ v sz' S' Ln' M' R', poW q S0 Ln0 S Ln M R v sz' S' Ln' M' R' → JJ G C k n sz' S' Ln' M' R' pc lv (v.toList ++ st) := by
  rintro v sz' S' Ln' M' R' ⟨h1, h2, h3, h4, h5, h6, h7⟩; subst h1; rw [h4, h5, h6, h7]; exact h h2 h3 sz'
def CCo (C : gC) : Code := C.2.2.2.2.2.2.2.2.2.1
/-- the contract of a method with handlers that throws nothing -/
def CtW (l : Launch) (G : gE) (y : MethodName) (cc : ByteArray) (nL : Nat) (ret : Option FieldType) (hh : List (Nat × Nat × Nat × Nat)) (fr mc ms : Nat) (av : List Value) (sz : Nat) (S Ln : Nat → Nat) (M : gM) (R : gR) (P : gP) : Prop :=
  Met l y (.codeWith y cc nL ret hh :: gW) (gRm fr mc ms) (gPc G av sz S Ln M R) (gQc G P) mc ms (fun q => G.2.2.2.1 ≤ q)
theorem jj_startW {l : Launch} {y : MethodName} {av : List Value} {lv0 : List (Nat × Value)} {hh : List (Nat × Nat × Nat × Nat)} (hfl : l.stackTraces = false) (hy : plainName own = true) (hyo : y.cls = own) (how : own = "GlidingContestLaw") (hlv : lv_args 0 av = lv0) (hn : (lg_sl av).length ≤ nL)
    (body : ∀ C : gC, LV C = l → OKC G C own cc nL ret fr mc ms P noX → (CCo C).exceptionTable.toList = tableOf hh → JJ G C 0 0 sz S Ln M R 0 lv0 []) : CtW l G y cc nL ret hh fr mc ms av sz S Ln M R P := by
  subst hyo
  have hM : vx_Met l y (.codeWith y cc nL ret hh :: gW) (gRm fr mc ms) (gPc G av sz S Ln M R) (gQc G P) (gXc G noX) mc ms (fun q => G.2.2.2.1 ≤ q) := by
    refine vx_ofWH (cc := cc) (maxL := nL) (ret := ret) (hh := hh) hy rfl ?_
    intro p e s m args below meth c s₁ B hml hv
    obtain ⟨rfl, hR, hE, hz⟩ := hv
    have hok : OKC G (p, l, e, gRm fr mc ms, s, m, av.toArray, below, meth, c, vx_MQ below (gQc G P) (gXc G noX) av.toArray s mc ms (fun q => G.2.2.2.1 ≤ q)) y.cls cc nL ret fr mc ms P noX :=
      ⟨B.exec, B.bytes, hml, findClass_of_methodNamed B.named, fun w hw => atoms_spec (ws := .codeWith y cc nL ret hh :: gW) B.pre w (List.mem_cons_of_mem _ hw), hE, B.notSynchronized, B.returns, hfl, ⟨Nat.le_refl _, Nat.le_refl _, Nat.le_refl _, Nat.le_refl _⟩, rfl, fun h => absurd how h, hz⟩
    have hT : c.exceptionTable.toList = tableOf hh := vx_table (x := y) B (atoms_spec (ws := .codeWith y cc nL ret hh :: gW) B.pre _ List.mem_cons_self)
    have h := body _ rfl hok hT s.heap [] _ hR va_S.rf (by rw [hml, ← hlv]; exact lv_entry av (n := nL) hn)
    rw [lg_entry_eq]
    exact h
  intro p e ha hc hk s m args below hf happ hP hK
  obtain ⟨n, o, h1, h2, h3, h4⟩ := hM p e ha hc hk s m args below hf happ hP hK
  refine ⟨n, o, h1, h2, h3, ?_⟩
  rcases h4 with h4 | ⟨q, -, E, ce, L, ⟨⟨sz', S', Ln', M', R', hx, -⟩, -⟩, -⟩
  · exact h4
  · exact hx.elim
/-- caught by a row of the table -/
theorem jj_catch (hC : OKC G C own cc nL ret fr mc ms P X) {E : String} {hh h1 h2 : List (Nat × Nat × Nat × Nat)} {a b t ct : Nat} (hT : (CCo C).exceptionTable.toList = tableOf hh) (hsp : hh = h1 ++ (a, b, t, ct) :: h2) (hpass : ∀ z ∈ h1, ∃ nm, Cond.classLink own z.2.2.2 nm ∈ gW ∧ (E, nm) ∈ gNc ∧ z.2.2.2 ≠ 0) (hcov : covers ⟨a, b, t, ct⟩ pc = true) (h0 : ct ≠ 0) (hlk : Cond.classLink own ct E ∈ gW) (hca : Cond.castable E E ∈ gNW)
    (kk : ∀ q : Nat, JJ G C k n sz S Ln M R t lv [.ref q]) : JX G C k n E sz S Ln M R pc lv st := by
  obtain ⟨p, l, e, Rm, s, m, args, below, meth, c, Q⟩ := C
  obtain ⟨hx, hb, hml, hown, hts, hE, hlk2, hrt, hst, hRm, hQ, htab, hz⟩ := hC
  intro H locs ls q ce hR hS hl hce hcv hcl
  have hT9 : c.exceptionTable.toList = tableOf hh := hT
  refine vx_catch (own := own) (name := E) hown (tableOf h1) ⟨a, b, t, ct⟩ (tableOf h2) (by rw [hT9, hsp]; simp [tableOf]) ?_ hcov h0 (hts _ hlk) (va_Nw.use rfl (hE.2.1.1 _ hca)) hce hcv hcl (kk q H locs ls hR hS hl)
  intro z hz
  obtain ⟨y, hy, rfl⟩ := List.mem_map.mp hz
  obtain ⟨nm, g1, g2, g3⟩ := hpass y hy
  exact Or.inr ⟨g3, nm, hts _ g1, hE.2.1.2.1.1 _ g2⟩
def MVW (y : MethodName) (cc2 : ByteArray) (nL2 : Nat) (ret2 : Option FieldType) (hh : List (Nat × Nat × Nat × Nat)) (np : Nat) : Prop := Cond.codeWith y cc2 nL2 ret2 hh ∈ gW ∧ Cond.initialized y.cls ∈ gW ∧ y.cls ≠ "java/lang/invoke/MethodHandle" ∧ y.cls ≠ "java/lang/invoke/VarHandle" ∧ (parseMethodDescriptor y.desc).map (fun d => d.parameters.length) = some np ∧ nL2 ≤ 45
theorem jj_invSW (hC : OKC G C own cc nL ret fr mc ms P X) {y : MethodName} {cc2 : ByteArray} {nL2 : Nat} {ret2 : Option FieldType} {hh : List (Nat × Nat × Nat × Nat)} {np fr2 mc2 ms2 index : Nat} {As st0 : List Value} {P2 : gP}
    (hm : MVW y cc2 nL2 ret2 hh np) (hin : Cond.static y ∈ gW) (hlk : Cond.methodLink own index y ∈ gW) (hct : CtW (LV C) G y cc2 nL2 ret2 hh fr2 mc2 ms2 As sz S Ln M R P2) (hn : As.length = np) (hst0 : st0 = As.reverse ++ st) (hW : (st.map fun v => v.category).sum ≤ 8) (hfr : fr2 + 1 ≤ fr) (hk : k + mc2 ≤ mc) (hns : n + ms2 ≤ ms) (hdg : decode cc pc = .ok (.invokestatic index, 3))
    (kk : ∀ v sz S Ln M R, P2 v sz S Ln M R → JJ G C (k + mc2) (n + ms2) sz S Ln M R (pc + 3) lv (v.toList ++ st)) : JJ G C k n sz S Ln M R pc lv st0 := by
  obtain ⟨p, l, e, Rm, s, m, args, below, meth, c, Q⟩ := C
  obtain ⟨hx, hb, hml, hown, hts, hE, hlk2, hrt, hst, hRm, hQ, htab, hz⟩ := hC
  intro H locs ls hR hS hl
  obtain ⟨m1, m2, m3, m4, m5, m6⟩ := hm
  obtain ⟨rm1, rm2, rm3, rm4⟩ := hRm
  subst hst0
  exact jj_run (X2 := noX) (jj_va (vx_runSW (Ts := gW) (own := own) ⟨hx, hb, hml, hown, hts⟩ hct (vx_cwSW (ws' := gW) np hts (gW_cons hlk (gW_cons hin (gW_cons m2 (gW_cons m1 gW_good)))) rfl rfl rfl ⟨m3, m4, m5⟩ ⟨Nat.le_trans hfr rm1, by show 8 + (nL2 + 11) + 64 * fr2 ≤ Rm.locals; omega⟩)
    ⟨gPc_blind, fun U hU hW2 => jj_pre hE hR hS hz hU hW2⟩ rfl hn (by rw [← hml]; exact hl.1) rfl (lv_room hW) hdg ⟨Nat.le_trans hk rm2, Nat.le_trans hns rm3⟩)) hS hl (fun _ _ _ _ _ _ h => h.elim) kk
theorem jg_dcmpl (hC : OKC G C own cc nL ret fr mc ms P X) {x y : UInt64} (hd : decode cc pc = .ok (.dcmp .l, 1)) (kk : JJ G C k n sz S Ln M R (pc + 1) lv (.int (iI (i_dcl x y)) :: st)) : JJ G C k n sz S Ln M R pc lv (.double y :: .double x :: st) := by
  obtain ⟨p, l, e, Rm, s, m, args, below, meth, c, Q⟩ := C
  obtain ⟨hx, hb, hml, hown, hts, hE, hlk2, hrt, hst, hRm, hQ, htab, hz⟩ := hC
  intro H locs ls hR hS hl
  refine lv_dcmp hx hb hd ?_
  have e9 : Op.cmpValue (FP.dcmp x y) .l = iI (i_dcl x y) := (iI_self _).symm
  rw [e9]
  exact kk H locs ls hR hS hl
theorem i_dcl_r {x y : UInt64} : (-2147483648 ≤ i_dcl x y ∧ i_dcl x y < 2147483648) := iI_rng _
theorem jj_iald29 (hC : OKC G C own cc nL ret fr mc ms P X) {a : Nat} {i : Int} (hs : S a = 29) (h0 : 0 ≤ i) (h1 : i < Ln a) (hd : decode cc pc = .ok (.iaload, 1)) (kk : (-2147483648 ≤ M a i ∧ M a i < 2147483648) → JJ G C k n sz S Ln M R (pc + 1) lv (.int (iI (M a i)) :: st)) : JJ G C k n sz S Ln M R pc lv (.int (iI i) :: .ref a :: st) := by
  obtain ⟨p, l, e, Rm, s, m, args, below, meth, c, Q⟩ := C
  obtain ⟨hx, hb, hml, hown, hts, hE, hlk, hrt, hst, hRm, hQ, htab, hz⟩ := hC
  intro H locs ls hR hS hl
  obtain ⟨j, rfl⟩ : ∃ j : Nat, i = j := ⟨i.toNat, by omega⟩
  obtain ⟨⟨cl, hc, hcc, ⟨hl1, hl2, hl3⟩, hv1, hv2⟩, hr3, hln⟩ := hR.arq hs (by omega)
  have hcl : (iI (j : Int)).toNatClampNeg = j := by rw [iI_clamp (by omega) (by omega)]; rfl
  refine W.iald hx hb (v := .int (iI (M a (j : Int)))) hc (arq_of hE.2.1.2.2 hcc hv2) hv1 (fun q => iI_in h0 h1 hln (q.imp id (fun z => Nat.le_trans hl1 z))) ?_ rfl rfl hd (kk (hr3 j) H locs ls hR hS hl)
  rw [hcl, hl3 _ (by omega)]
  unfold gm_f
  rw [hs]
  rfl
theorem jj_alen29 (hC : OKC G C own cc nL ret fr mc ms P X) {a : Nat} (hs : S a = 29) (hd : decode cc pc = .ok (.arraylength, 1)) (kk : (Ln a : Int) < 2147483648 → JJ G C k n sz S Ln M R (pc + 1) lv (.int (iI (Ln a : Int)) :: st)) : JJ G C k n sz S Ln M R pc lv (.ref a :: st) := by
  obtain ⟨p, l, e, Rm, s, m, args, below, meth, c, Q⟩ := C
  obtain ⟨hx, hb, hml, hown, hts, hE, hlk, hrt, hst, hRm, hQ, htab, hz⟩ := hC
  intro H locs ls hR hS hl
  obtain ⟨⟨cl, hc, hcc, ⟨hl1, hl2, hl3⟩, hv1, hv2⟩, hr3, hln⟩ := hR.arq hs (by omega)
  refine W.alen (n := iI (Ln a : Int)) hx hb hc (arq_of hE.2.1.2.2 hcc hv2) ?_ rfl rfl hd (kk (by omega) H locs ls hR hS hl)
  exact hl2
end JJL
abbrev poWZ (q : Int) (S Ln S2 Ln2 : Nat → Nat) (M2 : gM) (R2 : gR) : gP := fun v _ S' Ln' M' R' => v = some (.int (iI q)) ∧ (0 ≤ q ∧ q ≤ 1) ∧ Ex2 S Ln S2 Ln2 ∧ S' = S2 ∧ Ln' = Ln2 ∧ M' = M2 ∧ R' = R2
abbrev poWA (kd : Nat) (q : Nat) (S Ln S2 Ln2 : Nat → Nat) (M2 : gM) (R2 : gR) : gP := fun v _ S' Ln' M' R' => v = some (.ref q) ∧ S2 q = kd ∧ Ex2 S Ln S2 Ln2 ∧ S' = S2 ∧ Ln' = Ln2 ∧ M' = M2 ∧ R' = R2
section JJW
variable {G : gE} {C : gC} {k n sz : Nat} {S Ln : Nat → Nat} {M : gM} {R : gR} {pc : Nat} {lv : List (Nat × Value)} {st : List Value}
theorem po_kWZ {q : Int} {S0 Ln0 : Nat → Nat} (h : (0 ≤ q ∧ q ≤ 1) → Ex2 S0 Ln0 S Ln → ∀ sz, JJ G C k n sz S Ln M R pc lv (.int (iI q) :: st)) : ∀ v sz' S' Ln' M' R', poWZ q S0 Ln0 S Ln M R v sz' S' Ln' M' R' → JJ G C k n sz' S' Ln' M' R' pc lv (v.toList ++ st) := by
  rintro v sz' S' Ln' M' R' ⟨h1, h2, h3, h4, h5, h6, h7⟩; subst h1; rw [h4, h5, h6, h7]; exact h h2 h3 sz'
theorem po_kWA {kd q : Nat} {S0 Ln0 : Nat → Nat} (h : S q = kd → Ex2 S0 Ln0 S Ln → ∀ sz, JJ G C k n sz S Ln M R pc lv (.ref q :: st)) : ∀ v sz' S' Ln' M' R', poWA kd q S0 Ln0 S Ln M R v sz' S' Ln' M' R' → JJ G C k n sz' S' Ln' M' R' pc lv (v.toList ++ st) := by
  rintro v sz' S' Ln' M' R' ⟨h1, h2, h3, h4, h5, h6, h7⟩; subst h1; rw [h4, h5, h6, h7]; exact h h2 h3 sz'
end JJW
theorem wd879 : Cond.constant RL 7 (69069 : Int32) ∈ gW := gW_in 879 (by decide +kernel) (by decide +kernel)
theorem wd880 : Cond.constant RL 8 (1103515245 : Int32) ∈ gW := gW_in 880 (by decide +kernel) (by decide +kernel)
theorem dL_cell_0 : decode cL_cell 0 = .ok (.ldc 7, 2) := by decide +kernel
theorem dL_cell_2 : decode cL_cell 2 = .ok (.iload_n 1, 1) := by decide +kernel
theorem dL_cell_3 : decode cL_cell 3 = .ok (.aload_n 0, 1) := by decide +kernel
theorem dL_cell_4 : decode cL_cell 4 = .ok (.arraylength, 1) := by decide +kernel
theorem dL_cell_5 : decode cL_cell 5 = .ok (.if_icmp .ge 9, 3) := by decide +kernel
theorem dL_cell_8 : decode cL_cell 8 = .ok (.aload_n 0, 1) := by decide +kernel
theorem dL_cell_9 : decode cL_cell 9 = .ok (.iload_n 1, 1) := by decide +kernel
theorem dL_cell_10 : decode cL_cell 10 = .ok (.iaload, 1) := by decide +kernel
theorem dL_cell_11 : decode cL_cell 11 = .ok (.goto 4, 3) := by decide +kernel
theorem dL_cell_14 : decode cL_cell 14 = .ok (.iconst 0, 1) := by decide +kernel
theorem dL_cell_15 : decode cL_cell 15 = .ok (.sipush 1009, 3) := by decide +kernel
theorem dL_cell_18 : decode cL_cell 18 = .ok (.iload_n 1, 1) := by decide +kernel
theorem dL_cell_19 : decode cL_cell 19 = .ok (.imul, 1) := by decide +kernel
theorem dL_cell_20 : decode cL_cell 20 = .ok (.iadd, 1) := by decide +kernel
theorem dL_cell_21 : decode cL_cell 21 = .ok (.imul, 1) := by decide +kernel
theorem dL_cell_22 : decode cL_cell 22 = .ok (.sipush 12345, 3) := by decide +kernel
theorem dL_cell_25 : decode cL_cell 25 = .ok (.iadd, 1) := by decide +kernel
theorem dL_cell_26 : decode cL_cell 26 = .ok (.istore_n 2, 1) := by decide +kernel
theorem dL_cell_27 : decode cL_cell 27 = .ok (.iload_n 2, 1) := by decide +kernel
theorem dL_cell_28 : decode cL_cell 28 = .ok (.iload_n 2, 1) := by decide +kernel
theorem dL_cell_29 : decode cL_cell 29 = .ok (.bipush 13, 2) := by decide +kernel
theorem dL_cell_31 : decode cL_cell 31 = .ok (.iushr, 1) := by decide +kernel
theorem dL_cell_32 : decode cL_cell 32 = .ok (.ixor, 1) := by decide +kernel
theorem dL_cell_33 : decode cL_cell 33 = .ok (.ldc 8, 2) := by decide +kernel
theorem dL_cell_35 : decode cL_cell 35 = .ok (.imul, 1) := by decide +kernel
theorem dL_cell_36 : decode cL_cell 36 = .ok (.istore_n 2, 1) := by decide +kernel
theorem dL_cell_37 : decode cL_cell 37 = .ok (.iload_n 2, 1) := by decide +kernel
theorem dL_cell_38 : decode cL_cell 38 = .ok (.iload_n 2, 1) := by decide +kernel
theorem dL_cell_39 : decode cL_cell 39 = .ok (.bipush 16, 2) := by decide +kernel
theorem dL_cell_41 : decode cL_cell 41 = .ok (.iushr, 1) := by decide +kernel
theorem dL_cell_42 : decode cL_cell 42 = .ok (.ixor, 1) := by decide +kernel
theorem dL_cell_43 : decode cL_cell 43 = .ok (.ireturn, 1) := by decide +kernel
theorem wd536 : Cond.classLink RL 15 "java/lang/IllegalArgumentException" ∈ gW := gW_in 536 (by decide +kernel) (by decide +kernel)
theorem wd558 : Cond.classLink RL 18 "java/lang/IllegalStateException" ∈ gW := gW_in 558 (by decide +kernel) (by decide +kernel)
theorem wd584 : Cond.castable "java/lang/IllegalStateException" "java/lang/IllegalStateException" ∈ gNW := gNW_in 584 (by decide +kernel) (by decide +kernel)
theorem wd629 : Cond.constant RL 20 (-900002 : Int32) ∈ gW := gW_in 629 (by decide +kernel) (by decide +kernel)
theorem wd371 : Cond.castable "java/lang/IllegalArgumentException" "java/lang/IllegalArgumentException" ∈ gNW := gNW_in 371 (by decide +kernel) (by decide +kernel)
theorem wd554 : Cond.constant RL 17 (-900001 : Int32) ∈ gW := gW_in 554 (by decide +kernel) (by decide +kernel)
theorem wd1151 : Cond.code yX9_addPoint cX9_addPoint 3 (some .int) ∈ gW := gW_in 1151 (by decide +kernel) (by decide +kernel)
theorem mvX9_addPoint : MV yX9_addPoint cX9_addPoint 3 (some .int) 2 := ⟨wd1151, wd23, by decide +kernel, by decide +kernel, by decide +kernel, by decide⟩
theorem wd1149 : Cond.instanceMethod yX9_addPoint ∈ gW := gW_in 1149 (by decide +kernel) (by decide +kernel)
theorem wd1150 : Cond.selects yX9_addPoint.cls yX9_addPoint yX9_addPoint ∈ gW := gW_in 1150 (by decide +kernel) (by decide +kernel)
theorem wd1148 : Cond.methodLink RL 9 yX9_addPoint ∈ gW := gW_in 1148 (by decide +kernel) (by decide +kernel)
theorem dL_addPoint_0 : decode cL_addPoint 0 = .ok (.aload_n 0, 1) := by decide +kernel
theorem dL_addPoint_1 : decode cL_addPoint 1 = .ok (.iload_n 1, 1) := by decide +kernel
theorem dL_addPoint_2 : decode cL_addPoint 2 = .ok (.iload_n 2, 1) := by decide +kernel
theorem dL_addPoint_3 : decode cL_addPoint 3 = .ok (.invokevirtual 9, 3) := by decide +kernel
theorem dL_addPoint_6 : decode cL_addPoint 6 = .ok (.ireturn, 1) := by decide +kernel
theorem dL_addPoint_7 : decode cL_addPoint 7 = .ok (.astore_n 3, 1) := by decide +kernel
theorem dL_addPoint_8 : decode cL_addPoint 8 = .ok (.ldc 17, 2) := by decide +kernel
theorem dL_addPoint_10 : decode cL_addPoint 10 = .ok (.ireturn, 1) := by decide +kernel
theorem dL_addPoint_11 : decode cL_addPoint 11 = .ok (.astore_n 3, 1) := by decide +kernel
theorem dL_addPoint_12 : decode cL_addPoint 12 = .ok (.ldc 20, 2) := by decide +kernel
theorem dL_addPoint_14 : decode cL_addPoint 14 = .ok (.ireturn, 1) := by decide +kernel
theorem wd633 : Cond.classLink RL 25 "java/lang/IndexOutOfBoundsException" ∈ gW := gW_in 633 (by decide +kernel) (by decide +kernel)
theorem wd636 : Cond.classLink RL 27 "java/lang/UnsupportedOperationException" ∈ gW := gW_in 636 (by decide +kernel) (by decide +kernel)
theorem wd602 : Cond.castable "java/lang/UnsupportedOperationException" "java/lang/UnsupportedOperationException" ∈ gNW := gNW_in 602 (by decide +kernel) (by decide +kernel)
theorem wd670 : Cond.constant RL 29 (-900003 : Int32) ∈ gW := gW_in 670 (by decide +kernel) (by decide +kernel)
theorem wd71 : Cond.castable "java/lang/IndexOutOfBoundsException" "java/lang/IndexOutOfBoundsException" ∈ gNW := gNW_in 71 (by decide +kernel) (by decide +kernel)
theorem wd1166 : Cond.code yX9_addTaskPoint cX9_addTaskPoint 2 (some .int) ∈ gW := gW_in 1166 (by decide +kernel) (by decide +kernel)
theorem mvX9_addTaskPoint : MV yX9_addTaskPoint cX9_addTaskPoint 2 (some .int) 1 := ⟨wd1166, wd23, by decide +kernel, by decide +kernel, by decide +kernel, by decide⟩
theorem wd1164 : Cond.instanceMethod yX9_addTaskPoint ∈ gW := gW_in 1164 (by decide +kernel) (by decide +kernel)
theorem wd1165 : Cond.selects yX9_addTaskPoint.cls yX9_addTaskPoint yX9_addTaskPoint ∈ gW := gW_in 1165 (by decide +kernel) (by decide +kernel)
theorem wd1163 : Cond.methodLink RL 21 yX9_addTaskPoint ∈ gW := gW_in 1163 (by decide +kernel) (by decide +kernel)
theorem dL_addTaskPoint_0 : decode cL_addTaskPoint 0 = .ok (.aload_n 0, 1) := by decide +kernel
theorem dL_addTaskPoint_1 : decode cL_addTaskPoint 1 = .ok (.iload_n 1, 1) := by decide +kernel
theorem dL_addTaskPoint_2 : decode cL_addTaskPoint 2 = .ok (.invokevirtual 21, 3) := by decide +kernel
theorem dL_addTaskPoint_5 : decode cL_addTaskPoint 5 = .ok (.ireturn, 1) := by decide +kernel
theorem dL_addTaskPoint_6 : decode cL_addTaskPoint 6 = .ok (.astore_n 2, 1) := by decide +kernel
theorem dL_addTaskPoint_7 : decode cL_addTaskPoint 7 = .ok (.ldc 17, 2) := by decide +kernel
theorem dL_addTaskPoint_9 : decode cL_addTaskPoint 9 = .ok (.ireturn, 1) := by decide +kernel
theorem dL_addTaskPoint_10 : decode cL_addTaskPoint 10 = .ok (.astore_n 2, 1) := by decide +kernel
theorem dL_addTaskPoint_11 : decode cL_addTaskPoint 11 = .ok (.ldc 20, 2) := by decide +kernel
theorem dL_addTaskPoint_13 : decode cL_addTaskPoint 13 = .ok (.ireturn, 1) := by decide +kernel
theorem dL_addTaskPoint_14 : decode cL_addTaskPoint 14 = .ok (.astore_n 2, 1) := by decide +kernel
theorem dL_addTaskPoint_15 : decode cL_addTaskPoint 15 = .ok (.ldc 29, 2) := by decide +kernel
theorem dL_addTaskPoint_17 : decode cL_addTaskPoint 17 = .ok (.ireturn, 1) := by decide +kernel
theorem wd1224 : Cond.code yX9_clearTask cX9_clearTask 1 (some .int) ∈ gW := gW_in 1224 (by decide +kernel) (by decide +kernel)
theorem mvX9_clearTask : MV yX9_clearTask cX9_clearTask 1 (some .int) 0 := ⟨wd1224, wd23, by decide +kernel, by decide +kernel, by decide +kernel, by decide⟩
theorem wd1222 : Cond.instanceMethod yX9_clearTask ∈ gW := gW_in 1222 (by decide +kernel) (by decide +kernel)
theorem wd1223 : Cond.selects yX9_clearTask.cls yX9_clearTask yX9_clearTask ∈ gW := gW_in 1223 (by decide +kernel) (by decide +kernel)
theorem wd1221 : Cond.methodLink RL 30 yX9_clearTask ∈ gW := gW_in 1221 (by decide +kernel) (by decide +kernel)
theorem dL_clearTask_0 : decode cL_clearTask 0 = .ok (.aload_n 0, 1) := by decide +kernel
theorem dL_clearTask_1 : decode cL_clearTask 1 = .ok (.invokevirtual 30, 3) := by decide +kernel
theorem dL_clearTask_4 : decode cL_clearTask 4 = .ok (.ireturn, 1) := by decide +kernel
theorem dL_clearTask_5 : decode cL_clearTask 5 = .ok (.astore_n 1, 1) := by decide +kernel
theorem dL_clearTask_6 : decode cL_clearTask 6 = .ok (.ldc 17, 2) := by decide +kernel
theorem dL_clearTask_8 : decode cL_clearTask 8 = .ok (.ireturn, 1) := by decide +kernel
theorem wd1190 : Cond.code yX9_addThermal cX9_addThermal 4 (some .int) ∈ gW := gW_in 1190 (by decide +kernel) (by decide +kernel)
theorem mvX9_addThermal : MV yX9_addThermal cX9_addThermal 4 (some .int) 3 := ⟨wd1190, wd23, by decide +kernel, by decide +kernel, by decide +kernel, by decide⟩
theorem wd1188 : Cond.instanceMethod yX9_addThermal ∈ gW := gW_in 1188 (by decide +kernel) (by decide +kernel)
theorem wd1189 : Cond.selects yX9_addThermal.cls yX9_addThermal yX9_addThermal ∈ gW := gW_in 1189 (by decide +kernel) (by decide +kernel)
theorem wd1187 : Cond.methodLink RL 34 yX9_addThermal ∈ gW := gW_in 1187 (by decide +kernel) (by decide +kernel)
theorem dL_addThermal_0 : decode cL_addThermal 0 = .ok (.aload_n 0, 1) := by decide +kernel
theorem dL_addThermal_1 : decode cL_addThermal 1 = .ok (.iload_n 1, 1) := by decide +kernel
theorem dL_addThermal_2 : decode cL_addThermal 2 = .ok (.iload_n 2, 1) := by decide +kernel
theorem dL_addThermal_3 : decode cL_addThermal 3 = .ok (.iload_n 3, 1) := by decide +kernel
theorem dL_addThermal_4 : decode cL_addThermal 4 = .ok (.invokevirtual 34, 3) := by decide +kernel
theorem dL_addThermal_7 : decode cL_addThermal 7 = .ok (.ireturn, 1) := by decide +kernel
theorem dL_addThermal_8 : decode cL_addThermal 8 = .ok (.astore 4, 2) := by decide +kernel
theorem dL_addThermal_10 : decode cL_addThermal 10 = .ok (.ldc 17, 2) := by decide +kernel
theorem dL_addThermal_12 : decode cL_addThermal 12 = .ok (.ireturn, 1) := by decide +kernel
theorem dL_addThermal_13 : decode cL_addThermal 13 = .ok (.astore 4, 2) := by decide +kernel
theorem dL_addThermal_15 : decode cL_addThermal 15 = .ok (.ldc 20, 2) := by decide +kernel
theorem dL_addThermal_17 : decode cL_addThermal 17 = .ok (.ireturn, 1) := by decide +kernel
theorem wd540 : Cond.code yX9_setCloudBase cX9_setCloudBase 3 (some .int) ∈ gW := gW_in 540 (by decide +kernel) (by decide +kernel)
theorem mvX9_setCloudBase : MV yX9_setCloudBase cX9_setCloudBase 3 (some .int) 1 := ⟨wd540, wd23, by decide +kernel, by decide +kernel, by decide +kernel, by decide⟩
theorem wd538 : Cond.instanceMethod yX9_setCloudBase ∈ gW := gW_in 538 (by decide +kernel) (by decide +kernel)
theorem wd539 : Cond.selects yX9_setCloudBase.cls yX9_setCloudBase yX9_setCloudBase ∈ gW := gW_in 539 (by decide +kernel) (by decide +kernel)
theorem wd537 : Cond.methodLink RL 38 yX9_setCloudBase ∈ gW := gW_in 537 (by decide +kernel) (by decide +kernel)
theorem dL_setCloudBase_0 : decode cL_setCloudBase 0 = .ok (.aload_n 0, 1) := by decide +kernel
theorem dL_setCloudBase_1 : decode cL_setCloudBase 1 = .ok (.iload_n 1, 1) := by decide +kernel
theorem dL_setCloudBase_2 : decode cL_setCloudBase 2 = .ok (.invokevirtual 38, 3) := by decide +kernel
theorem dL_setCloudBase_5 : decode cL_setCloudBase 5 = .ok (.ireturn, 1) := by decide +kernel
theorem dL_setCloudBase_6 : decode cL_setCloudBase 6 = .ok (.astore_n 2, 1) := by decide +kernel
theorem dL_setCloudBase_7 : decode cL_setCloudBase 7 = .ok (.ldc 17, 2) := by decide +kernel
theorem dL_setCloudBase_9 : decode cL_setCloudBase 9 = .ok (.ireturn, 1) := by decide +kernel
theorem wd1205 : Cond.code yX9_addArea cX9_addArea 5 (some .int) ∈ gW := gW_in 1205 (by decide +kernel) (by decide +kernel)
theorem mvX9_addArea : MV yX9_addArea cX9_addArea 5 (some .int) 4 := ⟨wd1205, wd23, by decide +kernel, by decide +kernel, by decide +kernel, by decide⟩
theorem wd1203 : Cond.instanceMethod yX9_addArea ∈ gW := gW_in 1203 (by decide +kernel) (by decide +kernel)
theorem wd1204 : Cond.selects yX9_addArea.cls yX9_addArea yX9_addArea ∈ gW := gW_in 1204 (by decide +kernel) (by decide +kernel)
theorem wd1202 : Cond.methodLink RL 41 yX9_addArea ∈ gW := gW_in 1202 (by decide +kernel) (by decide +kernel)
theorem dL_addArea_0 : decode cL_addArea 0 = .ok (.aload_n 0, 1) := by decide +kernel
theorem dL_addArea_1 : decode cL_addArea 1 = .ok (.iload_n 1, 1) := by decide +kernel
theorem dL_addArea_2 : decode cL_addArea 2 = .ok (.iload_n 2, 1) := by decide +kernel
theorem dL_addArea_3 : decode cL_addArea 3 = .ok (.iload_n 3, 1) := by decide +kernel
theorem dL_addArea_4 : decode cL_addArea 4 = .ok (.iload 4, 2) := by decide +kernel
theorem dL_addArea_6 : decode cL_addArea 6 = .ok (.invokevirtual 41, 3) := by decide +kernel
theorem dL_addArea_9 : decode cL_addArea 9 = .ok (.ireturn, 1) := by decide +kernel
theorem dL_addArea_10 : decode cL_addArea 10 = .ok (.astore 5, 2) := by decide +kernel
theorem dL_addArea_12 : decode cL_addArea 12 = .ok (.ldc 17, 2) := by decide +kernel
theorem dL_addArea_14 : decode cL_addArea 14 = .ok (.ireturn, 1) := by decide +kernel
theorem dL_addArea_15 : decode cL_addArea 15 = .ok (.astore 5, 2) := by decide +kernel
theorem dL_addArea_17 : decode cL_addArea 17 = .ok (.ldc 20, 2) := by decide +kernel
theorem dL_addArea_19 : decode cL_addArea 19 = .ok (.ireturn, 1) := by decide +kernel
theorem wd562 : Cond.code yX9_addPilot cX9_addPilot 2 (some .int) ∈ gW := gW_in 562 (by decide +kernel) (by decide +kernel)
theorem mvX9_addPilot : MV yX9_addPilot cX9_addPilot 2 (some .int) 1 := ⟨wd562, wd23, by decide +kernel, by decide +kernel, by decide +kernel, by decide⟩
theorem wd560 : Cond.instanceMethod yX9_addPilot ∈ gW := gW_in 560 (by decide +kernel) (by decide +kernel)
theorem wd561 : Cond.selects yX9_addPilot.cls yX9_addPilot yX9_addPilot ∈ gW := gW_in 561 (by decide +kernel) (by decide +kernel)
theorem wd559 : Cond.methodLink RL 45 yX9_addPilot ∈ gW := gW_in 559 (by decide +kernel) (by decide +kernel)
theorem dL_addPilot_0 : decode cL_addPilot 0 = .ok (.aload_n 0, 1) := by decide +kernel
theorem dL_addPilot_1 : decode cL_addPilot 1 = .ok (.iload_n 1, 1) := by decide +kernel
theorem dL_addPilot_2 : decode cL_addPilot 2 = .ok (.invokevirtual 45, 3) := by decide +kernel
theorem dL_addPilot_5 : decode cL_addPilot 5 = .ok (.ireturn, 1) := by decide +kernel
theorem dL_addPilot_6 : decode cL_addPilot 6 = .ok (.astore_n 2, 1) := by decide +kernel
theorem dL_addPilot_7 : decode cL_addPilot 7 = .ok (.ldc 17, 2) := by decide +kernel
theorem dL_addPilot_9 : decode cL_addPilot 9 = .ok (.ireturn, 1) := by decide +kernel
theorem dL_addPilot_10 : decode cL_addPilot 10 = .ok (.astore_n 2, 1) := by decide +kernel
theorem dL_addPilot_11 : decode cL_addPilot 11 = .ok (.ldc 20, 2) := by decide +kernel
theorem dL_addPilot_13 : decode cL_addPilot 13 = .ok (.ireturn, 1) := by decide +kernel
theorem wd640 : Cond.code yX9_launch cX9_launch 2 (some .int) ∈ gW := gW_in 640 (by decide +kernel) (by decide +kernel)
theorem mvX9_launch : MV yX9_launch cX9_launch 2 (some .int) 1 := ⟨wd640, wd23, by decide +kernel, by decide +kernel, by decide +kernel, by decide⟩
theorem wd638 : Cond.instanceMethod yX9_launch ∈ gW := gW_in 638 (by decide +kernel) (by decide +kernel)
theorem wd639 : Cond.selects yX9_launch.cls yX9_launch yX9_launch ∈ gW := gW_in 639 (by decide +kernel) (by decide +kernel)
theorem wd637 : Cond.methodLink RL 48 yX9_launch ∈ gW := gW_in 637 (by decide +kernel) (by decide +kernel)
theorem dL_launch_0 : decode cL_launch 0 = .ok (.aload_n 0, 1) := by decide +kernel
theorem dL_launch_1 : decode cL_launch 1 = .ok (.iload_n 1, 1) := by decide +kernel
theorem dL_launch_2 : decode cL_launch 2 = .ok (.invokevirtual 48, 3) := by decide +kernel
theorem dL_launch_5 : decode cL_launch 5 = .ok (.ireturn, 1) := by decide +kernel
theorem dL_launch_6 : decode cL_launch 6 = .ok (.astore_n 2, 1) := by decide +kernel
theorem dL_launch_7 : decode cL_launch 7 = .ok (.ldc 17, 2) := by decide +kernel
theorem dL_launch_9 : decode cL_launch 9 = .ok (.ireturn, 1) := by decide +kernel
theorem dL_launch_10 : decode cL_launch 10 = .ok (.astore_n 2, 1) := by decide +kernel
theorem dL_launch_11 : decode cL_launch 11 = .ok (.ldc 20, 2) := by decide +kernel
theorem dL_launch_13 : decode cL_launch 13 = .ok (.ireturn, 1) := by decide +kernel
theorem dL_launch_14 : decode cL_launch 14 = .ok (.astore_n 2, 1) := by decide +kernel
theorem dL_launch_15 : decode cL_launch 15 = .ok (.ldc 29, 2) := by decide +kernel
theorem dL_launch_17 : decode cL_launch 17 = .ok (.ireturn, 1) := by decide +kernel
theorem wd733 : Cond.constant RL 54 (-900004 : Int32) ∈ gW := gW_in 733 (by decide +kernel) (by decide +kernel)
theorem wd677 : Cond.code yX9_fly cX9_fly 4 (some .int) ∈ gW := gW_in 677 (by decide +kernel) (by decide +kernel)
theorem mvX9_fly : MV yX9_fly cX9_fly 4 (some .int) 3 := ⟨wd677, wd23, by decide +kernel, by decide +kernel, by decide +kernel, by decide⟩
theorem wd675 : Cond.instanceMethod yX9_fly ∈ gW := gW_in 675 (by decide +kernel) (by decide +kernel)
theorem wd676 : Cond.selects yX9_fly.cls yX9_fly yX9_fly ∈ gW := gW_in 676 (by decide +kernel) (by decide +kernel)
theorem wd674 : Cond.methodLink RL 51 yX9_fly ∈ gW := gW_in 674 (by decide +kernel) (by decide +kernel)
theorem dL_fly_0 : decode cL_fly 0 = .ok (.aload_n 0, 1) := by decide +kernel
theorem dL_fly_1 : decode cL_fly 1 = .ok (.iload_n 1, 1) := by decide +kernel
theorem dL_fly_2 : decode cL_fly 2 = .ok (.iload_n 2, 1) := by decide +kernel
theorem dL_fly_3 : decode cL_fly 3 = .ok (.iload_n 3, 1) := by decide +kernel
theorem dL_fly_4 : decode cL_fly 4 = .ok (.invokevirtual 51, 3) := by decide +kernel
theorem dL_fly_7 : decode cL_fly 7 = .ok (.ireturn, 1) := by decide +kernel
theorem dL_fly_8 : decode cL_fly 8 = .ok (.astore 4, 2) := by decide +kernel
theorem dL_fly_10 : decode cL_fly 10 = .ok (.ldc 17, 2) := by decide +kernel
theorem dL_fly_12 : decode cL_fly 12 = .ok (.ireturn, 1) := by decide +kernel
theorem dL_fly_13 : decode cL_fly 13 = .ok (.astore 4, 2) := by decide +kernel
theorem dL_fly_15 : decode cL_fly 15 = .ok (.ldc 20, 2) := by decide +kernel
theorem dL_fly_17 : decode cL_fly 17 = .ok (.ireturn, 1) := by decide +kernel
theorem dL_fly_18 : decode cL_fly 18 = .ok (.astore 4, 2) := by decide +kernel
theorem dL_fly_20 : decode cL_fly 20 = .ok (.ldc 29, 2) := by decide +kernel
theorem dL_fly_22 : decode cL_fly 22 = .ok (.ireturn, 1) := by decide +kernel
theorem dL_fly_23 : decode cL_fly 23 = .ok (.astore 4, 2) := by decide +kernel
theorem dL_fly_25 : decode cL_fly 25 = .ok (.ldc 54, 2) := by decide +kernel
theorem dL_fly_27 : decode cL_fly 27 = .ok (.ireturn, 1) := by decide +kernel
theorem wd1250 : Cond.code yX9_climb cX9_climb 3 (some .int) ∈ gW := gW_in 1250 (by decide +kernel) (by decide +kernel)
theorem mvX9_climb : MV yX9_climb cX9_climb 3 (some .int) 2 := ⟨wd1250, wd23, by decide +kernel, by decide +kernel, by decide +kernel, by decide⟩
theorem wd1248 : Cond.instanceMethod yX9_climb ∈ gW := gW_in 1248 (by decide +kernel) (by decide +kernel)
theorem wd1249 : Cond.selects yX9_climb.cls yX9_climb yX9_climb ∈ gW := gW_in 1249 (by decide +kernel) (by decide +kernel)
theorem wd1247 : Cond.methodLink RL 55 yX9_climb ∈ gW := gW_in 1247 (by decide +kernel) (by decide +kernel)
theorem dL_climb_0 : decode cL_climb 0 = .ok (.aload_n 0, 1) := by decide +kernel
theorem dL_climb_1 : decode cL_climb 1 = .ok (.iload_n 1, 1) := by decide +kernel
theorem dL_climb_2 : decode cL_climb 2 = .ok (.iload_n 2, 1) := by decide +kernel
theorem dL_climb_3 : decode cL_climb 3 = .ok (.invokevirtual 55, 3) := by decide +kernel
theorem dL_climb_6 : decode cL_climb 6 = .ok (.ireturn, 1) := by decide +kernel
theorem dL_climb_7 : decode cL_climb 7 = .ok (.astore_n 3, 1) := by decide +kernel
theorem dL_climb_8 : decode cL_climb 8 = .ok (.ldc 17, 2) := by decide +kernel
theorem dL_climb_10 : decode cL_climb 10 = .ok (.ireturn, 1) := by decide +kernel
theorem dL_climb_11 : decode cL_climb 11 = .ok (.astore_n 3, 1) := by decide +kernel
theorem dL_climb_12 : decode cL_climb 12 = .ok (.ldc 20, 2) := by decide +kernel
theorem dL_climb_14 : decode cL_climb 14 = .ok (.ireturn, 1) := by decide +kernel
theorem dL_climb_15 : decode cL_climb 15 = .ok (.astore_n 3, 1) := by decide +kernel
theorem dL_climb_16 : decode cL_climb 16 = .ok (.ldc 29, 2) := by decide +kernel
theorem dL_climb_18 : decode cL_climb 18 = .ok (.ireturn, 1) := by decide +kernel
theorem dL_climb_19 : decode cL_climb 19 = .ok (.astore_n 3, 1) := by decide +kernel
theorem dL_climb_20 : decode cL_climb 20 = .ok (.ldc 54, 2) := by decide +kernel
theorem dL_climb_22 : decode cL_climb 22 = .ok (.ireturn, 1) := by decide +kernel
theorem wd740 : Cond.code yX9_endDay cX9_endDay 1 (some .int) ∈ gW := gW_in 740 (by decide +kernel) (by decide +kernel)
theorem mvX9_endDay : MV yX9_endDay cX9_endDay 1 (some .int) 0 := ⟨wd740, wd23, by decide +kernel, by decide +kernel, by decide +kernel, by decide⟩
theorem wd738 : Cond.instanceMethod yX9_endDay ∈ gW := gW_in 738 (by decide +kernel) (by decide +kernel)
theorem wd739 : Cond.selects yX9_endDay.cls yX9_endDay yX9_endDay ∈ gW := gW_in 739 (by decide +kernel) (by decide +kernel)
theorem wd737 : Cond.methodLink RL 58 yX9_endDay ∈ gW := gW_in 737 (by decide +kernel) (by decide +kernel)
theorem dL_endDay_0 : decode cL_endDay 0 = .ok (.aload_n 0, 1) := by decide +kernel
theorem dL_endDay_1 : decode cL_endDay 1 = .ok (.invokevirtual 58, 3) := by decide +kernel
theorem dL_endDay_4 : decode cL_endDay 4 = .ok (.ireturn, 1) := by decide +kernel
theorem dL_endDay_5 : decode cL_endDay 5 = .ok (.astore_n 1, 1) := by decide +kernel
theorem dL_endDay_6 : decode cL_endDay 6 = .ok (.ldc 17, 2) := by decide +kernel
theorem dL_endDay_8 : decode cL_endDay 8 = .ok (.ireturn, 1) := by decide +kernel
theorem wd785 : Cond.classLink RL 64 "java/util/NoSuchElementException" ∈ gW := gW_in 785 (by decide +kernel) (by decide +kernel)
theorem wd802 : Cond.castable "java/util/NoSuchElementException" "java/util/NoSuchElementException" ∈ gNW := gNW_in 802 (by decide +kernel) (by decide +kernel)
theorem wd789 : Cond.code yX9_strongestThermal cX9_strongestThermal 4 (some .int) ∈ gW := gW_in 789 (by decide +kernel) (by decide +kernel)
theorem mvX9_strongestThermal : MV yX9_strongestThermal cX9_strongestThermal 4 (some .int) 2 := ⟨wd789, wd23, by decide +kernel, by decide +kernel, by decide +kernel, by decide⟩
theorem wd787 : Cond.instanceMethod yX9_strongestThermal ∈ gW := gW_in 787 (by decide +kernel) (by decide +kernel)
theorem wd788 : Cond.selects yX9_strongestThermal.cls yX9_strongestThermal yX9_strongestThermal ∈ gW := gW_in 788 (by decide +kernel) (by decide +kernel)
theorem wd786 : Cond.methodLink RL 61 yX9_strongestThermal ∈ gW := gW_in 786 (by decide +kernel) (by decide +kernel)
theorem dL_strongestThermal_0 : decode cL_strongestThermal 0 = .ok (.aload_n 0, 1) := by decide +kernel
theorem dL_strongestThermal_1 : decode cL_strongestThermal 1 = .ok (.iload_n 1, 1) := by decide +kernel
theorem dL_strongestThermal_2 : decode cL_strongestThermal 2 = .ok (.iload_n 2, 1) := by decide +kernel
theorem dL_strongestThermal_3 : decode cL_strongestThermal 3 = .ok (.invokevirtual 61, 3) := by decide +kernel
theorem dL_strongestThermal_6 : decode cL_strongestThermal 6 = .ok (.ireturn, 1) := by decide +kernel
theorem dL_strongestThermal_7 : decode cL_strongestThermal 7 = .ok (.astore_n 3, 1) := by decide +kernel
theorem dL_strongestThermal_8 : decode cL_strongestThermal 8 = .ok (.ldc 17, 2) := by decide +kernel
theorem dL_strongestThermal_10 : decode cL_strongestThermal 10 = .ok (.ireturn, 1) := by decide +kernel
theorem dL_strongestThermal_11 : decode cL_strongestThermal 11 = .ok (.astore_n 3, 1) := by decide +kernel
theorem dL_strongestThermal_12 : decode cL_strongestThermal 12 = .ok (.ldc 20, 2) := by decide +kernel
theorem dL_strongestThermal_14 : decode cL_strongestThermal 14 = .ok (.ireturn, 1) := by decide +kernel
theorem wd822 : Cond.code yX9_remainingDistance cX9_remainingDistance 2 (some .int) ∈ gW := gW_in 822 (by decide +kernel) (by decide +kernel)
theorem mvX9_remainingDistance : MV yX9_remainingDistance cX9_remainingDistance 2 (some .int) 1 := ⟨wd822, wd23, by decide +kernel, by decide +kernel, by decide +kernel, by decide⟩
theorem wd820 : Cond.instanceMethod yX9_remainingDistance ∈ gW := gW_in 820 (by decide +kernel) (by decide +kernel)
theorem wd821 : Cond.selects yX9_remainingDistance.cls yX9_remainingDistance yX9_remainingDistance ∈ gW := gW_in 821 (by decide +kernel) (by decide +kernel)
theorem wd819 : Cond.methodLink RL 66 yX9_remainingDistance ∈ gW := gW_in 819 (by decide +kernel) (by decide +kernel)
theorem dL_remainingDistance_0 : decode cL_remainingDistance 0 = .ok (.aload_n 0, 1) := by decide +kernel
theorem dL_remainingDistance_1 : decode cL_remainingDistance 1 = .ok (.iload_n 1, 1) := by decide +kernel
theorem dL_remainingDistance_2 : decode cL_remainingDistance 2 = .ok (.invokevirtual 66, 3) := by decide +kernel
theorem dL_remainingDistance_5 : decode cL_remainingDistance 5 = .ok (.ireturn, 1) := by decide +kernel
theorem dL_remainingDistance_6 : decode cL_remainingDistance 6 = .ok (.astore_n 2, 1) := by decide +kernel
theorem dL_remainingDistance_7 : decode cL_remainingDistance 7 = .ok (.ldc 17, 2) := by decide +kernel
theorem dL_remainingDistance_9 : decode cL_remainingDistance 9 = .ok (.ireturn, 1) := by decide +kernel
theorem dL_remainingDistance_10 : decode cL_remainingDistance 10 = .ok (.astore_n 2, 1) := by decide +kernel
theorem dL_remainingDistance_11 : decode cL_remainingDistance 11 = .ok (.ldc 20, 2) := by decide +kernel
theorem dL_remainingDistance_13 : decode cL_remainingDistance 13 = .ok (.ireturn, 1) := by decide +kernel
theorem wd839 : Cond.code yX9_pilotAtRank cX9_pilotAtRank 2 (some .int) ∈ gW := gW_in 839 (by decide +kernel) (by decide +kernel)
theorem mvX9_pilotAtRank : MV yX9_pilotAtRank cX9_pilotAtRank 2 (some .int) 1 := ⟨wd839, wd23, by decide +kernel, by decide +kernel, by decide +kernel, by decide⟩
theorem wd837 : Cond.instanceMethod yX9_pilotAtRank ∈ gW := gW_in 837 (by decide +kernel) (by decide +kernel)
theorem wd838 : Cond.selects yX9_pilotAtRank.cls yX9_pilotAtRank yX9_pilotAtRank ∈ gW := gW_in 838 (by decide +kernel) (by decide +kernel)
theorem wd836 : Cond.methodLink RL 69 yX9_pilotAtRank ∈ gW := gW_in 836 (by decide +kernel) (by decide +kernel)
theorem dL_pilotAtRank_0 : decode cL_pilotAtRank 0 = .ok (.aload_n 0, 1) := by decide +kernel
theorem dL_pilotAtRank_1 : decode cL_pilotAtRank 1 = .ok (.iload_n 1, 1) := by decide +kernel
theorem dL_pilotAtRank_2 : decode cL_pilotAtRank 2 = .ok (.invokevirtual 69, 3) := by decide +kernel
theorem dL_pilotAtRank_5 : decode cL_pilotAtRank 5 = .ok (.ireturn, 1) := by decide +kernel
theorem dL_pilotAtRank_6 : decode cL_pilotAtRank 6 = .ok (.astore_n 2, 1) := by decide +kernel
theorem dL_pilotAtRank_7 : decode cL_pilotAtRank 7 = .ok (.ldc 17, 2) := by decide +kernel
theorem dL_pilotAtRank_9 : decode cL_pilotAtRank 9 = .ok (.ireturn, 1) := by decide +kernel
theorem wd1318 : Cond.code yX9_run cX9_run 3 (some .int) ∈ gW := gW_in 1318 (by decide +kernel) (by decide +kernel)
theorem mvX9_run : MV yX9_run cX9_run 3 (some .int) 0 := ⟨wd1318, wd23, by decide +kernel, by decide +kernel, by decide +kernel, by decide⟩
theorem wd1316 : Cond.instanceMethod yX9_run ∈ gW := gW_in 1316 (by decide +kernel) (by decide +kernel)
theorem wd1317 : Cond.selects yX9_run.cls yX9_run yX9_run ∈ gW := gW_in 1317 (by decide +kernel) (by decide +kernel)
theorem wd1315 : Cond.methodLink RL 72 yX9_run ∈ gW := gW_in 1315 (by decide +kernel) (by decide +kernel)
theorem dL_run_0 : decode cL_run 0 = .ok (.aload_n 0, 1) := by decide +kernel
theorem dL_run_1 : decode cL_run 1 = .ok (.invokevirtual 72, 3) := by decide +kernel
theorem dL_run_4 : decode cL_run 4 = .ok (.ireturn, 1) := by decide +kernel
theorem dL_run_5 : decode cL_run 5 = .ok (.astore_n 1, 1) := by decide +kernel
theorem dL_run_6 : decode cL_run 6 = .ok (.ldc 17, 2) := by decide +kernel
theorem dL_run_8 : decode cL_run 8 = .ok (.ireturn, 1) := by decide +kernel
theorem dL_run_9 : decode cL_run 9 = .ok (.astore_n 1, 1) := by decide +kernel
theorem dL_run_10 : decode cL_run 10 = .ok (.ldc 20, 2) := by decide +kernel
theorem dL_run_12 : decode cL_run 12 = .ok (.ireturn, 1) := by decide +kernel
theorem wd859 : Cond.code yX9_undo cX9_undo 1 (some .int) ∈ gW := gW_in 859 (by decide +kernel) (by decide +kernel)
theorem mvX9_undo : MV yX9_undo cX9_undo 1 (some .int) 0 := ⟨wd859, wd23, by decide +kernel, by decide +kernel, by decide +kernel, by decide⟩
theorem wd857 : Cond.instanceMethod yX9_undo ∈ gW := gW_in 857 (by decide +kernel) (by decide +kernel)
theorem wd858 : Cond.selects yX9_undo.cls yX9_undo yX9_undo ∈ gW := gW_in 858 (by decide +kernel) (by decide +kernel)
theorem wd856 : Cond.methodLink RL 75 yX9_undo ∈ gW := gW_in 856 (by decide +kernel) (by decide +kernel)
theorem dL_undo_0 : decode cL_undo 0 = .ok (.aload_n 0, 1) := by decide +kernel
theorem dL_undo_1 : decode cL_undo 1 = .ok (.invokevirtual 75, 3) := by decide +kernel
theorem dL_undo_4 : decode cL_undo 4 = .ok (.ireturn, 1) := by decide +kernel
theorem dL_undo_5 : decode cL_undo 5 = .ok (.astore_n 1, 1) := by decide +kernel
theorem dL_undo_6 : decode cL_undo 6 = .ok (.ldc 17, 2) := by decide +kernel
theorem dL_undo_8 : decode cL_undo 8 = .ok (.ireturn, 1) := by decide +kernel
theorem wd871 : Cond.code yX9_restore cX9_restore 1 none ∈ gW := gW_in 871 (by decide +kernel) (by decide +kernel)
theorem mvX9_restore : MV yX9_restore cX9_restore 1 none 0 := ⟨wd871, wd23, by decide +kernel, by decide +kernel, by decide +kernel, by decide⟩
theorem wd869 : Cond.instanceMethod yX9_restore ∈ gW := gW_in 869 (by decide +kernel) (by decide +kernel)
theorem wd870 : Cond.selects yX9_restore.cls yX9_restore yX9_restore ∈ gW := gW_in 870 (by decide +kernel) (by decide +kernel)
theorem wd868 : Cond.methodLink RL 78 yX9_restore ∈ gW := gW_in 868 (by decide +kernel) (by decide +kernel)
theorem dL_restore_0 : decode cL_restore 0 = .ok (.aload_n 0, 1) := by decide +kernel
theorem dL_restore_1 : decode cL_restore 1 = .ok (.invokevirtual 78, 3) := by decide +kernel
theorem dL_restore_4 : decode cL_restore 4 = .ok (.iconst 0, 1) := by decide +kernel
theorem dL_restore_5 : decode cL_restore 5 = .ok (.ireturn, 1) := by decide +kernel
theorem dL_restore_6 : decode cL_restore 6 = .ok (.astore_n 1, 1) := by decide +kernel
theorem dL_restore_7 : decode cL_restore 7 = .ok (.ldc 17, 2) := by decide +kernel
theorem dL_restore_9 : decode cL_restore 9 = .ok (.ireturn, 1) := by decide +kernel
theorem wd878 : Cond.code yL_cell cL_cell 3 (some .int) ∈ gW := gW_in 878 (by decide +kernel) (by decide +kernel)
theorem wd22 : Cond.initialized RL ∈ gW := gW_in 22 (by decide +kernel) (by decide +kernel)
theorem mvL_cell : MV yL_cell cL_cell 3 (some .int) 2 := ⟨wd878, wd22, by decide +kernel, by decide +kernel, by decide +kernel, by decide⟩
theorem wd877 : Cond.static yL_cell ∈ gW := gW_in 877 (by decide +kernel) (by decide +kernel)
theorem wd876 : Cond.methodLink RL 81 yL_cell ∈ gW := gW_in 876 (by decide +kernel) (by decide +kernel)
theorem wd881 : Cond.constant RL 87 (2147483647 : Int32) ∈ gW := gW_in 881 (by decide +kernel) (by decide +kernel)
theorem dL_in_0 : decode cL_in 0 = .ok (.aload_n 0, 1) := by decide +kernel
theorem dL_in_1 : decode cL_in 1 = .ok (.iload_n 1, 1) := by decide +kernel
theorem dL_in_2 : decode cL_in 2 = .ok (.invokestatic 81, 3) := by decide +kernel
theorem dL_in_5 : decode cL_in 5 = .ok (.ldc 87, 2) := by decide +kernel
theorem dL_in_7 : decode cL_in 7 = .ok (.iand, 1) := by decide +kernel
theorem dL_in_8 : decode cL_in 8 = .ok (.iload_n 2, 1) := by decide +kernel
theorem dL_in_9 : decode cL_in 9 = .ok (.irem, 1) := by decide +kernel
theorem dL_in_10 : decode cL_in 10 = .ok (.ireturn, 1) := by decide +kernel
theorem dL_areAlike_0 : decode cL_areAlike 0 = .ok (.iconst 0, 1) := by decide +kernel
theorem dL_areAlike_1 : decode cL_areAlike 1 = .ok (.istore_n 2, 1) := by decide +kernel
theorem dL_areAlike_2 : decode cL_areAlike 2 = .ok (.iload_n 2, 1) := by decide +kernel
theorem dL_areAlike_3 : decode cL_areAlike 3 = .ok (.aload_n 0, 1) := by decide +kernel
theorem dL_areAlike_4 : decode cL_areAlike 4 = .ok (.arraylength, 1) := by decide +kernel
theorem dL_areAlike_5 : decode cL_areAlike 5 = .ok (.if_icmp .ge 20, 3) := by decide +kernel
theorem dL_areAlike_8 : decode cL_areAlike 8 = .ok (.aload_n 0, 1) := by decide +kernel
theorem dL_areAlike_9 : decode cL_areAlike 9 = .ok (.iload_n 2, 1) := by decide +kernel
theorem dL_areAlike_10 : decode cL_areAlike 10 = .ok (.iaload, 1) := by decide +kernel
theorem dL_areAlike_11 : decode cL_areAlike 11 = .ok (.aload_n 1, 1) := by decide +kernel
theorem dL_areAlike_12 : decode cL_areAlike 12 = .ok (.iload_n 2, 1) := by decide +kernel
theorem dL_areAlike_13 : decode cL_areAlike 13 = .ok (.iaload, 1) := by decide +kernel
theorem dL_areAlike_14 : decode cL_areAlike 14 = .ok (.if_icmp .eq 5, 3) := by decide +kernel
theorem dL_areAlike_17 : decode cL_areAlike 17 = .ok (.iconst 0, 1) := by decide +kernel
theorem dL_areAlike_18 : decode cL_areAlike 18 = .ok (.ireturn, 1) := by decide +kernel
theorem dL_areAlike_19 : decode cL_areAlike 19 = .ok (.iinc 2 1, 3) := by decide +kernel
theorem dL_areAlike_22 : decode cL_areAlike 22 = .ok (.goto (-20), 3) := by decide +kernel
theorem dL_areAlike_25 : decode cL_areAlike 25 = .ok (.iconst 1, 1) := by decide +kernel
theorem dL_areAlike_26 : decode cL_areAlike 26 = .ok (.ireturn, 1) := by decide +kernel
theorem wd1412 : Cond.code yX9_taskPoint cX9_taskPoint 2 (some .int) ∈ gW := gW_in 1412 (by decide +kernel) (by decide +kernel)
theorem mvX9_taskPoint : MV yX9_taskPoint cX9_taskPoint 2 (some .int) 1 := ⟨wd1412, wd23, by decide +kernel, by decide +kernel, by decide +kernel, by decide⟩
theorem wd1410 : Cond.instanceMethod yX9_taskPoint ∈ gW := gW_in 1410 (by decide +kernel) (by decide +kernel)
theorem wd1411 : Cond.selects yX9_taskPoint.cls yX9_taskPoint yX9_taskPoint ∈ gW := gW_in 1411 (by decide +kernel) (by decide +kernel)
theorem wd1409 : Cond.methodLink RL 206 yX9_taskPoint ∈ gW := gW_in 1409 (by decide +kernel) (by decide +kernel)
theorem wd1484 : Cond.code yX9_distance cX9_distance 3 (some .int) ∈ gW := gW_in 1484 (by decide +kernel) (by decide +kernel)
theorem mvX9_distance : MV yX9_distance cX9_distance 3 (some .int) 2 := ⟨wd1484, wd23, by decide +kernel, by decide +kernel, by decide +kernel, by decide⟩
theorem wd1482 : Cond.instanceMethod yX9_distance ∈ gW := gW_in 1482 (by decide +kernel) (by decide +kernel)
theorem wd1483 : Cond.selects yX9_distance.cls yX9_distance yX9_distance ∈ gW := gW_in 1483 (by decide +kernel) (by decide +kernel)
theorem wd1481 : Cond.methodLink RL 243 yX9_distance ∈ gW := gW_in 1481 (by decide +kernel) (by decide +kernel)
theorem dL_legs_0 : decode cL_legs 0 = .ok (.iconst 0, 1) := by decide +kernel
theorem dL_legs_1 : decode cL_legs 1 = .ok (.istore_n 2, 1) := by decide +kernel
theorem dL_legs_2 : decode cL_legs 2 = .ok (.iconst 0, 1) := by decide +kernel
theorem dL_legs_3 : decode cL_legs 3 = .ok (.istore_n 3, 1) := by decide +kernel
theorem dL_legs_4 : decode cL_legs 4 = .ok (.iload_n 3, 1) := by decide +kernel
theorem dL_legs_5 : decode cL_legs 5 = .ok (.iload_n 1, 1) := by decide +kernel
theorem dL_legs_6 : decode cL_legs 6 = .ok (.if_icmp .ge 28, 3) := by decide +kernel
theorem dL_legs_9 : decode cL_legs 9 = .ok (.iload_n 2, 1) := by decide +kernel
theorem dL_legs_10 : decode cL_legs 10 = .ok (.aload_n 0, 1) := by decide +kernel
theorem dL_legs_11 : decode cL_legs 11 = .ok (.aload_n 0, 1) := by decide +kernel
theorem dL_legs_12 : decode cL_legs 12 = .ok (.iload_n 3, 1) := by decide +kernel
theorem dL_legs_13 : decode cL_legs 13 = .ok (.invokevirtual 206, 3) := by decide +kernel
theorem dL_legs_16 : decode cL_legs 16 = .ok (.aload_n 0, 1) := by decide +kernel
theorem dL_legs_17 : decode cL_legs 17 = .ok (.iload_n 3, 1) := by decide +kernel
theorem dL_legs_18 : decode cL_legs 18 = .ok (.iconst 1, 1) := by decide +kernel
theorem dL_legs_19 : decode cL_legs 19 = .ok (.iadd, 1) := by decide +kernel
theorem dL_legs_20 : decode cL_legs 20 = .ok (.invokevirtual 206, 3) := by decide +kernel
theorem dL_legs_23 : decode cL_legs 23 = .ok (.invokevirtual 243, 3) := by decide +kernel
theorem dL_legs_26 : decode cL_legs 26 = .ok (.iadd, 1) := by decide +kernel
theorem dL_legs_27 : decode cL_legs 27 = .ok (.istore_n 2, 1) := by decide +kernel
theorem dL_legs_28 : decode cL_legs 28 = .ok (.iinc 3 1, 3) := by decide +kernel
theorem dL_legs_31 : decode cL_legs 31 = .ok (.goto (-27), 3) := by decide +kernel
theorem dL_legs_34 : decode cL_legs 34 = .ok (.iload_n 2, 1) := by decide +kernel
theorem dL_legs_35 : decode cL_legs 35 = .ok (.ireturn, 1) := by decide +kernel
def fL_cell_B15 (ad S Ln : Nat → Nat) (R : gR) (M : gM) (l1_15 : Int) (s0_15 : Int) (s1_15 : Int) : Option Int :=
  some (i_xor (w32 ((i_xor (w32 ((w32 (s1_15 * (w32 (s0_15 + (w32 (1009 * l1_15)))))) + 12345)) (i_ushr (w32 ((w32 (s1_15 * (w32 (s0_15 + (w32 (1009 * l1_15)))))) + 12345)) 13)) * 1103515245)) (i_ushr (w32 ((i_xor (w32 ((w32 (s1_15 * (w32 (s0_15 + (w32 (1009 * l1_15)))))) + 12345)) (i_ushr (w32 ((w32 (s1_15 * (w32 (s0_15 + (w32 (1009 * l1_15)))))) + 12345)) 13)) * 1103515245)) 16))
def fL_cell (ad S Ln : Nat → Nat) (R : gR) (M : gM) (x0 : Nat) (x1 : Int) : Option Int :=
  if (Ln x0 : Int) ≤ x1 then (fL_cell_B15 ad S Ln R M x1 0 69069) else (gd ((0 : Int) ≤ x1 ∧ x1 < (Ln x0 : Int)) (fL_cell_B15 ad S Ln R M x1 (M x0 x1) 69069))
theorem xL_cell {l : Launch} {G : gE} {sz : Nat} {S Ln : Nat → Nat} {M : gM} {R : gR} (hl : l.stackTraces = false) {x0 : Nat} (hp0 : S x0 = 29) {x1 : Int} (hp1 : (-2147483648 ≤ x1 ∧ x1 < 2147483648)) {r : Int} (h : fL_cell G.2.2.2.2 S Ln R M x0 x1 = some r) : Ct l G yL_cell cL_cell 3 (some .int) 1 0 0 [.ref x0, .int (iI x1)] sz S Ln M R (poI r sz S Ln (M) R) noX := by
  refine jj_start (own := RL) (lv0 := [(0, .ref x0), (1, .int (iI x1))]) hl (by decide +kernel) rfl rfl (c_le rfl) (fun C hCl hC => ?_)
  have hB15 : ∀ (l1_15 : Int) (s0_15 : Int) (s1_15 : Int), (-2147483648 ≤ l1_15 ∧ l1_15 < 2147483648) → (-2147483648 ≤ s0_15 ∧ s0_15 < 2147483648) → (-2147483648 ≤ s1_15 ∧ s1_15 < 2147483648) → fL_cell_B15 G.2.2.2.2 S Ln R M l1_15 s0_15 s1_15 = some r → JJ G C 0 0 sz S Ln M R 15 [(1, .int (iI l1_15))] [.int (iI s0_15), .int (iI s1_15)] := by
    intro l1_15 s0_15 s1_15 hl1_15 hs0_15 hs1_15 h
    unfold fL_cell_B15 at h
    refine jj_sipush hC dL_cell_15 (by decide) ?_
    refine jj_iload_n hC dL_cell_18 rfl 0 rfl ?_
    refine jg_imul hC dL_cell_19 ?_
    refine jg_iadd hC dL_cell_20 ?_
    refine jg_imul hC dL_cell_21 ?_
    refine jj_sipush hC dL_cell_22 (by decide) ?_
    refine jg_iadd hC dL_cell_25 ?_
    refine jj_istore_n (lv' := [(2, .int (iI (w32 ((w32 (s1_15 * (w32 (s0_15 + (w32 (1009 * l1_15)))))) + 12345)))), (1, .int (iI l1_15))]) hC dL_cell_26 rfl (by decide) rfl ?_
    refine jj_iload_n hC dL_cell_27 rfl 0 rfl ?_
    refine jj_iload_n hC dL_cell_28 rfl 0 rfl ?_
    refine jj_bipush hC dL_cell_29 (by decide) ?_
    refine jg_iushr hC dL_cell_31 ?_
    refine jg_ixor hC dL_cell_32 ?_
    refine jj_ldcI (v := 1103515245) hC rfl wd880 dL_cell_33 ?_
    refine jg_imul hC dL_cell_35 ?_
    refine jj_istore_n (lv' := [(2, .int (iI (w32 ((i_xor (w32 ((w32 (s1_15 * (w32 (s0_15 + (w32 (1009 * l1_15)))))) + 12345)) (i_ushr (w32 ((w32 (s1_15 * (w32 (s0_15 + (w32 (1009 * l1_15)))))) + 12345)) 13)) * 1103515245)))), (1, .int (iI l1_15))]) hC dL_cell_36 rfl (by decide) rfl ?_
    refine jj_iload_n hC dL_cell_37 rfl 0 rfl ?_
    refine jj_iload_n hC dL_cell_38 rfl 0 rfl ?_
    refine jj_bipush hC dL_cell_39 (by decide) ?_
    refine jg_iushr hC dL_cell_41 ?_
    refine jg_ixor hC dL_cell_42 ?_
    cases h
    exact jj_iret hC (c_le rfl) (c_le rfl) dL_cell_43 ⟨rfl, (iI_rng _), rfl, rfl, rfl, rfl, rfl⟩
  unfold fL_cell at h
  refine jj_ldcI (v := 69069) hC rfl wd879 dL_cell_0 ?_
  refine jj_iload_n hC dL_cell_2 rfl 1 rfl ?_
  refine jj_aload_n hC dL_cell_3 rfl 0 rfl ?_
  refine jj_alen29 hC hp0 dL_cell_4 (fun hr1 => ?_)
  refine jj_icmp_ge (tgt := 14) hC dL_cell_5 rfl hp1 (r_ln hr1) (fun hc => ?_) (fun hc => ?_)
  · replace h := (if_pos hc).symm.trans h
    refine jj_iconst hC dL_cell_14 ?_
    refine jj_lv (lv' := [(1, .int (iI x1))]) [1] rfl ?_
    exact hB15 x1 0 69069 hp1 (show (-2147483648 ≤ (0 : Int) ∧ (0 : Int) < 2147483648) from by decide) (show (-2147483648 ≤ (69069 : Int) ∧ (69069 : Int) < 2147483648) from by decide) h
  · replace h := (if_neg (Int.not_le.mpr hc)).symm.trans h
    refine jj_aload_n hC dL_cell_8 rfl 0 rfl ?_
    refine jj_iload_n hC dL_cell_9 rfl 1 rfl ?_
    obtain ⟨⟨ha2, hb2⟩, h⟩ := gd_e h
    refine jj_iald29 hC hp0 ha2 hb2 dL_cell_10 (fun hr2 => ?_)
    refine jj_goto (tgt := 15) hC dL_cell_11 rfl ?_
    refine jj_lv (lv' := [(1, .int (iI x1))]) [1] rfl ?_
    exact hB15 x1 (M x0 x1) 69069 hp1 hr2 (show (-2147483648 ≤ (69069 : Int) ∧ (69069 : Int) < 2147483648) from by decide) h
def fL_addPoint (ad S Ln : Nat → Nat) (R : gR) (M : gM) (x0 : Nat) (x1 : Int) (x2 : Int) : Option (Int × gM × gR) :=
  bd (fX9_addPoint ad S Ln R M x0 x1 x2) fun q1 => Sum.elim (fun v1 => some ((v1.1, v1.2.1, v1.2.2))) (fun e1 => if e1.1 = "java/lang/IllegalArgumentException" then (some (((-900001), e1.2.1, e1.2.2))) else (if e1.1 = "java/lang/IllegalStateException" then (some (((-900002), e1.2.1, e1.2.2))) else (none))) q1
theorem xL_addPoint {l : Launch} {G : gE} {sz : Nat} {S Ln : Nat → Nat} {M : gM} {R : gR} (hl : l.stackTraces = false) {x0 : Nat} (hp0 : S x0 = 12) {x1 : Int} (hp1 : (-2147483648 ≤ x1 ∧ x1 < 2147483648)) {x2 : Int} (hp2 : (-2147483648 ≤ x2 ∧ x2 < 2147483648)) {r : Int × gM × gR} (h : fL_addPoint G.2.2.2.2 S Ln R M x0 x1 x2 = some r) : CtW l G yL_addPoint cL_addPoint 4 (some .int) [(0, 6, 7, 15), (0, 6, 11, 18)] 10 1 6 [.ref x0, .int (iI x1), .int (iI x2)] sz S Ln M R (poW r.1 S Ln S Ln r.2.1 r.2.2) := by
  refine jj_startW (own := RL) (lv0 := [(0, .ref x0), (1, .int (iI x1)), (2, .int (iI x2))]) hl (by decide +kernel) rfl rfl rfl (c_le rfl) (fun C hCl hC hT => ?_)
  unfold fL_addPoint at h
  refine jj_aload_n hC dL_addPoint_0 rfl 0 rfl ?_
  refine jj_iload_n hC dL_addPoint_1 rfl 1 rfl ?_
  refine jj_iload_n hC dL_addPoint_2 rfl 2 rfl ?_
  obtain ⟨q1, hq1, h⟩ := bd_e h
  refine jj_invV hC mvX9_addPoint wd1149 wd1150 wd1148 hp0 (by decide) rfl (xX9_addPoint (OKC.tr hC) hp0 hp1 hp2 hq1) rfl rfl (c_le rfl) (c_le rfl) (c_le rfl) (c_le rfl) dL_addPoint_3 (fun E1 sz1 S1 Ln1 M1 R1 hX1 => by
    obtain ⟨e1, he1, hz0, hz1, hz2, hz3, hz4⟩ := hX1
    subst he1
    replace h := el_r h
    rw [hz0, hz1, hz2, hz3, hz4]
    by_cases hE1_0 : e1.1 = "java/lang/IllegalArgumentException"
    · replace h := (if_pos hE1_0).symm.trans h
      rw [hE1_0]
      refine jj_catch hC hT (h1 := []) (h2 := [(0, 6, 11, 18)]) rfl (fun z hz => nomatch hz) (by decide) (by decide) wd536 wd371 (fun qx1 => ?_)
      refine jj_astore_n (lv' := [(3, .ref qx1), (0, .ref x0), (1, .int (iI x1)), (2, .int (iI x2))]) hC dL_addPoint_7 rfl (by decide) rfl ?_
      refine jj_ldcI (v := (-900001)) hC rfl wd554 dL_addPoint_8 ?_
      cases h
      exact jj_iret hC (c_le rfl) (c_le rfl) dL_addPoint_10 ⟨rfl, (show (-2147483648 ≤ ((-900001) : Int) ∧ ((-900001) : Int) < 2147483648) from by decide), ex2_r, rfl, rfl, rfl, rfl⟩
    · replace h := (if_neg hE1_0).symm.trans h
      by_cases hE1_1 : e1.1 = "java/lang/IllegalStateException"
      · replace h := (if_pos hE1_1).symm.trans h
        rw [hE1_1]
        refine jj_catch hC hT (h1 := [(0, 6, 7, 15)]) (h2 := []) rfl (List.forall_mem_cons.mpr ⟨⟨"java/lang/IllegalArgumentException", wd536, (by decide +kernel), (by decide)⟩, fun z hz => nomatch hz⟩) (by decide) (by decide) wd558 wd584 (fun qx1 => ?_)
        refine jj_astore_n (lv' := [(3, .ref qx1), (0, .ref x0), (1, .int (iI x1)), (2, .int (iI x2))]) hC dL_addPoint_11 rfl (by decide) rfl ?_
        refine jj_ldcI (v := (-900002)) hC rfl wd629 dL_addPoint_12 ?_
        cases h
        exact jj_iret hC (c_le rfl) (c_le rfl) dL_addPoint_14 ⟨rfl, (show (-2147483648 ≤ ((-900002) : Int) ∧ ((-900002) : Int) < 2147483648) from by decide), ex2_r, rfl, rfl, rfl, rfl⟩
      · replace h := (if_neg hE1_1).symm.trans h
        cases h) (poS_k (fun v1 hv1 => po_kI (fun hr1 => ?_)))
  subst hv1
  replace h := el_l h
  cases h
  exact jj_iret hC (c_le rfl) (c_le rfl) dL_addPoint_6 ⟨rfl, hr1, ex2_r, rfl, rfl, rfl, rfl⟩
def fL_addTaskPoint (ad S Ln : Nat → Nat) (R : gR) (M : gM) (x0 : Nat) (x1 : Int) : Option (Int × gM × gR) :=
  bd (fX9_addTaskPoint ad S Ln R M x0 x1) fun q1 => Sum.elim (fun v1 => some ((v1.1, v1.2.1, v1.2.2))) (fun e1 => if e1.1 = "java/lang/IndexOutOfBoundsException" then (some (((-900001), e1.2.1, e1.2.2))) else (if e1.1 = "java/lang/IllegalStateException" then (some (((-900002), e1.2.1, e1.2.2))) else (if e1.1 = "java/lang/UnsupportedOperationException" then (some (((-900003), e1.2.1, e1.2.2))) else (none)))) q1
theorem xL_addTaskPoint {l : Launch} {G : gE} {sz : Nat} {S Ln : Nat → Nat} {M : gM} {R : gR} (hl : l.stackTraces = false) {x0 : Nat} (hp0 : S x0 = 12) {x1 : Int} (hp1 : (-2147483648 ≤ x1 ∧ x1 < 2147483648)) {r : Int × gM × gR} (h : fL_addTaskPoint G.2.2.2.2 S Ln R M x0 x1 = some r) : CtW l G yL_addTaskPoint cL_addTaskPoint 3 (some .int) [(0, 5, 6, 25), (0, 5, 10, 18), (0, 5, 14, 27)] 10 1 6 [.ref x0, .int (iI x1)] sz S Ln M R (poW r.1 S Ln S Ln r.2.1 r.2.2) := by
  refine jj_startW (own := RL) (lv0 := [(0, .ref x0), (1, .int (iI x1))]) hl (by decide +kernel) rfl rfl rfl (c_le rfl) (fun C hCl hC hT => ?_)
  unfold fL_addTaskPoint at h
  refine jj_aload_n hC dL_addTaskPoint_0 rfl 0 rfl ?_
  refine jj_iload_n hC dL_addTaskPoint_1 rfl 1 rfl ?_
  obtain ⟨q1, hq1, h⟩ := bd_e h
  refine jj_invV hC mvX9_addTaskPoint wd1164 wd1165 wd1163 hp0 (by decide) rfl (xX9_addTaskPoint (OKC.tr hC) hp0 hp1 hq1) rfl rfl (c_le rfl) (c_le rfl) (c_le rfl) (c_le rfl) dL_addTaskPoint_2 (fun E1 sz1 S1 Ln1 M1 R1 hX1 => by
    obtain ⟨e1, he1, hz0, hz1, hz2, hz3, hz4⟩ := hX1
    subst he1
    replace h := el_r h
    rw [hz0, hz1, hz2, hz3, hz4]
    by_cases hE1_0 : e1.1 = "java/lang/IndexOutOfBoundsException"
    · replace h := (if_pos hE1_0).symm.trans h
      rw [hE1_0]
      refine jj_catch hC hT (h1 := []) (h2 := [(0, 5, 10, 18), (0, 5, 14, 27)]) rfl (fun z hz => nomatch hz) (by decide) (by decide) wd633 wd71 (fun qx1 => ?_)
      refine jj_astore_n (lv' := [(2, .ref qx1), (0, .ref x0), (1, .int (iI x1))]) hC dL_addTaskPoint_6 rfl (by decide) rfl ?_
      refine jj_ldcI (v := (-900001)) hC rfl wd554 dL_addTaskPoint_7 ?_
      cases h
      exact jj_iret hC (c_le rfl) (c_le rfl) dL_addTaskPoint_9 ⟨rfl, (show (-2147483648 ≤ ((-900001) : Int) ∧ ((-900001) : Int) < 2147483648) from by decide), ex2_r, rfl, rfl, rfl, rfl⟩
    · replace h := (if_neg hE1_0).symm.trans h
      by_cases hE1_1 : e1.1 = "java/lang/IllegalStateException"
      · replace h := (if_pos hE1_1).symm.trans h
        rw [hE1_1]
        refine jj_catch hC hT (h1 := [(0, 5, 6, 25)]) (h2 := [(0, 5, 14, 27)]) rfl (List.forall_mem_cons.mpr ⟨⟨"java/lang/IndexOutOfBoundsException", wd633, (by decide +kernel), (by decide)⟩, fun z hz => nomatch hz⟩) (by decide) (by decide) wd558 wd584 (fun qx1 => ?_)
        refine jj_astore_n (lv' := [(2, .ref qx1), (0, .ref x0), (1, .int (iI x1))]) hC dL_addTaskPoint_10 rfl (by decide) rfl ?_
        refine jj_ldcI (v := (-900002)) hC rfl wd629 dL_addTaskPoint_11 ?_
        cases h
        exact jj_iret hC (c_le rfl) (c_le rfl) dL_addTaskPoint_13 ⟨rfl, (show (-2147483648 ≤ ((-900002) : Int) ∧ ((-900002) : Int) < 2147483648) from by decide), ex2_r, rfl, rfl, rfl, rfl⟩
      · replace h := (if_neg hE1_1).symm.trans h
        by_cases hE1_2 : e1.1 = "java/lang/UnsupportedOperationException"
        · replace h := (if_pos hE1_2).symm.trans h
          rw [hE1_2]
          refine jj_catch hC hT (h1 := [(0, 5, 6, 25), (0, 5, 10, 18)]) (h2 := []) rfl (List.forall_mem_cons.mpr ⟨⟨"java/lang/IndexOutOfBoundsException", wd633, (by decide +kernel), (by decide)⟩, List.forall_mem_cons.mpr ⟨⟨"java/lang/IllegalStateException", wd558, (by decide +kernel), (by decide)⟩, fun z hz => nomatch hz⟩⟩) (by decide) (by decide) wd636 wd602 (fun qx1 => ?_)
          refine jj_astore_n (lv' := [(2, .ref qx1), (0, .ref x0), (1, .int (iI x1))]) hC dL_addTaskPoint_14 rfl (by decide) rfl ?_
          refine jj_ldcI (v := (-900003)) hC rfl wd670 dL_addTaskPoint_15 ?_
          cases h
          exact jj_iret hC (c_le rfl) (c_le rfl) dL_addTaskPoint_17 ⟨rfl, (show (-2147483648 ≤ ((-900003) : Int) ∧ ((-900003) : Int) < 2147483648) from by decide), ex2_r, rfl, rfl, rfl, rfl⟩
        · replace h := (if_neg hE1_2).symm.trans h
          cases h) (poS_k (fun v1 hv1 => po_kI (fun hr1 => ?_)))
  subst hv1
  replace h := el_l h
  cases h
  exact jj_iret hC (c_le rfl) (c_le rfl) dL_addTaskPoint_5 ⟨rfl, hr1, ex2_r, rfl, rfl, rfl, rfl⟩
def fL_clearTask (ad S Ln : Nat → Nat) (R : gR) (M : gM) (x0 : Nat) : Option (Int × gM × gR) :=
  bd (fX9_clearTask ad S Ln R M x0) fun q1 => Sum.elim (fun v1 => some ((v1.1, v1.2.1, v1.2.2))) (fun e1 => if e1.1 = "java/lang/IllegalStateException" then (some (((-900001), e1.2.1, e1.2.2))) else (none)) q1
theorem xL_clearTask {l : Launch} {G : gE} {sz : Nat} {S Ln : Nat → Nat} {M : gM} {R : gR} (hl : l.stackTraces = false) {x0 : Nat} (hp0 : S x0 = 12) {r : Int × gM × gR} (h : fL_clearTask G.2.2.2.2 S Ln R M x0 = some r) : CtW l G yL_clearTask cL_clearTask 2 (some .int) [(0, 4, 5, 18)] 9 1 6 [.ref x0] sz S Ln M R (poW r.1 S Ln S Ln r.2.1 r.2.2) := by
  refine jj_startW (own := RL) (lv0 := [(0, .ref x0)]) hl (by decide +kernel) rfl rfl rfl (c_le rfl) (fun C hCl hC hT => ?_)
  unfold fL_clearTask at h
  refine jj_aload_n hC dL_clearTask_0 rfl 0 rfl ?_
  obtain ⟨q1, hq1, h⟩ := bd_e h
  refine jj_invV hC mvX9_clearTask wd1222 wd1223 wd1221 hp0 (by decide) rfl (xX9_clearTask (OKC.tr hC) hp0 hq1) rfl rfl (c_le rfl) (c_le rfl) (c_le rfl) (c_le rfl) dL_clearTask_1 (fun E1 sz1 S1 Ln1 M1 R1 hX1 => by
    obtain ⟨e1, he1, hz0, hz1, hz2, hz3, hz4⟩ := hX1
    subst he1
    replace h := el_r h
    rw [hz0, hz1, hz2, hz3, hz4]
    by_cases hE1_0 : e1.1 = "java/lang/IllegalStateException"
    · replace h := (if_pos hE1_0).symm.trans h
      rw [hE1_0]
      refine jj_catch hC hT (h1 := []) (h2 := []) rfl (fun z hz => nomatch hz) (by decide) (by decide) wd558 wd584 (fun qx1 => ?_)
      refine jj_astore_n (lv' := [(1, .ref qx1), (0, .ref x0)]) hC dL_clearTask_5 rfl (by decide) rfl ?_
      refine jj_ldcI (v := (-900001)) hC rfl wd554 dL_clearTask_6 ?_
      cases h
      exact jj_iret hC (c_le rfl) (c_le rfl) dL_clearTask_8 ⟨rfl, (show (-2147483648 ≤ ((-900001) : Int) ∧ ((-900001) : Int) < 2147483648) from by decide), ex2_r, rfl, rfl, rfl, rfl⟩
    · replace h := (if_neg hE1_0).symm.trans h
      cases h) (poS_k (fun v1 hv1 => po_kI (fun hr1 => ?_)))
  subst hv1
  replace h := el_l h
  cases h
  exact jj_iret hC (c_le rfl) (c_le rfl) dL_clearTask_4 ⟨rfl, hr1, ex2_r, rfl, rfl, rfl, rfl⟩
def fL_addThermal (ad S Ln : Nat → Nat) (R : gR) (M : gM) (x0 : Nat) (x1 : Int) (x2 : Int) (x3 : Int) : Option (Int × gM × gR) :=
  bd (fX9_addThermal ad S Ln R M x0 x1 x2 x3) fun q1 => Sum.elim (fun v1 => some ((v1.1, v1.2.1, v1.2.2))) (fun e1 => if e1.1 = "java/lang/IllegalArgumentException" then (some (((-900001), e1.2.1, e1.2.2))) else (if e1.1 = "java/lang/IllegalStateException" then (some (((-900002), e1.2.1, e1.2.2))) else (none))) q1
theorem xL_addThermal {l : Launch} {G : gE} {sz : Nat} {S Ln : Nat → Nat} {M : gM} {R : gR} (hl : l.stackTraces = false) {x0 : Nat} (hp0 : S x0 = 12) {x1 : Int} (hp1 : (-2147483648 ≤ x1 ∧ x1 < 2147483648)) {x2 : Int} (hp2 : (-2147483648 ≤ x2 ∧ x2 < 2147483648)) {x3 : Int} (hp3 : (-2147483648 ≤ x3 ∧ x3 < 2147483648)) {r : Int × gM × gR} (h : fL_addThermal G.2.2.2.2 S Ln R M x0 x1 x2 x3 = some r) : CtW l G yL_addThermal cL_addThermal 5 (some .int) [(0, 7, 8, 15), (0, 7, 13, 18)] 10 1 6 [.ref x0, .int (iI x1), .int (iI x2), .int (iI x3)] sz S Ln M R (poW r.1 S Ln S Ln r.2.1 r.2.2) := by
  refine jj_startW (own := RL) (lv0 := [(0, .ref x0), (1, .int (iI x1)), (2, .int (iI x2)), (3, .int (iI x3))]) hl (by decide +kernel) rfl rfl rfl (c_le rfl) (fun C hCl hC hT => ?_)
  unfold fL_addThermal at h
  refine jj_aload_n hC dL_addThermal_0 rfl 0 rfl ?_
  refine jj_iload_n hC dL_addThermal_1 rfl 1 rfl ?_
  refine jj_iload_n hC dL_addThermal_2 rfl 2 rfl ?_
  refine jj_iload_n hC dL_addThermal_3 rfl 3 rfl ?_
  obtain ⟨q1, hq1, h⟩ := bd_e h
  refine jj_invV hC mvX9_addThermal wd1188 wd1189 wd1187 hp0 (by decide) rfl (xX9_addThermal (OKC.tr hC) hp0 hp1 hp2 hp3 hq1) rfl rfl (c_le rfl) (c_le rfl) (c_le rfl) (c_le rfl) dL_addThermal_4 (fun E1 sz1 S1 Ln1 M1 R1 hX1 => by
    obtain ⟨e1, he1, hz0, hz1, hz2, hz3, hz4⟩ := hX1
    subst he1
    replace h := el_r h
    rw [hz0, hz1, hz2, hz3, hz4]
    by_cases hE1_0 : e1.1 = "java/lang/IllegalArgumentException"
    · replace h := (if_pos hE1_0).symm.trans h
      rw [hE1_0]
      refine jj_catch hC hT (h1 := []) (h2 := [(0, 7, 13, 18)]) rfl (fun z hz => nomatch hz) (by decide) (by decide) wd536 wd371 (fun qx1 => ?_)
      refine jj_astore (lv' := [(4, .ref qx1), (0, .ref x0), (1, .int (iI x1)), (2, .int (iI x2)), (3, .int (iI x3))]) hC dL_addThermal_8 (by decide) rfl ?_
      refine jj_ldcI (v := (-900001)) hC rfl wd554 dL_addThermal_10 ?_
      cases h
      exact jj_iret hC (c_le rfl) (c_le rfl) dL_addThermal_12 ⟨rfl, (show (-2147483648 ≤ ((-900001) : Int) ∧ ((-900001) : Int) < 2147483648) from by decide), ex2_r, rfl, rfl, rfl, rfl⟩
    · replace h := (if_neg hE1_0).symm.trans h
      by_cases hE1_1 : e1.1 = "java/lang/IllegalStateException"
      · replace h := (if_pos hE1_1).symm.trans h
        rw [hE1_1]
        refine jj_catch hC hT (h1 := [(0, 7, 8, 15)]) (h2 := []) rfl (List.forall_mem_cons.mpr ⟨⟨"java/lang/IllegalArgumentException", wd536, (by decide +kernel), (by decide)⟩, fun z hz => nomatch hz⟩) (by decide) (by decide) wd558 wd584 (fun qx1 => ?_)
        refine jj_astore (lv' := [(4, .ref qx1), (0, .ref x0), (1, .int (iI x1)), (2, .int (iI x2)), (3, .int (iI x3))]) hC dL_addThermal_13 (by decide) rfl ?_
        refine jj_ldcI (v := (-900002)) hC rfl wd629 dL_addThermal_15 ?_
        cases h
        exact jj_iret hC (c_le rfl) (c_le rfl) dL_addThermal_17 ⟨rfl, (show (-2147483648 ≤ ((-900002) : Int) ∧ ((-900002) : Int) < 2147483648) from by decide), ex2_r, rfl, rfl, rfl, rfl⟩
      · replace h := (if_neg hE1_1).symm.trans h
        cases h) (poS_k (fun v1 hv1 => po_kI (fun hr1 => ?_)))
  subst hv1
  replace h := el_l h
  cases h
  exact jj_iret hC (c_le rfl) (c_le rfl) dL_addThermal_7 ⟨rfl, hr1, ex2_r, rfl, rfl, rfl, rfl⟩
def fL_setCloudBase (ad S Ln : Nat → Nat) (R : gR) (M : gM) (x0 : Nat) (x1 : Int) : Option (Int × gM × gR) :=
  bd (fX9_setCloudBase ad S Ln R M x0 x1) fun q1 => Sum.elim (fun v1 => some ((v1.1, v1.2.1, v1.2.2))) (fun e1 => if e1.1 = "java/lang/IllegalArgumentException" then (some (((-900001), e1.2.1, e1.2.2))) else (none)) q1
theorem xL_setCloudBase {l : Launch} {G : gE} {sz : Nat} {S Ln : Nat → Nat} {M : gM} {R : gR} (hl : l.stackTraces = false) {x0 : Nat} (hp0 : S x0 = 12) {x1 : Int} (hp1 : (-2147483648 ≤ x1 ∧ x1 < 2147483648)) {r : Int × gM × gR} (h : fL_setCloudBase G.2.2.2.2 S Ln R M x0 x1 = some r) : CtW l G yL_setCloudBase cL_setCloudBase 3 (some .int) [(0, 5, 6, 15)] 9 1 6 [.ref x0, .int (iI x1)] sz S Ln M R (poW r.1 S Ln S Ln r.2.1 r.2.2) := by
  refine jj_startW (own := RL) (lv0 := [(0, .ref x0), (1, .int (iI x1))]) hl (by decide +kernel) rfl rfl rfl (c_le rfl) (fun C hCl hC hT => ?_)
  unfold fL_setCloudBase at h
  refine jj_aload_n hC dL_setCloudBase_0 rfl 0 rfl ?_
  refine jj_iload_n hC dL_setCloudBase_1 rfl 1 rfl ?_
  obtain ⟨q1, hq1, h⟩ := bd_e h
  refine jj_invV hC mvX9_setCloudBase wd538 wd539 wd537 hp0 (by decide) rfl (xX9_setCloudBase (OKC.tr hC) hp0 hp1 hq1) rfl rfl (c_le rfl) (c_le rfl) (c_le rfl) (c_le rfl) dL_setCloudBase_2 (fun E1 sz1 S1 Ln1 M1 R1 hX1 => by
    obtain ⟨e1, he1, hz0, hz1, hz2, hz3, hz4⟩ := hX1
    subst he1
    replace h := el_r h
    rw [hz0, hz1, hz2, hz3, hz4]
    by_cases hE1_0 : e1.1 = "java/lang/IllegalArgumentException"
    · replace h := (if_pos hE1_0).symm.trans h
      rw [hE1_0]
      refine jj_catch hC hT (h1 := []) (h2 := []) rfl (fun z hz => nomatch hz) (by decide) (by decide) wd536 wd371 (fun qx1 => ?_)
      refine jj_astore_n (lv' := [(2, .ref qx1), (0, .ref x0), (1, .int (iI x1))]) hC dL_setCloudBase_6 rfl (by decide) rfl ?_
      refine jj_ldcI (v := (-900001)) hC rfl wd554 dL_setCloudBase_7 ?_
      cases h
      exact jj_iret hC (c_le rfl) (c_le rfl) dL_setCloudBase_9 ⟨rfl, (show (-2147483648 ≤ ((-900001) : Int) ∧ ((-900001) : Int) < 2147483648) from by decide), ex2_r, rfl, rfl, rfl, rfl⟩
    · replace h := (if_neg hE1_0).symm.trans h
      cases h) (poS_k (fun v1 hv1 => po_kI (fun hr1 => ?_)))
  subst hv1
  replace h := el_l h
  cases h
  exact jj_iret hC (c_le rfl) (c_le rfl) dL_setCloudBase_5 ⟨rfl, hr1, ex2_r, rfl, rfl, rfl, rfl⟩
def fL_addArea (ad S Ln : Nat → Nat) (R : gR) (M : gM) (x0 : Nat) (x1 : Int) (x2 : Int) (x3 : Int) (x4 : Int) : Option (Int × gM × gR) :=
  bd (fX9_addArea ad S Ln R M x0 x1 x2 x3 x4) fun q1 => Sum.elim (fun v1 => some ((v1.1, v1.2.1, v1.2.2))) (fun e1 => if e1.1 = "java/lang/IllegalArgumentException" then (some (((-900001), e1.2.1, e1.2.2))) else (if e1.1 = "java/lang/IllegalStateException" then (some (((-900002), e1.2.1, e1.2.2))) else (none))) q1
theorem xL_addArea {l : Launch} {G : gE} {sz : Nat} {S Ln : Nat → Nat} {M : gM} {R : gR} (hl : l.stackTraces = false) {x0 : Nat} (hp0 : S x0 = 12) {x1 : Int} (hp1 : (-2147483648 ≤ x1 ∧ x1 < 2147483648)) {x2 : Int} (hp2 : (-2147483648 ≤ x2 ∧ x2 < 2147483648)) {x3 : Int} (hp3 : (-2147483648 ≤ x3 ∧ x3 < 2147483648)) {x4 : Int} (hp4 : (-2147483648 ≤ x4 ∧ x4 < 2147483648)) {r : Int × gM × gR} (h : fL_addArea G.2.2.2.2 S Ln R M x0 x1 x2 x3 x4 = some r) : CtW l G yL_addArea cL_addArea 6 (some .int) [(0, 9, 10, 15), (0, 9, 15, 18)] 10 1 6 [.ref x0, .int (iI x1), .int (iI x2), .int (iI x3), .int (iI x4)] sz S Ln M R (poW r.1 S Ln S Ln r.2.1 r.2.2) := by
  refine jj_startW (own := RL) (lv0 := [(0, .ref x0), (1, .int (iI x1)), (2, .int (iI x2)), (3, .int (iI x3)), (4, .int (iI x4))]) hl (by decide +kernel) rfl rfl rfl (c_le rfl) (fun C hCl hC hT => ?_)
  unfold fL_addArea at h
  refine jj_aload_n hC dL_addArea_0 rfl 0 rfl ?_
  refine jj_iload_n hC dL_addArea_1 rfl 1 rfl ?_
  refine jj_iload_n hC dL_addArea_2 rfl 2 rfl ?_
  refine jj_iload_n hC dL_addArea_3 rfl 3 rfl ?_
  refine jj_iload hC dL_addArea_4 4 rfl ?_
  obtain ⟨q1, hq1, h⟩ := bd_e h
  refine jj_invV hC mvX9_addArea wd1203 wd1204 wd1202 hp0 (by decide) rfl (xX9_addArea (OKC.tr hC) hp0 hp1 hp2 hp3 hp4 hq1) rfl rfl (c_le rfl) (c_le rfl) (c_le rfl) (c_le rfl) dL_addArea_6 (fun E1 sz1 S1 Ln1 M1 R1 hX1 => by
    obtain ⟨e1, he1, hz0, hz1, hz2, hz3, hz4⟩ := hX1
    subst he1
    replace h := el_r h
    rw [hz0, hz1, hz2, hz3, hz4]
    by_cases hE1_0 : e1.1 = "java/lang/IllegalArgumentException"
    · replace h := (if_pos hE1_0).symm.trans h
      rw [hE1_0]
      refine jj_catch hC hT (h1 := []) (h2 := [(0, 9, 15, 18)]) rfl (fun z hz => nomatch hz) (by decide) (by decide) wd536 wd371 (fun qx1 => ?_)
      refine jj_astore (lv' := [(5, .ref qx1), (0, .ref x0), (1, .int (iI x1)), (2, .int (iI x2)), (3, .int (iI x3)), (4, .int (iI x4))]) hC dL_addArea_10 (by decide) rfl ?_
      refine jj_ldcI (v := (-900001)) hC rfl wd554 dL_addArea_12 ?_
      cases h
      exact jj_iret hC (c_le rfl) (c_le rfl) dL_addArea_14 ⟨rfl, (show (-2147483648 ≤ ((-900001) : Int) ∧ ((-900001) : Int) < 2147483648) from by decide), ex2_r, rfl, rfl, rfl, rfl⟩
    · replace h := (if_neg hE1_0).symm.trans h
      by_cases hE1_1 : e1.1 = "java/lang/IllegalStateException"
      · replace h := (if_pos hE1_1).symm.trans h
        rw [hE1_1]
        refine jj_catch hC hT (h1 := [(0, 9, 10, 15)]) (h2 := []) rfl (List.forall_mem_cons.mpr ⟨⟨"java/lang/IllegalArgumentException", wd536, (by decide +kernel), (by decide)⟩, fun z hz => nomatch hz⟩) (by decide) (by decide) wd558 wd584 (fun qx1 => ?_)
        refine jj_astore (lv' := [(5, .ref qx1), (0, .ref x0), (1, .int (iI x1)), (2, .int (iI x2)), (3, .int (iI x3)), (4, .int (iI x4))]) hC dL_addArea_15 (by decide) rfl ?_
        refine jj_ldcI (v := (-900002)) hC rfl wd629 dL_addArea_17 ?_
        cases h
        exact jj_iret hC (c_le rfl) (c_le rfl) dL_addArea_19 ⟨rfl, (show (-2147483648 ≤ ((-900002) : Int) ∧ ((-900002) : Int) < 2147483648) from by decide), ex2_r, rfl, rfl, rfl, rfl⟩
      · replace h := (if_neg hE1_1).symm.trans h
        cases h) (poS_k (fun v1 hv1 => po_kI (fun hr1 => ?_)))
  subst hv1
  replace h := el_l h
  cases h
  exact jj_iret hC (c_le rfl) (c_le rfl) dL_addArea_9 ⟨rfl, hr1, ex2_r, rfl, rfl, rfl, rfl⟩
def fL_addPilot (ad S Ln : Nat → Nat) (R : gR) (M : gM) (x0 : Nat) (x1 : Int) : Option (Int × gM × gR) :=
  bd (fX9_addPilot ad S Ln R M x0 x1) fun q1 => Sum.elim (fun v1 => some ((v1.1, v1.2.1, v1.2.2))) (fun e1 => if e1.1 = "java/lang/IllegalArgumentException" then (some (((-900001), e1.2.1, e1.2.2))) else (if e1.1 = "java/lang/IllegalStateException" then (some (((-900002), e1.2.1, e1.2.2))) else (none))) q1
theorem xL_addPilot {l : Launch} {G : gE} {sz : Nat} {S Ln : Nat → Nat} {M : gM} {R : gR} (hl : l.stackTraces = false) {x0 : Nat} (hp0 : S x0 = 12) {x1 : Int} (hp1 : (-2147483648 ≤ x1 ∧ x1 < 2147483648)) {r : Int × gM × gR} (h : fL_addPilot G.2.2.2.2 S Ln R M x0 x1 = some r) : CtW l G yL_addPilot cL_addPilot 3 (some .int) [(0, 5, 6, 15), (0, 5, 10, 18)] 10 1 6 [.ref x0, .int (iI x1)] sz S Ln M R (poW r.1 S Ln S Ln r.2.1 r.2.2) := by
  refine jj_startW (own := RL) (lv0 := [(0, .ref x0), (1, .int (iI x1))]) hl (by decide +kernel) rfl rfl rfl (c_le rfl) (fun C hCl hC hT => ?_)
  unfold fL_addPilot at h
  refine jj_aload_n hC dL_addPilot_0 rfl 0 rfl ?_
  refine jj_iload_n hC dL_addPilot_1 rfl 1 rfl ?_
  obtain ⟨q1, hq1, h⟩ := bd_e h
  refine jj_invV hC mvX9_addPilot wd560 wd561 wd559 hp0 (by decide) rfl (xX9_addPilot (OKC.tr hC) hp0 hp1 hq1) rfl rfl (c_le rfl) (c_le rfl) (c_le rfl) (c_le rfl) dL_addPilot_2 (fun E1 sz1 S1 Ln1 M1 R1 hX1 => by
    obtain ⟨e1, he1, hz0, hz1, hz2, hz3, hz4⟩ := hX1
    subst he1
    replace h := el_r h
    rw [hz0, hz1, hz2, hz3, hz4]
    by_cases hE1_0 : e1.1 = "java/lang/IllegalArgumentException"
    · replace h := (if_pos hE1_0).symm.trans h
      rw [hE1_0]
      refine jj_catch hC hT (h1 := []) (h2 := [(0, 5, 10, 18)]) rfl (fun z hz => nomatch hz) (by decide) (by decide) wd536 wd371 (fun qx1 => ?_)
      refine jj_astore_n (lv' := [(2, .ref qx1), (0, .ref x0), (1, .int (iI x1))]) hC dL_addPilot_6 rfl (by decide) rfl ?_
      refine jj_ldcI (v := (-900001)) hC rfl wd554 dL_addPilot_7 ?_
      cases h
      exact jj_iret hC (c_le rfl) (c_le rfl) dL_addPilot_9 ⟨rfl, (show (-2147483648 ≤ ((-900001) : Int) ∧ ((-900001) : Int) < 2147483648) from by decide), ex2_r, rfl, rfl, rfl, rfl⟩
    · replace h := (if_neg hE1_0).symm.trans h
      by_cases hE1_1 : e1.1 = "java/lang/IllegalStateException"
      · replace h := (if_pos hE1_1).symm.trans h
        rw [hE1_1]
        refine jj_catch hC hT (h1 := [(0, 5, 6, 15)]) (h2 := []) rfl (List.forall_mem_cons.mpr ⟨⟨"java/lang/IllegalArgumentException", wd536, (by decide +kernel), (by decide)⟩, fun z hz => nomatch hz⟩) (by decide) (by decide) wd558 wd584 (fun qx1 => ?_)
        refine jj_astore_n (lv' := [(2, .ref qx1), (0, .ref x0), (1, .int (iI x1))]) hC dL_addPilot_10 rfl (by decide) rfl ?_
        refine jj_ldcI (v := (-900002)) hC rfl wd629 dL_addPilot_11 ?_
        cases h
        exact jj_iret hC (c_le rfl) (c_le rfl) dL_addPilot_13 ⟨rfl, (show (-2147483648 ≤ ((-900002) : Int) ∧ ((-900002) : Int) < 2147483648) from by decide), ex2_r, rfl, rfl, rfl, rfl⟩
      · replace h := (if_neg hE1_1).symm.trans h
        cases h) (poS_k (fun v1 hv1 => po_kI (fun hr1 => ?_)))
  subst hv1
  replace h := el_l h
  cases h
  exact jj_iret hC (c_le rfl) (c_le rfl) dL_addPilot_5 ⟨rfl, hr1, ex2_r, rfl, rfl, rfl, rfl⟩
def fL_launch (ad S Ln : Nat → Nat) (R : gR) (M : gM) (x0 : Nat) (x1 : Int) : Option (Int × gM × gR) :=
  bd (fX9_launch ad S Ln R M x0 x1) fun q1 => Sum.elim (fun v1 => some ((v1.1, v1.2.1, v1.2.2))) (fun e1 => if e1.1 = "java/lang/IndexOutOfBoundsException" then (some (((-900001), e1.2.1, e1.2.2))) else (if e1.1 = "java/lang/IllegalStateException" then (some (((-900002), e1.2.1, e1.2.2))) else (if e1.1 = "java/lang/UnsupportedOperationException" then (some (((-900003), e1.2.1, e1.2.2))) else (none)))) q1
theorem xL_launch {l : Launch} {G : gE} {sz : Nat} {S Ln : Nat → Nat} {M : gM} {R : gR} (hl : l.stackTraces = false) {x0 : Nat} (hp0 : S x0 = 12) {x1 : Int} (hp1 : (-2147483648 ≤ x1 ∧ x1 < 2147483648)) {r : Int × gM × gR} (h : fL_launch G.2.2.2.2 S Ln R M x0 x1 = some r) : CtW l G yL_launch cL_launch 3 (some .int) [(0, 5, 6, 25), (0, 5, 10, 18), (0, 5, 14, 27)] 10 1 6 [.ref x0, .int (iI x1)] sz S Ln M R (poW r.1 S Ln S Ln r.2.1 r.2.2) := by
  refine jj_startW (own := RL) (lv0 := [(0, .ref x0), (1, .int (iI x1))]) hl (by decide +kernel) rfl rfl rfl (c_le rfl) (fun C hCl hC hT => ?_)
  unfold fL_launch at h
  refine jj_aload_n hC dL_launch_0 rfl 0 rfl ?_
  refine jj_iload_n hC dL_launch_1 rfl 1 rfl ?_
  obtain ⟨q1, hq1, h⟩ := bd_e h
  refine jj_invV hC mvX9_launch wd638 wd639 wd637 hp0 (by decide) rfl (xX9_launch (OKC.tr hC) hp0 hp1 hq1) rfl rfl (c_le rfl) (c_le rfl) (c_le rfl) (c_le rfl) dL_launch_2 (fun E1 sz1 S1 Ln1 M1 R1 hX1 => by
    obtain ⟨e1, he1, hz0, hz1, hz2, hz3, hz4⟩ := hX1
    subst he1
    replace h := el_r h
    rw [hz0, hz1, hz2, hz3, hz4]
    by_cases hE1_0 : e1.1 = "java/lang/IndexOutOfBoundsException"
    · replace h := (if_pos hE1_0).symm.trans h
      rw [hE1_0]
      refine jj_catch hC hT (h1 := []) (h2 := [(0, 5, 10, 18), (0, 5, 14, 27)]) rfl (fun z hz => nomatch hz) (by decide) (by decide) wd633 wd71 (fun qx1 => ?_)
      refine jj_astore_n (lv' := [(2, .ref qx1), (0, .ref x0), (1, .int (iI x1))]) hC dL_launch_6 rfl (by decide) rfl ?_
      refine jj_ldcI (v := (-900001)) hC rfl wd554 dL_launch_7 ?_
      cases h
      exact jj_iret hC (c_le rfl) (c_le rfl) dL_launch_9 ⟨rfl, (show (-2147483648 ≤ ((-900001) : Int) ∧ ((-900001) : Int) < 2147483648) from by decide), ex2_r, rfl, rfl, rfl, rfl⟩
    · replace h := (if_neg hE1_0).symm.trans h
      by_cases hE1_1 : e1.1 = "java/lang/IllegalStateException"
      · replace h := (if_pos hE1_1).symm.trans h
        rw [hE1_1]
        refine jj_catch hC hT (h1 := [(0, 5, 6, 25)]) (h2 := [(0, 5, 14, 27)]) rfl (List.forall_mem_cons.mpr ⟨⟨"java/lang/IndexOutOfBoundsException", wd633, (by decide +kernel), (by decide)⟩, fun z hz => nomatch hz⟩) (by decide) (by decide) wd558 wd584 (fun qx1 => ?_)
        refine jj_astore_n (lv' := [(2, .ref qx1), (0, .ref x0), (1, .int (iI x1))]) hC dL_launch_10 rfl (by decide) rfl ?_
        refine jj_ldcI (v := (-900002)) hC rfl wd629 dL_launch_11 ?_
        cases h
        exact jj_iret hC (c_le rfl) (c_le rfl) dL_launch_13 ⟨rfl, (show (-2147483648 ≤ ((-900002) : Int) ∧ ((-900002) : Int) < 2147483648) from by decide), ex2_r, rfl, rfl, rfl, rfl⟩
      · replace h := (if_neg hE1_1).symm.trans h
        by_cases hE1_2 : e1.1 = "java/lang/UnsupportedOperationException"
        · replace h := (if_pos hE1_2).symm.trans h
          rw [hE1_2]
          refine jj_catch hC hT (h1 := [(0, 5, 6, 25), (0, 5, 10, 18)]) (h2 := []) rfl (List.forall_mem_cons.mpr ⟨⟨"java/lang/IndexOutOfBoundsException", wd633, (by decide +kernel), (by decide)⟩, List.forall_mem_cons.mpr ⟨⟨"java/lang/IllegalStateException", wd558, (by decide +kernel), (by decide)⟩, fun z hz => nomatch hz⟩⟩) (by decide) (by decide) wd636 wd602 (fun qx1 => ?_)
          refine jj_astore_n (lv' := [(2, .ref qx1), (0, .ref x0), (1, .int (iI x1))]) hC dL_launch_14 rfl (by decide) rfl ?_
          refine jj_ldcI (v := (-900003)) hC rfl wd670 dL_launch_15 ?_
          cases h
          exact jj_iret hC (c_le rfl) (c_le rfl) dL_launch_17 ⟨rfl, (show (-2147483648 ≤ ((-900003) : Int) ∧ ((-900003) : Int) < 2147483648) from by decide), ex2_r, rfl, rfl, rfl, rfl⟩
        · replace h := (if_neg hE1_2).symm.trans h
          cases h) (poS_k (fun v1 hv1 => po_kI (fun hr1 => ?_)))
  subst hv1
  replace h := el_l h
  cases h
  exact jj_iret hC (c_le rfl) (c_le rfl) dL_launch_5 ⟨rfl, hr1, ex2_r, rfl, rfl, rfl, rfl⟩
def fL_fly (ad S Ln : Nat → Nat) (R : gR) (M : gM) (x0 : Nat) (x1 : Int) (x2 : Int) (x3 : Int) : Option (Int × gM × gR) :=
  bd (fX9_fly ad S Ln R M x0 x1 x2 x3) fun q1 => Sum.elim (fun v1 => some ((v1.1, v1.2.1, v1.2.2))) (fun e1 => if e1.1 = "java/lang/IndexOutOfBoundsException" then (some (((-900001), e1.2.1, e1.2.2))) else (if e1.1 = "java/lang/IllegalArgumentException" then (some (((-900002), e1.2.1, e1.2.2))) else (if e1.1 = "java/lang/IllegalStateException" then (some (((-900003), e1.2.1, e1.2.2))) else (if e1.1 = "java/lang/UnsupportedOperationException" then (some (((-900004), e1.2.1, e1.2.2))) else (none))))) q1
theorem xL_fly {l : Launch} {G : gE} {sz : Nat} {S Ln : Nat → Nat} {M : gM} {R : gR} (hl : l.stackTraces = false) {x0 : Nat} (hp0 : S x0 = 12) {x1 : Int} (hp1 : (-2147483648 ≤ x1 ∧ x1 < 2147483648)) {x2 : Int} (hp2 : (-2147483648 ≤ x2 ∧ x2 < 2147483648)) {x3 : Int} (hp3 : (-2147483648 ≤ x3 ∧ x3 < 2147483648)) {r : Int × gM × gR} (h : fL_fly G.2.2.2.2 S Ln R M x0 x1 x2 x3 = some r) : CtW l G yL_fly cL_fly 5 (some .int) [(0, 7, 8, 25), (0, 7, 13, 15), (0, 7, 18, 18), (0, 7, 23, 27)] 10 1 6 [.ref x0, .int (iI x1), .int (iI x2), .int (iI x3)] sz S Ln M R (poW r.1 S Ln S Ln r.2.1 r.2.2) := by
  refine jj_startW (own := RL) (lv0 := [(0, .ref x0), (1, .int (iI x1)), (2, .int (iI x2)), (3, .int (iI x3))]) hl (by decide +kernel) rfl rfl rfl (c_le rfl) (fun C hCl hC hT => ?_)
  unfold fL_fly at h
  refine jj_aload_n hC dL_fly_0 rfl 0 rfl ?_
  refine jj_iload_n hC dL_fly_1 rfl 1 rfl ?_
  refine jj_iload_n hC dL_fly_2 rfl 2 rfl ?_
  refine jj_iload_n hC dL_fly_3 rfl 3 rfl ?_
  obtain ⟨q1, hq1, h⟩ := bd_e h
  refine jj_invV hC mvX9_fly wd675 wd676 wd674 hp0 (by decide) rfl (xX9_fly (OKC.tr hC) hp0 hp1 hp2 hp3 hq1) rfl rfl (c_le rfl) (c_le rfl) (c_le rfl) (c_le rfl) dL_fly_4 (fun E1 sz1 S1 Ln1 M1 R1 hX1 => by
    obtain ⟨e1, he1, hz0, hz1, hz2, hz3, hz4⟩ := hX1
    subst he1
    replace h := el_r h
    rw [hz0, hz1, hz2, hz3, hz4]
    by_cases hE1_0 : e1.1 = "java/lang/IndexOutOfBoundsException"
    · replace h := (if_pos hE1_0).symm.trans h
      rw [hE1_0]
      refine jj_catch hC hT (h1 := []) (h2 := [(0, 7, 13, 15), (0, 7, 18, 18), (0, 7, 23, 27)]) rfl (fun z hz => nomatch hz) (by decide) (by decide) wd633 wd71 (fun qx1 => ?_)
      refine jj_astore (lv' := [(4, .ref qx1), (0, .ref x0), (1, .int (iI x1)), (2, .int (iI x2)), (3, .int (iI x3))]) hC dL_fly_8 (by decide) rfl ?_
      refine jj_ldcI (v := (-900001)) hC rfl wd554 dL_fly_10 ?_
      cases h
      exact jj_iret hC (c_le rfl) (c_le rfl) dL_fly_12 ⟨rfl, (show (-2147483648 ≤ ((-900001) : Int) ∧ ((-900001) : Int) < 2147483648) from by decide), ex2_r, rfl, rfl, rfl, rfl⟩
    · replace h := (if_neg hE1_0).symm.trans h
      by_cases hE1_1 : e1.1 = "java/lang/IllegalArgumentException"
      · replace h := (if_pos hE1_1).symm.trans h
        rw [hE1_1]
        refine jj_catch hC hT (h1 := [(0, 7, 8, 25)]) (h2 := [(0, 7, 18, 18), (0, 7, 23, 27)]) rfl (List.forall_mem_cons.mpr ⟨⟨"java/lang/IndexOutOfBoundsException", wd633, (by decide +kernel), (by decide)⟩, fun z hz => nomatch hz⟩) (by decide) (by decide) wd536 wd371 (fun qx1 => ?_)
        refine jj_astore (lv' := [(4, .ref qx1), (0, .ref x0), (1, .int (iI x1)), (2, .int (iI x2)), (3, .int (iI x3))]) hC dL_fly_13 (by decide) rfl ?_
        refine jj_ldcI (v := (-900002)) hC rfl wd629 dL_fly_15 ?_
        cases h
        exact jj_iret hC (c_le rfl) (c_le rfl) dL_fly_17 ⟨rfl, (show (-2147483648 ≤ ((-900002) : Int) ∧ ((-900002) : Int) < 2147483648) from by decide), ex2_r, rfl, rfl, rfl, rfl⟩
      · replace h := (if_neg hE1_1).symm.trans h
        by_cases hE1_2 : e1.1 = "java/lang/IllegalStateException"
        · replace h := (if_pos hE1_2).symm.trans h
          rw [hE1_2]
          refine jj_catch hC hT (h1 := [(0, 7, 8, 25), (0, 7, 13, 15)]) (h2 := [(0, 7, 23, 27)]) rfl (List.forall_mem_cons.mpr ⟨⟨"java/lang/IndexOutOfBoundsException", wd633, (by decide +kernel), (by decide)⟩, List.forall_mem_cons.mpr ⟨⟨"java/lang/IllegalArgumentException", wd536, (by decide +kernel), (by decide)⟩, fun z hz => nomatch hz⟩⟩) (by decide) (by decide) wd558 wd584 (fun qx1 => ?_)
          refine jj_astore (lv' := [(4, .ref qx1), (0, .ref x0), (1, .int (iI x1)), (2, .int (iI x2)), (3, .int (iI x3))]) hC dL_fly_18 (by decide) rfl ?_
          refine jj_ldcI (v := (-900003)) hC rfl wd670 dL_fly_20 ?_
          cases h
          exact jj_iret hC (c_le rfl) (c_le rfl) dL_fly_22 ⟨rfl, (show (-2147483648 ≤ ((-900003) : Int) ∧ ((-900003) : Int) < 2147483648) from by decide), ex2_r, rfl, rfl, rfl, rfl⟩
        · replace h := (if_neg hE1_2).symm.trans h
          by_cases hE1_3 : e1.1 = "java/lang/UnsupportedOperationException"
          · replace h := (if_pos hE1_3).symm.trans h
            rw [hE1_3]
            refine jj_catch hC hT (h1 := [(0, 7, 8, 25), (0, 7, 13, 15), (0, 7, 18, 18)]) (h2 := []) rfl (List.forall_mem_cons.mpr ⟨⟨"java/lang/IndexOutOfBoundsException", wd633, (by decide +kernel), (by decide)⟩, List.forall_mem_cons.mpr ⟨⟨"java/lang/IllegalArgumentException", wd536, (by decide +kernel), (by decide)⟩, List.forall_mem_cons.mpr ⟨⟨"java/lang/IllegalStateException", wd558, (by decide +kernel), (by decide)⟩, fun z hz => nomatch hz⟩⟩⟩) (by decide) (by decide) wd636 wd602 (fun qx1 => ?_)
            refine jj_astore (lv' := [(4, .ref qx1), (0, .ref x0), (1, .int (iI x1)), (2, .int (iI x2)), (3, .int (iI x3))]) hC dL_fly_23 (by decide) rfl ?_
            refine jj_ldcI (v := (-900004)) hC rfl wd733 dL_fly_25 ?_
            cases h
            exact jj_iret hC (c_le rfl) (c_le rfl) dL_fly_27 ⟨rfl, (show (-2147483648 ≤ ((-900004) : Int) ∧ ((-900004) : Int) < 2147483648) from by decide), ex2_r, rfl, rfl, rfl, rfl⟩
          · replace h := (if_neg hE1_3).symm.trans h
            cases h) (poS_k (fun v1 hv1 => po_kI (fun hr1 => ?_)))
  subst hv1
  replace h := el_l h
  cases h
  exact jj_iret hC (c_le rfl) (c_le rfl) dL_fly_7 ⟨rfl, hr1, ex2_r, rfl, rfl, rfl, rfl⟩
def fL_climb (ad S Ln : Nat → Nat) (R : gR) (M : gM) (x0 : Nat) (x1 : Int) (x2 : Int) : Option (Int × gM × gR) :=
  bd (fX9_climb ad S Ln R M x0 x1 x2) fun q1 => Sum.elim (fun v1 => some ((v1.1, v1.2.1, v1.2.2))) (fun e1 => if e1.1 = "java/lang/IndexOutOfBoundsException" then (some (((-900001), e1.2.1, e1.2.2))) else (if e1.1 = "java/lang/IllegalArgumentException" then (some (((-900002), e1.2.1, e1.2.2))) else (if e1.1 = "java/lang/IllegalStateException" then (some (((-900003), e1.2.1, e1.2.2))) else (if e1.1 = "java/lang/UnsupportedOperationException" then (some (((-900004), e1.2.1, e1.2.2))) else (none))))) q1
theorem xL_climb {l : Launch} {G : gE} {sz : Nat} {S Ln : Nat → Nat} {M : gM} {R : gR} (hl : l.stackTraces = false) {x0 : Nat} (hp0 : S x0 = 12) {x1 : Int} (hp1 : (-2147483648 ≤ x1 ∧ x1 < 2147483648)) {x2 : Int} (hp2 : (-2147483648 ≤ x2 ∧ x2 < 2147483648)) {r : Int × gM × gR} (h : fL_climb G.2.2.2.2 S Ln R M x0 x1 x2 = some r) : CtW l G yL_climb cL_climb 4 (some .int) [(0, 6, 7, 25), (0, 6, 11, 15), (0, 6, 15, 18), (0, 6, 19, 27)] 10 1 6 [.ref x0, .int (iI x1), .int (iI x2)] sz S Ln M R (poW r.1 S Ln S Ln r.2.1 r.2.2) := by
  refine jj_startW (own := RL) (lv0 := [(0, .ref x0), (1, .int (iI x1)), (2, .int (iI x2))]) hl (by decide +kernel) rfl rfl rfl (c_le rfl) (fun C hCl hC hT => ?_)
  unfold fL_climb at h
  refine jj_aload_n hC dL_climb_0 rfl 0 rfl ?_
  refine jj_iload_n hC dL_climb_1 rfl 1 rfl ?_
  refine jj_iload_n hC dL_climb_2 rfl 2 rfl ?_
  obtain ⟨q1, hq1, h⟩ := bd_e h
  refine jj_invV hC mvX9_climb wd1248 wd1249 wd1247 hp0 (by decide) rfl (xX9_climb (OKC.tr hC) hp0 hp1 hp2 hq1) rfl rfl (c_le rfl) (c_le rfl) (c_le rfl) (c_le rfl) dL_climb_3 (fun E1 sz1 S1 Ln1 M1 R1 hX1 => by
    obtain ⟨e1, he1, hz0, hz1, hz2, hz3, hz4⟩ := hX1
    subst he1
    replace h := el_r h
    rw [hz0, hz1, hz2, hz3, hz4]
    by_cases hE1_0 : e1.1 = "java/lang/IndexOutOfBoundsException"
    · replace h := (if_pos hE1_0).symm.trans h
      rw [hE1_0]
      refine jj_catch hC hT (h1 := []) (h2 := [(0, 6, 11, 15), (0, 6, 15, 18), (0, 6, 19, 27)]) rfl (fun z hz => nomatch hz) (by decide) (by decide) wd633 wd71 (fun qx1 => ?_)
      refine jj_astore_n (lv' := [(3, .ref qx1), (0, .ref x0), (1, .int (iI x1)), (2, .int (iI x2))]) hC dL_climb_7 rfl (by decide) rfl ?_
      refine jj_ldcI (v := (-900001)) hC rfl wd554 dL_climb_8 ?_
      cases h
      exact jj_iret hC (c_le rfl) (c_le rfl) dL_climb_10 ⟨rfl, (show (-2147483648 ≤ ((-900001) : Int) ∧ ((-900001) : Int) < 2147483648) from by decide), ex2_r, rfl, rfl, rfl, rfl⟩
    · replace h := (if_neg hE1_0).symm.trans h
      by_cases hE1_1 : e1.1 = "java/lang/IllegalArgumentException"
      · replace h := (if_pos hE1_1).symm.trans h
        rw [hE1_1]
        refine jj_catch hC hT (h1 := [(0, 6, 7, 25)]) (h2 := [(0, 6, 15, 18), (0, 6, 19, 27)]) rfl (List.forall_mem_cons.mpr ⟨⟨"java/lang/IndexOutOfBoundsException", wd633, (by decide +kernel), (by decide)⟩, fun z hz => nomatch hz⟩) (by decide) (by decide) wd536 wd371 (fun qx1 => ?_)
        refine jj_astore_n (lv' := [(3, .ref qx1), (0, .ref x0), (1, .int (iI x1)), (2, .int (iI x2))]) hC dL_climb_11 rfl (by decide) rfl ?_
        refine jj_ldcI (v := (-900002)) hC rfl wd629 dL_climb_12 ?_
        cases h
        exact jj_iret hC (c_le rfl) (c_le rfl) dL_climb_14 ⟨rfl, (show (-2147483648 ≤ ((-900002) : Int) ∧ ((-900002) : Int) < 2147483648) from by decide), ex2_r, rfl, rfl, rfl, rfl⟩
      · replace h := (if_neg hE1_1).symm.trans h
        by_cases hE1_2 : e1.1 = "java/lang/IllegalStateException"
        · replace h := (if_pos hE1_2).symm.trans h
          rw [hE1_2]
          refine jj_catch hC hT (h1 := [(0, 6, 7, 25), (0, 6, 11, 15)]) (h2 := [(0, 6, 19, 27)]) rfl (List.forall_mem_cons.mpr ⟨⟨"java/lang/IndexOutOfBoundsException", wd633, (by decide +kernel), (by decide)⟩, List.forall_mem_cons.mpr ⟨⟨"java/lang/IllegalArgumentException", wd536, (by decide +kernel), (by decide)⟩, fun z hz => nomatch hz⟩⟩) (by decide) (by decide) wd558 wd584 (fun qx1 => ?_)
          refine jj_astore_n (lv' := [(3, .ref qx1), (0, .ref x0), (1, .int (iI x1)), (2, .int (iI x2))]) hC dL_climb_15 rfl (by decide) rfl ?_
          refine jj_ldcI (v := (-900003)) hC rfl wd670 dL_climb_16 ?_
          cases h
          exact jj_iret hC (c_le rfl) (c_le rfl) dL_climb_18 ⟨rfl, (show (-2147483648 ≤ ((-900003) : Int) ∧ ((-900003) : Int) < 2147483648) from by decide), ex2_r, rfl, rfl, rfl, rfl⟩
        · replace h := (if_neg hE1_2).symm.trans h
          by_cases hE1_3 : e1.1 = "java/lang/UnsupportedOperationException"
          · replace h := (if_pos hE1_3).symm.trans h
            rw [hE1_3]
            refine jj_catch hC hT (h1 := [(0, 6, 7, 25), (0, 6, 11, 15), (0, 6, 15, 18)]) (h2 := []) rfl (List.forall_mem_cons.mpr ⟨⟨"java/lang/IndexOutOfBoundsException", wd633, (by decide +kernel), (by decide)⟩, List.forall_mem_cons.mpr ⟨⟨"java/lang/IllegalArgumentException", wd536, (by decide +kernel), (by decide)⟩, List.forall_mem_cons.mpr ⟨⟨"java/lang/IllegalStateException", wd558, (by decide +kernel), (by decide)⟩, fun z hz => nomatch hz⟩⟩⟩) (by decide) (by decide) wd636 wd602 (fun qx1 => ?_)
            refine jj_astore_n (lv' := [(3, .ref qx1), (0, .ref x0), (1, .int (iI x1)), (2, .int (iI x2))]) hC dL_climb_19 rfl (by decide) rfl ?_
            refine jj_ldcI (v := (-900004)) hC rfl wd733 dL_climb_20 ?_
            cases h
            exact jj_iret hC (c_le rfl) (c_le rfl) dL_climb_22 ⟨rfl, (show (-2147483648 ≤ ((-900004) : Int) ∧ ((-900004) : Int) < 2147483648) from by decide), ex2_r, rfl, rfl, rfl, rfl⟩
          · replace h := (if_neg hE1_3).symm.trans h
            cases h) (poS_k (fun v1 hv1 => po_kI (fun hr1 => ?_)))
  subst hv1
  replace h := el_l h
  cases h
  exact jj_iret hC (c_le rfl) (c_le rfl) dL_climb_6 ⟨rfl, hr1, ex2_r, rfl, rfl, rfl, rfl⟩
def fL_endDay (ad S Ln : Nat → Nat) (R : gR) (M : gM) (x0 : Nat) : Option (Int × gM × gR) :=
  bd (fX9_endDay ad S Ln R M x0) fun q1 => Sum.elim (fun v1 => some ((v1.1, v1.2.1, v1.2.2))) (fun e1 => if e1.1 = "java/lang/IllegalStateException" then (some (((-900001), e1.2.1, e1.2.2))) else (none)) q1
theorem xL_endDay {l : Launch} {G : gE} {sz : Nat} {S Ln : Nat → Nat} {M : gM} {R : gR} (hl : l.stackTraces = false) {x0 : Nat} (hp0 : S x0 = 12) {r : Int × gM × gR} (h : fL_endDay G.2.2.2.2 S Ln R M x0 = some r) : CtW l G yL_endDay cL_endDay 2 (some .int) [(0, 4, 5, 18)] 10 1 6 [.ref x0] sz S Ln M R (poW r.1 S Ln S Ln r.2.1 r.2.2) := by
  refine jj_startW (own := RL) (lv0 := [(0, .ref x0)]) hl (by decide +kernel) rfl rfl rfl (c_le rfl) (fun C hCl hC hT => ?_)
  unfold fL_endDay at h
  refine jj_aload_n hC dL_endDay_0 rfl 0 rfl ?_
  obtain ⟨q1, hq1, h⟩ := bd_e h
  refine jj_invV hC mvX9_endDay wd738 wd739 wd737 hp0 (by decide) rfl (xX9_endDay (OKC.tr hC) hp0 hq1) rfl rfl (c_le rfl) (c_le rfl) (c_le rfl) (c_le rfl) dL_endDay_1 (fun E1 sz1 S1 Ln1 M1 R1 hX1 => by
    obtain ⟨e1, he1, hz0, hz1, hz2, hz3, hz4⟩ := hX1
    subst he1
    replace h := el_r h
    rw [hz0, hz1, hz2, hz3, hz4]
    by_cases hE1_0 : e1.1 = "java/lang/IllegalStateException"
    · replace h := (if_pos hE1_0).symm.trans h
      rw [hE1_0]
      refine jj_catch hC hT (h1 := []) (h2 := []) rfl (fun z hz => nomatch hz) (by decide) (by decide) wd558 wd584 (fun qx1 => ?_)
      refine jj_astore_n (lv' := [(1, .ref qx1), (0, .ref x0)]) hC dL_endDay_5 rfl (by decide) rfl ?_
      refine jj_ldcI (v := (-900001)) hC rfl wd554 dL_endDay_6 ?_
      cases h
      exact jj_iret hC (c_le rfl) (c_le rfl) dL_endDay_8 ⟨rfl, (show (-2147483648 ≤ ((-900001) : Int) ∧ ((-900001) : Int) < 2147483648) from by decide), ex2_r, rfl, rfl, rfl, rfl⟩
    · replace h := (if_neg hE1_0).symm.trans h
      cases h) (poS_k (fun v1 hv1 => po_kI (fun hr1 => ?_)))
  subst hv1
  replace h := el_l h
  cases h
  exact jj_iret hC (c_le rfl) (c_le rfl) dL_endDay_4 ⟨rfl, hr1, ex2_r, rfl, rfl, rfl, rfl⟩
def fL_strongestThermal (ad S Ln : Nat → Nat) (R : gR) (M : gM) (x0 : Nat) (x1 : Int) (x2 : Int) : Option Int :=
  bd (fX9_strongestThermal ad S Ln R M x0 x1 x2) fun q1 => Sum.elim (fun v1 => some (v1)) (fun e1 => if e1 = "java/lang/IllegalArgumentException" then (some ((-900001))) else (if e1 = "java/util/NoSuchElementException" then (some ((-900002))) else (none))) q1
theorem xL_strongestThermal {l : Launch} {G : gE} {sz : Nat} {S Ln : Nat → Nat} {M : gM} {R : gR} (hl : l.stackTraces = false) {x0 : Nat} (hp0 : S x0 = 12) {x1 : Int} (hp1 : (-2147483648 ≤ x1 ∧ x1 < 2147483648)) {x2 : Int} (hp2 : (-2147483648 ≤ x2 ∧ x2 < 2147483648)) {r : Int} (h : fL_strongestThermal G.2.2.2.2 S Ln R M x0 x1 x2 = some r) : CtW l G yL_strongestThermal cL_strongestThermal 4 (some .int) [(0, 6, 7, 15), (0, 6, 11, 64)] 10 2 12 [.ref x0, .int (iI x1), .int (iI x2)] sz S Ln M R (poW r S Ln S Ln M R) := by
  refine jj_startW (own := RL) (lv0 := [(0, .ref x0), (1, .int (iI x1)), (2, .int (iI x2))]) hl (by decide +kernel) rfl rfl rfl (c_le rfl) (fun C hCl hC hT => ?_)
  unfold fL_strongestThermal at h
  refine jj_aload_n hC dL_strongestThermal_0 rfl 0 rfl ?_
  refine jj_iload_n hC dL_strongestThermal_1 rfl 1 rfl ?_
  refine jj_iload_n hC dL_strongestThermal_2 rfl 2 rfl ?_
  obtain ⟨q1, hq1, h⟩ := bd_e h
  refine jj_invV hC mvX9_strongestThermal wd787 wd788 wd786 hp0 (by decide) rfl (xX9_strongestThermal (OKC.tr hC) hp0 hp1 hp2 hq1) rfl rfl (c_le rfl) (c_le rfl) (c_le rfl) (c_le rfl) dL_strongestThermal_3 (fun E1 sz1 S1 Ln1 M1 R1 hX1 => by
    obtain ⟨e1, he1, hz0, hz1, hz2, hz3, hz4⟩ := hX1
    subst he1
    replace h := el_r h
    rw [hz0, hz1, hz2, hz3, hz4]
    by_cases hE1_0 : e1 = "java/lang/IllegalArgumentException"
    · replace h := (if_pos hE1_0).symm.trans h
      rw [hE1_0]
      refine jj_catch hC hT (h1 := []) (h2 := [(0, 6, 11, 64)]) rfl (fun z hz => nomatch hz) (by decide) (by decide) wd536 wd371 (fun qx1 => ?_)
      refine jj_astore_n (lv' := [(3, .ref qx1), (0, .ref x0), (1, .int (iI x1)), (2, .int (iI x2))]) hC dL_strongestThermal_7 rfl (by decide) rfl ?_
      refine jj_ldcI (v := (-900001)) hC rfl wd554 dL_strongestThermal_8 ?_
      cases h
      exact jj_iret hC (c_le rfl) (c_le rfl) dL_strongestThermal_10 ⟨rfl, (show (-2147483648 ≤ ((-900001) : Int) ∧ ((-900001) : Int) < 2147483648) from by decide), ex2_r, rfl, rfl, rfl, rfl⟩
    · replace h := (if_neg hE1_0).symm.trans h
      by_cases hE1_1 : e1 = "java/util/NoSuchElementException"
      · replace h := (if_pos hE1_1).symm.trans h
        rw [hE1_1]
        refine jj_catch hC hT (h1 := [(0, 6, 7, 15)]) (h2 := []) rfl (List.forall_mem_cons.mpr ⟨⟨"java/lang/IllegalArgumentException", wd536, (by decide +kernel), (by decide)⟩, fun z hz => nomatch hz⟩) (by decide) (by decide) wd785 wd802 (fun qx1 => ?_)
        refine jj_astore_n (lv' := [(3, .ref qx1), (0, .ref x0), (1, .int (iI x1)), (2, .int (iI x2))]) hC dL_strongestThermal_11 rfl (by decide) rfl ?_
        refine jj_ldcI (v := (-900002)) hC rfl wd629 dL_strongestThermal_12 ?_
        cases h
        exact jj_iret hC (c_le rfl) (c_le rfl) dL_strongestThermal_14 ⟨rfl, (show (-2147483648 ≤ ((-900002) : Int) ∧ ((-900002) : Int) < 2147483648) from by decide), ex2_r, rfl, rfl, rfl, rfl⟩
      · replace h := (if_neg hE1_1).symm.trans h
        cases h) (poS_k (fun v1 hv1 => po_kI (fun hr1 => ?_)))
  subst hv1
  replace h := el_l h
  cases h
  exact jj_iret hC (c_le rfl) (c_le rfl) dL_strongestThermal_6 ⟨rfl, hr1, ex2_r, rfl, rfl, rfl, rfl⟩
def fL_remainingDistance (ad S Ln : Nat → Nat) (R : gR) (M : gM) (x0 : Nat) (x1 : Int) : Option Int :=
  bd (fX9_remainingDistance ad S Ln R M x0 x1) fun q1 => Sum.elim (fun v1 => some (v1)) (fun e1 => if e1 = "java/lang/IndexOutOfBoundsException" then (some ((-900001))) else (if e1 = "java/lang/IllegalStateException" then (some ((-900002))) else (none))) q1
theorem xL_remainingDistance {l : Launch} {G : gE} {sz : Nat} {S Ln : Nat → Nat} {M : gM} {R : gR} (hl : l.stackTraces = false) {x0 : Nat} (hp0 : S x0 = 12) {x1 : Int} (hp1 : (-2147483648 ≤ x1 ∧ x1 < 2147483648)) {r : Int} (h : fL_remainingDistance G.2.2.2.2 S Ln R M x0 x1 = some r) : CtW l G yL_remainingDistance cL_remainingDistance 3 (some .int) [(0, 5, 6, 25), (0, 5, 10, 18)] 11 2 12 [.ref x0, .int (iI x1)] sz S Ln M R (poW r S Ln S Ln M R) := by
  refine jj_startW (own := RL) (lv0 := [(0, .ref x0), (1, .int (iI x1))]) hl (by decide +kernel) rfl rfl rfl (c_le rfl) (fun C hCl hC hT => ?_)
  unfold fL_remainingDistance at h
  refine jj_aload_n hC dL_remainingDistance_0 rfl 0 rfl ?_
  refine jj_iload_n hC dL_remainingDistance_1 rfl 1 rfl ?_
  obtain ⟨q1, hq1, h⟩ := bd_e h
  refine jj_invV hC mvX9_remainingDistance wd820 wd821 wd819 hp0 (by decide) rfl (xX9_remainingDistance (OKC.tr hC) hp0 hp1 hq1) rfl rfl (c_le rfl) (c_le rfl) (c_le rfl) (c_le rfl) dL_remainingDistance_2 (fun E1 sz1 S1 Ln1 M1 R1 hX1 => by
    obtain ⟨e1, he1, hz0, hz1, hz2, hz3, hz4⟩ := hX1
    subst he1
    replace h := el_r h
    rw [hz0, hz1, hz2, hz3, hz4]
    by_cases hE1_0 : e1 = "java/lang/IndexOutOfBoundsException"
    · replace h := (if_pos hE1_0).symm.trans h
      rw [hE1_0]
      refine jj_catch hC hT (h1 := []) (h2 := [(0, 5, 10, 18)]) rfl (fun z hz => nomatch hz) (by decide) (by decide) wd633 wd71 (fun qx1 => ?_)
      refine jj_astore_n (lv' := [(2, .ref qx1), (0, .ref x0), (1, .int (iI x1))]) hC dL_remainingDistance_6 rfl (by decide) rfl ?_
      refine jj_ldcI (v := (-900001)) hC rfl wd554 dL_remainingDistance_7 ?_
      cases h
      exact jj_iret hC (c_le rfl) (c_le rfl) dL_remainingDistance_9 ⟨rfl, (show (-2147483648 ≤ ((-900001) : Int) ∧ ((-900001) : Int) < 2147483648) from by decide), ex2_r, rfl, rfl, rfl, rfl⟩
    · replace h := (if_neg hE1_0).symm.trans h
      by_cases hE1_1 : e1 = "java/lang/IllegalStateException"
      · replace h := (if_pos hE1_1).symm.trans h
        rw [hE1_1]
        refine jj_catch hC hT (h1 := [(0, 5, 6, 25)]) (h2 := []) rfl (List.forall_mem_cons.mpr ⟨⟨"java/lang/IndexOutOfBoundsException", wd633, (by decide +kernel), (by decide)⟩, fun z hz => nomatch hz⟩) (by decide) (by decide) wd558 wd584 (fun qx1 => ?_)
        refine jj_astore_n (lv' := [(2, .ref qx1), (0, .ref x0), (1, .int (iI x1))]) hC dL_remainingDistance_10 rfl (by decide) rfl ?_
        refine jj_ldcI (v := (-900002)) hC rfl wd629 dL_remainingDistance_11 ?_
        cases h
        exact jj_iret hC (c_le rfl) (c_le rfl) dL_remainingDistance_13 ⟨rfl, (show (-2147483648 ≤ ((-900002) : Int) ∧ ((-900002) : Int) < 2147483648) from by decide), ex2_r, rfl, rfl, rfl, rfl⟩
      · replace h := (if_neg hE1_1).symm.trans h
        cases h) (poS_k (fun v1 hv1 => po_kI (fun hr1 => ?_)))
  subst hv1
  replace h := el_l h
  cases h
  exact jj_iret hC (c_le rfl) (c_le rfl) dL_remainingDistance_5 ⟨rfl, hr1, ex2_r, rfl, rfl, rfl, rfl⟩
def fL_pilotAtRank (ad S Ln : Nat → Nat) (R : gR) (M : gM) (x0 : Nat) (x1 : Int) : Option (Int × gM) :=
  bd (fX9_pilotAtRank ad S Ln R M x0 x1) fun q1 => Sum.elim (fun v1 => some ((v1.1, v1.2))) (fun e1 => if e1.1 = "java/util/NoSuchElementException" then (some (((-900001), e1.2))) else (none)) q1
theorem xL_pilotAtRank {l : Launch} {G : gE} {sz : Nat} {S Ln : Nat → Nat} {M : gM} {R : gR} (hl : l.stackTraces = false) {x0 : Nat} (hp0 : S x0 = 12) {x1 : Int} (hp1 : (-2147483648 ≤ x1 ∧ x1 < 2147483648)) {r : Int × gM} (h : fL_pilotAtRank G.2.2.2.2 S Ln R M x0 x1 = some r) : CtW l G yL_pilotAtRank cL_pilotAtRank 3 (some .int) [(0, 5, 6, 64)] 9 1 6 [.ref x0, .int (iI x1)] sz S Ln M R (poW r.1 S Ln S Ln r.2 R) := by
  refine jj_startW (own := RL) (lv0 := [(0, .ref x0), (1, .int (iI x1))]) hl (by decide +kernel) rfl rfl rfl (c_le rfl) (fun C hCl hC hT => ?_)
  unfold fL_pilotAtRank at h
  refine jj_aload_n hC dL_pilotAtRank_0 rfl 0 rfl ?_
  refine jj_iload_n hC dL_pilotAtRank_1 rfl 1 rfl ?_
  obtain ⟨q1, hq1, h⟩ := bd_e h
  refine jj_invV hC mvX9_pilotAtRank wd837 wd838 wd836 hp0 (by decide) rfl (xX9_pilotAtRank (OKC.tr hC) hp0 hp1 hq1) rfl rfl (c_le rfl) (c_le rfl) (c_le rfl) (c_le rfl) dL_pilotAtRank_2 (fun E1 sz1 S1 Ln1 M1 R1 hX1 => by
    obtain ⟨e1, he1, hz0, hz1, hz2, hz3, hz4⟩ := hX1
    subst he1
    replace h := el_r h
    rw [hz0, hz1, hz2, hz3, hz4]
    by_cases hE1_0 : e1.1 = "java/util/NoSuchElementException"
    · replace h := (if_pos hE1_0).symm.trans h
      rw [hE1_0]
      refine jj_catch hC hT (h1 := []) (h2 := []) rfl (fun z hz => nomatch hz) (by decide) (by decide) wd785 wd802 (fun qx1 => ?_)
      refine jj_astore_n (lv' := [(2, .ref qx1), (0, .ref x0), (1, .int (iI x1))]) hC dL_pilotAtRank_6 rfl (by decide) rfl ?_
      refine jj_ldcI (v := (-900001)) hC rfl wd554 dL_pilotAtRank_7 ?_
      cases h
      exact jj_iret hC (c_le rfl) (c_le rfl) dL_pilotAtRank_9 ⟨rfl, (show (-2147483648 ≤ ((-900001) : Int) ∧ ((-900001) : Int) < 2147483648) from by decide), ex2_r, rfl, rfl, rfl, rfl⟩
    · replace h := (if_neg hE1_0).symm.trans h
      cases h) (poS_k (fun v1 hv1 => po_kI (fun hr1 => ?_)))
  subst hv1
  replace h := el_l h
  cases h
  exact jj_iret hC (c_le rfl) (c_le rfl) dL_pilotAtRank_5 ⟨rfl, hr1, ex2_r, rfl, rfl, rfl, rfl⟩
def fL_run (ad S Ln : Nat → Nat) (R : gR) (M : gM) (x0 : Nat) : Option (Int × gM × gR) :=
  bd (fX9_run ad S Ln R M x0) fun q1 => Sum.elim (fun v1 => some ((v1.1, v1.2.1, v1.2.2))) (fun e1 => if e1.1 = "java/lang/IllegalArgumentException" then (some (((-900001), e1.2.1, e1.2.2))) else (if e1.1 = "java/lang/UnsupportedOperationException" then (some (((-900002), e1.2.1, e1.2.2))) else (none))) q1
theorem xL_run {l : Launch} {G : gE} {sz : Nat} {S Ln : Nat → Nat} {M : gM} {R : gR} (hl : l.stackTraces = false) {x0 : Nat} (hp0 : S x0 = 12) {r : Int × gM × gR} (h : fL_run G.2.2.2.2 S Ln R M x0 = some r) : CtW l G yL_run cL_run 2 (some .int) [(0, 4, 5, 15), (0, 4, 9, 27)] 18 1 6 [.ref x0] sz S Ln M R (poW r.1 S Ln S Ln r.2.1 r.2.2) := by
  refine jj_startW (own := RL) (lv0 := [(0, .ref x0)]) hl (by decide +kernel) rfl rfl rfl (c_le rfl) (fun C hCl hC hT => ?_)
  unfold fL_run at h
  refine jj_aload_n hC dL_run_0 rfl 0 rfl ?_
  obtain ⟨q1, hq1, h⟩ := bd_e h
  refine jj_invV hC mvX9_run wd1316 wd1317 wd1315 hp0 (by decide) rfl (xX9_run (OKC.tr hC) hp0 hq1) rfl rfl (c_le rfl) (c_le rfl) (c_le rfl) (c_le rfl) dL_run_1 (fun E1 sz1 S1 Ln1 M1 R1 hX1 => by
    obtain ⟨e1, he1, hz0, hz1, hz2, hz3, hz4⟩ := hX1
    subst he1
    replace h := el_r h
    rw [hz0, hz1, hz2, hz3, hz4]
    by_cases hE1_0 : e1.1 = "java/lang/IllegalArgumentException"
    · replace h := (if_pos hE1_0).symm.trans h
      rw [hE1_0]
      refine jj_catch hC hT (h1 := []) (h2 := [(0, 4, 9, 27)]) rfl (fun z hz => nomatch hz) (by decide) (by decide) wd536 wd371 (fun qx1 => ?_)
      refine jj_astore_n (lv' := [(1, .ref qx1), (0, .ref x0)]) hC dL_run_5 rfl (by decide) rfl ?_
      refine jj_ldcI (v := (-900001)) hC rfl wd554 dL_run_6 ?_
      cases h
      exact jj_iret hC (c_le rfl) (c_le rfl) dL_run_8 ⟨rfl, (show (-2147483648 ≤ ((-900001) : Int) ∧ ((-900001) : Int) < 2147483648) from by decide), ex2_r, rfl, rfl, rfl, rfl⟩
    · replace h := (if_neg hE1_0).symm.trans h
      by_cases hE1_1 : e1.1 = "java/lang/UnsupportedOperationException"
      · replace h := (if_pos hE1_1).symm.trans h
        rw [hE1_1]
        refine jj_catch hC hT (h1 := [(0, 4, 5, 15)]) (h2 := []) rfl (List.forall_mem_cons.mpr ⟨⟨"java/lang/IllegalArgumentException", wd536, (by decide +kernel), (by decide)⟩, fun z hz => nomatch hz⟩) (by decide) (by decide) wd636 wd602 (fun qx1 => ?_)
        refine jj_astore_n (lv' := [(1, .ref qx1), (0, .ref x0)]) hC dL_run_9 rfl (by decide) rfl ?_
        refine jj_ldcI (v := (-900002)) hC rfl wd629 dL_run_10 ?_
        cases h
        exact jj_iret hC (c_le rfl) (c_le rfl) dL_run_12 ⟨rfl, (show (-2147483648 ≤ ((-900002) : Int) ∧ ((-900002) : Int) < 2147483648) from by decide), ex2_r, rfl, rfl, rfl, rfl⟩
      · replace h := (if_neg hE1_1).symm.trans h
        cases h) (poS_k (fun v1 hv1 => po_kI (fun hr1 => ?_)))
  subst hv1
  replace h := el_l h
  cases h
  exact jj_iret hC (c_le rfl) (c_le rfl) dL_run_4 ⟨rfl, hr1, ex2_r, rfl, rfl, rfl, rfl⟩
def fL_undo (ad S Ln : Nat → Nat) (R : gR) (M : gM) (x0 : Nat) : Option (Int × gM) :=
  bd (fX9_undo ad S Ln R M x0) fun q1 => Sum.elim (fun v1 => some ((v1.1, v1.2))) (fun e1 => if e1.1 = "java/lang/IllegalStateException" then (some (((-900001), e1.2))) else (none)) q1
theorem xL_undo {l : Launch} {G : gE} {sz : Nat} {S Ln : Nat → Nat} {M : gM} {R : gR} (hl : l.stackTraces = false) {x0 : Nat} (hp0 : S x0 = 12) {r : Int × gM} (h : fL_undo G.2.2.2.2 S Ln R M x0 = some r) : CtW l G yL_undo cL_undo 2 (some .int) [(0, 4, 5, 18)] 9 1 6 [.ref x0] sz S Ln M R (poW r.1 S Ln S Ln r.2 R) := by
  refine jj_startW (own := RL) (lv0 := [(0, .ref x0)]) hl (by decide +kernel) rfl rfl rfl (c_le rfl) (fun C hCl hC hT => ?_)
  unfold fL_undo at h
  refine jj_aload_n hC dL_undo_0 rfl 0 rfl ?_
  obtain ⟨q1, hq1, h⟩ := bd_e h
  refine jj_invV hC mvX9_undo wd857 wd858 wd856 hp0 (by decide) rfl (xX9_undo (OKC.tr hC) hp0 hq1) rfl rfl (c_le rfl) (c_le rfl) (c_le rfl) (c_le rfl) dL_undo_1 (fun E1 sz1 S1 Ln1 M1 R1 hX1 => by
    obtain ⟨e1, he1, hz0, hz1, hz2, hz3, hz4⟩ := hX1
    subst he1
    replace h := el_r h
    rw [hz0, hz1, hz2, hz3, hz4]
    by_cases hE1_0 : e1.1 = "java/lang/IllegalStateException"
    · replace h := (if_pos hE1_0).symm.trans h
      rw [hE1_0]
      refine jj_catch hC hT (h1 := []) (h2 := []) rfl (fun z hz => nomatch hz) (by decide) (by decide) wd558 wd584 (fun qx1 => ?_)
      refine jj_astore_n (lv' := [(1, .ref qx1), (0, .ref x0)]) hC dL_undo_5 rfl (by decide) rfl ?_
      refine jj_ldcI (v := (-900001)) hC rfl wd554 dL_undo_6 ?_
      cases h
      exact jj_iret hC (c_le rfl) (c_le rfl) dL_undo_8 ⟨rfl, (show (-2147483648 ≤ ((-900001) : Int) ∧ ((-900001) : Int) < 2147483648) from by decide), ex2_r, rfl, rfl, rfl, rfl⟩
    · replace h := (if_neg hE1_0).symm.trans h
      cases h) (poS_k (fun v1 hv1 => po_kI (fun hr1 => ?_)))
  subst hv1
  replace h := el_l h
  cases h
  exact jj_iret hC (c_le rfl) (c_le rfl) dL_undo_4 ⟨rfl, hr1, ex2_r, rfl, rfl, rfl, rfl⟩
def fL_restore (ad S Ln : Nat → Nat) (R : gR) (M : gM) (x0 : Nat) : Option (Int × gM) :=
  bd (fX9_restore ad S Ln R M x0) fun q1 => Sum.elim (fun v1 => some ((0, v1))) (fun e1 => if e1.1 = "java/lang/IllegalStateException" then (some (((-900001), e1.2))) else (none)) q1
theorem xL_restore {l : Launch} {G : gE} {sz : Nat} {S Ln : Nat → Nat} {M : gM} {R : gR} (hl : l.stackTraces = false) {x0 : Nat} (hp0 : S x0 = 12) {r : Int × gM} (h : fL_restore G.2.2.2.2 S Ln R M x0 = some r) : CtW l G yL_restore cL_restore 2 (some .int) [(0, 5, 6, 18)] 9 1 6 [.ref x0] sz S Ln M R (poW r.1 S Ln S Ln r.2 R) := by
  refine jj_startW (own := RL) (lv0 := [(0, .ref x0)]) hl (by decide +kernel) rfl rfl rfl (c_le rfl) (fun C hCl hC hT => ?_)
  unfold fL_restore at h
  refine jj_aload_n hC dL_restore_0 rfl 0 rfl ?_
  obtain ⟨q1, hq1, h⟩ := bd_e h
  refine jj_invV hC mvX9_restore wd869 wd870 wd868 hp0 (by decide) rfl (xX9_restore (OKC.tr hC) hp0 hq1) rfl rfl (c_le rfl) (c_le rfl) (c_le rfl) (c_le rfl) dL_restore_1 (fun E1 sz1 S1 Ln1 M1 R1 hX1 => by
    obtain ⟨e1, he1, hz0, hz1, hz2, hz3, hz4⟩ := hX1
    subst he1
    replace h := el_r h
    rw [hz0, hz1, hz2, hz3, hz4]
    by_cases hE1_0 : e1.1 = "java/lang/IllegalStateException"
    · replace h := (if_pos hE1_0).symm.trans h
      rw [hE1_0]
      refine jj_catch hC hT (h1 := []) (h2 := []) rfl (fun z hz => nomatch hz) (by decide) (by decide) wd558 wd584 (fun qx1 => ?_)
      refine jj_astore_n (lv' := [(1, .ref qx1), (0, .ref x0)]) hC dL_restore_6 rfl (by decide) rfl ?_
      refine jj_ldcI (v := (-900001)) hC rfl wd554 dL_restore_7 ?_
      cases h
      exact jj_iret hC (c_le rfl) (c_le rfl) dL_restore_9 ⟨rfl, (show (-2147483648 ≤ ((-900001) : Int) ∧ ((-900001) : Int) < 2147483648) from by decide), ex2_r, rfl, rfl, rfl, rfl⟩
    · replace h := (if_neg hE1_0).symm.trans h
      cases h) (poS_k (fun v1 hv1 => po_kV ?_))
  subst hv1
  replace h := el_l h
  refine jj_iconst hC dL_restore_4 ?_
  cases h
  exact jj_iret hC (c_le rfl) (c_le rfl) dL_restore_5 ⟨rfl, (show (-2147483648 ≤ (0 : Int) ∧ (0 : Int) < 2147483648) from by decide), ex2_r, rfl, rfl, rfl, rfl⟩
def fL_in (ad S Ln : Nat → Nat) (R : gR) (M : gM) (x0 : Nat) (x1 : Int) (x2 : Int) : Option Int :=
  bd (fL_cell ad S Ln R M x0 x1) fun q1 => gd ((0 : Int) < x2) (some (Int.tmod (i_and q1 2147483647) x2))
theorem xL_in {l : Launch} {G : gE} {sz : Nat} {S Ln : Nat → Nat} {M : gM} {R : gR} (hl : l.stackTraces = false) {x0 : Nat} (hp0 : S x0 = 29) {x1 : Int} (hp1 : (-2147483648 ≤ x1 ∧ x1 < 2147483648)) {x2 : Int} (hp2 : (-2147483648 ≤ x2 ∧ x2 < 2147483648)) {r : Int} (h : fL_in G.2.2.2.2 S Ln R M x0 x1 x2 = some r) : Ct l G yL_in cL_in 3 (some .int) 2 0 0 [.ref x0, .int (iI x1), .int (iI x2)] sz S Ln M R (poI r sz S Ln (M) R) noX := by
  refine jj_start (own := RL) (lv0 := [(0, .ref x0), (1, .int (iI x1)), (2, .int (iI x2))]) hl (by decide +kernel) rfl rfl (c_le rfl) (fun C hCl hC => ?_)
  unfold fL_in at h
  refine jj_aload_n hC dL_in_0 rfl 0 rfl ?_
  refine jj_iload_n hC dL_in_1 rfl 1 rfl ?_
  obtain ⟨q1, hq1, h⟩ := bd_e h
  refine jj_invS hC mvL_cell wd877 wd876 (xL_cell (OKC.tr hC) hp0 hp1 hq1) rfl rfl (c_le rfl) (c_le rfl) (c_le rfl) (c_le rfl) dL_in_2 noXk (po_kI (fun hr1 => ?_))
  refine jj_ldcI (v := 2147483647) hC rfl wd881 dL_in_5 ?_
  refine jg_iand hC dL_in_7 ?_
  refine jj_iload_n hC dL_in_8 rfl 2 rfl ?_
  obtain ⟨hg2, h⟩ := gd_e h
  refine jj_irem hC dL_in_9 (iI_rng _) hp2 hg2 ?_
  cases h
  exact jj_iret hC (c_le rfl) (c_le rfl) dL_in_10 ⟨rfl, (i_tmod_r (iI_rng _) hp2 hg2), rfl, rfl, rfl, rfl, rfl⟩
def fL_areAlike_L2 (ad S Ln : Nat → Nat) (R : gR) (M : gM) (l0_2 : Nat) (l1_2 : Nat) (s2 : Int) : Option ((Int) ⊕ ((Unit) ⊕ (Int))) :=
  if (Ln l0_2 : Int) ≤ s2 then (some (.inr (.inl ()))) else (gd ((0 : Int) ≤ s2 ∧ s2 < (Ln l0_2 : Int)) (gd ((0 : Int) ≤ s2 ∧ s2 < (Ln l1_2 : Int)) (if (M l0_2 s2) = (M l1_2 s2) then (some (.inl (w32 (s2 + 1)))) else (some (.inr (.inr (0)))))))
def fL_areAlike (ad S Ln : Nat → Nat) (R : gR) (M : gM) (x0 : Nat) (x1 : Nat) : Option Int :=
  bd (lp (fL_areAlike_L2 ad S Ln R M x0 x1) FU 0) fun q5 => Sum.elim (fun e2_4 => some (1)) (fun c5 => some c5) q5
theorem xL_areAlike {l : Launch} {G : gE} {sz : Nat} {S Ln : Nat → Nat} {M : gM} {R : gR} (hl : l.stackTraces = false) {x0 : Nat} (hp0 : S x0 = 20) {x1 : Nat} (hp1 : S x1 = 20) {r : Int} (h : fL_areAlike G.2.2.2.2 S Ln R M x0 x1 = some r) : Ct l G yL_areAlike cL_areAlike 3 (some .boolean) 1 0 0 [.ref x0, .ref x1] sz S Ln M R (poZ r sz S Ln (M) R) noX := by
  refine jj_start (own := RL) (lv0 := [(0, .ref x0), (1, .ref x1)]) hl (by decide +kernel) rfl rfl (c_le rfl) (fun C hCl hC => ?_)
  have hL2 : ∀ (l0_2 : Nat) (l1_2 : Nat), S l0_2 = 20 → S l1_2 = 20 → ∀ (n : Nat) (s2 : Int) (q : (Unit) ⊕ (Int)), lp (fL_areAlike_L2 G.2.2.2.2 S Ln R M l0_2 l1_2) n s2 = some q → (-2147483648 ≤ s2 ∧ s2 < 2147483648) → (∀ e2, q = .inl e2 → True → JJ G C 0 0 sz S Ln M R 25 [] []) → (∀ c, q = .inr c → c = r) → JJ G C 0 0 sz S Ln M R 2 [(0, .ref l0_2), (1, .ref l1_2), (2, .int (iI s2))] [] := by
    intro l0_2 l1_2 hl0_2 hl1_2
    refine lp_ind ?_
    intro s2 r2 hI2 h hJ2 hE2 hR2
    have hs2_0 := hI2
    unfold fL_areAlike_L2 at h
    refine jj_iload_n hC dL_areAlike_2 rfl 2 rfl ?_
    refine jj_aload_n hC dL_areAlike_3 rfl 0 rfl ?_
    refine jj_alen hC hl0_2 0 (by decide) rfl dL_areAlike_4 (fun hr1 => ?_)
    refine jj_icmp_ge (tgt := 25) hC dL_areAlike_5 rfl hs2_0 (r_ln hr1) (fun hc => ?_) (fun hc => ?_)
    · replace h := (if_pos hc).symm.trans h
      refine jj_lv (lv' := []) [] rfl ?_
      exact hE2 _ (Option.some.inj h).symm trivial
    · replace h := (if_neg (Int.not_le.mpr hc)).symm.trans h
      refine jj_aload_n hC dL_areAlike_8 rfl 0 rfl ?_
      refine jj_iload_n hC dL_areAlike_9 rfl 2 rfl ?_
      obtain ⟨⟨ha2, hb2⟩, h⟩ := gd_e h
      refine jj_iald hC hl0_2 ha2 hb2 dL_areAlike_10 (fun hr2 => ?_)
      refine jj_aload_n hC dL_areAlike_11 rfl 1 rfl ?_
      refine jj_iload_n hC dL_areAlike_12 rfl 2 rfl ?_
      obtain ⟨⟨ha3, hb3⟩, h⟩ := gd_e h
      refine jj_iald hC hl1_2 ha3 hb3 dL_areAlike_13 (fun hr3 => ?_)
      refine jj_icmp_eq (tgt := 19) hC dL_areAlike_14 rfl hr2 hr3 (fun hc => ?_) (fun hc => ?_)
      · replace h := (if_pos hc).symm.trans h
        refine jg_iinc (q := 2) (lv' := [(2, .int (iI (w32 (s2 + 1)))), (0, .ref l0_2), (1, .ref l1_2)]) hC dL_areAlike_19 rfl (by decide) rfl ?_
        refine jj_goto (tgt := 2) hC dL_areAlike_22 rfl ?_
        refine jj_lv (lv' := [(0, .ref l0_2), (1, .ref l1_2), (2, .int (iI (w32 (s2 + 1))))]) [1, 2, 0] rfl ?_
        exact hJ2 _ (Option.some.inj h).symm (w32_r _)
      · replace h := (if_neg (hc)).symm.trans h
        refine jj_iconst hC dL_areAlike_17 ?_
        have h := hR2 _ (Option.some.inj h).symm
        subst h
        exact jj_zret hC (show (0 ≤ (0 : Int) ∧ (0 : Int) ≤ 1) from by decide) (c_le rfl) (c_le rfl) dL_areAlike_18 ⟨rfl, (show (0 ≤ (0 : Int) ∧ (0 : Int) ≤ 1) from by decide), rfl, rfl, rfl, rfl, rfl⟩
  unfold fL_areAlike at h
  refine jj_iconst hC dL_areAlike_0 ?_
  refine jj_istore_n (lv' := [(2, .int (iI 0)), (0, .ref x0), (1, .ref x1)]) hC dL_areAlike_1 rfl (by decide) rfl ?_
  obtain ⟨q5, hq5, h⟩ := bd_e h
  refine jj_lv (lv' := [(0, .ref x0), (1, .ref x1), (2, .int (iI 0))]) [1, 2, 0] rfl ?_
  refine hL2 x0 x1 hp0 hp1 FU _ q5 hq5 (show (-2147483648 ≤ (0 : Int) ∧ (0 : Int) < 2147483648) from by decide) (fun e2_4 he5 hIE5 => ?_) (fun c5 hc5 => ?_)
  · subst he5
    replace h := el_l h
    refine jj_iconst hC dL_areAlike_25 ?_
    cases h
    exact jj_zret hC (show (0 ≤ (1 : Int) ∧ (1 : Int) ≤ 1) from by decide) (c_le rfl) (c_le rfl) dL_areAlike_26 ⟨rfl, (show (0 ≤ (1 : Int) ∧ (1 : Int) ≤ 1) from by decide), rfl, rfl, rfl, rfl, rfl⟩
  · subst hc5
    replace h := el_r h
    exact Option.some.inj h
def fL_legs_L4 (ad S Ln : Nat → Nat) (R : gR) (M : gM) (l0_4 : Nat) (l1_4 : Int) (s4 : Int × Int) : Option ((Int × Int) ⊕ ((Int) ⊕ (Int))) :=
  if l1_4 ≤ s4.2 then (some (.inr (.inl s4.1))) else (bd (fX9_taskPoint ad S Ln R M l0_4 s4.2) fun q1 => Sum.elim (fun v1 => bd (fX9_taskPoint ad S Ln R M l0_4 (w32 (s4.2 + 1))) fun q2 => Sum.elim (fun v2 => bd (fX9_distance ad S Ln R M l0_4 v1 v2) fun q3 => Sum.elim (fun v3 => some (.inl (w32 (s4.1 + v3), w32 (s4.2 + 1)))) (fun e3 => none) q3) (fun e2 => none) q2) (fun e1 => none) q1)
def fL_legs (ad S Ln : Nat → Nat) (R : gR) (M : gM) (x0 : Nat) (x1 : Int) : Option Int :=
  bd (lp (fL_legs_L4 ad S Ln R M x0 x1) FU (0, 0)) fun q5 => Sum.elim (fun e4_4 => some (e4_4)) (fun c5 => some c5) q5
theorem xL_legs {l : Launch} {G : gE} {sz : Nat} {S Ln : Nat → Nat} {M : gM} {R : gR} (hl : l.stackTraces = false) {x0 : Nat} (hp0 : S x0 = 12) {x1 : Int} (hp1 : (-2147483648 ≤ x1 ∧ x1 < 2147483648)) {r : Int} (h : fL_legs G.2.2.2.2 S Ln R M x0 x1 = some r) : Ct l G yL_legs cL_legs 4 (some .int) 9 0 0 [.ref x0, .int (iI x1)] sz S Ln M R (poI r sz S Ln (M) R) noX := by
  refine jj_start (own := RL) (lv0 := [(0, .ref x0), (1, .int (iI x1))]) hl (by decide +kernel) rfl rfl (c_le rfl) (fun C hCl hC => ?_)
  have hL4 : ∀ (l0_4 : Nat) (l1_4 : Int), S l0_4 = 12 → (-2147483648 ≤ l1_4 ∧ l1_4 < 2147483648) → ∀ (n : Nat) (s4 : Int × Int) (q : (Int) ⊕ (Int)), lp (fL_legs_L4 G.2.2.2.2 S Ln R M l0_4 l1_4) n s4 = some q → (-2147483648 ≤ s4.1 ∧ s4.1 < 2147483648) ∧ (-2147483648 ≤ s4.2 ∧ s4.2 < 2147483648) → (∀ e4, q = .inl e4 → (-2147483648 ≤ e4 ∧ e4 < 2147483648) → JJ G C 0 0 sz S Ln M R 34 [(2, .int (iI e4))] []) → (∀ c, q = .inr c → c = r) → JJ G C 0 0 sz S Ln M R 4 [(0, .ref l0_4), (1, .int (iI l1_4)), (2, .int (iI s4.1)), (3, .int (iI s4.2))] [] := by
    intro l0_4 l1_4 hl0_4 hl1_4
    refine lp_ind ?_
    intro s4 r4 hI4 h hJ4 hE4 hR4
    obtain ⟨hs4_0, hs4_1⟩ := hI4
    unfold fL_legs_L4 at h
    refine jj_iload_n hC dL_legs_4 rfl 3 rfl ?_
    refine jj_iload_n hC dL_legs_5 rfl 1 rfl ?_
    refine jj_icmp_ge (tgt := 34) hC dL_legs_6 rfl hs4_1 hl1_4 (fun hc => ?_) (fun hc => ?_)
    · replace h := (if_pos hc).symm.trans h
      refine jj_lv (lv' := [(2, .int (iI s4.1))]) [2] rfl ?_
      exact hE4 _ (Option.some.inj h).symm hs4_0
    · replace h := (if_neg (Int.not_le.mpr hc)).symm.trans h
      refine jj_iload_n hC dL_legs_9 rfl 2 rfl ?_
      refine jj_aload_n hC dL_legs_10 rfl 0 rfl ?_
      refine jj_aload_n hC dL_legs_11 rfl 0 rfl ?_
      refine jj_iload_n hC dL_legs_12 rfl 3 rfl ?_
      obtain ⟨q1, hq1, h⟩ := bd_e h
      obtain ⟨v1, hv1, h⟩ := el_n h
      subst hv1
      refine jj_invV hC mvX9_taskPoint wd1410 wd1411 wd1409 hl0_4 (by decide) rfl (xX9_taskPoint_n (OKC.tr hC) hl0_4 hs4_1 hq1) rfl rfl (c_le rfl) (c_le rfl) (c_le rfl) (c_le rfl) dL_legs_13 noXk (po_kI (fun hr1 => ?_))
      refine jj_aload_n hC dL_legs_16 rfl 0 rfl ?_
      refine jj_iload_n hC dL_legs_17 rfl 3 rfl ?_
      refine jj_iconst hC dL_legs_18 ?_
      refine jg_iadd hC dL_legs_19 ?_
      obtain ⟨q2, hq2, h⟩ := bd_e h
      obtain ⟨v2, hv2, h⟩ := el_n h
      subst hv2
      refine jj_invV hC mvX9_taskPoint wd1410 wd1411 wd1409 hl0_4 (by decide) rfl (xX9_taskPoint_n (OKC.tr hC) hl0_4 (w32_r _) hq2) rfl rfl (c_le rfl) (c_le rfl) (c_le rfl) (c_le rfl) dL_legs_20 noXk (po_kI (fun hr2 => ?_))
      obtain ⟨q3, hq3, h⟩ := bd_e h
      obtain ⟨v3, hv3, h⟩ := el_n h
      subst hv3
      refine jj_invV hC mvX9_distance wd1482 wd1483 wd1481 hl0_4 (by decide) rfl (xX9_distance_n (OKC.tr hC) hl0_4 hr1 hr2 hq3) rfl rfl (c_le rfl) (c_le rfl) (c_le rfl) (c_le rfl) dL_legs_23 noXk (po_kI (fun hr3 => ?_))
      refine jg_iadd hC dL_legs_26 ?_
      refine jj_istore_n (lv' := [(2, .int (iI (w32 (s4.1 + v3)))), (0, .ref l0_4), (1, .int (iI l1_4)), (3, .int (iI s4.2))]) hC dL_legs_27 rfl (by decide) rfl ?_
      refine jg_iinc (q := 3) (lv' := [(3, .int (iI (w32 (s4.2 + 1)))), (2, .int (iI (w32 (s4.1 + v3)))), (0, .ref l0_4), (1, .int (iI l1_4))]) hC dL_legs_28 rfl (by decide) rfl ?_
      refine jj_goto (tgt := 4) hC dL_legs_31 rfl ?_
      refine jj_lv (lv' := [(0, .ref l0_4), (1, .int (iI l1_4)), (2, .int (iI (w32 (s4.1 + v3)))), (3, .int (iI (w32 (s4.2 + 1))))]) [2, 3, 1, 0] rfl ?_
      exact hJ4 _ (Option.some.inj h).symm ⟨(w32_r _), (w32_r _)⟩
  unfold fL_legs at h
  refine jj_iconst hC dL_legs_0 ?_
  refine jj_istore_n (lv' := [(2, .int (iI 0)), (0, .ref x0), (1, .int (iI x1))]) hC dL_legs_1 rfl (by decide) rfl ?_
  refine jj_iconst hC dL_legs_2 ?_
  refine jj_istore_n (lv' := [(3, .int (iI 0)), (2, .int (iI 0)), (0, .ref x0), (1, .int (iI x1))]) hC dL_legs_3 rfl (by decide) rfl ?_
  obtain ⟨q5, hq5, h⟩ := bd_e h
  refine jj_lv (lv' := [(0, .ref x0), (1, .int (iI x1)), (2, .int (iI 0)), (3, .int (iI 0))]) [2, 3, 1, 0] rfl ?_
  refine hL4 x0 x1 hp0 hp1 FU _ q5 hq5 ⟨(show (-2147483648 ≤ (0 : Int) ∧ (0 : Int) < 2147483648) from by decide), (show (-2147483648 ≤ (0 : Int) ∧ (0 : Int) < 2147483648) from by decide)⟩ (fun e4_4 he5 hIE5 => ?_) (fun c5 hc5 => ?_)
  · subst he5
    replace h := el_l h
    have he4_4_0 := hIE5
    refine jj_iload_n hC dL_legs_34 rfl 0 rfl ?_
    cases h
    exact jj_iret hC (c_le rfl) (c_le rfl) dL_legs_35 ⟨rfl, he4_4_0, rfl, rfl, rfl, rfl, rfl⟩
  · subst hc5
    replace h := el_r h
    exact Option.some.inj h
