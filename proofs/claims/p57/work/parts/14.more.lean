/-! more rows -/
theorem i_and_z {x y : Int} (hx : 0 ≤ x ∧ x ≤ 1) (hy : 0 ≤ y ∧ y ≤ 1) : 0 ≤ i_and x y ∧ i_and x y ≤ 1 := by
  have h1 : x = 0 ∨ x = 1 := by omega
  have h2 : y = 0 ∨ y = 1 := by omega
  rcases h1 with rfl | rfl <;> rcases h2 with rfl | rfl <;> decide
theorem i_or_z {x y : Int} (hx : 0 ≤ x ∧ x ≤ 1) (hy : 0 ≤ y ∧ y ≤ 1) : 0 ≤ i_or x y ∧ i_or x y ≤ 1 := by
  have h1 : x = 0 ∨ x = 1 := by omega
  have h2 : y = 0 ∨ y = 1 := by omega
  rcases h1 with rfl | rfl <;> rcases h2 with rfl | rfl <;> decide
theorem i_i2b_r (x : Int) : -128 ≤ i_i2b x ∧ i_i2b x < 128 := by
  unfold i_i2b
  rw [Int8.toInt_toInt32]
  exact ⟨Int8.le_toInt _, Int8.toInt_lt _⟩
section JJH
variable {G : gE} {C : gC} {own : String} {cc : ByteArray} {nL : Nat} {ret : Option FieldType} {fr mc ms : Nat} {P : gP} {X : gX} {k n sz : Nat} {S Ln : Nat → Nat} {M : gM} {R : gR} {pc : Nat} {lv lv' : List (Nat × Value)} {st : List Value}
theorem jg_B (hC : OKC G C own cc nL ret fr mc ms P X) {kd N index a : Nat} {CN : String} {T : u_T} {ty0 : Nat → FieldType} (hk : KF kd CN T N ty0) (i : Nat) {j : Int} (hj : (i : Int) = j) (hs : S a = kd) (hi : i < N) (hlk : Cond.fieldLink own index (T i).1 (T i).2.1 (T i).2.2.1 ∈ gW) (hf0 : gm_fty kd i = 6) (hdg : decode cc pc = .ok (.getfield index, 3))
    (kk : (-128 ≤ M a j ∧ M a j < 128) → JJ G C k n sz S Ln M R (pc + 3) lv (.int (iI (M a j)) :: st)) : JJ G C k n sz S Ln M R pc lv (.ref a :: st) := by subst hj; exact jj_getB hC hk i hs hi hlk hf0 hdg kk
theorem jg_ldcS (hC : OKC G C own cc nL ret fr mc ms P X) {index b : Nat} (i : Nat) {tx : String} {z : Nat} (hi : gSt[i]? = some (own, index, tx, z)) (hb : G.2.2.2.2 (16 + z) = b) (hdg : decode cc pc = .ok (.ldc index, 2))
    (kk : JJ G C k n sz S Ln M R (pc + 2) lv (.ref b :: st)) : JJ G C k n sz S Ln M R pc lv st := by subst hb; exact jj_ldcS hC i hi hdg kk
theorem jg_ldc_wS (hC : OKC G C own cc nL ret fr mc ms P X) {index b : Nat} (i : Nat) {tx : String} {z : Nat} (hi : gSt[i]? = some (own, index, tx, z)) (hb9 : G.2.2.2.2 (16 + z) = b) (hdg : decode cc pc = .ok (.ldc_w index, 3))
    (kk : JJ G C k n sz S Ln M R (pc + 3) lv (.ref b :: st)) : JJ G C k n sz S Ln M R pc lv st := by
  subst hb9
  obtain ⟨p, l, e, Rm, s, m, args, below, meth, c, Q⟩ := C
  obtain ⟨hx, hb, hml, hown, hts, hE, hlk2, hrt, hst, hRm, hQ, htab, hz⟩ := hC
  intro H locs ls hR hS hl
  have hZ := hE.2.2.2.2.2.2.1 _ (List.mem_of_getElem? hi)
  intro T hT X9
  obtain ⟨t, a1, b1⟩ := kk H locs ls hR hS hl T hT X9
  refine ⟨t, ?_, b1⟩
  obtain ⟨k9, cf, i9, a', hk9, hcf, hcp, -, hr9, hev'⟩ := Cond.stringRef_spec hown hZ.1
  cases hZ.2.symm.trans hev'
  obtain ⟨k', hk', he⟩ := X9.warmed.alike.2.2 _ _ hk9
  have hr' : k'.resolved[index]? = some (some (.string (G.2.2.2.2 (16 + z)))) := by
    rcases X9.warmed.entry hk9 hk' index with h | ⟨h, -⟩
    · rw [h]; exact hr9
    · rw [hr9] at h; cases h
  have hdg' : decode c.code (F0 m pc ls st).pc = .ok (.ldc_w index, 3) := by rw [hb]; exact hdg
  jvm_step X9.here [hx, hdg', ldc_w.wp_string (e := e) (s := T) (f := F0 m pc ls st) X9.here.top hk' (by rw [he]; exact hcf) hcp hr']
  exact a1
theorem jj_ldcI (hC : OKC G C own cc nL ret fr mc ms P X) {index : Nat} {v : Int} {w : Int32} (hw : iI v = w) (hco : Cond.constant own index w ∈ gW) (hdg : decode cc pc = .ok (.ldc index, 2)) (kk : JJ G C k n sz S Ln M R (pc + 2) lv (.int (iI v) :: st)) : JJ G C k n sz S Ln M R pc lv st := by
  subst hw
  obtain ⟨p, l, e, Rm, s, m, args, below, meth, c, Q⟩ := C
  obtain ⟨hx, hb, hml, hown, hts, hE, hlk2, hrt, hst, hRm, hQ, htab, hz⟩ := hC
  intro H locs ls hR hS hl
  exact lv_ldc hx hb hown (hts _ hco) hdg (kk H locs ls hR hS hl)
theorem jj_getsQ (hC : OKC G C own cc nL ret fr mc ms P X) {index : Nat} (hlk : Cond.fieldLink own index "jdk/internal/util/Preconditions" "SIOOBE_FORMATTER" "Ljava/util/function/BiFunction;" ∈ gW) (hdg : decode cc pc = .ok (.getstatic index, 3))
    (kk : ∀ v : Value, (v = .null ∨ ∃ t, v = .ref t) → JJ G C k n sz S Ln M R (pc + 3) lv (v :: st)) : JJ G C k n sz S Ln M R pc lv st := by
  obtain ⟨p, l, e, Rm, s, m, args, below, meth, c, Q⟩ := C
  obtain ⟨hx, hb, hml, hown, hts, hE, hlk2, hrt, hst, hRm, hQ, htab, hz⟩ := hC
  intro H locs ls hR hS hl
  obtain ⟨h9, h10, z1, z2, z3, z45, z6, z7, z8, z9, z10⟩ := hE
  rcases z10 with h | ⟨t, h⟩
  · exact va_gets hx hb h hS hown (hts _ hlk) (fun _ h => h) hdg (kk _ (Or.inl rfl) H locs ls hR hS hl)
  · exact va_gets hx hb h hS hown (hts _ hlk) (fun _ h => h) hdg (kk _ (Or.inr ⟨t, rfl⟩) H locs ls hR hS hl)
/-- the two rows of digits -/
theorem jj_getsD (hC : OKC G C own cc nL ret fr mc ms P X) {index b : Nat} {nm : String} {z : Nat} (hz9 : (nm = "DigitOnes" ∧ z = 10) ∨ (nm = "DigitTens" ∧ z = 11)) (hb9 : G.2.2.2.2 z = b) (hlk : Cond.fieldLink own index "java/lang/Integer" nm "[B" ∈ gW) (hdg : decode cc pc = .ok (.getstatic index, 3))
    (kk : JJ G C k n sz S Ln M R (pc + 3) lv (.ref b :: st)) : JJ G C k n sz S Ln M R pc lv st := by
  subst hb9
  obtain ⟨p, l, e, Rm, s, m, args, below, meth, c, Q⟩ := C
  obtain ⟨hx, hb, hml, hown, hts, hE, hlk2, hrt, hst, hRm, hQ, htab, hz⟩ := hC
  intro H locs ls hR hS hl
  obtain ⟨h9, h10, z1, z2, z3, ⟨z4, z5⟩, z6, z7, z8, z9, z10⟩ := hE
  rcases hz9 with ⟨rfl, rfl⟩ | ⟨rfl, rfl⟩
  · exact va_gets hx hb z4 hS hown (hts _ hlk) (fun _ h => h) hdg (kk H locs ls hR hS hl)
  · exact va_gets hx hb z5 hS hown (hts _ hlk) (fun _ h => h) hdg (kk H locs ls hR hS hl)
theorem jj_ifnonnull (hC : OKC G C own cc nL ret fr mc ms P X) {x : Nat} {off : Int} {tgt : Nat} (hd : decode cc pc = .ok (.ifnonnull off, 3)) (ht : (pc : Int) + off = (tgt : Int)) (kk : JJ G C k n sz S Ln M R tgt lv st) : JJ G C k n sz S Ln M R pc lv (.ref x :: st) := by
  obtain ⟨p, l, e, Rm, s, m, args, below, meth, c, Q⟩ := C
  obtain ⟨hx, hb, hml, hown, hts, hE, hlk2, hrt, hst, hRm, hQ, htab, hz⟩ := hC
  intro H locs ls hR hS hl
  exact lv_ifnonnull hx hb hd ht (kk H locs ls hR hS hl)
theorem jg_i2b (hC : OKC G C own cc nL ret fr mc ms P X) {x : Int} (hd : decode cc pc = .ok (.i2b, 1)) (kk : JJ G C k n sz S Ln M R (pc + 1) lv (.int (iI (i_i2b x)) :: st)) : JJ G C k n sz S Ln M R pc lv (.int (iI x) :: st) := by
  obtain ⟨p, l, e, Rm, s, m, args, below, meth, c, Q⟩ := C
  obtain ⟨hx, hb, hml, hown, hts, hE, hlk2, hrt, hst, hRm, hQ, htab, hz⟩ := hC
  intro H locs ls hR hS hl
  exact lv_i2b hx hb hd (iI_self _).symm (kk H locs ls hR hS hl)
/-! floats -/
theorem jj_fconst0 (hC : OKC G C own cc nL ret fr mc ms P X) {j : Fin 3} (hj : (j : Nat) = 0) (hd : decode cc pc = .ok (.fconst j, 1)) (kk : JJ G C k n sz S Ln M R (pc + 1) lv (.float 0 :: st)) : JJ G C k n sz S Ln M R pc lv st := by
  obtain ⟨p, l, e, Rm, s, m, args, below, meth, c, Q⟩ := C
  obtain ⟨hx, hb, hml, hown, hts, hE, hlk2, hrt, hst, hRm, hQ, htab, hz⟩ := hC
  intro H locs ls hR hS hl
  have : j = 0 := Fin.ext hj
  subst this
  exact lv_fconst0 hx hb hd (kk H locs ls hR hS hl)
theorem jj_i2f (hC : OKC G C own cc nL ret fr mc ms P X) {x : Int} (hd : decode cc pc = .ok (.i2f, 1)) (kk : JJ G C k n sz S Ln M R (pc + 1) lv (.float (FP.i2f (iI x)) :: st)) : JJ G C k n sz S Ln M R pc lv (.int (iI x) :: st) := by
  obtain ⟨p, l, e, Rm, s, m, args, below, meth, c, Q⟩ := C
  obtain ⟨hx, hb, hml, hown, hts, hE, hlk2, hrt, hst, hRm, hQ, htab, hz⟩ := hC
  intro H locs ls hR hS hl
  exact lv_i2f hx hb hd (kk H locs ls hR hS hl)
theorem jj_i2d (hC : OKC G C own cc nL ret fr mc ms P X) {x : Int} (hd : decode cc pc = .ok (.i2d, 1)) (kk : JJ G C k n sz S Ln M R (pc + 1) lv (.double (FP.i2d (iI x)) :: st)) : JJ G C k n sz S Ln M R pc lv (.int (iI x) :: st) := by
  obtain ⟨p, l, e, Rm, s, m, args, below, meth, c, Q⟩ := C
  obtain ⟨hx, hb, hml, hown, hts, hE, hlk2, hrt, hst, hRm, hQ, htab, hz⟩ := hC
  intro H locs ls hR hS hl
  exact lv_i2d hx hb hd (kk H locs ls hR hS hl)
theorem jj_fdiv (hC : OKC G C own cc nL ret fr mc ms P X) {x y : UInt32} (hne : FP.fdiv x y &&& 0x7fffffff ≤ 0x7f800000) (hd : decode cc pc = .ok (.fdiv, 1)) (kk : JJ G C k n sz S Ln M R (pc + 1) lv (.float (FP.fdiv x y) :: st)) : JJ G C k n sz S Ln M R pc lv (.float y :: .float x :: st) := by
  obtain ⟨p, l, e, Rm, s, m, args, below, meth, c, Q⟩ := C
  obtain ⟨hx, hb, hml, hown, hts, hE, hlk2, hrt, hst, hRm, hQ, htab, hz⟩ := hC
  intro H locs ls hR hS hl
  exact lv_fdiv hx hb hd hne (kk H locs ls hR hS hl)
theorem jj_ddiv (hC : OKC G C own cc nL ret fr mc ms P X) {x y : UInt64} (hne : FP.ddiv x y &&& 0x7fffffffffffffff ≤ 0x7ff0000000000000) (hd : decode cc pc = .ok (.ddiv, 1)) (kk : JJ G C k n sz S Ln M R (pc + 1) lv (.double (FP.ddiv x y) :: st)) : JJ G C k n sz S Ln M R pc lv (.double y :: .double x :: st) := by
  obtain ⟨p, l, e, Rm, s, m, args, below, meth, c, Q⟩ := C
  obtain ⟨hx, hb, hml, hown, hts, hE, hlk2, hrt, hst, hRm, hQ, htab, hz⟩ := hC
  intro H locs ls hR hS hl
  exact lv_ddiv hx hb hd hne (kk H locs ls hR hS hl)
theorem jj_f2d (hC : OKC G C own cc nL ret fr mc ms P X) {x : UInt32} (hne : FP.f2d x &&& 0x7fffffffffffffff ≤ 0x7ff0000000000000) (hd : decode cc pc = .ok (.f2d, 1)) (kk : JJ G C k n sz S Ln M R (pc + 1) lv (.double (FP.f2d x) :: st)) : JJ G C k n sz S Ln M R pc lv (.float x :: st) := by
  obtain ⟨p, l, e, Rm, s, m, args, below, meth, c, Q⟩ := C
  obtain ⟨hx, hb, hml, hown, hts, hE, hlk2, hrt, hst, hRm, hQ, htab, hz⟩ := hC
  intro H locs ls hR hS hl
  exact lv_f2d hx hb hd hne (kk H locs ls hR hS hl)
/-! super's methods, private ones, those of another class -/
theorem jj_selP {s : State} {args : Array Value} {CN : String} {y z : MethodName} (hts : ∀ w ∈ gW, w.before args s = true) (hz : Cond.selects CN z z ∈ gW) (hyz : y.cls = z.cls) (hy1 : y.cls ≠ "java/lang/invoke/MethodHandle") (hy2 : y.cls ≠ "java/lang/invoke/VarHandle") (hp : (Cond.privateMethod y).before args s = true) (hi : Cond.instanceMethod y ∈ gW) : (Cond.selects CN y y).before args s = true := by
  obtain ⟨c2, r2, m2, q1, q2, q3, q4, kP, hkP, hkPi⟩ := Cond.selects_spec (hts _ hz)
  obtain ⟨mk, methM, hnamed, hmethM, -, -⟩ := Cond.instanceMethod_spec (hts _ hi)
  have hfound : s.methodFound? y.cls y.name y.desc = some mk := State.methodFound?_of_named hnamed ⟨hy1, hy2⟩
  have hcls : mk.cls = m2.cls := by
    have h1 := findClass_of_methodNamed hnamed
    have h2 := findClass_of_methodNamed q3
    rw [hyz, h2] at h1
    exact (Option.some.inj h1).symm
  have hsel : selectMethod {} s.vm c2 mk = .method mk := selectMethod_private hmethM (Cond.privateMethod_at hp mk methM hnamed hmethM)
  simp only [Cond.before, Cond.holds, Cond.value, q1, hfound, hnamed, hsel, hcls, hkP]
  simp
  exact hkPi
theorem jj_invVC (hC : OKC G C own cc nL ret fr mc ms P X) {y : MethodName} {CN : String} {cc2 : ByteArray} {nL2 : Nat} {ret2 : Option FieldType} {np fr2 mc2 ms2 index b kd : Nat} {As st0 : List Value} {P2 : gP} {X2 : gX} {T : u_T} {N : Nat}
    (hm : MV y cc2 nL2 ret2 np) (hin : Cond.instanceMethod y ∈ gW) (hse : ∀ (args : Array Value) (s : State), (∀ w ∈ gW, w.before args s = true) → (∀ w ∈ gNW, va_Nw w s) → (Cond.selects CN y y).before args s = true) (hlk : Cond.methodLink own index y ∈ gW) (hs : S b = kd) (hkd : 1 ≤ kd ∧ kd < 20) (hcl : vwCl[kd - 1]? = some (CN, T, N)) (hct : Ct (LV C) G y cc2 nL2 ret2 fr2 mc2 ms2 (.ref b :: As) sz S Ln M R P2 X2) (hn : As.length = np) (hst0 : st0 = As.reverse ++ .ref b :: st) (hW : (st.map fun v => v.category).sum ≤ 8) (hfr : fr2 + 1 ≤ fr) (hk : k + mc2 ≤ mc) (hns : n + ms2 ≤ ms) (hdg : decode cc pc = .ok (.invokevirtual index, 3))
    (kx : ∀ E sz S Ln M R, X2 E sz S Ln M R → JX G C (k + mc2) (n + ms2) E sz S Ln M R pc lv st)
    (kk : ∀ v sz S Ln M R, P2 v sz S Ln M R → JJ G C (k + mc2) (n + ms2) sz S Ln M R (pc + 3) lv (v.toList ++ st)) : JJ G C k n sz S Ln M R pc lv st0 := by
  obtain ⟨p, l, e, Rm, s, m, args, below, meth, c, Q⟩ := C
  obtain ⟨hx, hb, hml, hown, hts, hE, hlk2, hrt, hst, hRm, hQ, htab, hz⟩ := hC
  intro H locs ls hR hS hl
  obtain ⟨m1, m2, m3, m4, m5, m6⟩ := hm
  obtain ⟨rm1, rm2, rm3, rm4⟩ := hRm
  subst hst0
  obtain ⟨g1, g2, g3, g5, g4⟩ := hR.2 b (by omega)
  unfold gm_cell at g4
  rw [hs, if_pos hkd.2] at g4
  obtain ⟨r1, hr1, cellV, c1, c2, c3, -⟩ := g4
  have hrr : r1 = (CN, T, N) := Option.some.inj (hr1.symm.trans hcl)
  subst hrr
  have hcls := (hE.1.1 (kd - 1) _ hcl).2
  have hB : CallB Rm s args own index y cc2 nL2 ret2 (.code y cc2 nL2 ret2 :: gW) (gRm fr2 mc2 ms2) mc2 ms2 np := callB_of np hts (gW_cons m1 gW_good) rfl rfl rfl (hts _ m2) (hts _ hlk) ⟨m3, m4, m5⟩ ⟨Nat.le_trans hfr rm1, by show 8 + (nL2 + 11) + 64 * fr2 ≤ Rm.locals; omega⟩
  exact jj_run (vx_runV (Ts := gW) (own := own) (C := CN) ⟨hx, hb, hml, hown, hts⟩ hct ⟨hB, hts _ hin, hse args s hts hE.2.1.1⟩
    ⟨gPc_blind, ⟨cellV, c1, c3.2.1, by rw [c2]; exact hcls.1⟩, fun U hU hW2 => jj_pre hE hR hS hz hU hW2⟩ rfl hn (by rw [← hml]; exact hl.1) rfl (lv_room hW) hdg ⟨Nat.le_trans hk rm2, Nat.le_trans hns rm3⟩) hS hl kx kk
theorem jj_invSU (hC : OKC G C own cc nL ret fr mc ms P X) {y : MethodName} {CN : String} {cc2 : ByteArray} {nL2 : Nat} {ret2 : Option FieldType} {np fr2 mc2 ms2 index b kd : Nat} {As st0 : List Value} {P2 : gP} {T : u_T} {N : Nat}
    (hm : MV y cc2 nL2 ret2 np) (hno : y.name ≠ "<init>") (hin : Cond.instanceMethod y ∈ gW) (hsm : Cond.sameMethod y.cls y.cls y.name y.desc ∈ gW) (hsu : Cond.superclass own y.cls ∈ gW) (hlk : Cond.methodLink own index y ∈ gW) (hs : S b = kd) (hkd : 1 ≤ kd ∧ kd < 20) (hcl : vwCl[kd - 1]? = some (CN, T, N)) (hct : Ct (LV C) G y cc2 nL2 ret2 fr2 mc2 ms2 (.ref b :: As) sz S Ln M R P2 noX) (hn : As.length = np) (hst0 : st0 = As.reverse ++ .ref b :: st) (hW : (st.map fun v => v.category).sum ≤ 8) (hfr : fr2 + 1 ≤ fr) (hk : k + mc2 ≤ mc) (hns : n + ms2 ≤ ms) (hdg : decode cc pc = .ok (.invokespecial index, 3))
    (kk : ∀ v sz S Ln M R, P2 v sz S Ln M R → JJ G C (k + mc2) (n + ms2) sz S Ln M R (pc + 3) lv (v.toList ++ st)) : JJ G C k n sz S Ln M R pc lv st0 := by
  obtain ⟨p, l, e, Rm, s, m, args, below, meth, c, Q⟩ := C
  obtain ⟨hx, hb, hml, hown, hts, hE, hlk2, hrt, hst, hRm, hQ, htab, hz⟩ := hC
  intro H locs ls hR hS hl
  obtain ⟨m1, m2, m3, m4, m5, m6⟩ := hm
  obtain ⟨rm1, rm2, rm3, rm4⟩ := hRm
  subst hst0
  obtain ⟨g1, g2, g3, g5, g4⟩ := hR.2 b (by omega)
  unfold gm_cell at g4
  rw [hs, if_pos hkd.2] at g4
  obtain ⟨r1, hr1, cellV, c1, c2, c3, -⟩ := g4
  have hrr : r1 = (CN, T, N) := Option.some.inj (hr1.symm.trans hcl)
  subst hrr
  have hcls := (hE.1.1 (kd - 1) _ hcl).2
  exact jj_run (X2 := noX) (jj_va (va_runSU (Ts := gW) (own := own) (C := CN) hcls ⟨hx, hb, hml, hown, hts⟩ hct.met (va_cwSU (ws' := gW) np hts (gW_cons hlk (gW_cons hsm (gW_cons hsu (gW_cons hin (gW_cons m2 (gW_cons m1 gW_good)))))) rfl rfl rfl ⟨hno, m5⟩ ⟨Nat.le_trans hfr rm1, by show 8 + (nL2 + 11) + 64 * fr2 ≤ Rm.locals; omega⟩)
    ⟨gPc_blind, ⟨cellV, c1, c3.2.1, by rw [c2]; exact hcls.1⟩, fun U hU hW2 => jj_pre hE hR hS hz hU hW2⟩ rfl hn (by rw [← hml]; exact hl.1) rfl (lv_room hW) hdg ⟨Nat.le_trans hk rm2, Nat.le_trans hns rm3⟩)) hS hl (fun _ _ _ _ _ _ h => h.elim) kk
end JJH
/-! memory that grows -/
def Ext (sz : Nat) (S Ln : Nat → Nat) (sz' : Nat) (S' Ln' : Nat → Nat) : Prop := sz ≤ sz' ∧ ∀ a, S a ≠ 0 → S' a = S a ∧ Ln' a = Ln a
theorem ext_r {sz : Nat} {S Ln : Nat → Nat} : Ext sz S Ln sz S Ln := ⟨Nat.le_refl _, fun _ _ => ⟨rfl, rfl⟩⟩
theorem ext_t {sz sz1 sz2 : Nat} {S Ln S1 Ln1 S2 Ln2 : Nat → Nat} (h : Ext sz S Ln sz1 S1 Ln1) (h2 : Ext sz1 S1 Ln1 sz2 S2 Ln2) : Ext sz S Ln sz2 S2 Ln2 :=
  ⟨Nat.le_trans h.1 h2.1, fun a ha => by
    have e1 := h.2 a ha
    have e2 := h2.2 a (by rw [e1.1]; exact ha)
    exact ⟨e2.1.trans e1.1, e2.2.trans e1.2⟩⟩
theorem ext_s {sz sz1 : Nat} {S Ln S1 Ln1 : Nat → Nat} (h : Ext sz S Ln sz1 S1 Ln1) {a kd : Nat} (hs : S a = kd) (h0 : kd ≠ 0) : S1 a = kd := by
  rw [(h.2 a (by rw [hs]; exact h0)).1, hs]
theorem ext_n {sz : Nat} {S Ln : Nat → Nat} {kd ln : Nat} (h : ∀ a, S a ≠ 0 → a < sz) : Ext sz S Ln (sz + 1) (ua S sz kd) (ua Ln sz ln) :=
  ⟨Nat.le_succ _, fun a ha => by
    have := h a ha
    rw [ua_n (by omega), ua_n (by omega)]
    exact ⟨rfl, rfl⟩⟩
abbrev poX (f : gP) (E : Prop) : gP := fun v sz' S' Ln' M' R' => f v sz' S' Ln' M' R' ∧ E
def wrR (R : gR) (a : Nat) (i : Int) (b : Option Nat) : gR := ua R a (us (R a) i b)
section JJB
variable {G : gE} {C : gC} {own : String} {cc : ByteArray} {nL : Nat} {ret : Option FieldType} {fr mc ms : Nat} {P : gP} {X : gX} {k n sz : Nat} {S Ln : Nat → Nat} {M : gM} {R : gR} {pc : Nat} {lv lv' : List (Nat × Value)} {st : List Value}
theorem poX_k {f : gP} {E : Prop} (h : E → ∀ v sz S Ln M R, f v sz S Ln M R → JJ G C k n sz S Ln M R pc lv (v.toList ++ st)) : ∀ v sz' S' Ln' M' R', poX f E v sz' S' Ln' M' R' → JJ G C k n sz' S' Ln' M' R' pc lv (v.toList ++ st) := by
  rintro v sz' S' Ln' M' R' ⟨h1, h2⟩; exact h h2 v sz' S' Ln' M' R' h1
theorem jj_R {R5 : gR} (hM : R = R5) (kk : JJ G C k n sz S Ln M R5 pc lv st) : JJ G C k n sz S Ln M R pc lv st := by rw [hM]; exact kk
theorem jj_lt (kk : (∀ a, S a ≠ 0 → a < sz) → JJ G C k n sz S Ln M R pc lv st) : JJ G C k n sz S Ln M R pc lv st := jj_rng (fun h => kk (fun a ha => (h a ha).2.1))
theorem jj_hsz (hC : OKC G C own cc nL ret fr mc ms P X) (kk : G.2.2.2.1 ≤ sz → JJ G C k n sz S Ln M R pc lv st) : JJ G C k n sz S Ln M R pc lv st := by
  obtain ⟨p, l, e, Rm, s, m, args, below, meth, c, Q⟩ := C
  obtain ⟨hx, hb, hml, hown, hts, hE, hlk2, hrt, hst, hRm, hQ, htab, hz⟩ := hC
  intro H locs ls hR hS hl
  exact kk (by have h1 := hS.1; have h2 := hR.1; omega) H locs ls hR hS hl
theorem jw {k' n' : Nat} (h1 : k = k') (h2 : n ≤ n') (kk : JJ G C k' n' sz S Ln M R pc lv st) : JJ G C k n sz S Ln M R pc lv st := jj_widen (Nat.le_of_eq h1) h2 kk
/-- a row of bytes -/
theorem jj_newB (hC : OKC G C own cc nL ret fr mc ms P X) {i : Int} (hac : Cond.arrayClass .byte ∈ gW) (h0 : 0 ≤ i) (h1 : i ≤ 256) (hk1 : k + 1 ≤ mc) (hn1 : n + 256 ≤ ms) (hd : decode cc pc = .ok (.newarray .byte, 2))
    (kk : Ext sz S Ln (sz + 1) (ua S sz 23) (ua Ln sz i.toNat) → JJ G C (k + 1) (n + 256) (sz + 1) (ua S sz 23) (ua Ln sz i.toNat) (ua M sz (fun _ => 0)) (ua R sz (fun _ => none)) (pc + 2) lv (.ref sz :: st)) : JJ G C k n sz S Ln M R pc lv (.int (iI i) :: st) := by
  refine jj_lt (fun hlt => jj_hsz hC (fun hsz => ?_))
  refine jj_newa (kd := 23) (t := 3) (at' := .byte) hC (by omega) rfl (fun C h => by cases h) (fun j => rfl) (fun j => by show (-128 : Int) ≤ 0 ∧ (0 : Int) < 128; omega) hac h0 (by omega) (by decide) hsz hk1 (by omega) hd ?_
  exact jj_widen (Nat.le_refl _) (by omega) (kk (ext_n hlt))
theorem jj_putRq (hC : OKC G C own cc nL ret fr mc ms P X) {kd N index a b : Nat} {CN : String} {T : u_T} {ty0 : Nat → FieldType} (hk : KF kd CN T N ty0) (i : Nat) {j : Int} (hj : (i : Int) = j) (hs : S a = kd) (hro : gm_ro kd = false) (hi : i < N) (hlk : Cond.fieldLink own index (T i).1 (T i).2.1 (T i).2.2.1 ∈ gW) (hfin : (T i).2.2.2 = false) {ty : FieldType} (hd : ty0 i = ty) (hn : narrow ty (.ref b) = .ref b) (hfit : fits ty (.ref b) = true) (hf0 : gm_fty kd i = 1) (hdg : decode cc pc = .ok (.putfield index, 3))
    (kk : JJ G C k n sz S Ln M (ua R a (us (R a) j (some b))) (pc + 3) lv st) : JJ G C k n sz S Ln M R pc lv (.ref b :: .ref a :: st) := by subst hj; exact jj_putR hC hk i hs hro hi hlk hfin hd hn hfit hf0 hdg kk
end JJB
def isDe : Cond → Bool
  | .declares _ => true
  | _ => false
theorem tat_of {L : List Cond} (h : L.all (fun w => decide (w ∈ lw_tbl) && (goodWord w || isDe w)) = true) : ∀ w ∈ L, w ∈ gW ∨ ∃ E, w = Cond.declares E ∧ w ∈ gNW := by
  intro w hw
  have h1 := List.all_eq_true.mp h w hw
  simp only [Bool.and_eq_true, Bool.or_eq_true, decide_eq_true_eq] at h1
  rcases h1.2 with h2 | h2
  · exact Or.inl (List.mem_filter.mpr ⟨h1.1, h2⟩)
  · cases w with
    | declares E => exact Or.inr ⟨E, rfl, List.mem_filter.mpr ⟨h1.1, rfl⟩⟩
    | _ => simp [isDe] at h2
theorem tal_of {L : List Cond} (h : L.all vx_ot = true) : ∀ w ∈ L, vx_ot w = true := fun w hw => List.all_eq_true.mp h w hw
theorem tfit_of {L : List String} (h : L.all Bundle.fit = true) : ∀ w ∈ L, Bundle.fit w = true := fun w hw => List.all_eq_true.mp h w hw
abbrev poB (q : Int) (sz : Nat) (S Ln : Nat → Nat) (M : gM) (R : gR) : gP := fun v sz' S' Ln' M' R' => v = some (.int (iI q)) ∧ (-128 ≤ q ∧ q < 128) ∧ sz' = sz ∧ S' = S ∧ Ln' = Ln ∧ M' = M ∧ R' = R
section JJC
variable {G : gE} {C : gC} {own : String} {cc : ByteArray} {nL : Nat} {ret : Option FieldType} {fr mc ms : Nat} {P : gP} {X : gX} {k n sz : Nat} {S Ln : Nat → Nat} {M : gM} {R : gR} {pc : Nat} {lv lv' : List (Nat × Value)} {st : List Value}
theorem po_kB {q : Int} (h : (-128 ≤ q ∧ q < 128) → JJ G C k n sz S Ln M R pc lv (.int (iI q) :: st)) : ∀ v sz' S' Ln' M' R', poB q sz S Ln M R v sz' S' Ln' M' R' → JJ G C k n sz' S' Ln' M' R' pc lv (v.toList ++ st) := by
  rintro v sz' S' Ln' M' R' ⟨h1, h2, h3, h4, h5, h6, h7⟩; subst h1; rw [h3, h4, h5, h6, h7]; exact h h2
theorem jj_bret (hC : OKC G C own cc nL (some .byte) fr mc ms P X) {z : Int} (h01 : -128 ≤ z ∧ z < 128) (h1 : k ≤ mc) (h2 : n ≤ ms) (hdg : decode cc pc = .ok (.ireturn, 1)) (hP : P (some (.int (iI z))) sz S Ln M R) : JJ G C k n sz S Ln M R pc lv [.int (iI z)] := by
  obtain ⟨p, l, e, Rm, s, m, args, below, meth, c, Q⟩ := C
  obtain ⟨hx, hb, hml, hown, hts, hE, hlk, hrt, hst, hRm, hQ, htab, hz⟩ := hC
  intro H locs ls hR hS hl
  subst hQ
  refine W.widen h1 h2 (vx_ret (W.zret hx hb hrt (by show Value.int ((iI z).toInt8.toInt32) = _; rw [j8_i2b h01]) (fun t ht _ => ⟨⟨_, sz, S, Ln, M, R, rfl, hP, by rw [ht]; exact hR⟩, ⟨by rw [ht]; exact hS.1, fun q a b => by rw [ht]; exact hS.2.1 q a b⟩⟩) hS.2.2 hdg hlk))
theorem jj_dconst0 (hC : OKC G C own cc nL ret fr mc ms P X) {j : Fin 2} (hj : (j : Nat) = 0) (hd : decode cc pc = .ok (.dconst j, 1)) (kk : JJ G C k n sz S Ln M R (pc + 1) lv (.double 0 :: st)) : JJ G C k n sz S Ln M R pc lv st := by
  obtain ⟨p, l, e, Rm, s, m, args, below, meth, c, Q⟩ := C
  obtain ⟨hx, hb, hml, hown, hts, hE, hlk2, hrt, hst, hRm, hQ, htab, hz⟩ := hC
  intro H locs ls hR hS hl
  have : j = 0 := Fin.ext hj
  subst this
  exact lv_dconst0 hx hb hd (kk H locs ls hR hS hl)
end JJC
