/-! more rows: a made String that is read alone from now on; xor, long to int, null; a final byte -/
def i_xor (x y : Int) : Int := (iI x ^^^ iI y).toInt
section JJM
variable {G : gE} {C : gC} {own : String} {cc : ByteArray} {nL : Nat} {ret : Option FieldType} {fr mc ms : Nat} {P : gP} {X : gX} {k n sz : Nat} {S Ln : Nat → Nat} {M : gM} {R : gR} {pc : Nat} {lv lv' : List (Nat × Value)} {st : List Value}
theorem jg_ixor (hC : OKC G C own cc nL ret fr mc ms P X) {x y : Int} (hd : decode cc pc = .ok (.ixor, 1)) (kk : JJ G C k n sz S Ln M R (pc + 1) lv (.int (iI (i_xor x y)) :: st)) : JJ G C k n sz S Ln M R pc lv (.int (iI y) :: .int (iI x) :: st) := by
  obtain ⟨p, l, e, Rm, s, m, args, below, meth, c, Q⟩ := C
  obtain ⟨hx, hb, hml, hown, hts, hE, hlk, hrt, hst, hRm, hQ, htab, hz⟩ := hC
  intro H locs ls hR hS hl
  refine lv_ixor hx hb hd ?_
  have e9 : iI x ^^^ iI y = iI (i_xor x y) := (iI_self _).symm
  rw [e9]
  exact kk H locs ls hR hS hl
theorem lI_32 (x : Int) : (lI x).toInt32 = iI x := by
  unfold lI iI
  apply Int32.toInt.inj
  rw [Int64.toInt_toInt32, Int64.toInt_ofInt, Int32.toInt_ofInt]
  exact Int.bmod_bmod_of_dvd (by decide)
theorem jg_l2i (hC : OKC G C own cc nL ret fr mc ms P X) {x : Int} (hd : decode cc pc = .ok (.l2i, 1)) (kk : JJ G C k n sz S Ln M R (pc + 1) lv (.int (iI (w32 x)) :: st)) : JJ G C k n sz S Ln M R pc lv (.long (lI x) :: st) := by
  obtain ⟨p, l, e, Rm, s, m, args, below, meth, c, Q⟩ := C
  obtain ⟨hx, hb, hml, hown, hts, hE, hlk, hrt, hst, hRm, hQ, htab, hz⟩ := hC
  intro H locs ls hR hS hl
  exact lv_l2i hx hb hd ((lI_32 x).trans (iI_w32 x).symm) (kk H locs ls hR hS hl)
theorem jj_anull (hC : OKC G C own cc nL ret fr mc ms P X) (hd : decode cc pc = .ok (.aconst_null, 1)) (kk : JJ G C k n sz S Ln M R (pc + 1) lv (.null :: st)) : JJ G C k n sz S Ln M R pc lv st := by
  obtain ⟨p, l, e, Rm, s, m, args, below, meth, c, Q⟩ := C
  obtain ⟨hx, hb, hml, hown, hts, hE, hlk, hrt, hst, hRm, hQ, htab, hz⟩ := hC
  intro H locs ls hR hS hl
  exact lv_null hx hb hd (kk H locs ls hR hS hl)
theorem jj_ifnull (hC : OKC G C own cc nL ret fr mc ms P X) {x : Nat} {off : Int} (hd : decode cc pc = .ok (.ifnull off, 3)) (kk : JJ G C k n sz S Ln M R (pc + 3) lv st) : JJ G C k n sz S Ln M R pc lv (.ref x :: st) := by
  obtain ⟨p, l, e, Rm, s, m, args, below, meth, c, Q⟩ := C
  obtain ⟨hx, hb, hml, hown, hts, hE, hlk, hrt, hst, hRm, hQ, htab, hz⟩ := hC
  intro H locs ls hR hS hl
  exact lv_ifnull hx hb hd (kk H locs ls hR hS hl)
theorem jj_ldcwI (hC : OKC G C own cc nL ret fr mc ms P X) {index : Nat} {v : Int} {w : Int32} (hw : iI v = w) (hco : Cond.constant own index w ∈ gW) (hdg : decode cc pc = .ok (.ldc_w index, 3)) (kk : JJ G C k n sz S Ln M R (pc + 3) lv (.int (iI v) :: st)) : JJ G C k n sz S Ln M R pc lv st := by
  subst hw
  obtain ⟨p, l, e, Rm, s, m, args, below, meth, c, Q⟩ := C
  obtain ⟨hx, hb, hml, hown, hts, hE, hlk2, hrt, hst, hRm, hQ, htab, hz⟩ := hC
  intro H locs ls hR hS hl
  exact lv_ldcw hx hb hown (hts _ hco) hdg (kk H locs ls hR hS hl)
theorem jp_BF (hC : OKC G C own cc nL ret fr mc ms P X) {kd N index a : Nat} {CN : String} {T : u_T} {ty0 : Nat → FieldType} (hk : KF kd CN T N ty0) (i : Nat) {j z : Int} (hj : (i : Int) = j) (hs : S a = kd) (hro : gm_ro kd = false) (hi : i < N) (hlk : Cond.fieldLink own index (T i).1 (T i).2.1 (T i).2.2.1 ∈ gW) (hfin : (T i).2.2.2 = true) (hinm : C.2.2.2.2.2.2.2.2.1.name = "<init>") (hdecl : (T i).1 = own) (hd : ty0 i = .byte) (hf0 : gm_fty kd i = 6) (hrz : -128 ≤ z ∧ z < 128) (hdg : decode cc pc = .ok (.putfield index, 3))
    (kk : JJ G C k n sz S Ln (ua M a (us (M a) j z)) R (pc + 3) lv st) : JJ G C k n sz S Ln M R pc lv (.int (iI z) :: .ref a :: st) := by
  subst hj
  refine jj_putF hC hk i z (R a (i : Int)) hs hro hi hlk hfin hinm hdecl hd (by show Value.int ((iI z).toInt8.toInt32) = _; rw [j8_i2b hrz]) (j8_fitB hrz) (by rw [hf0]; rfl) (by rw [hf0]; exact hrz) hdg ?_
  rw [ua_selfs]; exact kk
/-- a String that was made here, and its bytes: read alone from now on -/
theorem Rep.frz {U : State} {H : Heap} (hK : va_K (G.1, G.2.1) vwCl (gTys G.2.2.1) U) (h : Rep G sz S Ln M R H) {a b : Nat} (ha : S a = 13) (hb : S b = 23) : Rep G sz (ua (ua S a 1) b 28) Ln M R H := by
  obtain ⟨h0, h1⟩ := h
  refine ⟨h0, fun c hc => ?_⟩
  have hab : a ≠ b := fun e => by rw [e, hb] at ha; exact absurd ha (by decide)
  by_cases hcb : c = b
  · subst hcb
    obtain ⟨q1, q2, q3, q4, q5⟩ := h1 c (by omega)
    have e9 : ua (ua S a 1) c 28 c = 28 := ua_s
    have hf : gm_f G (ua (ua S a 1) c 28) M R c = gm_f G S M R c := by
      funext k
      unfold gm_f
      rw [e9, hb]
      rfl
    rw [hf, e9]
    refine ⟨q1, fun hh => absurd hh (by decide), fun k => ?_, q4, ?_⟩
    · have := q3 k
      rw [hb] at this
      exact this
    · rw [hb] at q5
      unfold gm_cell at q5 ⊢
      rw [if_neg (by decide)] at q5 ⊢
      have e8 : G.2.2.1 28 = G.2.2.1 23 := Option.some.inj ((hK.2 8 _ rfl).2.symm.trans (hK.2 3 _ rfl).2)
      rcases q5 with q5 | ⟨q5, -⟩
      · exact Or.inl (by rw [e8]; exact q5)
      · exact absurd q5 (by decide)
  · by_cases hca : c = a
    · subst hca
      obtain ⟨q1, q2, q3, q4, q5⟩ := h1 c (by omega)
      have e9 : ua (ua S c 1) b 28 c = 1 := by rw [ua_n hcb, ua_s]
      have hf : gm_f G (ua (ua S c 1) b 28) M R c = gm_f G S M R c := by
        funext k
        unfold gm_f
        rw [e9, ha]
        rfl
      rw [hf, e9]
      refine ⟨q1, fun hh => absurd hh (by decide), fun k => ?_, q4, ?_⟩
      · have := q3 k
        rw [ha] at this
        exact this
      · rw [ha] at q5
        unfold gm_cell at q5 ⊢
        rw [if_pos (by decide)] at q5 ⊢
        obtain ⟨r, r1, cell, r2, r3, r4, r5⟩ := q5
        have hr : r = (RJ0, TJ0, 4) := Option.some.inj (r1.symm.trans rfl)
        subst hr
        obtain ⟨s1, s2⟩ := hK.1 12 (RJ0, TJ0, 4) rfl
        obtain ⟨t1, t2⟩ := hK.1 0 (RJ0, TJ0, 2) rfl
        have e7 : G.1 12 = G.1 0 := Option.some.inj (s2.1.symm.trans t2.1)
        refine ⟨(RJ0, TJ0, 2), rfl, cell, r2, by rw [r3]; exact e7, ⟨r4.1, r4.2.1, fun hh => absurd hh (by decide)⟩, fun k hk => ?_⟩
        obtain ⟨a1, a2, a3, a4, a5, a6⟩ := s1 k (Nat.lt_of_lt_of_le hk (by decide))
        obtain ⟨b1, b2, b3, b4, b5, b6⟩ := t1 k hk
        have e6 : G.2.1 12 k = G.2.1 0 k := by
          have e5 := Option.some.inj (a5.symm.trans b5)
          have e4 : a4 = b4 := congrArg (fun q => q.2.2.2) e5
          exact a6.symm.trans ((congrArg (fun q => q.slot) e4).trans b6)
        show cell.slots[G.2.1 0 k]? = _
        rw [← e6]
        exact r5 k (Nat.lt_of_lt_of_le hk (by decide))
    · rw [ua_n hcb, ua_n hca] at hc
      obtain ⟨q1, q2, q3, q4, q5⟩ := h1 c hc
      have e9 : ua (ua S a 1) b 28 c = S c := by rw [ua_n hcb, ua_n hca]
      have hf : gm_f G (ua (ua S a 1) b 28) M R c = gm_f G S M R c := by
        funext k
        unfold gm_f
        rw [e9]
      rw [hf, e9]
      exact ⟨q1, q2, q3, q4, q5⟩
theorem jj_frz (hC : OKC G C own cc nL ret fr mc ms P X) {a b : Nat} {S5 : Nat → Nat} (ha : S a = 13) (hb : S b = 23) (hS5 : ua (ua S a 1) b 28 = S5) (kk : JJ G C k n sz S5 Ln M R pc lv st) : JJ G C k n sz S Ln M R pc lv st := by
  subst hS5
  obtain ⟨p, l, e, Rm, s, m, args, below, meth, c, Q⟩ := C
  obtain ⟨hx, hb2, hml, hown, hts, hE, hlk, hrt, hst, hRm, hQ, htab, hz⟩ := hC
  intro H locs ls hR hS hl
  exact kk H locs ls (hR.frz hE.1 ha hb) hS hl
theorem jj_invVO (hC : OKC G C own cc nL ret fr mc ms P X) {x y : MethodName} {CN : String} {cc2 b0 : ByteArray} {nL2 m0 : Nat} {ret2 r0 : Option FieldType} {np fr2 mc2 ms2 index b kd : Nat} {As st0 : List Value} {P2 : gP} {T : u_T} {N : Nat}
    (hm : MV y cc2 nL2 ret2 np) (hin : Cond.instanceMethod y ∈ gW) (hinx : Cond.instanceMethod x ∈ gW) (hsm : Cond.sameMethod x.cls x.cls x.name x.desc ∈ gW) (hse : Cond.selects CN x y ∈ gW) (h0 : Cond.code x b0 m0 r0 ∈ gW) (hxd : x.cls ≠ "java/lang/invoke/MethodHandle" ∧ x.cls ≠ "java/lang/invoke/VarHandle" ∧ (parseMethodDescriptor x.desc).map (fun d => d.parameters.length) = some np) (hlk : Cond.methodLink own index x ∈ gW) (hs : S b = kd) (hkd : 1 ≤ kd ∧ kd < 20) (hcl : vwCl[kd - 1]? = some (CN, T, N)) (hct : Ct (LV C) G y cc2 nL2 ret2 fr2 mc2 ms2 (.ref b :: As) sz S Ln M R P2 noX) (hn : As.length = np) (hst0 : st0 = As.reverse ++ .ref b :: st) (hW : (st.map fun v => v.category).sum ≤ 8) (hfr : fr2 + 1 ≤ fr) (hk : k + mc2 ≤ mc) (hns : n + ms2 ≤ ms) (hdg : decode cc pc = .ok (.invokevirtual index, 3))
    (kk : ∀ v sz S Ln M R, P2 v sz S Ln M R → JJ G C (k + mc2) (n + ms2) sz S Ln M R (pc + 3) lv (v.toList ++ st)) : JJ G C k n sz S Ln M R pc lv st0 := by
  obtain ⟨p, l, e, Rm, s, m, args, below, meth, c, Q⟩ := C
  obtain ⟨hx, hb, hml, hown, hts, hE, hlk2, hrt, hst, hRm, hQ, htab, hz⟩ := hC
  intro H locs ls hR hS hl
  obtain ⟨m1, m2, m3, m4, m5, m6⟩ := hm
  obtain ⟨rm1, rm2, rm3, rm4⟩ := hRm
  subst hst0
  obtain ⟨g1, g2, g3, g5, g4⟩ := hR.2 b (by omega)
  unfold gm_cell at g4
  rw [hs, if_pos hkd.2] at g4
  obtain ⟨r1, hr1, cellV, c1, c2, c3, -⟩ := g4
  have hrr : r1 = (CN, T, N) := Option.some.inj (hr1.symm.trans hcl)
  subst hrr
  have hcls := (hE.1.1 (kd - 1) _ hcl).2
  exact jj_run (X2 := noX) (jj_va (va_runU (Ts := gW) (own := own) (C := CN) (owner := x.cls) ⟨hx, hb, hml, hown, hts⟩ hct.met
    (va_cwO (ws' := gW) np hts (gW_cons hlk (gW_cons hsm (gW_cons hinx (gW_cons hse (gW_cons hin (gW_cons m2 (gW_cons m1 gW_good))))))) rfl rfl rfl h0 hxd ⟨Nat.le_trans hfr rm1, by show 8 + (nL2 + 11) + 64 * fr2 ≤ Rm.locals; omega⟩)
    ⟨gPc_blind, ⟨cellV, c1, c3.2.1, by rw [c2]; exact hcls.1⟩, fun U hU hW2 => jj_pre hE hR hS hz hU hW2⟩ rfl hn (by rw [← hml]; exact hl.1) rfl (lv_room hW) hdg ⟨Nat.le_trans hk rm2, Nat.le_trans hns rm3⟩)) hS hl (fun _ _ _ _ _ _ h => h.elim) kk
end JJM
theorem ext_frz {sz sz1 : Nat} {S Ln S1 Ln1 S5 : Nat → Nat} {a b : Nat} (h : Ext sz S Ln sz1 S1 Ln1) (hl : ∀ a, S a ≠ 0 → a < sz) (ha : sz ≤ a) (hb : sz ≤ b) (hS5 : ua (ua S1 a 1) b 28 = S5) : Ext sz S Ln sz1 S5 Ln1 := ⟨h.1, fun c hc => by
  have := hl c hc
  subst hS5
  rw [ua_n (by omega), ua_n (by omega)]
  exact h.2 c hc⟩
theorem frz_a {S S5 : Nat → Nat} {a b : Nat} (ha : S a = 13) (hb : S b = 23) (h : ua (ua S a 1) b 28 = S5) : S5 a = 1 := by
  subst h
  rw [ua_n (fun e => by rw [e, hb] at ha; exact absurd ha (by decide)), ua_s]
theorem el_n {α β γ : Type} {f : α → Option γ} {q : α ⊕ β} {r : γ} (h : Sum.elim f (fun _ => none) q = some r) : ∃ a, q = .inl a ∧ f a = some r := by
  cases q with
  | inl a => exact ⟨a, rfl, h⟩
  | inr b => cases h
theorem el_m {α β γ ε : Type} {f : α → Option (γ ⊕ ε)} {g : β → ε} {q : α ⊕ β} {r : γ} (h : Sum.elim f (fun e => some (Sum.inr (g e))) q = some (Sum.inl r)) : ∃ a, q = .inl a ∧ f a = some (Sum.inl r) := by
  cases q with
  | inl a => exact ⟨a, rfl, h⟩
  | inr b => cases h
theorem dJ5_getValue_6d5f1_0 : decode cJ5_getValue_6d5f1 0 = .ok (.aload_n 0, 1) := by decide +kernel
theorem dJ5_getValue_6d5f1_1 : decode cJ5_getValue_6d5f1 1 = .ok (.getfield 15, 3) := by decide +kernel
theorem dJ5_getValue_6d5f1_4 : decode cJ5_getValue_6d5f1 4 = .ok (.areturn, 1) := by decide +kernel
theorem dJ7_checkLength_df160_0 : decode cJ7_checkLength_df160 0 = .ok (.iload_n 1, 1) := by decide +kernel
theorem dJ7_checkLength_df160_1 : decode cJ7_checkLength_df160 1 = .ok (.iload_n 0, 1) := by decide +kernel
theorem dJ7_checkLength_df160_2 : decode cJ7_checkLength_df160 2 = .ok (.if_icmp .ge 35, 3) := by decide +kernel
theorem dJ7_checkLength_df160_5 : decode cJ7_checkLength_df160 5 = .ok (.new 43, 3) := by decide +kernel
theorem dJ7_checkLength_df160_8 : decode cJ7_checkLength_df160 8 = .ok (.dup, 1) := by decide +kernel
theorem dJ7_checkLength_df160_9 : decode cJ7_checkLength_df160 9 = .ok (.new 45, 3) := by decide +kernel
theorem dJ7_checkLength_df160_12 : decode cJ7_checkLength_df160 12 = .ok (.dup, 1) := by decide +kernel
theorem dJ7_checkLength_df160_13 : decode cJ7_checkLength_df160 13 = .ok (.invokespecial 47, 3) := by decide +kernel
theorem dJ7_checkLength_df160_16 : decode cJ7_checkLength_df160 16 = .ok (.iload_n 0, 1) := by decide +kernel
theorem dJ7_checkLength_df160_17 : decode cJ7_checkLength_df160 17 = .ok (.invokevirtual 54, 3) := by decide +kernel
theorem dJ7_checkLength_df160_20 : decode cJ7_checkLength_df160 20 = .ok (.ldc_w 337, 3) := by decide +kernel
theorem dJ7_checkLength_df160_23 : decode cJ7_checkLength_df160 23 = .ok (.invokevirtual 50, 3) := by decide +kernel
theorem dJ7_checkLength_df160_26 : decode cJ7_checkLength_df160 26 = .ok (.iload_n 1, 1) := by decide +kernel
theorem dJ7_checkLength_df160_27 : decode cJ7_checkLength_df160 27 = .ok (.invokevirtual 54, 3) := by decide +kernel
theorem dJ7_checkLength_df160_30 : decode cJ7_checkLength_df160 30 = .ok (.invokevirtual 61, 3) := by decide +kernel
theorem dJ7_checkLength_df160_33 : decode cJ7_checkLength_df160 33 = .ok (.invokespecial 65, 3) := by decide +kernel
theorem dJ7_checkLength_df160_36 : decode cJ7_checkLength_df160 36 = .ok (.athrow, 1) := by decide +kernel
theorem dJ7_checkLength_df160_37 : decode cJ7_checkLength_df160 37 = .ok (.return_, 1) := by decide +kernel
theorem wd368 : Cond.code yJ7_checkLength_df160 cJ7_checkLength_df160 2 none ∈ gW := gW_in 368 (by decide +kernel) (by decide +kernel)
theorem mvJ7_checkLength_df160 : MV yJ7_checkLength_df160 cJ7_checkLength_df160 2 none 2 := ⟨wd368, wd50, by decide +kernel, by decide +kernel, by decide +kernel, by decide⟩
theorem wd367 : Cond.static yJ7_checkLength_df160 ∈ gW := gW_in 367 (by decide +kernel) (by decide +kernel)
theorem wd366 : Cond.methodLink RJ7 343 yJ7_checkLength_df160 ∈ gW := gW_in 366 (by decide +kernel) (by decide +kernel)
theorem dJ7_copyOfRangeByte_39247_0 : decode cJ7_copyOfRangeByte_39247 0 = .ok (.iload_n 1, 1) := by decide +kernel
theorem dJ7_copyOfRangeByte_39247_1 : decode cJ7_copyOfRangeByte_39247 1 = .ok (.iload_n 2, 1) := by decide +kernel
theorem dJ7_copyOfRangeByte_39247_2 : decode cJ7_copyOfRangeByte_39247 2 = .ok (.invokestatic 343, 3) := by decide +kernel
theorem dJ7_copyOfRangeByte_39247_5 : decode cJ7_copyOfRangeByte_39247 5 = .ok (.iload_n 2, 1) := by decide +kernel
theorem dJ7_copyOfRangeByte_39247_6 : decode cJ7_copyOfRangeByte_39247 6 = .ok (.iload_n 1, 1) := by decide +kernel
theorem dJ7_copyOfRangeByte_39247_7 : decode cJ7_copyOfRangeByte_39247 7 = .ok (.isub, 1) := by decide +kernel
theorem dJ7_copyOfRangeByte_39247_8 : decode cJ7_copyOfRangeByte_39247 8 = .ok (.istore_n 3, 1) := by decide +kernel
theorem dJ7_copyOfRangeByte_39247_9 : decode cJ7_copyOfRangeByte_39247 9 = .ok (.iload_n 3, 1) := by decide +kernel
theorem dJ7_copyOfRangeByte_39247_10 : decode cJ7_copyOfRangeByte_39247 10 = .ok (.newarray .byte, 2) := by decide +kernel
theorem dJ7_copyOfRangeByte_39247_12 : decode cJ7_copyOfRangeByte_39247 12 = .ok (.astore 4, 2) := by decide +kernel
theorem dJ7_copyOfRangeByte_39247_14 : decode cJ7_copyOfRangeByte_39247 14 = .ok (.aload_n 0, 1) := by decide +kernel
theorem dJ7_copyOfRangeByte_39247_15 : decode cJ7_copyOfRangeByte_39247 15 = .ok (.iload_n 1, 1) := by decide +kernel
theorem dJ7_copyOfRangeByte_39247_16 : decode cJ7_copyOfRangeByte_39247 16 = .ok (.aload 4, 2) := by decide +kernel
theorem dJ7_copyOfRangeByte_39247_18 : decode cJ7_copyOfRangeByte_39247 18 = .ok (.iconst 0, 1) := by decide +kernel
theorem dJ7_copyOfRangeByte_39247_19 : decode cJ7_copyOfRangeByte_39247 19 = .ok (.aload_n 0, 1) := by decide +kernel
theorem dJ7_copyOfRangeByte_39247_20 : decode cJ7_copyOfRangeByte_39247 20 = .ok (.arraylength, 1) := by decide +kernel
theorem dJ7_copyOfRangeByte_39247_21 : decode cJ7_copyOfRangeByte_39247 21 = .ok (.iload_n 1, 1) := by decide +kernel
theorem dJ7_copyOfRangeByte_39247_22 : decode cJ7_copyOfRangeByte_39247 22 = .ok (.isub, 1) := by decide +kernel
theorem dJ7_copyOfRangeByte_39247_23 : decode cJ7_copyOfRangeByte_39247 23 = .ok (.iload_n 3, 1) := by decide +kernel
theorem dJ7_copyOfRangeByte_39247_24 : decode cJ7_copyOfRangeByte_39247 24 = .ok (.invokestatic 304, 3) := by decide +kernel
theorem dJ7_copyOfRangeByte_39247_27 : decode cJ7_copyOfRangeByte_39247 27 = .ok (.invokestatic 150, 3) := by decide +kernel
theorem dJ7_copyOfRangeByte_39247_30 : decode cJ7_copyOfRangeByte_39247 30 = .ok (.aload 4, 2) := by decide +kernel
theorem dJ7_copyOfRangeByte_39247_32 : decode cJ7_copyOfRangeByte_39247 32 = .ok (.areturn, 1) := by decide +kernel
theorem wd365 : Cond.code yJ7_copyOfRangeByte_39247 cJ7_copyOfRangeByte_39247 5 (some (.array .byte)) ∈ gW := gW_in 365 (by decide +kernel) (by decide +kernel)
theorem mvJ7_copyOfRangeByte_39247 : MV yJ7_copyOfRangeByte_39247 cJ7_copyOfRangeByte_39247 5 (some (.array .byte)) 3 := ⟨wd365, wd50, by decide +kernel, by decide +kernel, by decide +kernel, by decide⟩
theorem wd364 : Cond.static yJ7_copyOfRangeByte_39247 ∈ gW := gW_in 364 (by decide +kernel) (by decide +kernel)
theorem wd363 : Cond.methodLink RJ7 339 yJ7_copyOfRangeByte_39247 ∈ gW := gW_in 363 (by decide +kernel) (by decide +kernel)
theorem dJ7_copyOfRange_39247_0 : decode cJ7_copyOfRange_39247 0 = .ok (.iload_n 1, 1) := by decide +kernel
theorem dJ7_copyOfRange_39247_1 : decode cJ7_copyOfRange_39247 1 = .ok (.ifCond .ne 9, 3) := by decide +kernel
theorem dJ7_copyOfRange_39247_4 : decode cJ7_copyOfRange_39247 4 = .ok (.iload_n 2, 1) := by decide +kernel
theorem dJ7_copyOfRange_39247_5 : decode cJ7_copyOfRange_39247 5 = .ok (.aload_n 0, 1) := by decide +kernel
theorem dJ7_copyOfRange_39247_6 : decode cJ7_copyOfRange_39247 6 = .ok (.arraylength, 1) := by decide +kernel
theorem dJ7_copyOfRange_39247_7 : decode cJ7_copyOfRange_39247 7 = .ok (.if_icmp .eq 10, 3) := by decide +kernel
theorem dJ7_copyOfRange_39247_10 : decode cJ7_copyOfRange_39247 10 = .ok (.aload_n 0, 1) := by decide +kernel
theorem dJ7_copyOfRange_39247_11 : decode cJ7_copyOfRange_39247 11 = .ok (.iload_n 1, 1) := by decide +kernel
theorem dJ7_copyOfRange_39247_12 : decode cJ7_copyOfRange_39247 12 = .ok (.iload_n 2, 1) := by decide +kernel
theorem dJ7_copyOfRange_39247_13 : decode cJ7_copyOfRange_39247 13 = .ok (.invokestatic 339, 3) := by decide +kernel
theorem dJ7_copyOfRange_39247_16 : decode cJ7_copyOfRange_39247 16 = .ok (.areturn, 1) := by decide +kernel
theorem dJ7_copyOfRange_39247_17 : decode cJ7_copyOfRange_39247 17 = .ok (.aload_n 0, 1) := by decide +kernel
theorem dJ7_copyOfRange_39247_18 : decode cJ7_copyOfRange_39247 18 = .ok (.invokevirtual 310, 3) := by decide +kernel
theorem dJ7_copyOfRange_39247_21 : decode cJ7_copyOfRange_39247 21 = .ok (.checkcast 311, 3) := by decide +kernel
theorem dJ7_copyOfRange_39247_24 : decode cJ7_copyOfRange_39247 24 = .ok (.areturn, 1) := by decide +kernel
theorem wd345 : Cond.methodLink RJ0 1 Lib.objectInit ∈ gW := gW_in 345 (by decide +kernel) (by decide +kernel)
theorem wd350 : Cond.code yJ5_getValue_6d5f1 cJ5_getValue_6d5f1 1 (some (.array .byte)) ∈ gW := gW_in 350 (by decide +kernel) (by decide +kernel)
theorem mvJ5_getValue_6d5f1 : MV yJ5_getValue_6d5f1 cJ5_getValue_6d5f1 1 (some (.array .byte)) 0 := ⟨wd350, wd33, by decide +kernel, by decide +kernel, by decide +kernel, by decide⟩
theorem wd347 : Cond.instanceMethod yJ5_getValue_6d5f1 ∈ gW := gW_in 347 (by decide +kernel) (by decide +kernel)
theorem wd349 : Cond.selects RJ4 yJ5_getValue_6d5f1 yJ5_getValue_6d5f1 ∈ gW := gW_in 349 (by decide +kernel) (by decide +kernel)
theorem wd346 : Cond.methodLink RJ0 552 yJ5_getValue_6d5f1 ∈ gW := gW_in 346 (by decide +kernel) (by decide +kernel)
theorem wd354 : Cond.selects RJ4 yJ5_length_8abf5 yJ4_length_8abf5 ∈ gW := gW_in 354 (by decide +kernel) (by decide +kernel)
theorem wd351 : Cond.methodLink RJ0 549 yJ5_length_8abf5 ∈ gW := gW_in 351 (by decide +kernel) (by decide +kernel)
theorem wd359 : Cond.methodLink RJ0 1047 yJ5_isLatin1_aae02 ∈ gW := gW_in 359 (by decide +kernel) (by decide +kernel)
theorem kfJ0m : KF 13 RJ0 TJ0 4 tyJ0 := ⟨by decide, by decide, rfl, gW_all (by decide +kernel), tyJ0_ok, nmJ0⟩
theorem wd362 : Cond.code yJ7_copyOfRange_39247 cJ7_copyOfRange_39247 3 (some (.array .byte)) ∈ gW := gW_in 362 (by decide +kernel) (by decide +kernel)
theorem mvJ7_copyOfRange_39247 : MV yJ7_copyOfRange_39247 cJ7_copyOfRange_39247 3 (some (.array .byte)) 3 := ⟨wd362, wd50, by decide +kernel, by decide +kernel, by decide +kernel, by decide⟩
theorem wd361 : Cond.static yJ7_copyOfRange_39247 ∈ gW := gW_in 361 (by decide +kernel) (by decide +kernel)
theorem wd360 : Cond.methodLink RJ0 54 yJ7_copyOfRange_39247 ∈ gW := gW_in 360 (by decide +kernel) (by decide +kernel)
theorem dJ0_init_db425_0 : decode cJ0_init_db425 0 = .ok (.aload_n 0, 1) := by decide +kernel
theorem dJ0_init_db425_1 : decode cJ0_init_db425 1 = .ok (.invokespecial 1, 3) := by decide +kernel
theorem dJ0_init_db425_4 : decode cJ0_init_db425 4 = .ok (.aload_n 1, 1) := by decide +kernel
theorem dJ0_init_db425_5 : decode cJ0_init_db425 5 = .ok (.invokevirtual 552, 3) := by decide +kernel
theorem dJ0_init_db425_8 : decode cJ0_init_db425 8 = .ok (.astore_n 3, 1) := by decide +kernel
theorem dJ0_init_db425_9 : decode cJ0_init_db425 9 = .ok (.aload_n 1, 1) := by decide +kernel
theorem dJ0_init_db425_10 : decode cJ0_init_db425 10 = .ok (.invokevirtual 549, 3) := by decide +kernel
theorem dJ0_init_db425_13 : decode cJ0_init_db425 13 = .ok (.istore 4, 2) := by decide +kernel
theorem dJ0_init_db425_15 : decode cJ0_init_db425 15 = .ok (.aload_n 1, 1) := by decide +kernel
theorem dJ0_init_db425_16 : decode cJ0_init_db425 16 = .ok (.invokevirtual 1047, 3) := by decide +kernel
theorem dJ0_init_db425_19 : decode cJ0_init_db425 19 = .ok (.ifCond .eq 22, 3) := by decide +kernel
theorem dJ0_init_db425_22 : decode cJ0_init_db425 22 = .ok (.aload_n 0, 1) := by decide +kernel
theorem dJ0_init_db425_23 : decode cJ0_init_db425 23 = .ok (.iconst 0, 1) := by decide +kernel
theorem dJ0_init_db425_24 : decode cJ0_init_db425 24 = .ok (.putfield 15, 3) := by decide +kernel
theorem dJ0_init_db425_27 : decode cJ0_init_db425 27 = .ok (.aload_n 0, 1) := by decide +kernel
theorem dJ0_init_db425_28 : decode cJ0_init_db425 28 = .ok (.aload_n 3, 1) := by decide +kernel
theorem dJ0_init_db425_29 : decode cJ0_init_db425 29 = .ok (.iconst 0, 1) := by decide +kernel
theorem dJ0_init_db425_30 : decode cJ0_init_db425 30 = .ok (.iload 4, 2) := by decide +kernel
theorem dJ0_init_db425_32 : decode cJ0_init_db425 32 = .ok (.invokestatic 54, 3) := by decide +kernel
theorem dJ0_init_db425_35 : decode cJ0_init_db425 35 = .ok (.putfield 9, 3) := by decide +kernel
theorem dJ0_init_db425_38 : decode cJ0_init_db425 38 = .ok (.goto 59, 3) := by decide +kernel
theorem dJ0_init_db425_41 : decode cJ0_init_db425 41 = .ok (.getstatic 38, 3) := by decide +kernel
theorem dJ0_init_db425_44 : decode cJ0_init_db425 44 = .ok (.ifCond .eq 35, 3) := by decide +kernel
theorem dJ0_init_db425_47 : decode cJ0_init_db425 47 = .ok (.aload_n 1, 1) := by decide +kernel
theorem dJ0_init_db425_48 : decode cJ0_init_db425 48 = .ok (.getfield 1048, 3) := by decide +kernel
theorem dJ0_init_db425_51 : decode cJ0_init_db425 51 = .ok (.ifCond .eq 28, 3) := by decide +kernel
theorem dJ0_init_db425_54 : decode cJ0_init_db425 54 = .ok (.aload_n 0, 1) := by decide +kernel
theorem dJ0_init_db425_55 : decode cJ0_init_db425 55 = .ok (.aload_n 3, 1) := by decide +kernel
theorem dJ0_init_db425_56 : decode cJ0_init_db425 56 = .ok (.iconst 0, 1) := by decide +kernel
theorem dJ0_init_db425_57 : decode cJ0_init_db425 57 = .ok (.iload 4, 2) := by decide +kernel
theorem dJ0_init_db425_59 : decode cJ0_init_db425 59 = .ok (.invokestatic 1051, 3) := by decide +kernel
theorem dJ0_init_db425_62 : decode cJ0_init_db425 62 = .ok (.putfield 9, 3) := by decide +kernel
theorem dJ0_init_db425_65 : decode cJ0_init_db425 65 = .ok (.aload_n 0, 1) := by decide +kernel
theorem dJ0_init_db425_66 : decode cJ0_init_db425 66 = .ok (.aload_n 0, 1) := by decide +kernel
theorem dJ0_init_db425_67 : decode cJ0_init_db425 67 = .ok (.getfield 9, 3) := by decide +kernel
theorem dJ0_init_db425_70 : decode cJ0_init_db425 70 = .ok (.iload 4, 2) := by decide +kernel
theorem dJ0_init_db425_72 : decode cJ0_init_db425 72 = .ok (.invokestatic 47, 3) := by decide +kernel
theorem dJ0_init_db425_75 : decode cJ0_init_db425 75 = .ok (.putfield 15, 3) := by decide +kernel
theorem dJ0_init_db425_78 : decode cJ0_init_db425 78 = .ok (.return_, 1) := by decide +kernel
theorem dJ0_init_db425_79 : decode cJ0_init_db425 79 = .ok (.aload_n 0, 1) := by decide +kernel
theorem dJ0_init_db425_80 : decode cJ0_init_db425 80 = .ok (.iconst 1, 1) := by decide +kernel
theorem dJ0_init_db425_81 : decode cJ0_init_db425 81 = .ok (.putfield 15, 3) := by decide +kernel
theorem dJ0_init_db425_84 : decode cJ0_init_db425 84 = .ok (.aload_n 0, 1) := by decide +kernel
theorem dJ0_init_db425_85 : decode cJ0_init_db425 85 = .ok (.aload_n 3, 1) := by decide +kernel
theorem dJ0_init_db425_86 : decode cJ0_init_db425 86 = .ok (.iconst 0, 1) := by decide +kernel
theorem dJ0_init_db425_87 : decode cJ0_init_db425 87 = .ok (.iload 4, 2) := by decide +kernel
theorem dJ0_init_db425_89 : decode cJ0_init_db425 89 = .ok (.iconst 1, 1) := by decide +kernel
theorem dJ0_init_db425_90 : decode cJ0_init_db425 90 = .ok (.ishl, 1) := by decide +kernel
theorem dJ0_init_db425_91 : decode cJ0_init_db425 91 = .ok (.invokestatic 54, 3) := by decide +kernel
theorem dJ0_init_db425_94 : decode cJ0_init_db425 94 = .ok (.putfield 9, 3) := by decide +kernel
theorem dJ0_init_db425_97 : decode cJ0_init_db425 97 = .ok (.return_, 1) := by decide +kernel
theorem wd344 : Cond.code yJ0_init_db425 cJ0_init_db425 5 none ∈ gW := gW_in 344 (by decide +kernel) (by decide +kernel)
theorem mvJ0_init_db425 : MV yJ0_init_db425 cJ0_init_db425 5 none 2 := ⟨wd344, wd35, by decide +kernel, by decide +kernel, by decide +kernel, by decide⟩
theorem wd343 : Cond.instanceMethod yJ0_init_db425 ∈ gW := gW_in 343 (by decide +kernel) (by decide +kernel)
theorem wd342 : Cond.methodLink RJ0 489 yJ0_init_db425 ∈ gW := gW_in 342 (by decide +kernel) (by decide +kernel)
theorem dJ0_init_81219_0 : decode cJ0_init_81219 0 = .ok (.aload_n 0, 1) := by decide +kernel
theorem dJ0_init_81219_1 : decode cJ0_init_81219 1 = .ok (.aload_n 1, 1) := by decide +kernel
theorem dJ0_init_81219_2 : decode cJ0_init_81219 2 = .ok (.aconst_null, 1) := by decide +kernel
theorem dJ0_init_81219_3 : decode cJ0_init_81219 3 = .ok (.invokespecial 489, 3) := by decide +kernel
theorem dJ0_init_81219_6 : decode cJ0_init_81219 6 = .ok (.return_, 1) := by decide +kernel
theorem wd337 : Cond.classLink RJ4 18 RJ0 ∈ gW := gW_in 337 (by decide +kernel) (by decide +kernel)
theorem wd338 : Cond.instantiable RJ0 4 ∈ gW := gW_in 338 (by decide +kernel) (by decide +kernel)
theorem hd13 {ad : Nat → Nat} : ∀ j, j < 4 → gm_val ad (gm_fty 13 j) (if gm_fty 13 j = 3 then -1 else 0) none = defaultValue (tyJ0 j)
  | 0, _ => rfl
  | 1, _ => rfl
  | 2, _ => rfl
  | 3, _ => rfl
  | j + 4, h => absurd h (by omega)
theorem wd341 : Cond.code yJ0_init_81219 cJ0_init_81219 2 none ∈ gW := gW_in 341 (by decide +kernel) (by decide +kernel)
theorem mvJ0_init_81219 : MV yJ0_init_81219 cJ0_init_81219 2 none 1 := ⟨wd341, wd35, by decide +kernel, by decide +kernel, by decide +kernel, by decide⟩
theorem wd340 : Cond.instanceMethod yJ0_init_81219 ∈ gW := gW_in 340 (by decide +kernel) (by decide +kernel)
theorem wd339 : Cond.methodLink RJ4 137 yJ0_init_81219 ∈ gW := gW_in 339 (by decide +kernel) (by decide +kernel)
theorem dJ4_toString_0e30d_0 : decode cJ4_toString_0e30d 0 = .ok (.new 18, 3) := by decide +kernel
theorem dJ4_toString_0e30d_3 : decode cJ4_toString_0e30d 3 = .ok (.dup, 1) := by decide +kernel
theorem dJ4_toString_0e30d_4 : decode cJ4_toString_0e30d 4 = .ok (.aload_n 0, 1) := by decide +kernel
theorem dJ4_toString_0e30d_5 : decode cJ4_toString_0e30d 5 = .ok (.invokespecial 137, 3) := by decide +kernel
theorem dJ4_toString_0e30d_8 : decode cJ4_toString_0e30d 8 = .ok (.areturn, 1) := by decide +kernel
def fJ5_getValue_6d5f1 (ad S Ln : Nat → Nat) (R : gR) (M : gM) (a0 : Nat) : Option Nat :=
  rf S (R a0 0) 23 fun b1 => some (b1)
theorem xJ5_getValue_6d5f1 {l : Launch} {G : gE} {sz : Nat} {S Ln : Nat → Nat} {M : gM} {R : gR} (hl : l.stackTraces = false) {a0 : Nat} (hs0 : S a0 = 2) {r : Nat} (h : fJ5_getValue_6d5f1 G.2.2.2.2 S Ln R M a0 = some r) : Ct l G yJ5_getValue_6d5f1 cJ5_getValue_6d5f1 1 (some (.array .byte)) 1 0 0 [.ref a0] sz S Ln M R (poA 23 r sz S Ln (M) R) noX := by
  refine jj_start (own := RJ5) (lv0 := [(0, .ref a0)]) hl (by decide +kernel) rfl rfl (c_le rfl) (fun C hCl hC => ?_)
  unfold fJ5_getValue_6d5f1 at h
  refine jj_aload_n hC dJ5_getValue_6d5f1_0 rfl 0 rfl ?_
  obtain ⟨b1, hb1, hs1, h⟩ := rf_e h
  refine jg_R hC kfJ4 0 rfl hs0 (by decide) wd174 rfl hb1 dJ5_getValue_6d5f1_1 ?_
  cases h
  exact jj_aret hC rfl (Or.inr ⟨_, rfl⟩) (c_le rfl) (c_le rfl) dJ5_getValue_6d5f1_4 ⟨rfl, hs1, rfl, rfl, rfl, rfl, rfl⟩
def fJ7_checkLength_df160 (ad S Ln : Nat → Nat) (R : gR) (M : gM) (x0 : Int) (x1 : Int) : Option Unit :=
  if x0 ≤ x1 then (some (())) else (none)
theorem xJ7_checkLength_df160 {l : Launch} {G : gE} {sz : Nat} {S Ln : Nat → Nat} {M : gM} {R : gR} (hl : l.stackTraces = false) {x0 : Int} (hp0 : (-2147483648 ≤ x0 ∧ x0 < 2147483648)) {x1 : Int} (hp1 : (-2147483648 ≤ x1 ∧ x1 < 2147483648)) {r : Unit} (h : fJ7_checkLength_df160 G.2.2.2.2 S Ln R M x0 x1 = some r) : Ct l G yJ7_checkLength_df160 cJ7_checkLength_df160 2 none 1 0 0 [.int (iI x0), .int (iI x1)] sz S Ln M R (poV sz S Ln (M) R) noX := by
  refine jj_start (own := RJ7) (lv0 := [(0, .int (iI x0)), (1, .int (iI x1))]) hl (by decide +kernel) rfl rfl (c_le rfl) (fun C hCl hC => ?_)
  unfold fJ7_checkLength_df160 at h
  refine jj_iload_n hC dJ7_checkLength_df160_0 rfl 1 rfl ?_
  refine jj_iload_n hC dJ7_checkLength_df160_1 rfl 0 rfl ?_
  refine jj_icmp_ge (tgt := 37) hC dJ7_checkLength_df160_2 rfl hp1 hp0 (fun hc => ?_) (fun hc => ?_)
  · replace h := (if_pos hc).symm.trans h
    cases h
    exact jj_vret hC (c_le rfl) (c_le rfl) dJ7_checkLength_df160_37 ⟨rfl, trivial, rfl, rfl, rfl, rfl, rfl⟩
  · replace h := (if_neg (Int.not_le.mpr hc)).symm.trans h
    cases h
def fJ7_copyOfRangeByte_39247 (ad : Nat → Nat) (sz : Nat) (S Ln : Nat → Nat) (R : gR) (M : gM) (x0 : Nat) (x1 : Int) (x2 : Int) : Option (Nat × Nat × (Nat → Nat) × (Nat → Nat) × gM × gR) :=
  bd (fJ7_checkLength_df160 ad S Ln R M x1 x2) fun q1 => gd ((0 : Int) ≤ (w32 (x2 - x1)) ∧ (w32 (x2 - x1)) ≤ 256) (nam (ua S sz 23) fun S2 => nam (ua Ln sz (w32 (x2 - x1)).toNat) fun Ln2 => nam (ua M sz (fun _ => 0)) fun M2 => nam (ua R sz (fun _ => none)) fun R2 => gd ((0 : Int) ≤ x1 ∧ (0 : Int) ≤ 0 ∧ (0 : Int) ≤ (i_min (w32 ((Ln2 x0 : Int) - x1)) (w32 (x2 - x1))) ∧ x1 + (i_min (w32 ((Ln2 x0 : Int) - x1)) (w32 (x2 - x1))) ≤ (Ln2 x0 : Int) ∧ 0 + (i_min (w32 ((Ln2 x0 : Int) - x1)) (w32 (x2 - x1))) ≤ (Ln2 sz : Int)) (nam (i_cpy M2 x0 sz x1 0 (i_min (w32 ((Ln2 x0 : Int) - x1)) (w32 (x2 - x1)))) fun M4 => some ((sz, sz + 1, S2, Ln2, M4, R2))))
theorem xJ7_copyOfRangeByte_39247 {l : Launch} {G : gE} {sz : Nat} {S Ln : Nat → Nat} {M : gM} {R : gR} (hl : l.stackTraces = false) {x0 : Nat} (hp0 : S x0 = 23) {x1 : Int} (hp1 : (-2147483648 ≤ x1 ∧ x1 < 2147483648)) {x2 : Int} (hp2 : (-2147483648 ≤ x2 ∧ x2 < 2147483648)) {r : Nat × Nat × (Nat → Nat) × (Nat → Nat) × gM × gR} (h : fJ7_copyOfRangeByte_39247 G.2.2.2.2 sz S Ln R M x0 x1 x2 = some r) : Ct l G yJ7_copyOfRangeByte_39247 cJ7_copyOfRangeByte_39247 5 (some (.array .byte)) 2 1 256 [.ref x0, .int (iI x1), .int (iI x2)] sz S Ln M R (poX (poA 23 r.1 (r.2.1) (r.2.2.1) (r.2.2.2.1) (r.2.2.2.2.1) (r.2.2.2.2.2)) (Ext sz S Ln (r.2.1) (r.2.2.1) (r.2.2.2.1))) noX := by
  refine jj_start (own := RJ7) (lv0 := [(0, .ref x0), (1, .int (iI x1)), (2, .int (iI x2))]) hl (by decide +kernel) rfl rfl (c_le rfl) (fun C hCl hC => ?_)
  unfold fJ7_copyOfRangeByte_39247 at h
  refine jj_iload_n hC dJ7_copyOfRangeByte_39247_0 rfl 1 rfl ?_
  refine jj_iload_n hC dJ7_copyOfRangeByte_39247_1 rfl 2 rfl ?_
  obtain ⟨q1, hq1, h⟩ := bd_e h
  refine jj_invS hC mvJ7_checkLength_df160 wd367 wd366 (xJ7_checkLength_df160 (OKC.tr hC) hp1 hp2 hq1) rfl rfl (c_le rfl) (c_le rfl) (by omega) (by omega) dJ7_copyOfRangeByte_39247_2 noXk (po_kV ?_)
  refine jj_iload_n hC dJ7_copyOfRangeByte_39247_5 rfl 2 rfl ?_
  refine jj_iload_n hC dJ7_copyOfRangeByte_39247_6 rfl 1 rfl ?_
  refine jg_isub hC dJ7_copyOfRangeByte_39247_7 ?_
  refine jj_istore_n (lv' := [(3, .int (iI (w32 (x2 - x1)))), (0, .ref x0), (1, .int (iI x1)), (2, .int (iI x2))]) hC dJ7_copyOfRangeByte_39247_8 rfl (by decide) rfl ?_
  refine jj_iload_n hC dJ7_copyOfRangeByte_39247_9 rfl 0 rfl ?_
  obtain ⟨⟨ha2, hb2⟩, h⟩ := gd_e h
  obtain ⟨S2, hS92, h⟩ := nam_e h
  obtain ⟨Ln2, hLn92, h⟩ := nam_e h
  obtain ⟨M2, hM92, h⟩ := nam_e h
  obtain ⟨R2, hR92, h⟩ := nam_e h
  refine jj_newB hC wd142 ha2 hb2 (by omega) (by omega) dJ7_copyOfRangeByte_39247_10 (fun hx2 => ?_)
  rw [hS92, hLn92] at hx2
  refine jj_mem hS92 hLn92 hM92 hR92 ?_
  refine jj_widen (k' := 1) (n' := 256) (by omega) (by omega) ?_
  refine jj_astore (lv' := [(4, .ref sz), (3, .int (iI (w32 (x2 - x1)))), (0, .ref x0), (1, .int (iI x1)), (2, .int (iI x2))]) hC dJ7_copyOfRangeByte_39247_12 (by decide) rfl ?_
  refine jj_aload_n hC dJ7_copyOfRangeByte_39247_14 rfl 2 rfl ?_
  refine jj_iload_n hC dJ7_copyOfRangeByte_39247_15 rfl 3 rfl ?_
  refine jj_aload hC dJ7_copyOfRangeByte_39247_16 0 rfl ?_
  refine jj_iconst hC dJ7_copyOfRangeByte_39247_18 ?_
  refine jj_aload_n hC dJ7_copyOfRangeByte_39247_19 rfl 2 rfl ?_
  refine jj_alen hC (ext_s hx2 hp0 (by decide)) 3 (by decide) rfl dJ7_copyOfRangeByte_39247_20 (fun hr3 => ?_)
  refine jj_iload_n hC dJ7_copyOfRangeByte_39247_21 rfl 3 rfl ?_
  refine jg_isub hC dJ7_copyOfRangeByte_39247_22 ?_
  refine jj_iload_n hC dJ7_copyOfRangeByte_39247_23 rfl 1 rfl ?_
  refine jj_mmin hC (w32_r _) (w32_r _) wd228 wd229 wd47 wd230 (c_le rfl) (c_le rfl) (by omega) (by omega) dJ7_copyOfRangeByte_39247_24 ?_
  obtain ⟨⟨ha4, hb4, hc4, hd4, he4⟩, h⟩ := gd_e h
  obtain ⟨M4, hM4, h⟩ := nam_e h
  refine jj_copyB hC (ext_s hx2 hp0 (by decide)) (show S2 sz = 23 by rw [← hS92]; exact ua_s) ha4 hb4 hc4 hd4 he4 wd231 wd233 wd232 wd45 (c_le rfl) (c_le rfl) dJ7_copyOfRangeByte_39247_27 (jj_M hM4 ?_)
  refine jj_aload hC dJ7_copyOfRangeByte_39247_30 0 rfl ?_
  cases h
  exact jj_aret hC rfl (Or.inr ⟨_, rfl⟩) (by omega) (by omega) dJ7_copyOfRangeByte_39247_32 ⟨⟨rfl, (show S2 sz = 23 by rw [← hS92]; exact ua_s), rfl, rfl, rfl, rfl, rfl⟩, hx2⟩
def fJ7_copyOfRange_39247_B10 (ad : Nat → Nat) (sz10 : Nat) (S10 Ln10 : Nat → Nat) (R10 : gR) (M10 : gM) (l0_10 : Nat) (l1_10 : Int) (l2_10 : Int) : Option (Nat × Nat × (Nat → Nat) × (Nat → Nat) × gM × gR) :=
  bd (fJ7_copyOfRangeByte_39247 ad sz10 S10 Ln10 R10 M10 l0_10 l1_10 l2_10) fun q1 => some ((q1.1, q1.2.1, q1.2.2.1, q1.2.2.2.1, q1.2.2.2.2.1, q1.2.2.2.2.2))
def fJ7_copyOfRange_39247 (ad : Nat → Nat) (sz : Nat) (S Ln : Nat → Nat) (R : gR) (M : gM) (x0 : Nat) (x1 : Int) (x2 : Int) : Option (Nat × Nat × (Nat → Nat) × (Nat → Nat) × gM × gR) :=
  if ¬ x1 = 0 then (fJ7_copyOfRange_39247_B10 ad sz S Ln R M x0 x1 x2) else (if x2 = (Ln x0 : Int) then (none) else (fJ7_copyOfRange_39247_B10 ad sz S Ln R M x0 x1 x2))
theorem xJ7_copyOfRange_39247 {l : Launch} {G : gE} {sz : Nat} {S Ln : Nat → Nat} {M : gM} {R : gR} (hl : l.stackTraces = false) {x0 : Nat} (hp0 : S x0 = 23) {x1 : Int} (hp1 : (-2147483648 ≤ x1 ∧ x1 < 2147483648)) {x2 : Int} (hp2 : (-2147483648 ≤ x2 ∧ x2 < 2147483648)) {r : Nat × Nat × (Nat → Nat) × (Nat → Nat) × gM × gR} (h : fJ7_copyOfRange_39247 G.2.2.2.2 sz S Ln R M x0 x1 x2 = some r) : Ct l G yJ7_copyOfRange_39247 cJ7_copyOfRange_39247 3 (some (.array .byte)) 3 1 256 [.ref x0, .int (iI x1), .int (iI x2)] sz S Ln M R (poX (poA 23 r.1 (r.2.1) (r.2.2.1) (r.2.2.2.1) (r.2.2.2.2.1) (r.2.2.2.2.2)) (Ext sz S Ln (r.2.1) (r.2.2.1) (r.2.2.2.1))) noX := by
  refine jj_start (own := RJ7) (lv0 := [(0, .ref x0), (1, .int (iI x1)), (2, .int (iI x2))]) hl (by decide +kernel) rfl rfl (c_le rfl) (fun C hCl hC => ?_)
  have hB10 : ∀ (sz10 : Nat) (S10 : (Nat → Nat)) (Ln10 : (Nat → Nat)) (M10 : gM) (R10 : gR) (l0_10 : Nat) (l1_10 : Int) (l2_10 : Int), Ext sz S Ln sz10 S10 Ln10 → S10 l0_10 = 23 → (-2147483648 ≤ l1_10 ∧ l1_10 < 2147483648) → (-2147483648 ≤ l2_10 ∧ l2_10 < 2147483648) → fJ7_copyOfRange_39247_B10 G.2.2.2.2 sz10 S10 Ln10 R10 M10 l0_10 l1_10 l2_10 = some r → JJ G C 0 0 sz10 S10 Ln10 M10 R10 10 [(0, .ref l0_10), (1, .int (iI l1_10)), (2, .int (iI l2_10))] [] := by
    intro sz10 S10 Ln10 M10 R10 l0_10 l1_10 l2_10 hx10 hl0_10 hl1_10 hl2_10 h
    unfold fJ7_copyOfRange_39247_B10 at h
    refine jj_aload_n hC dJ7_copyOfRange_39247_10 rfl 0 rfl ?_
    refine jj_iload_n hC dJ7_copyOfRange_39247_11 rfl 1 rfl ?_
    refine jj_iload_n hC dJ7_copyOfRange_39247_12 rfl 2 rfl ?_
    obtain ⟨q1, hq1, h⟩ := bd_e h
    refine jj_invS hC mvJ7_copyOfRangeByte_39247 wd364 wd363 (xJ7_copyOfRangeByte_39247 (OKC.tr hC) hl0_10 hl1_10 hl2_10 hq1) rfl rfl (c_le rfl) (c_le rfl) (by omega) (by omega) dJ7_copyOfRange_39247_13 noXk (poX_k (fun hx1 => po_kA (fun hr1 => ?_)))
    refine jj_widen (k' := 1) (n' := 256) (by omega) (by omega) ?_
    cases h
    exact jj_aret hC rfl (Or.inr ⟨_, rfl⟩) (by omega) (by omega) dJ7_copyOfRange_39247_16 ⟨⟨rfl, hr1, rfl, rfl, rfl, rfl, rfl⟩, (ext_t hx10 hx1)⟩
  unfold fJ7_copyOfRange_39247 at h
  refine jj_iload_n hC dJ7_copyOfRange_39247_0 rfl 1 rfl ?_
  refine jj_if_ne (tgt := 10) hC dJ7_copyOfRange_39247_1 rfl hp1 (fun hc => ?_) (fun hc => ?_)
  · replace h := (if_pos hc).symm.trans h
    refine jj_widen (k' := 0) (n' := 0) (by omega) (by omega) ?_
    refine jj_lv (lv' := [(0, .ref x0), (1, .int (iI x1)), (2, .int (iI x2))]) [0, 1, 2] rfl ?_
    exact hB10 sz S Ln M R x0 x1 x2 ext_r hp0 hp1 hp2 h
  · replace h := (if_neg (fun k => k hc)).symm.trans h
    refine jj_iload_n hC dJ7_copyOfRange_39247_4 rfl 2 rfl ?_
    refine jj_aload_n hC dJ7_copyOfRange_39247_5 rfl 0 rfl ?_
    refine jj_alen hC hp0 3 (by decide) rfl dJ7_copyOfRange_39247_6 (fun hr2 => ?_)
    refine jj_icmp_eq (tgt := 17) hC dJ7_copyOfRange_39247_7 rfl hp2 (r_ln hr2) (fun hc => ?_) (fun hc => ?_)
    · replace h := (if_pos hc).symm.trans h
      cases h
    · replace h := (if_neg (hc)).symm.trans h
      refine jj_widen (k' := 0) (n' := 0) (by omega) (by omega) ?_
      refine jj_lv (lv' := [(0, .ref x0), (1, .int (iI x1)), (2, .int (iI x2))]) [0, 1, 2] rfl ?_
      exact hB10 sz S Ln M R x0 x1 x2 ext_r hp0 hp1 hp2 h
def fJ0_init_db425 (ad : Nat → Nat) (sz : Nat) (S Ln : Nat → Nat) (R : gR) (M : gM) (a0 : Nat) (x1 : Nat) : Option (Nat × (Nat → Nat) × (Nat → Nat) × gM × gR) :=
  bd (fJ5_getValue_6d5f1 ad S Ln R M x1) fun q1 => bd (fJ4_length_8abf5 ad S Ln R M x1) fun q2 => bd (fJ5_isLatin1_aae02 ad S Ln R M x1) fun q3 => if q3 = 0 then (none) else (nam (wr M a0 1 0) fun M4 => bd (fJ7_copyOfRange_39247 ad sz S Ln R M4 q1 0 q2) fun q5 => nam (wrR q5.2.2.2.2.2 a0 0 (some q5.1)) fun R6 => some ((q5.2.1, q5.2.2.1, q5.2.2.2.1, q5.2.2.2.2.1, R6)))
theorem xJ0_init_db425 {l : Launch} {G : gE} {sz : Nat} {S Ln : Nat → Nat} {M : gM} {R : gR} (hl : l.stackTraces = false) {a0 : Nat} (hs0 : S a0 = 13) {x1 : Nat} (hp1 : S x1 = 2) {r : Nat × (Nat → Nat) × (Nat → Nat) × gM × gR} (h : fJ0_init_db425 G.2.2.2.2 sz S Ln R M a0 x1 = some r) : Ct l G yJ0_init_db425 cJ0_init_db425 5 none 4 1 256 [.ref a0, .ref x1, .null] sz S Ln M R (poX (poV (r.1) (r.2.1) (r.2.2.1) (r.2.2.2.1) (r.2.2.2.2)) (Ext sz S Ln (r.1) (r.2.1) (r.2.2.1))) noX := by
  refine jj_startI (own := RJ0) (lv0 := [(0, .ref a0), (1, .ref x1), (2, .null)]) hl (by decide +kernel) rfl rfl rfl (c_le rfl) (fun C hCl hC hInm => ?_)
  unfold fJ0_init_db425 at h
  refine jj_aload_n hC dJ0_init_db425_0 rfl 0 rfl ?_
  refine jj_objInit hC wd345 wd95 wd96 (c_le rfl) (c_le rfl) dJ0_init_db425_1 ?_
  refine jj_aload_n hC dJ0_init_db425_4 rfl 1 rfl ?_
  obtain ⟨q1, hq1, h⟩ := bd_e h
  refine jj_invVC hC mvJ5_getValue_6d5f1 wd347 (fun _ _ hw _ => hw _ wd349) wd346 hp1 (by decide) rfl (xJ5_getValue_6d5f1 (OKC.tr hC) hp1 hq1) rfl rfl (c_le rfl) (c_le rfl) (by omega) (by omega) dJ0_init_db425_5 noXk (po_kA (fun hr1 => ?_))
  refine jj_astore_n (lv' := [(3, .ref q1), (0, .ref a0), (1, .ref x1), (2, .null)]) hC dJ0_init_db425_8 rfl (by decide) rfl ?_
  refine jj_aload_n hC dJ0_init_db425_9 rfl 2 rfl ?_
  obtain ⟨q2, hq2, h⟩ := bd_e h
  refine jj_invVO hC mvJ4_length_8abf5 wd355 wd352 wd353 wd354 wd358 (by decide +kernel) wd351 hp1 (by decide) rfl (xJ4_length_8abf5 (OKC.tr hC) hp1 hq2) rfl rfl (c_le rfl) (c_le rfl) (by omega) (by omega) dJ0_init_db425_10 (po_kI (fun hr2 => ?_))
  refine jj_istore (lv' := [(4, .int (iI q2)), (3, .ref q1), (0, .ref a0), (1, .ref x1), (2, .null)]) hC dJ0_init_db425_13 (by decide) rfl ?_
  refine jj_aload_n hC dJ0_init_db425_15 rfl 3 rfl ?_
  obtain ⟨q3, hq3, h⟩ := bd_e h
  refine jj_invVC hC mvJ5_isLatin1_aae02 wd235 (fun _ _ hw _ => hw _ wd237) wd359 hp1 (by decide) rfl (xJ5_isLatin1_aae02 (OKC.tr hC) hp1 hq3) rfl rfl (c_le rfl) (c_le rfl) (by omega) (by omega) dJ0_init_db425_16 noXk (po_kZ (fun hr3 => ?_))
  refine jj_if_eq (tgt := 41) hC dJ0_init_db425_19 rfl (r_z hr3) (fun hc => ?_) (fun hc => ?_)
  · replace h := (if_pos hc).symm.trans h
    cases h
  · replace h := (if_neg (hc)).symm.trans h
    refine jj_aload_n hC dJ0_init_db425_22 rfl 2 rfl ?_
    refine jj_iconst hC dJ0_init_db425_23 ?_
    obtain ⟨M4, hM4, h⟩ := nam_e h
    refine jp_BF hC kfJ0m 1 rfl hs0 rfl (by decide) wd404 rfl hInm rfl rfl rfl (show (-128 ≤ (0 : Int) ∧ (0 : Int) < 128) from by decide) dJ0_init_db425_24 (jj_M hM4 ?_)
    refine jj_aload_n hC dJ0_init_db425_27 rfl 2 rfl ?_
    refine jj_aload_n hC dJ0_init_db425_28 rfl 1 rfl ?_
    refine jj_iconst hC dJ0_init_db425_29 ?_
    refine jj_iload hC dJ0_init_db425_30 0 rfl ?_
    obtain ⟨q5, hq5, h⟩ := bd_e h
    refine jj_invS hC mvJ7_copyOfRange_39247 wd361 wd360 (xJ7_copyOfRange_39247 (OKC.tr hC) hr1 (show (-2147483648 ≤ (0 : Int) ∧ (0 : Int) < 2147483648) from by decide) hr2 hq5) rfl rfl (c_le rfl) (c_le rfl) (by omega) (by omega) dJ0_init_db425_32 noXk (poX_k (fun hx5 => po_kA (fun hr5 => ?_)))
    refine jj_widen (k' := 1) (n' := 256) (by omega) (by omega) ?_
    obtain ⟨R6, hR96, h⟩ := nam_e h
    refine jj_putFRq hC kfJ0m 0 rfl (ext_s hx5 hs0 (by decide)) rfl (by decide) wd403 rfl hInm rfl rfl rfl rfl rfl dJ0_init_db425_35 (jj_R hR96 ?_)
    refine jj_goto (tgt := 97) hC dJ0_init_db425_38 rfl ?_
    cases h
    exact jj_vret hC (by omega) (by omega) dJ0_init_db425_97 ⟨⟨rfl, trivial, rfl, rfl, rfl, rfl, rfl⟩, hx5⟩
def fJ0_init_81219 (ad : Nat → Nat) (sz : Nat) (S Ln : Nat → Nat) (R : gR) (M : gM) (a0 : Nat) (x1 : Nat) : Option (Nat × (Nat → Nat) × (Nat → Nat) × gM × gR) :=
  bd (fJ0_init_db425 ad sz S Ln R M a0 x1) fun q1 => some ((q1.1, q1.2.1, q1.2.2.1, q1.2.2.2.1, q1.2.2.2.2))
theorem xJ0_init_81219 {l : Launch} {G : gE} {sz : Nat} {S Ln : Nat → Nat} {M : gM} {R : gR} (hl : l.stackTraces = false) {a0 : Nat} (hs0 : S a0 = 13) {x1 : Nat} (hp1 : S x1 = 2) {r : Nat × (Nat → Nat) × (Nat → Nat) × gM × gR} (h : fJ0_init_81219 G.2.2.2.2 sz S Ln R M a0 x1 = some r) : Ct l G yJ0_init_81219 cJ0_init_81219 2 none 5 1 256 [.ref a0, .ref x1] sz S Ln M R (poX (poV (r.1) (r.2.1) (r.2.2.1) (r.2.2.2.1) (r.2.2.2.2)) (Ext sz S Ln (r.1) (r.2.1) (r.2.2.1))) noX := by
  refine jj_startI (own := RJ0) (lv0 := [(0, .ref a0), (1, .ref x1)]) hl (by decide +kernel) rfl rfl rfl (c_le rfl) (fun C hCl hC hInm => ?_)
  unfold fJ0_init_81219 at h
  refine jj_aload_n hC dJ0_init_81219_0 rfl 0 rfl ?_
  refine jj_aload_n hC dJ0_init_81219_1 rfl 1 rfl ?_
  refine jj_anull hC dJ0_init_81219_2 ?_
  obtain ⟨q1, hq1, h⟩ := bd_e h
  refine jj_invI hC mvJ0_init_db425 rfl wd343 wd342 (xJ0_init_db425 (OKC.tr hC) hs0 hp1 hq1) rfl rfl (c_le rfl) (c_le rfl) (by omega) (by omega) dJ0_init_81219_3 (poX_k (fun hx1 => po_kV ?_))
  refine jj_widen (k' := 1) (n' := 256) (by omega) (by omega) ?_
  cases h
  exact jj_vret hC (by omega) (by omega) dJ0_init_81219_6 ⟨⟨rfl, trivial, rfl, rfl, rfl, rfl, rfl⟩, hx1⟩
def fJ4_toString_0e30d (ad : Nat → Nat) (sz : Nat) (S Ln : Nat → Nat) (R : gR) (M : gM) (a0 : Nat) : Option (Nat × Nat × (Nat → Nat) × (Nat → Nat) × gM × gR) :=
  nam (ua S sz 13) fun S1 => nam (ua Ln sz 0) fun Ln1 => nam (ua M sz (gN 13)) fun M1 => nam (ua R sz gNo) fun R1 => bd (fJ0_init_81219 ad (sz + 1) S1 Ln1 R1 M1 sz a0) fun q2 => gd (sz ≤ sz) (rf q2.2.1 (q2.2.2.2.2 sz 0) 23 fun b3 => gd (sz ≤ b3) (nam (ua (ua q2.2.1 sz 1) b3 28) fun S3 => some ((sz, q2.1, S3, q2.2.2.1, q2.2.2.2.1, q2.2.2.2.2))))
theorem xJ4_toString_0e30d {l : Launch} {G : gE} {sz : Nat} {S Ln : Nat → Nat} {M : gM} {R : gR} (hl : l.stackTraces = false) {a0 : Nat} (hs0 : S a0 = 2) {r : Nat × Nat × (Nat → Nat) × (Nat → Nat) × gM × gR} (h : fJ4_toString_0e30d G.2.2.2.2 sz S Ln R M a0 = some r) : Ct l G yJ4_toString_0e30d cJ4_toString_0e30d 1 (some (.object "java/lang/String")) 6 2 512 [.ref a0] sz S Ln M R (poX (poA 1 r.1 (r.2.1) (r.2.2.1) (r.2.2.2.1) (r.2.2.2.2.1) (r.2.2.2.2.2)) (Ext sz S Ln (r.2.1) (r.2.2.1) (r.2.2.2.1))) noX := by
  refine jj_start (own := RJ4) (lv0 := [(0, .ref a0)]) hl (by decide +kernel) rfl rfl (c_le rfl) (fun C hCl hC => ?_)
  refine jj_lt (fun hlt0 => ?_)
  unfold fJ4_toString_0e30d at h
  obtain ⟨S1, hS91, h⟩ := nam_e h
  obtain ⟨Ln1, hLn91, h⟩ := nam_e h
  obtain ⟨M1, hM91, h⟩ := nam_e h
  obtain ⟨R1, hR91, h⟩ := nam_e h
  refine jj_newO hC kfJ0m hd13 wd337 wd338 wd35 (by decide) (by omega) (by omega) dJ4_toString_0e30d_0 (fun hx1 => ?_)
  rw [hS91, hLn91] at hx1
  refine jj_mem hS91 hLn91 hM91 hR91 ?_
  refine jj_widen (k' := 1) (n' := 256) (by omega) (by omega) ?_
  refine jj_dup hC dJ4_toString_0e30d_3 rfl ?_
  refine jj_aload_n hC dJ4_toString_0e30d_4 rfl 0 rfl ?_
  obtain ⟨q2, hq2, h⟩ := bd_e h
  refine jj_invI hC mvJ0_init_81219 rfl wd340 wd339 (xJ0_init_81219 (OKC.tr hC) (show S1 sz = 13 by rw [← hS91]; exact ua_s) (ext_s hx1 hs0 (by decide)) hq2) rfl rfl (c_le rfl) (c_le rfl) (by omega) (by omega) dJ4_toString_0e30d_5 (poX_k (fun hx2 => po_kV ?_))
  refine jj_widen (k' := 2) (n' := 512) (by omega) (by omega) ?_
  obtain ⟨hg3, h⟩ := gd_e h
  obtain ⟨b3, hb3, hs3, h⟩ := rf_e h
  obtain ⟨hk3, h⟩ := gd_e h
  obtain ⟨S3, hS93, h⟩ := nam_e h
  refine jj_frz hC (ext_s hx2 (show S1 sz = 13 by rw [← hS91]; exact ua_s) (by decide)) hs3 hS93 ?_
  cases h
  exact jj_aret hC rfl (Or.inl ⟨_, rfl⟩) (by omega) (by omega) dJ4_toString_0e30d_8 ⟨⟨rfl, (frz_a (ext_s hx2 (show S1 sz = 13 by rw [← hS91]; exact ua_s) (by decide)) hs3 hS93), rfl, rfl, rfl, rfl, rfl⟩, (ext_frz (ext_t hx1 hx2) hlt0 hg3 hk3 hS93)⟩
theorem xX9_append_n {l : Launch} {G : gE} {sz : Nat} {S Ln : Nat → Nat} {M : gM} {R : gR} (hl : l.stackTraces = false) {a0 : Nat} (hs0 : S a0 = 12) {x1 : Int} (hp1 : (0 ≤ x1 ∧ x1 < 65536)) {r : Int × gM} (h : fX9_append G.2.2.2.2 S Ln R M a0 x1 = some (Sum.inl r)) : Ct l G yX9_append cX9_append 2 (some .int) 8 0 0 [.ref a0, .int (iI x1)] sz S Ln M R (poI r.1 sz S Ln (r.2) R) noX := by
  refine jj_start (own := RX9) (lv0 := [(0, .ref a0), (1, .int (iI x1))]) hl (by decide +kernel) rfl rfl (c_le rfl) (fun C hCl hC => ?_)
  unfold fX9_append at h
  refine jj_aload_n hC dX9_append_0 rfl 0 rfl ?_
  obtain ⟨b1, hb1, hs1, h⟩ := rf_e h
  refine jg_R hC kfX9 4 rfl hs0 (by decide) wd1121 rfl hb1 dX9_append_1 ?_
  obtain ⟨q2, hq2, h⟩ := bd_e h
  refine jj_invV hC mvX7_hasRoom wd1303 wd1304 wd1302 hs1 (by decide) rfl (xX7_hasRoom (OKC.tr hC) hs1 hq2) rfl rfl (c_le rfl) (c_le rfl) (c_le rfl) (c_le rfl) dX9_append_4 noXk (po_kZ (fun hr2 => ?_))
  refine jj_if_ne (tgt := 21) hC dX9_append_7 rfl (r_z hr2) (fun hc => ?_) (fun hc => ?_)
  · replace h := (if_pos hc).symm.trans h
    refine jj_aload_n hC dX9_append_21 rfl 0 rfl ?_
    obtain ⟨b3, hb3, hs3, h⟩ := rf_e h
    refine jg_R hC kfX9 4 rfl hs0 (by decide) wd1121 rfl hb3 dX9_append_22 ?_
    refine jj_iload_n hC dX9_append_25 rfl 1 rfl ?_
    obtain ⟨q4, hq4, h⟩ := bd_e h
    refine jj_invV hC mvX7_add wd1308 wd1309 wd1307 hs3 (by decide) rfl (xX7_add (OKC.tr hC) hs3 hp1 hq4) rfl rfl (c_le rfl) (c_le rfl) (c_le rfl) (c_le rfl) dX9_append_26 noXk (po_kI (fun hr4 => ?_))
    cases h
    exact jj_iret hC (c_le rfl) (c_le rfl) dX9_append_29 ⟨rfl, hr4, rfl, rfl, rfl, rfl, rfl⟩
  · replace h := (if_neg (fun k => k hc)).symm.trans h
    cases h
theorem xX9_knownPilot_n {l : Launch} {G : gE} {sz : Nat} {S Ln : Nat → Nat} {M : gM} {R : gR} (hl : l.stackTraces = false) {a0 : Nat} (hs0 : S a0 = 12) {x1 : Int} (hp1 : (-2147483648 ≤ x1 ∧ x1 < 2147483648)) {r : Nat} (h : fX9_knownPilot G.2.2.2.2 S Ln R M a0 x1 = some (Sum.inl r)) : Ct l G yX9_knownPilot cX9_knownPilot 2 (some (.object "GlidingContest$Glider")) 8 0 0 [.ref a0, .int (iI x1)] sz S Ln M R (poA 8 r sz S Ln (M) R) noX := by
  refine jj_start (own := RX9) (lv0 := [(0, .ref a0), (1, .int (iI x1))]) hl (by decide +kernel) rfl rfl (c_le rfl) (fun C hCl hC => ?_)
  unfold fX9_knownPilot at h
  refine jj_aload_n hC dX9_knownPilot_0 rfl 0 rfl ?_
  obtain ⟨b1, hb1, hs1, h⟩ := rf_e h
  refine jg_R hC kfX9 0 rfl hs0 (by decide) wd1117 rfl hb1 dX9_knownPilot_1 ?_
  refine jj_iload_n hC dX9_knownPilot_4 rfl 1 rfl ?_
  obtain ⟨q2, hq2, h⟩ := bd_e h
  refine jj_invV hC mvX8_hasPilot wd66 wd67 wd65 hs1 (by decide) rfl (xX8_hasPilot (OKC.tr hC) hs1 hp1 hq2) rfl rfl (c_le rfl) (c_le rfl) (c_le rfl) (c_le rfl) dX9_knownPilot_5 noXk (po_kZ (fun hr2 => ?_))
  refine jj_if_ne (tgt := 22) hC dX9_knownPilot_8 rfl (r_z hr2) (fun hc => ?_) (fun hc => ?_)
  · replace h := (if_pos hc).symm.trans h
    refine jj_aload_n hC dX9_knownPilot_22 rfl 0 rfl ?_
    obtain ⟨b3, hb3, hs3, h⟩ := rf_e h
    refine jg_R hC kfX9 0 rfl hs0 (by decide) wd1117 rfl hb3 dX9_knownPilot_23 ?_
    obtain ⟨b4, hb4, hs4, h⟩ := rf_e h
    refine jg_R hC kfX8 3 rfl hs3 (by decide) wd1043 rfl hb4 dX9_knownPilot_26 ?_
    refine jj_iload_n hC dX9_knownPilot_29 rfl 1 rfl ?_
    obtain ⟨⟨ha5, hb5⟩, h⟩ := gd_e h
    obtain ⟨b5, hd5, hs5, h⟩ := rf_e h
    refine jj_aald hC hs4 (by decide) ha5 hb5 hd5 dX9_knownPilot_30 ?_
    cases h
    exact jj_aret hC rfl (Or.inl ⟨_, rfl⟩) (c_le rfl) (c_le rfl) dX9_knownPilot_31 ⟨rfl, hs5, rfl, rfl, rfl, rfl, rfl⟩
  · replace h := (if_neg (fun k => k hc)).symm.trans h
    cases h
theorem xX9_isFlying_n {l : Launch} {G : gE} {sz : Nat} {S Ln : Nat → Nat} {M : gM} {R : gR} (hl : l.stackTraces = false) {a0 : Nat} (hs0 : S a0 = 12) {x1 : Int} (hp1 : (-2147483648 ≤ x1 ∧ x1 < 2147483648)) {r : Int} (h : fX9_isFlying G.2.2.2.2 S Ln R M a0 x1 = some (Sum.inl r)) : Ct l G yX9_isFlying cX9_isFlying 2 (some .boolean) 9 0 0 [.ref a0, .int (iI x1)] sz S Ln M R (poZ r sz S Ln (M) R) noX := by
  refine jj_start (own := RX9) (lv0 := [(0, .ref a0), (1, .int (iI x1))]) hl (by decide +kernel) rfl rfl (c_le rfl) (fun C hCl hC => ?_)
  unfold fX9_isFlying at h
  refine jj_aload_n hC dX9_isFlying_0 rfl 0 rfl ?_
  refine jj_iload_n hC dX9_isFlying_1 rfl 1 rfl ?_
  obtain ⟨q1, hq1, h⟩ := bd_e h
  obtain ⟨v1, hv1, h⟩ := el_m h
  subst hv1
  refine jj_invV hC mvX9_knownPilot wd62 wd0 wd60 hs0 (by decide) rfl (xX9_knownPilot_n (OKC.tr hC) hs0 hp1 hq1) rfl rfl (c_le rfl) (c_le rfl) (c_le rfl) (c_le rfl) dX9_isFlying_2 noXk (po_kA (fun hr1 => ?_))
  obtain ⟨hg2, h⟩ := gd_e h
  refine jg_E hC kfX3 1 rfl hr1 (by decide) wd994 rfl hg2 dX9_isFlying_5 (fun hr2 => ?_)
  refine jg_s (j := 1) hC 1 rfl rfl wd823 dX9_isFlying_8 ?_
  refine jg_acmp_ne (tgt := 18) hC dX9_isFlying_11 rfl ⟨hg2, hr2⟩ (show (0 ≤ (1 : Int) ∧ (1 : Int) < 9) from by decide) (fun hc => ?_) (fun hc => ?_)
  · replace h := (if_pos hc).symm.trans h
    refine jj_iconst hC dX9_isFlying_18 ?_
    cases h
    exact jj_zret hC (show (0 ≤ (0 : Int) ∧ (0 : Int) ≤ 1) from by decide) (c_le rfl) (c_le rfl) dX9_isFlying_19 ⟨rfl, (show (0 ≤ (0 : Int) ∧ (0 : Int) ≤ 1) from by decide), rfl, rfl, rfl, rfl, rfl⟩
  · replace h := (if_neg (fun k => k hc)).symm.trans h
    refine jj_iconst hC dX9_isFlying_14 ?_
    refine jj_goto (tgt := 19) hC dX9_isFlying_15 rfl ?_
    cases h
    exact jj_zret hC (show (0 ≤ (1 : Int) ∧ (1 : Int) ≤ 1) from by decide) (c_le rfl) (c_le rfl) dX9_isFlying_19 ⟨rfl, (show (0 ≤ (1 : Int) ∧ (1 : Int) ≤ 1) from by decide), rfl, rfl, rfl, rfl, rfl⟩
theorem xX9_taskPoint_n {l : Launch} {G : gE} {sz : Nat} {S Ln : Nat → Nat} {M : gM} {R : gR} (hl : l.stackTraces = false) {a0 : Nat} (hs0 : S a0 = 12) {x1 : Int} (hp1 : (-2147483648 ≤ x1 ∧ x1 < 2147483648)) {r : Int} (h : fX9_taskPoint G.2.2.2.2 S Ln R M a0 x1 = some (Sum.inl r)) : Ct l G yX9_taskPoint cX9_taskPoint 2 (some .int) 8 0 0 [.ref a0, .int (iI x1)] sz S Ln M R (poI r sz S Ln (M) R) noX := by
  refine jj_start (own := RX9) (lv0 := [(0, .ref a0), (1, .int (iI x1))]) hl (by decide +kernel) rfl rfl (c_le rfl) (fun C hCl hC => ?_)
  unfold fX9_taskPoint at h
  refine jj_aload_n hC dX9_taskPoint_0 rfl 0 rfl ?_
  obtain ⟨b1, hb1, hs1, h⟩ := rf_e h
  refine jg_R hC kfX9 0 rfl hs0 (by decide) wd1117 rfl hb1 dX9_taskPoint_1 ?_
  obtain ⟨b2, hb2, hs2, h⟩ := rf_e h
  refine jg_R hC kfX8 0 rfl hs1 (by decide) wd1037 rfl hb2 dX9_taskPoint_4 ?_
  refine jj_iload_n hC dX9_taskPoint_7 rfl 1 rfl ?_
  obtain ⟨q3, hq3, h⟩ := bd_e h
  refine jj_invV hC mvX2_hasStop wd654 wd655 wd1413 hs2 (by decide) rfl (xX2_hasStop (OKC.tr hC) hs2 hp1 hq3) rfl rfl (c_le rfl) (c_le rfl) (c_le rfl) (c_le rfl) dX9_taskPoint_8 noXk (po_kZ (fun hr3 => ?_))
  refine jj_if_ne (tgt := 24) hC dX9_taskPoint_11 rfl (r_z hr3) (fun hc => ?_) (fun hc => ?_)
  · replace h := (if_pos hc).symm.trans h
    refine jj_aload_n hC dX9_taskPoint_24 rfl 0 rfl ?_
    obtain ⟨b4, hb4, hs4, h⟩ := rf_e h
    refine jg_R hC kfX9 0 rfl hs0 (by decide) wd1117 rfl hb4 dX9_taskPoint_25 ?_
    obtain ⟨b5, hb5, hs5, h⟩ := rf_e h
    refine jg_R hC kfX8 0 rfl hs4 (by decide) wd1037 rfl hb5 dX9_taskPoint_28 ?_
    obtain ⟨b6, hb6, hs6, h⟩ := rf_e h
    refine jg_R hC kfX2 3 rfl hs5 (by decide) wd910 rfl hb6 dX9_taskPoint_31 ?_
    refine jj_iload_n hC dX9_taskPoint_34 rfl 1 rfl ?_
    obtain ⟨⟨ha7, hb7⟩, h⟩ := gd_e h
    refine jj_iald hC hs6 ha7 hb7 dX9_taskPoint_35 (fun hr7 => ?_)
    cases h
    exact jj_iret hC (c_le rfl) (c_le rfl) dX9_taskPoint_36 ⟨rfl, hr7, rfl, rfl, rfl, rfl, rfl⟩
  · replace h := (if_neg (fun k => k hc)).symm.trans h
    cases h
theorem xX9_sink_n {l : Launch} {G : gE} {sz : Nat} {S Ln : Nat → Nat} {M : gM} {R : gR} (hl : l.stackTraces = false) {a0 : Nat} (hs0 : S a0 = 12) {x1 : Int} (hp1 : (-2147483648 ≤ x1 ∧ x1 < 2147483648)) {r : Int} (h : fX9_sink G.2.2.2.2 S Ln R M a0 x1 = some (Sum.inl r)) : Ct l G yX9_sink cX9_sink 2 (some .int) 9 0 0 [.ref a0, .int (iI x1)] sz S Ln M R (poI r sz S Ln (M) R) noX := by
  refine jj_start (own := RX9) (lv0 := [(0, .ref a0), (1, .int (iI x1))]) hl (by decide +kernel) rfl rfl (c_le rfl) (fun C hCl hC => ?_)
  unfold fX9_sink at h
  refine jj_aload_n hC dX9_sink_0 rfl 0 rfl ?_
  refine jj_iload_n hC dX9_sink_1 rfl 1 rfl ?_
  obtain ⟨q1, hq1, h⟩ := bd_e h
  obtain ⟨v1, hv1, h⟩ := el_m h
  subst hv1
  refine jj_invV hC mvX9_knownPilot wd62 wd0 wd60 hs0 (by decide) rfl (xX9_knownPilot_n (OKC.tr hC) hs0 hp1 hq1) rfl rfl (c_le rfl) (c_le rfl) (c_le rfl) (c_le rfl) dX9_sink_2 noXk (po_kA (fun hr1 => ?_))
  obtain ⟨q2, hq2, h⟩ := bd_e h
  refine jj_invV hC mvX3_sinkRate wd707 wd708 wd1419 hr1 (by decide) rfl (xX3_sinkRate (OKC.tr hC) hr1 hq2) rfl rfl (c_le rfl) (c_le rfl) (c_le rfl) (c_le rfl) dX9_sink_5 noXk (po_kI (fun hr2 => ?_))
  cases h
  exact jj_iret hC (c_le rfl) (c_le rfl) dX9_sink_8 ⟨rfl, hr2, rfl, rfl, rfl, rfl, rfl⟩
theorem xX9_isLanded_n {l : Launch} {G : gE} {sz : Nat} {S Ln : Nat → Nat} {M : gM} {R : gR} (hl : l.stackTraces = false) {a0 : Nat} (hs0 : S a0 = 12) {x1 : Int} (hp1 : (-2147483648 ≤ x1 ∧ x1 < 2147483648)) {r : Int} (h : fX9_isLanded G.2.2.2.2 S Ln R M a0 x1 = some (Sum.inl r)) : Ct l G yX9_isLanded cX9_isLanded 2 (some .boolean) 9 0 0 [.ref a0, .int (iI x1)] sz S Ln M R (poZ r sz S Ln (M) R) noX := by
  refine jj_start (own := RX9) (lv0 := [(0, .ref a0), (1, .int (iI x1))]) hl (by decide +kernel) rfl rfl (c_le rfl) (fun C hCl hC => ?_)
  unfold fX9_isLanded at h
  refine jj_aload_n hC dX9_isLanded_0 rfl 0 rfl ?_
  refine jj_iload_n hC dX9_isLanded_1 rfl 1 rfl ?_
  obtain ⟨q1, hq1, h⟩ := bd_e h
  obtain ⟨v1, hv1, h⟩ := el_m h
  subst hv1
  refine jj_invV hC mvX9_knownPilot wd62 wd0 wd60 hs0 (by decide) rfl (xX9_knownPilot_n (OKC.tr hC) hs0 hp1 hq1) rfl rfl (c_le rfl) (c_le rfl) (c_le rfl) (c_le rfl) dX9_isLanded_2 noXk (po_kA (fun hr1 => ?_))
  obtain ⟨hg2, h⟩ := gd_e h
  refine jg_E hC kfX3 1 rfl hr1 (by decide) wd994 rfl hg2 dX9_isLanded_5 (fun hr2 => ?_)
  refine jg_s (j := 2) hC 2 rfl rfl wd1424 dX9_isLanded_8 ?_
  refine jg_acmp_ne (tgt := 18) hC dX9_isLanded_11 rfl ⟨hg2, hr2⟩ (show (0 ≤ (2 : Int) ∧ (2 : Int) < 9) from by decide) (fun hc => ?_) (fun hc => ?_)
  · replace h := (if_pos hc).symm.trans h
    refine jj_iconst hC dX9_isLanded_18 ?_
    cases h
    exact jj_zret hC (show (0 ≤ (0 : Int) ∧ (0 : Int) ≤ 1) from by decide) (c_le rfl) (c_le rfl) dX9_isLanded_19 ⟨rfl, (show (0 ≤ (0 : Int) ∧ (0 : Int) ≤ 1) from by decide), rfl, rfl, rfl, rfl, rfl⟩
  · replace h := (if_neg (fun k => k hc)).symm.trans h
    refine jj_iconst hC dX9_isLanded_14 ?_
    refine jj_goto (tgt := 19) hC dX9_isLanded_15 rfl ?_
    cases h
    exact jj_zret hC (show (0 ≤ (1 : Int) ∧ (1 : Int) ≤ 1) from by decide) (c_le rfl) (c_le rfl) dX9_isLanded_19 ⟨rfl, (show (0 ≤ (1 : Int) ∧ (1 : Int) ≤ 1) from by decide), rfl, rfl, rfl, rfl, rfl⟩
theorem xX9_isFinished_n {l : Launch} {G : gE} {sz : Nat} {S Ln : Nat → Nat} {M : gM} {R : gR} (hl : l.stackTraces = false) {a0 : Nat} (hs0 : S a0 = 12) {x1 : Int} (hp1 : (-2147483648 ≤ x1 ∧ x1 < 2147483648)) {r : Int} (h : fX9_isFinished G.2.2.2.2 S Ln R M a0 x1 = some (Sum.inl r)) : Ct l G yX9_isFinished cX9_isFinished 2 (some .boolean) 9 0 0 [.ref a0, .int (iI x1)] sz S Ln M R (poZ r sz S Ln (M) R) noX := by
  refine jj_start (own := RX9) (lv0 := [(0, .ref a0), (1, .int (iI x1))]) hl (by decide +kernel) rfl rfl (c_le rfl) (fun C hCl hC => ?_)
  unfold fX9_isFinished at h
  refine jj_aload_n hC dX9_isFinished_0 rfl 0 rfl ?_
  refine jj_iload_n hC dX9_isFinished_1 rfl 1 rfl ?_
  obtain ⟨q1, hq1, h⟩ := bd_e h
  obtain ⟨v1, hv1, h⟩ := el_m h
  subst hv1
  refine jj_invV hC mvX9_knownPilot wd62 wd0 wd60 hs0 (by decide) rfl (xX9_knownPilot_n (OKC.tr hC) hs0 hp1 hq1) rfl rfl (c_le rfl) (c_le rfl) (c_le rfl) (c_le rfl) dX9_isFinished_2 noXk (po_kA (fun hr1 => ?_))
  obtain ⟨hg2, h⟩ := gd_e h
  refine jg_E hC kfX3 1 rfl hr1 (by decide) wd994 rfl hg2 dX9_isFinished_5 (fun hr2 => ?_)
  refine jg_s (j := 3) hC 3 rfl rfl wd1429 dX9_isFinished_8 ?_
  refine jg_acmp_ne (tgt := 18) hC dX9_isFinished_11 rfl ⟨hg2, hr2⟩ (show (0 ≤ (3 : Int) ∧ (3 : Int) < 9) from by decide) (fun hc => ?_) (fun hc => ?_)
  · replace h := (if_pos hc).symm.trans h
    refine jj_iconst hC dX9_isFinished_18 ?_
    cases h
    exact jj_zret hC (show (0 ≤ (0 : Int) ∧ (0 : Int) ≤ 1) from by decide) (c_le rfl) (c_le rfl) dX9_isFinished_19 ⟨rfl, (show (0 ≤ (0 : Int) ∧ (0 : Int) ≤ 1) from by decide), rfl, rfl, rfl, rfl, rfl⟩
  · replace h := (if_neg (fun k => k hc)).symm.trans h
    refine jj_iconst hC dX9_isFinished_14 ?_
    refine jj_goto (tgt := 19) hC dX9_isFinished_15 rfl ?_
    cases h
    exact jj_zret hC (show (0 ≤ (1 : Int) ∧ (1 : Int) ≤ 1) from by decide) (c_le rfl) (c_le rfl) dX9_isFinished_19 ⟨rfl, (show (0 ≤ (1 : Int) ∧ (1 : Int) ≤ 1) from by decide), rfl, rfl, rfl, rfl, rfl⟩
theorem xX9_total_n {l : Launch} {G : gE} {sz : Nat} {S Ln : Nat → Nat} {M : gM} {R : gR} (hl : l.stackTraces = false) {a0 : Nat} (hs0 : S a0 = 12) {x1 : Int} (hp1 : (-2147483648 ≤ x1 ∧ x1 < 2147483648)) {r : Int} (h : fX9_total G.2.2.2.2 S Ln R M a0 x1 = some (Sum.inl r)) : Ct l G yX9_total cX9_total 2 (some .long) 9 0 0 [.ref a0, .int (iI x1)] sz S Ln M R (poL r sz S Ln (M) R) noX := by
  refine jj_start (own := RX9) (lv0 := [(0, .ref a0), (1, .int (iI x1))]) hl (by decide +kernel) rfl rfl (c_le rfl) (fun C hCl hC => ?_)
  unfold fX9_total at h
  refine jj_aload_n hC dX9_total_0 rfl 0 rfl ?_
  refine jj_iload_n hC dX9_total_1 rfl 1 rfl ?_
  obtain ⟨q1, hq1, h⟩ := bd_e h
  obtain ⟨v1, hv1, h⟩ := el_m h
  subst hv1
  refine jj_invV hC mvX9_knownPilot wd62 wd0 wd60 hs0 (by decide) rfl (xX9_knownPilot_n (OKC.tr hC) hs0 hp1 hq1) rfl rfl (c_le rfl) (c_le rfl) (c_le rfl) (c_le rfl) dX9_total_2 noXk (po_kA (fun hr1 => ?_))
  refine jg_L hC kfX3 8 rfl hr1 (by decide) wd1015 rfl dX9_total_5 (fun hr2 => ?_)
  cases h
  exact jj_lret hC (c_le rfl) (c_le rfl) dX9_total_8 ⟨rfl, hr2, rfl, rfl, rfl, rfl, rfl⟩
theorem xX9_reached_n {l : Launch} {G : gE} {sz : Nat} {S Ln : Nat → Nat} {M : gM} {R : gR} (hl : l.stackTraces = false) {a0 : Nat} (hs0 : S a0 = 12) {x1 : Int} (hp1 : (-2147483648 ≤ x1 ∧ x1 < 2147483648)) {r : Int} (h : fX9_reached G.2.2.2.2 S Ln R M a0 x1 = some (Sum.inl r)) : Ct l G yX9_reached cX9_reached 2 (some .int) 9 0 0 [.ref a0, .int (iI x1)] sz S Ln M R (poI r sz S Ln (M) R) noX := by
  refine jj_start (own := RX9) (lv0 := [(0, .ref a0), (1, .int (iI x1))]) hl (by decide +kernel) rfl rfl (c_le rfl) (fun C hCl hC => ?_)
  unfold fX9_reached at h
  refine jj_aload_n hC dX9_reached_0 rfl 0 rfl ?_
  refine jj_iload_n hC dX9_reached_1 rfl 1 rfl ?_
  obtain ⟨q1, hq1, h⟩ := bd_e h
  obtain ⟨v1, hv1, h⟩ := el_m h
  subst hv1
  refine jj_invV hC mvX9_knownPilot wd62 wd0 wd60 hs0 (by decide) rfl (xX9_knownPilot_n (OKC.tr hC) hs0 hp1 hq1) rfl rfl (c_le rfl) (c_le rfl) (c_le rfl) (c_le rfl) dX9_reached_2 noXk (po_kA (fun hr1 => ?_))
  refine jg_I hC kfX3 7 rfl hr1 (by decide) wd1012 rfl dX9_reached_5 (fun hr2 => ?_)
  cases h
  exact jj_iret hC (c_le rfl) (c_le rfl) dX9_reached_8 ⟨rfl, hr2, rfl, rfl, rfl, rfl, rfl⟩
theorem xX9_launchedPilot_n {l : Launch} {G : gE} {sz : Nat} {S Ln : Nat → Nat} {M : gM} {R : gR} (hl : l.stackTraces = false) {a0 : Nat} (hs0 : S a0 = 12) {x1 : Int} (hp1 : (-2147483648 ≤ x1 ∧ x1 < 2147483648)) {r : Nat} (h : fX9_launchedPilot G.2.2.2.2 S Ln R M a0 x1 = some (Sum.inl r)) : Ct l G yX9_launchedPilot cX9_launchedPilot 3 (some (.object "GlidingContest$Glider")) 9 0 0 [.ref a0, .int (iI x1)] sz S Ln M R (poA 8 r sz S Ln (M) R) noX := by
  refine jj_start (own := RX9) (lv0 := [(0, .ref a0), (1, .int (iI x1))]) hl (by decide +kernel) rfl rfl (c_le rfl) (fun C hCl hC => ?_)
  unfold fX9_launchedPilot at h
  refine jj_aload_n hC dX9_launchedPilot_0 rfl 0 rfl ?_
  refine jj_iload_n hC dX9_launchedPilot_1 rfl 1 rfl ?_
  obtain ⟨q1, hq1, h⟩ := bd_e h
  obtain ⟨v1, hv1, h⟩ := el_m h
  subst hv1
  refine jj_invV hC mvX9_knownPilot wd62 wd0 wd60 hs0 (by decide) rfl (xX9_knownPilot_n (OKC.tr hC) hs0 hp1 hq1) rfl rfl (c_le rfl) (c_le rfl) (c_le rfl) (c_le rfl) dX9_launchedPilot_2 noXk (po_kA (fun hr1 => ?_))
  refine jj_astore_n (lv' := [(2, .ref v1), (0, .ref a0), (1, .int (iI x1))]) hC dX9_launchedPilot_5 rfl (by decide) rfl ?_
  refine jj_aload_n hC dX9_launchedPilot_6 rfl 0 rfl ?_
  obtain ⟨hg2, h⟩ := gd_e h
  refine jg_E hC kfX3 1 rfl hr1 (by decide) wd994 rfl hg2 dX9_launchedPilot_7 (fun hr2 => ?_)
  refine jg_s (j := 0) hC 0 rfl rfl wd462 dX9_launchedPilot_10 ?_
  refine jg_acmp_ne (tgt := 27) hC dX9_launchedPilot_13 rfl ⟨hg2, hr2⟩ (show (0 ≤ (0 : Int) ∧ (0 : Int) < 9) from by decide) (fun hc => ?_) (fun hc => ?_)
  · replace h := (if_pos hc).symm.trans h
    refine jj_aload_n hC dX9_launchedPilot_27 rfl 0 rfl ?_
    cases h
    exact jj_aret hC rfl (Or.inl ⟨_, rfl⟩) (c_le rfl) (c_le rfl) dX9_launchedPilot_28 ⟨rfl, hr1, rfl, rfl, rfl, rfl, rfl⟩
  · replace h := (if_neg (fun k => k hc)).symm.trans h
    cases h
theorem xX9_x_n {l : Launch} {G : gE} {sz : Nat} {S Ln : Nat → Nat} {M : gM} {R : gR} (hl : l.stackTraces = false) {a0 : Nat} (hs0 : S a0 = 12) {x1 : Int} (hp1 : (-2147483648 ≤ x1 ∧ x1 < 2147483648)) {r : Int} (h : fX9_x G.2.2.2.2 S Ln R M a0 x1 = some (Sum.inl r)) : Ct l G yX9_x cX9_x 2 (some .int) 10 0 0 [.ref a0, .int (iI x1)] sz S Ln M R (poI r sz S Ln (M) R) noX := by
  refine jj_start (own := RX9) (lv0 := [(0, .ref a0), (1, .int (iI x1))]) hl (by decide +kernel) rfl rfl (c_le rfl) (fun C hCl hC => ?_)
  unfold fX9_x at h
  refine jj_aload_n hC dX9_x_0 rfl 0 rfl ?_
  refine jj_iload_n hC dX9_x_1 rfl 1 rfl ?_
  obtain ⟨q1, hq1, h⟩ := bd_e h
  obtain ⟨v1, hv1, h⟩ := el_m h
  subst hv1
  refine jj_invV hC mvX9_launchedPilot wd1444 wd19 wd1442 hs0 (by decide) rfl (xX9_launchedPilot_n (OKC.tr hC) hs0 hp1 hq1) rfl rfl (c_le rfl) (c_le rfl) (c_le rfl) (c_le rfl) dX9_x_2 noXk (po_kA (fun hr1 => ?_))
  refine jg_I hC kfX3 2 rfl hr1 (by decide) wd997 rfl dX9_x_5 (fun hr2 => ?_)
  cases h
  exact jj_iret hC (c_le rfl) (c_le rfl) dX9_x_8 ⟨rfl, hr2, rfl, rfl, rfl, rfl, rfl⟩
theorem xX9_y_n {l : Launch} {G : gE} {sz : Nat} {S Ln : Nat → Nat} {M : gM} {R : gR} (hl : l.stackTraces = false) {a0 : Nat} (hs0 : S a0 = 12) {x1 : Int} (hp1 : (-2147483648 ≤ x1 ∧ x1 < 2147483648)) {r : Int} (h : fX9_y G.2.2.2.2 S Ln R M a0 x1 = some (Sum.inl r)) : Ct l G yX9_y cX9_y 2 (some .int) 10 0 0 [.ref a0, .int (iI x1)] sz S Ln M R (poI r sz S Ln (M) R) noX := by
  refine jj_start (own := RX9) (lv0 := [(0, .ref a0), (1, .int (iI x1))]) hl (by decide +kernel) rfl rfl (c_le rfl) (fun C hCl hC => ?_)
  unfold fX9_y at h
  refine jj_aload_n hC dX9_y_0 rfl 0 rfl ?_
  refine jj_iload_n hC dX9_y_1 rfl 1 rfl ?_
  obtain ⟨q1, hq1, h⟩ := bd_e h
  obtain ⟨v1, hv1, h⟩ := el_m h
  subst hv1
  refine jj_invV hC mvX9_launchedPilot wd1444 wd19 wd1442 hs0 (by decide) rfl (xX9_launchedPilot_n (OKC.tr hC) hs0 hp1 hq1) rfl rfl (c_le rfl) (c_le rfl) (c_le rfl) (c_le rfl) dX9_y_2 noXk (po_kA (fun hr1 => ?_))
  refine jg_I hC kfX3 3 rfl hr1 (by decide) wd1000 rfl dX9_y_5 (fun hr2 => ?_)
  cases h
  exact jj_iret hC (c_le rfl) (c_le rfl) dX9_y_8 ⟨rfl, hr2, rfl, rfl, rfl, rfl, rfl⟩
theorem xX9_height_n {l : Launch} {G : gE} {sz : Nat} {S Ln : Nat → Nat} {M : gM} {R : gR} (hl : l.stackTraces = false) {a0 : Nat} (hs0 : S a0 = 12) {x1 : Int} (hp1 : (-2147483648 ≤ x1 ∧ x1 < 2147483648)) {r : Int} (h : fX9_height G.2.2.2.2 S Ln R M a0 x1 = some (Sum.inl r)) : Ct l G yX9_height cX9_height 2 (some .int) 10 0 0 [.ref a0, .int (iI x1)] sz S Ln M R (poI r sz S Ln (M) R) noX := by
  refine jj_start (own := RX9) (lv0 := [(0, .ref a0), (1, .int (iI x1))]) hl (by decide +kernel) rfl rfl (c_le rfl) (fun C hCl hC => ?_)
  unfold fX9_height at h
  refine jj_aload_n hC dX9_height_0 rfl 0 rfl ?_
  refine jj_iload_n hC dX9_height_1 rfl 1 rfl ?_
  obtain ⟨q1, hq1, h⟩ := bd_e h
  obtain ⟨v1, hv1, h⟩ := el_m h
  subst hv1
  refine jj_invV hC mvX9_launchedPilot wd1444 wd19 wd1442 hs0 (by decide) rfl (xX9_launchedPilot_n (OKC.tr hC) hs0 hp1 hq1) rfl rfl (c_le rfl) (c_le rfl) (c_le rfl) (c_le rfl) dX9_height_2 noXk (po_kA (fun hr1 => ?_))
  refine jg_I hC kfX3 4 rfl hr1 (by decide) wd1003 rfl dX9_height_5 (fun hr2 => ?_)
  cases h
  exact jj_iret hC (c_le rfl) (c_le rfl) dX9_height_8 ⟨rfl, hr2, rfl, rfl, rfl, rfl, rfl⟩
theorem xX9_minutes_n {l : Launch} {G : gE} {sz : Nat} {S Ln : Nat → Nat} {M : gM} {R : gR} (hl : l.stackTraces = false) {a0 : Nat} (hs0 : S a0 = 12) {x1 : Int} (hp1 : (-2147483648 ≤ x1 ∧ x1 < 2147483648)) {r : Int} (h : fX9_minutes G.2.2.2.2 S Ln R M a0 x1 = some (Sum.inl r)) : Ct l G yX9_minutes cX9_minutes 2 (some .int) 10 0 0 [.ref a0, .int (iI x1)] sz S Ln M R (poI r sz S Ln (M) R) noX := by
  refine jj_start (own := RX9) (lv0 := [(0, .ref a0), (1, .int (iI x1))]) hl (by decide +kernel) rfl rfl (c_le rfl) (fun C hCl hC => ?_)
  unfold fX9_minutes at h
  refine jj_aload_n hC dX9_minutes_0 rfl 0 rfl ?_
  refine jj_iload_n hC dX9_minutes_1 rfl 1 rfl ?_
  obtain ⟨q1, hq1, h⟩ := bd_e h
  obtain ⟨v1, hv1, h⟩ := el_m h
  subst hv1
  refine jj_invV hC mvX9_launchedPilot wd1444 wd19 wd1442 hs0 (by decide) rfl (xX9_launchedPilot_n (OKC.tr hC) hs0 hp1 hq1) rfl rfl (c_le rfl) (c_le rfl) (c_le rfl) (c_le rfl) dX9_minutes_2 noXk (po_kA (fun hr1 => ?_))
  refine jg_I hC kfX3 5 rfl hr1 (by decide) wd1006 rfl dX9_minutes_5 (fun hr2 => ?_)
  cases h
  exact jj_iret hC (c_le rfl) (c_le rfl) dX9_minutes_8 ⟨rfl, hr2, rfl, rfl, rfl, rfl, rfl⟩
theorem xX9_penalty_n {l : Launch} {G : gE} {sz : Nat} {S Ln : Nat → Nat} {M : gM} {R : gR} (hl : l.stackTraces = false) {a0 : Nat} (hs0 : S a0 = 12) {x1 : Int} (hp1 : (-2147483648 ≤ x1 ∧ x1 < 2147483648)) {r : Int} (h : fX9_penalty G.2.2.2.2 S Ln R M a0 x1 = some (Sum.inl r)) : Ct l G yX9_penalty cX9_penalty 2 (some .int) 10 0 0 [.ref a0, .int (iI x1)] sz S Ln M R (poI r sz S Ln (M) R) noX := by
  refine jj_start (own := RX9) (lv0 := [(0, .ref a0), (1, .int (iI x1))]) hl (by decide +kernel) rfl rfl (c_le rfl) (fun C hCl hC => ?_)
  unfold fX9_penalty at h
  refine jj_aload_n hC dX9_penalty_0 rfl 0 rfl ?_
  refine jj_iload_n hC dX9_penalty_1 rfl 1 rfl ?_
  obtain ⟨q1, hq1, h⟩ := bd_e h
  obtain ⟨v1, hv1, h⟩ := el_m h
  subst hv1
  refine jj_invV hC mvX9_launchedPilot wd1444 wd19 wd1442 hs0 (by decide) rfl (xX9_launchedPilot_n (OKC.tr hC) hs0 hp1 hq1) rfl rfl (c_le rfl) (c_le rfl) (c_le rfl) (c_le rfl) dX9_penalty_2 noXk (po_kA (fun hr1 => ?_))
  refine jg_I hC kfX3 6 rfl hr1 (by decide) wd1009 rfl dX9_penalty_5 (fun hr2 => ?_)
  cases h
  exact jj_iret hC (c_le rfl) (c_le rfl) dX9_penalty_8 ⟨rfl, hr2, rfl, rfl, rfl, rfl, rfl⟩
theorem xX9_requirePosition_n {l : Launch} {G : gE} {sz : Nat} {S Ln : Nat → Nat} {M : gM} {R : gR} (hl : l.stackTraces = false) {x0 : Int} (hp0 : (-2147483648 ≤ x0 ∧ x0 < 2147483648)) {x1 : Int} (hp1 : (-2147483648 ≤ x1 ∧ x1 < 2147483648)) {r : Unit} (h : fX9_requirePosition G.2.2.2.2 S Ln R M x0 x1 = some (Sum.inl r)) : Ct l G yX9_requirePosition cX9_requirePosition 2 none 8 0 0 [.int (iI x0), .int (iI x1)] sz S Ln M R (poV sz S Ln (M) R) noX := by
  refine jj_start (own := RX9) (lv0 := [(0, .int (iI x0)), (1, .int (iI x1))]) hl (by decide +kernel) rfl rfl (c_le rfl) (fun C hCl hC => ?_)
  have hB14 : fX9_requirePosition_B14 G.2.2.2.2 S Ln R M  = some (Sum.inl r) → JJ G C 0 0 sz S Ln M R 14 [] [] := by
    intro h
    unfold fX9_requirePosition_B14 at h
    cases h
  unfold fX9_requirePosition at h
  refine jj_iload_n hC dX9_requirePosition_0 rfl 0 rfl ?_
  obtain ⟨q1, hq1, h⟩ := bd_e h
  refine jj_invS hC mvX9_isCoordinate wd689 wd793 (xX9_isCoordinate (OKC.tr hC) hp0 hq1) rfl rfl (c_le rfl) (c_le rfl) (c_le rfl) (c_le rfl) dX9_requirePosition_1 noXk (po_kZ (fun hr1 => ?_))
  refine jj_if_eq (tgt := 14) hC dX9_requirePosition_4 rfl (r_z hr1) (fun hc => ?_) (fun hc => ?_)
  · replace h := (if_pos hc).symm.trans h
    refine jj_lv (lv' := []) [] rfl ?_
    exact hB14   h
  · replace h := (if_neg (hc)).symm.trans h
    refine jj_iload_n hC dX9_requirePosition_7 rfl 1 rfl ?_
    obtain ⟨q2, hq2, h⟩ := bd_e h
    refine jj_invS hC mvX9_isCoordinate wd689 wd793 (xX9_isCoordinate (OKC.tr hC) hp1 hq2) rfl rfl (c_le rfl) (c_le rfl) (c_le rfl) (c_le rfl) dX9_requirePosition_8 noXk (po_kZ (fun hr2 => ?_))
    refine jj_if_ne (tgt := 25) hC dX9_requirePosition_11 rfl (r_z hr2) (fun hc => ?_) (fun hc => ?_)
    · replace h := (if_pos hc).symm.trans h
      cases h
      exact jj_vret hC (c_le rfl) (c_le rfl) dX9_requirePosition_25 ⟨rfl, trivial, rfl, rfl, rfl, rfl, rfl⟩
    · replace h := (if_neg (fun k => k hc)).symm.trans h
      refine jj_lv (lv' := []) [] rfl ?_
      exact hB14   h
theorem xX9_restrictedInRow_n {l : Launch} {G : gE} {sz : Nat} {S Ln : Nat → Nat} {M : gM} {R : gR} (hl : l.stackTraces = false) {a0 : Nat} (hs0 : S a0 = 12) {x1 : Int} (hp1 : (-2147483648 ≤ x1 ∧ x1 < 2147483648)) {r : Int} (h : fX9_restrictedInRow G.2.2.2.2 S Ln R M a0 x1 = some (Sum.inl r)) : Ct l G yX9_restrictedInRow cX9_restrictedInRow 2 (some .int) 9 0 0 [.ref a0, .int (iI x1)] sz S Ln M R (poI r sz S Ln (M) R) noX := by
  refine jj_start (own := RX9) (lv0 := [(0, .ref a0), (1, .int (iI x1))]) hl (by decide +kernel) rfl rfl (c_le rfl) (fun C hCl hC => ?_)
  unfold fX9_restrictedInRow at h
  refine jj_iconst hC dX9_restrictedInRow_0 ?_
  refine jj_iload_n hC dX9_restrictedInRow_1 rfl 1 rfl ?_
  obtain ⟨q1, hq1, h⟩ := bd_e h
  obtain ⟨v1, hv1, h⟩ := el_m h
  subst hv1
  refine jj_invS hC mvX9_requirePosition wd791 wd790 (xX9_requirePosition_n (OKC.tr hC) (show (-2147483648 ≤ (0 : Int) ∧ (0 : Int) < 2147483648) from by decide) hp1 hq1) rfl rfl (c_le rfl) (c_le rfl) (c_le rfl) (c_le rfl) dX9_restrictedInRow_2 noXk (po_kV ?_)
  refine jj_aload_n hC dX9_restrictedInRow_5 rfl 0 rfl ?_
  obtain ⟨b2, hb2, hs2, h⟩ := rf_e h
  refine jg_R hC kfX9 0 rfl hs0 (by decide) wd1117 rfl hb2 dX9_restrictedInRow_6 ?_
  obtain ⟨b3, hb3, hs3, h⟩ := rf_e h
  refine jg_R hC kfX8 2 rfl hs2 (by decide) wd1041 rfl hb3 dX9_restrictedInRow_9 ?_
  refine jj_iload_n hC dX9_restrictedInRow_12 rfl 1 rfl ?_
  obtain ⟨q4, hq4, h⟩ := bd_e h
  refine jj_invV hC mvX1_countByPositions wd1468 wd1469 wd1467 hs3 (by decide) rfl (xX1_countByPositions (OKC.tr hC) hs3 hp1 hq4) rfl rfl (c_le rfl) (c_le rfl) (c_le rfl) (c_le rfl) dX9_restrictedInRow_13 noXk (po_kI (fun hr4 => ?_))
  cases h
  exact jj_iret hC (c_le rfl) (c_le rfl) dX9_restrictedInRow_16 ⟨rfl, hr4, rfl, rfl, rfl, rfl, rfl⟩
theorem xX9_distance_n {l : Launch} {G : gE} {sz : Nat} {S Ln : Nat → Nat} {M : gM} {R : gR} (hl : l.stackTraces = false) {a0 : Nat} (hs0 : S a0 = 12) {x1 : Int} (hp1 : (-2147483648 ≤ x1 ∧ x1 < 2147483648)) {x2 : Int} (hp2 : (-2147483648 ≤ x2 ∧ x2 < 2147483648)) {r : Int} (h : fX9_distance G.2.2.2.2 S Ln R M a0 x1 x2 = some (Sum.inl r)) : Ct l G yX9_distance cX9_distance 3 (some .int) 8 0 0 [.ref a0, .int (iI x1), .int (iI x2)] sz S Ln M R (poI r sz S Ln (M) R) noX := by
  refine jj_start (own := RX9) (lv0 := [(0, .ref a0), (1, .int (iI x1)), (2, .int (iI x2))]) hl (by decide +kernel) rfl rfl (c_le rfl) (fun C hCl hC => ?_)
  have hB28 : fX9_distance_B28 G.2.2.2.2 S Ln R M  = some (Sum.inl r) → JJ G C 0 0 sz S Ln M R 28 [] [] := by
    intro h
    unfold fX9_distance_B28 at h
    cases h
  unfold fX9_distance at h
  refine jj_aload_n hC dX9_distance_0 rfl 0 rfl ?_
  obtain ⟨b1, hb1, hs1, h⟩ := rf_e h
  refine jg_R hC kfX9 0 rfl hs0 (by decide) wd1117 rfl hb1 dX9_distance_1 ?_
  obtain ⟨b2, hb2, hs2, h⟩ := rf_e h
  refine jg_R hC kfX8 0 rfl hs1 (by decide) wd1037 rfl hb2 dX9_distance_4 ?_
  refine jj_iload_n hC dX9_distance_7 rfl 1 rfl ?_
  obtain ⟨q3, hq3, h⟩ := bd_e h
  refine jj_invV hC mvX2_hasPoint wd658 wd659 wd1485 hs2 (by decide) rfl (xX2_hasPoint (OKC.tr hC) hs2 hp1 hq3) rfl rfl (c_le rfl) (c_le rfl) (c_le rfl) (c_le rfl) dX9_distance_8 noXk (po_kZ (fun hr3 => ?_))
  refine jj_if_eq (tgt := 28) hC dX9_distance_11 rfl (r_z hr3) (fun hc => ?_) (fun hc => ?_)
  · replace h := (if_pos hc).symm.trans h
    refine jj_lv (lv' := []) [] rfl ?_
    exact hB28   h
  · replace h := (if_neg (hc)).symm.trans h
    refine jj_aload_n hC dX9_distance_14 rfl 0 rfl ?_
    obtain ⟨b4, hb4, hs4, h⟩ := rf_e h
    refine jg_R hC kfX9 0 rfl hs0 (by decide) wd1117 rfl hb4 dX9_distance_15 ?_
    obtain ⟨b5, hb5, hs5, h⟩ := rf_e h
    refine jg_R hC kfX8 0 rfl hs4 (by decide) wd1037 rfl hb5 dX9_distance_18 ?_
    refine jj_iload_n hC dX9_distance_21 rfl 2 rfl ?_
    obtain ⟨q6, hq6, h⟩ := bd_e h
    refine jj_invV hC mvX2_hasPoint wd658 wd659 wd1485 hs5 (by decide) rfl (xX2_hasPoint (OKC.tr hC) hs5 hp2 hq6) rfl rfl (c_le rfl) (c_le rfl) (c_le rfl) (c_le rfl) dX9_distance_22 noXk (po_kZ (fun hr6 => ?_))
    refine jj_if_ne (tgt := 38) hC dX9_distance_25 rfl (r_z hr6) (fun hc => ?_) (fun hc => ?_)
    · replace h := (if_pos hc).symm.trans h
      refine jj_aload_n hC dX9_distance_38 rfl 0 rfl ?_
      obtain ⟨b7, hb7, hs7, h⟩ := rf_e h
      refine jg_R hC kfX9 0 rfl hs0 (by decide) wd1117 rfl hb7 dX9_distance_39 ?_
      obtain ⟨b8, hb8, hs8, h⟩ := rf_e h
      refine jg_R hC kfX8 0 rfl hs7 (by decide) wd1037 rfl hb8 dX9_distance_42 ?_
      refine jj_iload_n hC dX9_distance_45 rfl 1 rfl ?_
      refine jj_iload_n hC dX9_distance_46 rfl 2 rfl ?_
      obtain ⟨q9, hq9, h⟩ := bd_e h
      refine jj_invV hC mvX2_span wd1176 wd1177 wd1487 hs8 (by decide) rfl (xX2_span (OKC.tr hC) hs8 hp1 hp2 hq9) rfl rfl (c_le rfl) (c_le rfl) (c_le rfl) (c_le rfl) dX9_distance_47 noXk (po_kI (fun hr9 => ?_))
      cases h
      exact jj_iret hC (c_le rfl) (c_le rfl) dX9_distance_50 ⟨rfl, hr9, rfl, rfl, rfl, rfl, rfl⟩
    · replace h := (if_neg (fun k => k hc)).symm.trans h
      refine jj_lv (lv' := []) [] rfl ?_
      exact hB28   h
theorem xX9_achievedDistance_n {l : Launch} {G : gE} {sz : Nat} {S Ln : Nat → Nat} {M : gM} {R : gR} (hl : l.stackTraces = false) {a0 : Nat} (hs0 : S a0 = 12) {x1 : Int} (hp1 : (-2147483648 ≤ x1 ∧ x1 < 2147483648)) {r : Int} (h : fX9_achievedDistance G.2.2.2.2 S Ln R M a0 x1 = some (Sum.inl r)) : Ct l G yX9_achievedDistance cX9_achievedDistance 2 (some .int) 9 0 0 [.ref a0, .int (iI x1)] sz S Ln M R (poI r sz S Ln (M) R) noX := by
  refine jj_start (own := RX9) (lv0 := [(0, .ref a0), (1, .int (iI x1))]) hl (by decide +kernel) rfl rfl (c_le rfl) (fun C hCl hC => ?_)
  unfold fX9_achievedDistance at h
  refine jj_aload_n hC dX9_achievedDistance_0 rfl 0 rfl ?_
  obtain ⟨b1, hb1, hs1, h⟩ := rf_e h
  refine jg_R hC kfX9 0 rfl hs0 (by decide) wd1117 rfl hb1 dX9_achievedDistance_1 ?_
  refine jj_aload_n hC dX9_achievedDistance_4 rfl 0 rfl ?_
  refine jj_iload_n hC dX9_achievedDistance_5 rfl 1 rfl ?_
  obtain ⟨q2, hq2, h⟩ := bd_e h
  obtain ⟨v2, hv2, h⟩ := el_m h
  subst hv2
  refine jj_invV hC mvX9_knownPilot wd62 wd0 wd60 hs0 (by decide) rfl (xX9_knownPilot_n (OKC.tr hC) hs0 hp1 hq2) rfl rfl (c_le rfl) (c_le rfl) (c_le rfl) (c_le rfl) dX9_achievedDistance_6 noXk (po_kA (fun hr2 => ?_))
  obtain ⟨q3, hq3, h⟩ := bd_e h
  refine jj_invV hC mvX8_distanceDone wd758 wd759 wd1492 hs1 (by decide) rfl (xX8_distanceDone (OKC.tr hC) hs1 hr2 hq3) rfl rfl (c_le rfl) (c_le rfl) (c_le rfl) (c_le rfl) dX9_achievedDistance_9 noXk (po_kI (fun hr3 => ?_))
  cases h
  exact jj_iret hC (c_le rfl) (c_le rfl) dX9_achievedDistance_12 ⟨rfl, hr3, rfl, rfl, rfl, rfl, rfl⟩
theorem xX9_dayScore_n {l : Launch} {G : gE} {sz : Nat} {S Ln : Nat → Nat} {M : gM} {R : gR} (hl : l.stackTraces = false) {a0 : Nat} (hs0 : S a0 = 12) {x1 : Int} (hp1 : (-2147483648 ≤ x1 ∧ x1 < 2147483648)) {r : Int} (h : fX9_dayScore G.2.2.2.2 S Ln R M a0 x1 = some (Sum.inl r)) : Ct l G yX9_dayScore cX9_dayScore 2 (some .int) 9 0 0 [.ref a0, .int (iI x1)] sz S Ln M R (poI r sz S Ln (M) R) noX := by
  refine jj_start (own := RX9) (lv0 := [(0, .ref a0), (1, .int (iI x1))]) hl (by decide +kernel) rfl rfl (c_le rfl) (fun C hCl hC => ?_)
  unfold fX9_dayScore at h
  refine jj_aload_n hC dX9_dayScore_0 rfl 0 rfl ?_
  obtain ⟨b1, hb1, hs1, h⟩ := rf_e h
  refine jg_R hC kfX9 0 rfl hs0 (by decide) wd1117 rfl hb1 dX9_dayScore_1 ?_
  refine jj_aload_n hC dX9_dayScore_4 rfl 0 rfl ?_
  refine jj_iload_n hC dX9_dayScore_5 rfl 1 rfl ?_
  obtain ⟨q2, hq2, h⟩ := bd_e h
  obtain ⟨v2, hv2, h⟩ := el_m h
  subst hv2
  refine jj_invV hC mvX9_knownPilot wd62 wd0 wd60 hs0 (by decide) rfl (xX9_knownPilot_n (OKC.tr hC) hs0 hp1 hq2) rfl rfl (c_le rfl) (c_le rfl) (c_le rfl) (c_le rfl) dX9_dayScore_6 noXk (po_kA (fun hr2 => ?_))
  obtain ⟨q3, hq3, h⟩ := bd_e h
  refine jj_invV hC mvX8_scoreOf wd754 wd755 wd1497 hs1 (by decide) rfl (xX8_scoreOf (OKC.tr hC) hs1 hr2 hq3) rfl rfl (c_le rfl) (c_le rfl) (c_le rfl) (c_le rfl) dX9_dayScore_9 noXk (po_kI (fun hr3 => ?_))
  cases h
  exact jj_iret hC (c_le rfl) (c_le rfl) dX9_dayScore_12 ⟨rfl, hr3, rfl, rfl, rfl, rfl, rfl⟩
theorem xX9_pilotInPhase_n {l : Launch} {G : gE} {sz : Nat} {S Ln : Nat → Nat} {M : gM} {R : gR} (hl : l.stackTraces = false) {a0 : Nat} (hs0 : S a0 = 12) {x1 : Int} (hp1 : (-2147483648 ≤ x1 ∧ x1 < 2147483648)) {x2 : Int} (hp2 : (0 ≤ x2 ∧ x2 < 9)) {r : Nat} (h : fX9_pilotInPhase G.2.2.2.2 S Ln R M a0 x1 x2 = some (Sum.inl r)) : Ct l G yX9_pilotInPhase cX9_pilotInPhase 4 (some (.object "GlidingContest$Glider")) 9 0 0 [.ref a0, .int (iI x1), .ref (G.2.2.2.2 x2.toNat)] sz S Ln M R (poA 8 r sz S Ln (M) R) noX := by
  refine jj_start (own := RX9) (lv0 := [(0, .ref a0), (1, .int (iI x1)), (2, .ref (G.2.2.2.2 x2.toNat))]) hl (by decide +kernel) rfl rfl (c_le rfl) (fun C hCl hC => ?_)
  unfold fX9_pilotInPhase at h
  refine jj_aload_n hC dX9_pilotInPhase_0 rfl 0 rfl ?_
  refine jj_iload_n hC dX9_pilotInPhase_1 rfl 1 rfl ?_
  obtain ⟨q1, hq1, h⟩ := bd_e h
  obtain ⟨v1, hv1, h⟩ := el_m h
  subst hv1
  refine jj_invV hC mvX9_knownPilot wd62 wd0 wd60 hs0 (by decide) rfl (xX9_knownPilot_n (OKC.tr hC) hs0 hp1 hq1) rfl rfl (c_le rfl) (c_le rfl) (c_le rfl) (c_le rfl) dX9_pilotInPhase_2 noXk (po_kA (fun hr1 => ?_))
  refine jj_astore_n (lv' := [(3, .ref v1), (0, .ref a0), (1, .int (iI x1)), (2, .ref (G.2.2.2.2 x2.toNat))]) hC dX9_pilotInPhase_5 rfl (by decide) rfl ?_
  refine jj_aload_n hC dX9_pilotInPhase_6 rfl 0 rfl ?_
  obtain ⟨hg2, h⟩ := gd_e h
  refine jg_E hC kfX3 1 rfl hr1 (by decide) wd994 rfl hg2 dX9_pilotInPhase_7 (fun hr2 => ?_)
  refine jj_aload_n hC dX9_pilotInPhase_10 rfl 3 rfl ?_
  refine jg_acmp_eq (tgt := 25) hC dX9_pilotInPhase_11 rfl ⟨hg2, hr2⟩ hp2 (fun hc => ?_) (fun hc => ?_)
  · replace h := (if_pos hc).symm.trans h
    refine jj_aload_n hC dX9_pilotInPhase_25 rfl 0 rfl ?_
    cases h
    exact jj_aret hC rfl (Or.inl ⟨_, rfl⟩) (c_le rfl) (c_le rfl) dX9_pilotInPhase_26 ⟨rfl, hr1, rfl, rfl, rfl, rfl, rfl⟩
  · replace h := (if_neg (hc)).symm.trans h
    cases h
theorem xX9_canFinish_n {l : Launch} {G : gE} {sz : Nat} {S Ln : Nat → Nat} {M : gM} {R : gR} (hl : l.stackTraces = false) {a0 : Nat} (hs0 : S a0 = 12) {x1 : Int} (hp1 : (-2147483648 ≤ x1 ∧ x1 < 2147483648)) {r : Int} (h : fX9_canFinish G.2.2.2.2 S Ln R M a0 x1 = some (Sum.inl r)) : Ct l G yX9_canFinish cX9_canFinish 2 (some .boolean) 10 0 0 [.ref a0, .int (iI x1)] sz S Ln M R (poZ r sz S Ln (M) R) noX := by
  refine jj_start (own := RX9) (lv0 := [(0, .ref a0), (1, .int (iI x1))]) hl (by decide +kernel) rfl rfl (c_le rfl) (fun C hCl hC => ?_)
  unfold fX9_canFinish at h
  refine jj_aload_n hC dX9_canFinish_0 rfl 0 rfl ?_
  obtain ⟨b1, hb1, hs1, h⟩ := rf_e h
  refine jg_R hC kfX9 0 rfl hs0 (by decide) wd1117 rfl hb1 dX9_canFinish_1 ?_
  refine jj_aload_n hC dX9_canFinish_4 rfl 0 rfl ?_
  refine jj_iload_n hC dX9_canFinish_5 rfl 1 rfl ?_
  refine jg_s (j := 1) hC 1 rfl rfl wd823 dX9_canFinish_6 ?_
  obtain ⟨q2, hq2, h⟩ := bd_e h
  obtain ⟨v2, hv2, h⟩ := el_m h
  subst hv2
  refine jj_invV hC mvX9_pilotInPhase wd826 wd6 wd824 hs0 (by decide) rfl (xX9_pilotInPhase_n (OKC.tr hC) hs0 hp1 (show (0 ≤ (1 : Int) ∧ (1 : Int) < 9) from by decide) hq2) rfl rfl (c_le rfl) (c_le rfl) (c_le rfl) (c_le rfl) dX9_canFinish_9 noXk (po_kA (fun hr2 => ?_))
  obtain ⟨q3, hq3, h⟩ := bd_e h
  refine jj_invV hC mvX8_finishesByHeight wd1503 wd1504 wd1502 hs1 (by decide) rfl (xX8_finishesByHeight (OKC.tr hC) hs1 hr2 hq3) rfl rfl (c_le rfl) (c_le rfl) (c_le rfl) (c_le rfl) dX9_canFinish_12 noXk (po_kZ (fun hr3 => ?_))
  cases h
  exact jj_zret hC hr3 (c_le rfl) (c_le rfl) dX9_canFinish_15 ⟨rfl, hr3, rfl, rfl, rfl, rfl, rfl⟩
theorem xX9_canFinishBySimulation_n {l : Launch} {G : gE} {sz : Nat} {S Ln : Nat → Nat} {M : gM} {R : gR} (hl : l.stackTraces = false) {a0 : Nat} (hs0 : S a0 = 12) {x1 : Int} (hp1 : (-2147483648 ≤ x1 ∧ x1 < 2147483648)) {r : Int × gM} (h : fX9_canFinishBySimulation G.2.2.2.2 S Ln R M a0 x1 = some (Sum.inl r)) : Ct l G yX9_canFinishBySimulation cX9_canFinishBySimulation 2 (some .boolean) 10 0 0 [.ref a0, .int (iI x1)] sz S Ln M R (poZ r.1 sz S Ln (r.2) R) noX := by
  refine jj_start (own := RX9) (lv0 := [(0, .ref a0), (1, .int (iI x1))]) hl (by decide +kernel) rfl rfl (c_le rfl) (fun C hCl hC => ?_)
  unfold fX9_canFinishBySimulation at h
  refine jj_aload_n hC dX9_canFinishBySimulation_0 rfl 0 rfl ?_
  obtain ⟨b1, hb1, hs1, h⟩ := rf_e h
  refine jg_R hC kfX9 0 rfl hs0 (by decide) wd1117 rfl hb1 dX9_canFinishBySimulation_1 ?_
  refine jj_aload_n hC dX9_canFinishBySimulation_4 rfl 0 rfl ?_
  refine jj_iload_n hC dX9_canFinishBySimulation_5 rfl 1 rfl ?_
  refine jg_s (j := 1) hC 1 rfl rfl wd823 dX9_canFinishBySimulation_6 ?_
  obtain ⟨q2, hq2, h⟩ := bd_e h
  obtain ⟨v2, hv2, h⟩ := el_m h
  subst hv2
  refine jj_invV hC mvX9_pilotInPhase wd826 wd6 wd824 hs0 (by decide) rfl (xX9_pilotInPhase_n (OKC.tr hC) hs0 hp1 (show (0 ≤ (1 : Int) ∧ (1 : Int) < 9) from by decide) hq2) rfl rfl (c_le rfl) (c_le rfl) (c_le rfl) (c_le rfl) dX9_canFinishBySimulation_9 noXk (po_kA (fun hr2 => ?_))
  obtain ⟨q3, hq3, h⟩ := bd_e h
  refine jj_invV hC mvX8_finishesInFlight wd1513 wd1514 wd1512 hs1 (by decide) rfl (xX8_finishesInFlight (OKC.tr hC) hs1 hr2 hq3) rfl rfl (c_le rfl) (c_le rfl) (c_le rfl) (c_le rfl) dX9_canFinishBySimulation_12 noXk (po_kZ (fun hr3 => ?_))
  cases h
  exact jj_zret hC hr3 (c_le rfl) (c_le rfl) dX9_canFinishBySimulation_15 ⟨rfl, hr3, rfl, rfl, rfl, rfl, rfl⟩
theorem xX9_isRestricted_n {l : Launch} {G : gE} {sz : Nat} {S Ln : Nat → Nat} {M : gM} {R : gR} (hl : l.stackTraces = false) {a0 : Nat} (hs0 : S a0 = 12) {x1 : Int} (hp1 : (-2147483648 ≤ x1 ∧ x1 < 2147483648)) {x2 : Int} (hp2 : (-2147483648 ≤ x2 ∧ x2 < 2147483648)) {r : Int} (h : fX9_isRestricted G.2.2.2.2 S Ln R M a0 x1 x2 = some (Sum.inl r)) : Ct l G yX9_isRestricted cX9_isRestricted 3 (some .boolean) 9 0 0 [.ref a0, .int (iI x1), .int (iI x2)] sz S Ln M R (poZ r sz S Ln (M) R) noX := by
  refine jj_start (own := RX9) (lv0 := [(0, .ref a0), (1, .int (iI x1)), (2, .int (iI x2))]) hl (by decide +kernel) rfl rfl (c_le rfl) (fun C hCl hC => ?_)
  unfold fX9_isRestricted at h
  refine jj_iload_n hC dX9_isRestricted_0 rfl 1 rfl ?_
  refine jj_iload_n hC dX9_isRestricted_1 rfl 2 rfl ?_
  obtain ⟨q1, hq1, h⟩ := bd_e h
  obtain ⟨v1, hv1, h⟩ := el_m h
  subst hv1
  refine jj_invS hC mvX9_requirePosition wd791 wd790 (xX9_requirePosition_n (OKC.tr hC) hp1 hp2 hq1) rfl rfl (c_le rfl) (c_le rfl) (c_le rfl) (c_le rfl) dX9_isRestricted_2 noXk (po_kV ?_)
  refine jj_aload_n hC dX9_isRestricted_5 rfl 0 rfl ?_
  obtain ⟨b2, hb2, hs2, h⟩ := rf_e h
  refine jg_R hC kfX9 0 rfl hs0 (by decide) wd1117 rfl hb2 dX9_isRestricted_6 ?_
  obtain ⟨b3, hb3, hs3, h⟩ := rf_e h
  refine jg_R hC kfX8 2 rfl hs2 (by decide) wd1041 rfl hb3 dX9_isRestricted_9 ?_
  refine jj_iload_n hC dX9_isRestricted_12 rfl 1 rfl ?_
  refine jj_iload_n hC dX9_isRestricted_13 rfl 2 rfl ?_
  obtain ⟨q4, hq4, h⟩ := bd_e h
  refine jj_invV hC mvX1_covers wd715 wd716 wd1524 hs3 (by decide) rfl (xX1_covers (OKC.tr hC) hs3 hp1 hp2 hq4) rfl rfl (c_le rfl) (c_le rfl) (c_le rfl) (c_le rfl) dX9_isRestricted_14 noXk (po_kZ (fun hr4 => ?_))
  cases h
  exact jj_zret hC hr4 (c_le rfl) (c_le rfl) dX9_isRestricted_17 ⟨rfl, hr4, rfl, rfl, rfl, rfl, rfl⟩
theorem xX9_restrictedInRowByRanges_n {l : Launch} {G : gE} {sz : Nat} {S Ln : Nat → Nat} {M : gM} {R : gR} (hl : l.stackTraces = false) {a0 : Nat} (hs0 : S a0 = 12) {x1 : Int} (hp1 : (-2147483648 ≤ x1 ∧ x1 < 2147483648)) {r : Int × gM} (h : fX9_restrictedInRowByRanges G.2.2.2.2 S Ln R M a0 x1 = some (Sum.inl r)) : Ct l G yX9_restrictedInRowByRanges cX9_restrictedInRowByRanges 2 (some .int) 9 0 0 [.ref a0, .int (iI x1)] sz S Ln M R (poI r.1 sz S Ln (r.2) R) noX := by
  refine jj_start (own := RX9) (lv0 := [(0, .ref a0), (1, .int (iI x1))]) hl (by decide +kernel) rfl rfl (c_le rfl) (fun C hCl hC => ?_)
  unfold fX9_restrictedInRowByRanges at h
  refine jj_iconst hC dX9_restrictedInRowByRanges_0 ?_
  refine jj_iload_n hC dX9_restrictedInRowByRanges_1 rfl 1 rfl ?_
  obtain ⟨q1, hq1, h⟩ := bd_e h
  obtain ⟨v1, hv1, h⟩ := el_m h
  subst hv1
  refine jj_invS hC mvX9_requirePosition wd791 wd790 (xX9_requirePosition_n (OKC.tr hC) (show (-2147483648 ≤ (0 : Int) ∧ (0 : Int) < 2147483648) from by decide) hp1 hq1) rfl rfl (c_le rfl) (c_le rfl) (c_le rfl) (c_le rfl) dX9_restrictedInRowByRanges_2 noXk (po_kV ?_)
  refine jj_aload_n hC dX9_restrictedInRowByRanges_5 rfl 0 rfl ?_
  obtain ⟨b2, hb2, hs2, h⟩ := rf_e h
  refine jg_R hC kfX9 0 rfl hs0 (by decide) wd1117 rfl hb2 dX9_restrictedInRowByRanges_6 ?_
  obtain ⟨b3, hb3, hs3, h⟩ := rf_e h
  refine jg_R hC kfX8 2 rfl hs2 (by decide) wd1041 rfl hb3 dX9_restrictedInRowByRanges_9 ?_
  refine jj_iload_n hC dX9_restrictedInRowByRanges_12 rfl 1 rfl ?_
  obtain ⟨q4, hq4, h⟩ := bd_e h
  refine jj_invV hC mvX1_countByRanges wd1530 wd1531 wd1529 hs3 (by decide) rfl (xX1_countByRanges (OKC.tr hC) hs3 hp1 hq4) rfl rfl (c_le rfl) (c_le rfl) (c_le rfl) (c_le rfl) dX9_restrictedInRowByRanges_13 noXk (po_kI (fun hr4 => ?_))
  cases h
  exact jj_iret hC (c_le rfl) (c_le rfl) dX9_restrictedInRowByRanges_16 ⟨rfl, hr4, rfl, rfl, rfl, rfl, rfl⟩
theorem xX9_writePilot_n {l : Launch} {G : gE} {sz : Nat} {S Ln : Nat → Nat} {M : gM} {R : gR} (hl : l.stackTraces = false) {a0 : Nat} (hs0 : S a0 = 12) {x1 : Int} (hp1 : (-2147483648 ≤ x1 ∧ x1 < 2147483648)) {r : Int × Nat × (Nat → Nat) × (Nat → Nat) × gM × gR} (h : fX9_writePilot G.2.2.2.2 sz S Ln R M a0 x1 = some (Sum.inl r)) : Ct l G yX9_writePilot cX9_writePilot 3 (some .int) 13 14 3584 [.ref a0, .int (iI x1)] sz S Ln M R (poX (poI r.1 (r.2.1) (r.2.2.1) (r.2.2.2.1) (r.2.2.2.2.1) (r.2.2.2.2.2)) (Ext sz S Ln (r.2.1) (r.2.2.1) (r.2.2.2.1))) noX := by
  refine jj_start (own := RX9) (lv0 := [(0, .ref a0), (1, .int (iI x1))]) hl (by decide +kernel) rfl rfl (c_le rfl) (fun C hCl hC => ?_)
  have hB51 : ∀ (sz51 : Nat) (S51 : (Nat → Nat)) (Ln51 : (Nat → Nat)) (M51 : gM) (R51 : gR) (l0_51 : Nat), Ext sz S Ln sz51 S51 Ln51 → S51 l0_51 = 12 → fX9_writePilot_B51 G.2.2.2.2 sz51 S51 Ln51 R51 M51 l0_51 = some (Sum.inl r) → JJ G C 14 3584 sz51 S51 Ln51 M51 R51 51 [(0, .ref l0_51)] [] := by
    intro sz51 S51 Ln51 M51 R51 l0_51 hx51 hl0_51 h
    unfold fX9_writePilot_B51 at h
    refine jj_aload_n hC dX9_writePilot_51 rfl 0 rfl ?_
    obtain ⟨b8, hb8, hs8, h⟩ := rf_e h
    refine jg_R hC kfX9 5 rfl hl0_51 (by decide) wd1122 rfl hb8 dX9_writePilot_52 ?_
    obtain ⟨q9, hq9, h⟩ := bd_e h
    refine jj_invV hC mvJ4_length_8abf5 wd355 wd1578 wd501 hs8 (by decide) rfl (xJ4_length_8abf5 (OKC.tr hC) hs8 hq9) rfl rfl (c_le rfl) (c_le rfl) (by omega) (by omega) dX9_writePilot_55 noXk (po_kI (fun hr9 => ?_))
    cases h
    exact jj_iret hC (by omega) (by omega) dX9_writePilot_58 ⟨⟨rfl, hr9, rfl, rfl, rfl, rfl, rfl⟩, hx51⟩
  unfold fX9_writePilot at h
  refine jj_aload_n hC dX9_writePilot_0 rfl 0 rfl ?_
  refine jj_iload_n hC dX9_writePilot_1 rfl 1 rfl ?_
  obtain ⟨q1, hq1, h⟩ := bd_e h
  obtain ⟨v1, hv1, h⟩ := el_m h
  subst hv1
  refine jj_invV hC mvX9_knownPilot wd62 wd0 wd60 hs0 (by decide) rfl (xX9_knownPilot_n (OKC.tr hC) hs0 hp1 hq1) rfl rfl (c_le rfl) (c_le rfl) (by omega) (by omega) dX9_writePilot_2 noXk (po_kA (fun hr1 => ?_))
  refine jj_astore_n (lv' := [(2, .ref v1), (0, .ref a0), (1, .int (iI x1))]) hC dX9_writePilot_5 rfl (by decide) rfl ?_
  refine jj_aload_n hC dX9_writePilot_6 rfl 1 rfl ?_
  obtain ⟨b2, hb2, hs2, h⟩ := rf_e h
  refine jg_R hC kfX9 5 rfl hs0 (by decide) wd1122 rfl hb2 dX9_writePilot_7 ?_
  refine jj_iconst hC dX9_writePilot_10 ?_
  obtain ⟨q3, hq3, h⟩ := bd_e h
  refine jj_invV hC mvJ4_setLength_d00df wd144 wd145 wd143 hs2 (by decide) rfl (xJ4_setLength_d00df (OKC.tr hC) hs2 (show (-2147483648 ≤ (0 : Int) ∧ (0 : Int) < 2147483648) from by decide) hq3) rfl rfl (c_le rfl) (c_le rfl) (by omega) (by omega) dX9_writePilot_11 noXk (poX_k (fun hx3 => po_kV ?_))
  refine jj_widen (k' := 1) (n' := 256) (by omega) (by omega) ?_
  refine jj_aload_n hC dX9_writePilot_14 rfl 1 rfl ?_
  obtain ⟨b4, hb4, hs4, h⟩ := rf_e h
  refine jg_R hC kfX9 5 rfl (ext_s hx3 hs0 (by decide)) (by decide) wd1122 rfl hb4 dX9_writePilot_15 ?_
  refine jj_iload_n hC dX9_writePilot_18 rfl 2 rfl ?_
  obtain ⟨q5, hq5, h⟩ := bd_e h
  refine jj_invV hC mvJ4_append_bf812 wd309 wd310 wd461 hs4 (by decide) rfl (xJ4_append_bf812 (OKC.tr hC) hs4 hp1 hq5) rfl rfl (c_le rfl) (c_le rfl) (by omega) (by omega) dX9_writePilot_19 noXk (poX_k (fun hx5 => po_kA (fun hr5 => ?_)))
  refine jj_widen (k' := 2) (n' := 512) (by omega) (by omega) ?_
  refine jj_pop hC dX9_writePilot_22 rfl ?_
  refine jj_aload_n hC dX9_writePilot_23 rfl 0 rfl ?_
  obtain ⟨hg6, h⟩ := gd_e h
  refine jg_E hC kfX3 1 rfl (ext_s hx5 (ext_s hx3 hr1 (by decide)) (by decide)) (by decide) wd994 rfl hg6 dX9_writePilot_24 (fun hr6 => ?_)
  refine jg_s (j := 0) hC 0 rfl rfl wd462 dX9_writePilot_27 ?_
  refine jg_acmp_ne (tgt := 46) hC dX9_writePilot_30 rfl ⟨hg6, hr6⟩ (show (0 ≤ (0 : Int) ∧ (0 : Int) < 9) from by decide) (fun hc => ?_) (fun hc => ?_)
  · replace h := (if_pos hc).symm.trans h
    refine jj_aload_n hC dX9_writePilot_46 rfl 1 rfl ?_
    refine jj_aload_n hC dX9_writePilot_47 rfl 0 rfl ?_
    obtain ⟨q7, hq7, h⟩ := bd_e h
    refine jj_invV hC mvX9_writeFlight wd488 wd2 wd486 (ext_s hx5 (ext_s hx3 hs0 (by decide)) (by decide)) (by decide) rfl (xX9_writeFlight (OKC.tr hC) (ext_s hx5 (ext_s hx3 hs0 (by decide)) (by decide)) (ext_s hx5 (ext_s hx3 hr1 (by decide)) (by decide)) hq7) rfl rfl (c_le rfl) (c_le rfl) (by omega) (by omega) dX9_writePilot_48 noXk (poX_k (fun hx7 => po_kV ?_))
    refine jj_widen (k' := 14) (n' := 3584) (by omega) (by omega) ?_
    refine jj_widen (k' := 14) (n' := 3584) (by omega) (by omega) ?_
    refine jj_lv (lv' := [(0, .ref a0)]) [1] rfl ?_
    exact hB51 q7.1 q7.2.1 q7.2.2.1 q7.2.2.2.1 q7.2.2.2.2 a0 (ext_t (ext_t hx3 hx5) hx7) (ext_s hx7 (ext_s hx5 (ext_s hx3 hs0 (by decide)) (by decide)) (by decide)) h
  · replace h := (if_neg (fun k => k hc)).symm.trans h
    refine jj_aload_n hC dX9_writePilot_33 rfl 1 rfl ?_
    obtain ⟨b10, hb10, hs10, h⟩ := rf_e h
    refine jg_R hC kfX9 5 rfl (ext_s hx5 (ext_s hx3 hs0 (by decide)) (by decide)) (by decide) wd1122 rfl hb10 dX9_writePilot_34 ?_
    refine jj_bipush hC dX9_writePilot_37 (by decide) ?_
    obtain ⟨q11, hq11, h⟩ := bd_e h
    refine jj_invV hC mvJ4_append_cf468 wd465 wd466 wd464 hs10 (by decide) rfl (xJ4_append_cf468 (OKC.tr hC) hs10 (show (0 ≤ (45 : Int) ∧ (45 : Int) < 65536) from by decide) hq11) rfl rfl (c_le rfl) (c_le rfl) (by omega) (by omega) dX9_writePilot_39 noXk (poX_k (fun hx11 => po_kA (fun hr11 => ?_)))
    refine jj_widen (k' := 3) (n' := 768) (by omega) (by omega) ?_
    refine jj_pop hC dX9_writePilot_42 rfl ?_
    refine jj_goto (tgt := 51) hC dX9_writePilot_43 rfl ?_
    refine jj_widen (k' := 14) (n' := 3584) (by omega) (by omega) ?_
    refine jj_lv (lv' := [(0, .ref a0)]) [1] rfl ?_
    exact hB51 q11.2.1 q11.2.2.1 q11.2.2.2.1 q11.2.2.2.2.1 q11.2.2.2.2.2 a0 (ext_t (ext_t hx3 hx5) hx11) (ext_s hx11 (ext_s hx5 (ext_s hx3 hs0 (by decide)) (by decide)) (by decide)) h
