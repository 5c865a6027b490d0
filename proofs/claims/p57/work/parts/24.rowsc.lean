/-! the throws whose text is loaded by ldc -/
section JJTC2
variable {G : gE} {C : gC} {own : String} {cc : ByteArray} {nL : Nat} {ret : Option FieldType} {fr mc ms : Nat} {P : gP} {X : gX} {k n sz : Nat} {S Ln : Nat → Nat} {M : gM} {R : gR} {pc : Nat} {lv lv' : List (Nat × Value)} {st : List Value}
/-- throw new E(text) -/
theorem jj_throwC2 (hC : OKC G C own cc nL ret fr mc ms P X) {cls text : String} {names : List String} {ik is ic : Nat} (i : Nat) (hi : gTx[i]? = some (own, is, text)) (hcls : Bundle.fit cls = true) (hnames : ∀ n ∈ names, Bundle.fit n = true) (hlen : names.length ≤ 4)
    (hk : Cond.classLink own ik cls ∈ gW) (hini : Cond.initialized cls ∈ gW) (hat : ∀ w ∈ vx_atS own ic cls names, w ∈ gW ∨ (w.onTables = true ∧ w ∈ gNW)) (hgood : ∀ w ∈ Cond.classLink own ik cls :: Cond.initialized cls :: vx_atS own ic cls names, vx_ot w = true)
    (d0 : decode cc pc = .ok (.new ik, 3)) (d3 : decode cc (pc + 3) = .ok (.dup, 1)) (d4 : decode cc (pc + 4) = .ok (.ldc is, 2)) (d7 : decode cc (pc + 6) = .ok (.invokespecial ic, 3)) (d10 : decode cc (pc + 9) = .ok (.athrow, 1))
    (hfr : 8 ≤ fr) (hW : (st.map fun v => v.category).sum ≤ 8) (h1 : k + 1 ≤ mc) (h2 : n + 6 ≤ ms) (hX : ∀ sz', sz ≤ sz' → X cls sz' S Ln M R) (ho : own ≠ "GlidingContestLaw" := by decide) : JJ G C k n sz S Ln M R pc lv st := by
  obtain ⟨p, l, e, Rm, s, m, args, below, meth, c, Q⟩ := C
  obtain ⟨hx, hb, hml, hown, hts, hE, hlk2, hrt, hst, hRm, hQ, htab, hz⟩ := hC
  intro H locs ls hR hS hl
  subst hQ
  obtain ⟨rm1, rm2, rm3, rm4⟩ := hRm
  obtain ⟨h9, ⟨h10, h10n⟩, z1, z2, z3, z45, z6, z7, z8, z9, z10⟩ := hE
  obtain ⟨sa, hsa⟩ := z7 _ (List.mem_of_getElem? hi)
  refine vx_throwS (sa := sa) (names := names) hx hb hst hown hcls hnames (hts _ hk) (hts _ hini) hsa ?_ hgood z8 z9 hS hl.1 d0 d3 d4 d7 d10 (fun x hx => (htab ho x hx).elim) (by show names.length + 3 < Rm.frames; omega) (by show _ ≤ Rm.locals; omega) (by show k + 1 ≤ Rm.cells; omega) (by show n + 6 ≤ Rm.slots; omega) hlk2 ?_ hS.2.2 h1 h2
  · intro w hw
    rcases hat w hw with h | ⟨h0, h⟩
    · exact hts _ h
    · exact va_Nw.use h0 (h10 _ h)
  · intro t _ ht1 ht2
    refine ⟨⟨t.heap.size, S, Ln, M, R, hX _ (by rw [← hR.1]; exact ht1), rfl, fun a ha => ?_⟩, ?_, ?_⟩
    · obtain ⟨r1, r2, r3, r5, r4⟩ := hR.2 a ha
      have hH := hR.1
      exact ⟨by omega, r2, r3, r5, gm_cell.kept r4 (ht2 a (by omega))⟩
    · exact Nat.le_trans hS.1 ht1
    · intro q h3 h4
      rw [ht2 q (Nat.lt_of_lt_of_le h3 hS.1)]
      exact hS.2.1 q h3 h4
end JJTC2
section NXK3
variable {p : Program} {l : Launch} {e : Env} {R : Room} {s : State} {m : MethodId} {args : Array Value} {below : List Frame} {meth : Method} {c : Code} {H : Heap} {locs : List Loc} {cells slots : Nat} {Q : State → Prop}
variable {ls : Array Slot} {rest : List Value} {D : va_G} {cl : List vw_C} {tys : List (ClassId × FieldType)} {ws : va_W}
set_option maxHeartbeats 1000000 in
theorem nx_throw2 {cc : ByteArray} {pc : Nat} (hexec : p.tables.exec = Jvm.exec) (hb : c.code = cc) (hl : l.stackTraces = false) {own cls text Y0 : String} {names : List String} {ik is ic sa : Nat} {A : Nat → Prop} {ix : Nat} {rx : ByteArray} (x0 : decode rx 0 = .ok (.aload_n 0, 1)) (x1 : decode rx 1 = .ok (.aload_n 1, 1)) (x2 : decode rx 2 = .ok (.invokespecial ix, 3)) (x5 : decode rx 5 = .ok (.return_, 1))
    (hown : s.vm.findClass own = some m.cls) (hcls : Bundle.fit cls = true) (hY0 : Bundle.fit Y0 = true) (hnames : ∀ n ∈ names, Bundle.fit n = true)
    (hk : (Cond.classLink own ik cls).before args s = true) (hini : (Cond.initialized cls).before args s = true) (hstr : vk_R own is text sa s) (hat : ∀ w ∈ nx_atS own ic cls ix rx Y0 names, w.before args s = true)
    (hgood : ∀ w ∈ Cond.classLink own ik cls :: Cond.initialized cls :: nx_atS own ic cls ix rx Y0 names, vx_ot w = true)
    (hU : vx_Zq Bundle.tN "UNASSIGNED_STACK" Bundle.steD A s s.heap) (hN : vx_Zq Bundle.tN "SUPPRESSED_SENTINEL" Bundle.listD A s s.heap) (hS : va_S A s.heap H locs) (hsize : ls.size = c.maxLocals)
    (d0 : decode cc pc = .ok (.new ik, 3)) (d3 : decode cc (pc + 3) = .ok (.dup, 1)) (d4 : decode cc (pc + 4) = .ok (.ldc is, 2)) (d6 : decode cc (pc + 6) = .ok (.invokespecial ic, 3))
    (hRframes : names.length + 4 < R.frames) (hRlocals : (rest.map fun v => v.category).sum + (13 * (names.length + 2) + 43) ≤ R.locals) (hRcells : cells + 1 ≤ R.cells) (hRslots : slots + 6 ≤ R.slots)
    (kk : ∀ (q : Nat) (ce : Cell) (H1 : Heap), H.size ≤ H1.size → (∀ x : Nat, x < H.size → H1[x]? = H[x]?) → H1[q]? = some ce → ce.vm = .none → s.vm.findClass cls = some ce.cls → W p l e R s m args below meth c H1 locs (cells + 1) (slots + 6) Q (F0 m (pc + 9) ls (.ref q :: rest))) :
    W p l e R s m args below meth c H locs cells slots Q (F0 m pc ls rest) := by
  intro T hT X
  subst hT
  have htr : e.platform.stackTraces = false := (show e.platform.stackTraces = l.stackTraces by rw [X.admits.platform]).trans hl
  have Y := vx_rebase X (R' := { frames := R.frames, locals := R.locals, cells := 1, slots := 6 }) (Nat.le_refl _) (Nat.le_refl _) hRcells hRslots
  obtain ⟨s', hA'⟩ : ∃ z, z = (T.setVm s.vm).setFrames (.invoking m args :: below) := ⟨_, rfl⟩
  rw [← hA'] at Y
  have hvm : s'.vm = s.vm := by rw [hA']; rfl
  have hhp : s'.heap = T.heap := by rw [hA']; rfl
  have hW0 : s.WarmedH s'.vm := by rw [hvm]; exact State.WarmedH.refl s
  have hat' : ∀ w ∈ nx_atS own ic cls ix rx Y0 names, w.before args s' = true := fun w hw => vx_ot_at hW0 hvm.symm (hgood w (List.mem_cons_of_mem _ (List.mem_cons_of_mem _ hw))) (hat w hw)
  have hk' : (Cond.classLink own ik cls).before args s' = true := vx_ot_at hW0 hvm.symm (hgood _ List.mem_cons_self) hk
  have hini' : (Cond.initialized cls).before args s' = true := vx_ot_at hW0 hvm.symm (hgood _ (List.mem_cons_of_mem _ List.mem_cons_self)) hini
  have hU' : vx_Zq Bundle.tN "UNASSIGNED_STACK" Bundle.steD A s' s'.heap := by rw [hhp]; exact vx_Zq.moved hW0.alike (hU.kept hS.2.1)
  have hN' : vx_Zq Bundle.tN "SUPPRESSED_SENTINEL" Bundle.listD A s' s'.heap := by rw [hhp]; exact vx_Zq.moved hW0.alike (hN.kept hS.2.1)
  have h : ∀ w ∈ nx_atoms own ic cls ix rx Y0 names, w.before args s' = true := vx_own hat' (vx_isRefq hU'.1) (vx_isRefq hN'.1) hU'.2.word hN'.2.word
  have hown' : s'.vm.findClass own = some m.cls := by rw [hvm]; exact hown
  have hins : (Cond.instantiable cls 6).before args s' = true := h _ (by simp [nx_atoms, nx_own])
  obtain ⟨vm₁, cX, kX, hfX, hkX, -, -, X₁, st1⟩ := Y.newCold hexec (own := own) (C := cls) (index := ik) (n := 6) hown' hk' hins hini'
    (g := F0 m pc ls rest) rfl (by rw [hb]; exact d0) (Nat.le_refl _) (Nat.le_refl _)
  generalize hT1 : (T.setVm vm₁).pushCell { cls := cX, slots := kX.instanceTypes.map defaultValue, vm := .none } = T1 at X₁ st1
  have hcat : (Value.ref T.heap.size).category = 1 := rfl
  have hcellA : T1.heap[T.heap.size]? = some (freshCell cX kX) := by rw [← hT1]; exact State.heap_pushCell_size _ _
  have d3' : decode c.code (pc + 3) = .ok (.dup, 1) := by rw [hb]; exact d3
  have d4' : decode c.code (pc + 4) = .ok (.ldc is, 2) := by rw [hb]; exact d4
  have hstr' : vk_R own is text sa s' := vk_R.warm hW0 hstr
  obtain ⟨V, ce, L, Z, hL, hlt, hcl9, hvm9, st⟩ := nx_made X₁ hexec htr (own := own) (cls := cls) (Y0 := Y0) (names := names) (ic := ic) x0 x1 x2 x5 hown' hcls hY0 hnames h (fun x hx => nomatch hx) hfX hkX hcellA (by rw [hhp]; exact Nat.le_refl _) (msg := .ref sa) rfl
    (g := { method := m, pc := pc + 6, locals := ls, stack := .ref sa :: .ref T.heap.size :: .ref T.heap.size :: rest, locked := none }) rfl hsize (rest := rest) rfl
    (by rw [hb]; exact d6) hRframes (by simp only [List.map_cons, List.sum_cons, hcat]; omega)
  have Z0 := Stand.forget (locs := []) Z (fun y hy => by rw [hL y hy, hhp]; exact Nat.le_refl _)
  obtain ⟨f1, f2⟩ := vx_frame Z0.same
  rw [hhp] at f1 f2
  have hcid : s.vm.findClass cls = some ce.cls := by
    rw [hcl9, ← hvm]; exact hfX
  have hh : (V.setCell T.heap.size ce).heap[T.heap.size]? = some ce := heapAt_setCell_self (s := V) ce hlt
  subst hA'
  have X5 := vx_back9 X Y Z0
  have X6 : Stand p l e R s m args below meth c (V.setCell T.heap.size ce) locs (cells + 1) (slots + 6) := { X5 with same := X5.same.mono (by omega) (by omega) }
  obtain ⟨t, a1, b1⟩ := kk T.heap.size ce (V.setCell T.heap.size ce).heap f1 (fun x hx => f2 x hx (fun z hz => nomatch hz)) hh hvm9 hcid _ rfl X6
  refine ⟨t, st1 _ ?_, b1⟩
  show Steps p.tables e below (T1.setTop { method := m, pc := pc + 3, locals := ls, stack := .ref T.heap.size :: rest, locked := none }) _
  jvm_step X₁.here [X₁.here.top, hexec, d3', Value.category]
  exact X₁.ldcString hexec (own := own) (text := text) (index := is) (a := sa) hown' hstr'.1 hstr'.2
    (g := { method := m, pc := pc + 4, locals := ls, stack := .ref T.heap.size :: .ref T.heap.size :: rest, locked := none }) rfl d4' _ (st _ a1)
end NXK3
/-- throw new E(text), E's own constructor with its link at the entry ix -/
theorem jj_throwX2 {G : gE} {C : gC} {own : String} {cc : ByteArray} {nL : Nat} {ret : Option FieldType} {fr mc ms : Nat} {P : gP} {X : gX} {k n sz : Nat} {S Ln : Nat → Nat} {M : gM} {R : gR} {pc : Nat} {lv : List (Nat × Value)} {st : List Value} (hC : OKC G C own cc nL ret fr mc ms P X) {cls text Y0 : String} {names : List String} {ik is ic : Nat} {ix : Nat} {rx : ByteArray} (x0 : decode rx 0 = .ok (.aload_n 0, 1)) (x1 : decode rx 1 = .ok (.aload_n 1, 1)) (x2 : decode rx 2 = .ok (.invokespecial ix, 3)) (x5 : decode rx 5 = .ok (.return_, 1)) (i : Nat) (hi : gTx[i]? = some (own, is, text)) (hcls : Bundle.fit cls = true) (hY0 : Bundle.fit Y0 = true) (hnames : ∀ n ∈ names, Bundle.fit n = true) (hlen : names.length ≤ 3)
    (hk : Cond.classLink own ik cls ∈ gW) (hini : Cond.initialized cls ∈ gW) (hat : ∀ w ∈ nx_atS own ic cls ix rx Y0 names, w ∈ gW ∨ (w.onTables = true ∧ w ∈ gNW)) (hgood : ∀ w ∈ Cond.classLink own ik cls :: Cond.initialized cls :: nx_atS own ic cls ix rx Y0 names, vx_ot w = true)
    (d0 : decode cc pc = .ok (.new ik, 3)) (d3 : decode cc (pc + 3) = .ok (.dup, 1)) (d4 : decode cc (pc + 4) = .ok (.ldc is, 2)) (d7 : decode cc (pc + 6) = .ok (.invokespecial ic, 3)) (d10 : decode cc (pc + 9) = .ok (.athrow, 1))
    (hfr : 8 ≤ fr) (hW : (st.map fun v => v.category).sum ≤ 8) (h1 : k + 1 ≤ mc) (h2 : n + 6 ≤ ms) (hX : ∀ sz', sz ≤ sz' → X cls sz' S Ln M R) (ho : own ≠ "GlidingContestLaw" := by decide) : JJ G C k n sz S Ln M R pc lv st := by
  obtain ⟨p, l, e, Rm, s, m, args, below, meth, c, Q⟩ := C
  obtain ⟨hx, hb, hml, hown, hts, hE, hlk2, hrt, hst, hRm, hQ, htab, hz⟩ := hC
  intro H locs ls hR hS hl
  subst hQ
  obtain ⟨rm1, rm2, rm3, rm4⟩ := hRm
  obtain ⟨h9, ⟨h10, h10n⟩, z1, z2, z3, z45, z6, z7, z8, z9, z10⟩ := hE
  obtain ⟨sa, hsa⟩ := z7 _ (List.mem_of_getElem? hi)
  refine nx_throw2 (sa := sa) (names := names) hx hb hst x0 x1 x2 x5 hown hcls hY0 hnames (hts _ hk) (hts _ hini) hsa ?_ hgood z8 z9 hS hl.1 d0 d3 d4 d7 (by omega) (by omega) (by omega) (by omega) (fun q ce H1 ht1 ht2 g1 g2 g3 => ?_)
  · intro w hw
    rcases hat w hw with h | ⟨h0, h⟩
    · exact hts _ h
    · exact va_Nw.use h0 (h10 _ h)
  · refine vx_athrow hx hb d10 ?_
    refine vx_out (fun x hx => (htab ho x hx).elim) hlk2 g1 g2 g3 (fun t ht _ => ⟨⟨H1.size, S, Ln, M, R, hX _ (by rw [← hR.1]; exact ht1), by rw [ht], fun a ha => ?_⟩, ?_⟩) hS.2.2 h1 h2
    · obtain ⟨r1, r2, r3, r5, r4⟩ := hR.2 a ha
      have hH := hR.1
      exact ⟨by omega, r2, r3, r5, gm_cell.kept r4 (by rw [ht]; exact ht2 a (by omega))⟩
    · unfold va_F
      rw [ht]
      exact ⟨Nat.le_trans hS.1 ht1, fun q h3 h4 => by rw [ht2 q (Nat.lt_of_lt_of_le h3 hS.1)]; exact hS.2.1 q h3 h4⟩
def fX9_refuse (ad S Ln : Nat → Nat) (R : gR) (M : gM) (x0 : Int) : Option ((Unit) ⊕ (String)) :=
  if ¬ x0 = 5 then (if ¬ x0 = 6 then (if ¬ x0 = 7 then (if ¬ x0 = 8 then (some (Sum.inl ())) else (some (Sum.inr ("java/lang/UnsupportedOperationException")))) else (some (Sum.inr ("java/lang/IllegalStateException")))) else (some (Sum.inr ("java/lang/IllegalArgumentException")))) else (some (Sum.inr ("java/lang/IndexOutOfBoundsException")))
theorem xX9_refuse {l : Launch} {G : gE} {sz : Nat} {S Ln : Nat → Nat} {M : gM} {R : gR} (hl : l.stackTraces = false) {x0 : Int} (hp0 : (0 ≤ x0 ∧ x0 < 9)) {r : (Unit) ⊕ (String)} (h : fX9_refuse G.2.2.2.2 S Ln R M x0 = some r) : Ct l G yX9_refuse cX9_refuse 1 none 8 1 6 [.ref (G.2.2.2.2 x0.toNat)] sz S Ln M R (poS r (fun a => poV sz S Ln (M) R)) (xoS r (fun e => xo e S Ln M R)) := by
  refine jj_start (own := RX9) (lv0 := [(0, .ref (G.2.2.2.2 x0.toNat))]) hl (by decide +kernel) rfl rfl (c_le rfl) (fun C hCl hC => ?_)
  unfold fX9_refuse at h
  refine jj_aload_n hC dX9_refuse_0 rfl 0 rfl ?_
  refine jg_s (j := 5) hC 5 rfl rfl wd576 dX9_refuse_1 ?_
  refine jg_acmp_ne (tgt := 18) hC dX9_refuse_4 rfl hp0 (show (0 ≤ (5 : Int) ∧ (5 : Int) < 9) from by decide) (fun hc => ?_) (fun hc => ?_)
  · replace h := (if_pos hc).symm.trans h
    refine jj_aload_n hC dX9_refuse_18 rfl 0 rfl ?_
    refine jg_s (j := 6) hC 6 rfl rfl wd579 dX9_refuse_19 ?_
    refine jg_acmp_ne (tgt := 36) hC dX9_refuse_22 rfl hp0 (show (0 ≤ (6 : Int) ∧ (6 : Int) < 9) from by decide) (fun hc => ?_) (fun hc => ?_)
    · replace h := (if_pos hc).symm.trans h
      refine jj_aload_n hC dX9_refuse_36 rfl 0 rfl ?_
      refine jg_s (j := 7) hC 7 rfl rfl wd581 dX9_refuse_37 ?_
      refine jg_acmp_ne (tgt := 54) hC dX9_refuse_40 rfl hp0 (show (0 ≤ (7 : Int) ∧ (7 : Int) < 9) from by decide) (fun hc => ?_) (fun hc => ?_)
      · replace h := (if_pos hc).symm.trans h
        refine jj_aload_n hC dX9_refuse_54 rfl 0 rfl ?_
        refine jg_s (j := 8) hC 8 rfl rfl wd598 dX9_refuse_55 ?_
        refine jg_acmp_ne (tgt := 72) hC dX9_refuse_58 rfl hp0 (show (0 ≤ (8 : Int) ∧ (8 : Int) < 9) from by decide) (fun hc => ?_) (fun hc => ?_)
        · replace h := (if_pos hc).symm.trans h
          cases h
          exact jj_vret hC (c_le rfl) (c_le rfl) dX9_refuse_72 ⟨_, rfl, rfl, trivial, rfl, rfl, rfl, rfl, rfl⟩
        · replace h := (if_neg (fun k => k hc)).symm.trans h
          cases h
          exact jj_throwC hC 3 rfl (by decide +kernel) (tfit_of (by decide +kernel)) (by decide) wd600 wd44 ta_UnsupportedOperationException353 tg_UnsupportedOperationException353 dX9_refuse_61 dX9_refuse_64 dX9_refuse_65 dX9_refuse_68 dX9_refuse_71 (c_le rfl) (c_le rfl) (c_le rfl) (c_le rfl) (fun sz7 _ => ⟨_, rfl, rfl, rfl, rfl, rfl, rfl⟩)
      · replace h := (if_neg (fun k => k hc)).symm.trans h
        cases h
        exact jj_throwC hC 2 rfl (by decide +kernel) (tfit_of (by decide +kernel)) (by decide) wd582 wd43 ta_IllegalStateException92 tg_IllegalStateException92 dX9_refuse_43 dX9_refuse_46 dX9_refuse_47 dX9_refuse_50 dX9_refuse_53 (c_le rfl) (c_le rfl) (c_le rfl) (c_le rfl) (fun sz7 _ => ⟨_, rfl, rfl, rfl, rfl, rfl, rfl⟩)
    · replace h := (if_neg (fun k => k hc)).symm.trans h
      cases h
      exact jj_throwC hC 1 rfl (by decide +kernel) (tfit_of (by decide +kernel)) (by decide) wd541 wd42 ta_IllegalArgumentException117 tg_IllegalArgumentException117 dX9_refuse_25 dX9_refuse_28 dX9_refuse_29 dX9_refuse_32 dX9_refuse_35 (c_le rfl) (c_le rfl) (c_le rfl) (c_le rfl) (fun sz7 _ => ⟨_, rfl, rfl, rfl, rfl, rfl, rfl⟩)
  · replace h := (if_neg (fun k => k hc)).symm.trans h
    cases h
    exact jj_throwC hC 0 rfl (by decide +kernel) (tfit_of (by decide +kernel)) (by decide) wd69 wd41 ta_IndexOutOfBoundsException177 tg_IndexOutOfBoundsException177 dX9_refuse_7 dX9_refuse_10 dX9_refuse_11 dX9_refuse_14 dX9_refuse_17 (c_le rfl) (c_le rfl) (c_le rfl) (c_le rfl) (fun sz7 _ => ⟨_, rfl, rfl, rfl, rfl, rfl, rfl⟩)
def fX9_addPoint (ad S Ln : Nat → Nat) (R : gR) (M : gM) (a0 : Nat) (x1 : Int) (x2 : Int) : Option ((Int × gM × gR) ⊕ (String × gM × gR)) :=
  rf S (R a0 0) 11 fun b1 => bd (fX8_refusalOfPoint ad S Ln R M b1 x1 x2) fun q2 => bd (fX9_refuse ad S Ln R M q2) fun q3 => Sum.elim (fun v3 => rf S (R a0 3) 9 fun b4 => rf S (R a0 0) 11 fun b5 => bd (fX4_keep ad S Ln R M b4 b5) fun q6 => rf S (q6.2 a0 0) 11 fun b7 => rf S (q6.2 b7 0) 7 fun b8 => bd (fX2_putPoint ad S Ln q6.2 q6.1 b8 x1 x2) fun q9 => some (Sum.inl (q9.1, q9.2, q6.2))) (fun e3 => some (Sum.inr (e3, M, R))) q3
theorem xX9_addPoint {l : Launch} {G : gE} {sz : Nat} {S Ln : Nat → Nat} {M : gM} {R : gR} (hl : l.stackTraces = false) {a0 : Nat} (hs0 : S a0 = 12) {x1 : Int} (hp1 : (-2147483648 ≤ x1 ∧ x1 < 2147483648)) {x2 : Int} (hp2 : (-2147483648 ≤ x2 ∧ x2 < 2147483648)) {r : (Int × gM × gR) ⊕ (String × gM × gR)} (h : fX9_addPoint G.2.2.2.2 S Ln R M a0 x1 x2 = some r) : Ct l G yX9_addPoint cX9_addPoint 3 (some .int) 9 1 6 [.ref a0, .int (iI x1), .int (iI x2)] sz S Ln M R (poS r (fun a => poI a.1 sz S Ln (a.2.1) (a.2.2))) (xoS r (fun e => xo e.1 S Ln e.2.1 e.2.2)) := by
  refine jj_start (own := RX9) (lv0 := [(0, .ref a0), (1, .int (iI x1)), (2, .int (iI x2))]) hl (by decide +kernel) rfl rfl (c_le rfl) (fun C hCl hC => ?_)
  unfold fX9_addPoint at h
  refine jj_aload_n hC dX9_addPoint_0 rfl 0 rfl ?_
  obtain ⟨b1, hb1, hs1, h⟩ := rf_e h
  refine jg_R hC kfX9 0 rfl hs0 (by decide) wd1117 rfl hb1 dX9_addPoint_1 ?_
  refine jj_iload_n hC dX9_addPoint_4 rfl 1 rfl ?_
  refine jj_iload_n hC dX9_addPoint_5 rfl 2 rfl ?_
  obtain ⟨q2, hq2, h⟩ := bd_e h
  refine jj_invV hC mvX8_refusalOfPoint wd1153 wd1154 wd1152 hs1 (by decide) rfl (xX8_refusalOfPoint (OKC.tr hC) hs1 hp1 hp2 hq2) rfl rfl (c_le rfl) (c_le rfl) (c_le rfl) (c_le rfl) dX9_addPoint_6 noXk (po_kE (fun hr2 => ?_))
  obtain ⟨q3, hq3, h⟩ := bd_e h
  refine jj_invS hC mvX9_refuse wd574 wd573 (xX9_refuse (OKC.tr hC) hr2 hq3) rfl rfl (c_le rfl) (c_le rfl) (c_le rfl) (c_le rfl) dX9_addPoint_9 (fun E3 sz3 S3 Ln3 M3 R3 hX3 => by
    obtain ⟨e3, he3, hx1, hx2, hx3, hx4, hx5⟩ := hX3
    subst he3
    replace h := el_r h
    cases h
    exact jj_out hC (c_le rfl) (c_le rfl) ⟨_, rfl, hx1, hx2, hx3, hx4, hx5⟩) (poS_k (fun v3 hv3 => po_kV ?_))
  subst hv3
  replace h := el_l h
  refine jj_aload_n hC dX9_addPoint_12 rfl 0 rfl ?_
  obtain ⟨b4, hb4, hs4, h⟩ := rf_e h
  refine jg_R hC kfX9 3 rfl hs0 (by decide) wd1120 rfl hb4 dX9_addPoint_13 ?_
  refine jj_aload_n hC dX9_addPoint_16 rfl 0 rfl ?_
  obtain ⟨b5, hb5, hs5, h⟩ := rf_e h
  refine jg_R hC kfX9 0 rfl hs0 (by decide) wd1117 rfl hb5 dX9_addPoint_17 ?_
  obtain ⟨q6, hq6, h⟩ := bd_e h
  refine jj_invV hC mvX4_keep wd545 wd546 wd544 hs4 (by decide) rfl (xX4_keep (OKC.tr hC) hs4 hs5 hq6) rfl rfl (c_le rfl) (c_le rfl) (c_le rfl) (c_le rfl) dX9_addPoint_20 noXk (po_kV ?_)
  refine jj_aload_n hC dX9_addPoint_23 rfl 0 rfl ?_
  obtain ⟨b7, hb7, hs7, h⟩ := rf_e h
  refine jg_R hC kfX9 0 rfl hs0 (by decide) wd1117 rfl hb7 dX9_addPoint_24 ?_
  obtain ⟨b8, hb8, hs8, h⟩ := rf_e h
  refine jg_R hC kfX8 0 rfl hs7 (by decide) wd1037 rfl hb8 dX9_addPoint_27 ?_
  refine jj_iload_n hC dX9_addPoint_30 rfl 1 rfl ?_
  refine jj_iload_n hC dX9_addPoint_31 rfl 2 rfl ?_
  obtain ⟨q9, hq9, h⟩ := bd_e h
  refine jj_invV hC mvX2_putPoint wd1157 wd1158 wd1156 hs8 (by decide) rfl (xX2_putPoint (OKC.tr hC) hs8 hp1 hp2 hq9) rfl rfl (c_le rfl) (c_le rfl) (c_le rfl) (c_le rfl) dX9_addPoint_32 noXk (po_kI (fun hr9 => ?_))
  cases h
  exact jj_iret hC (c_le rfl) (c_le rfl) dX9_addPoint_35 ⟨_, rfl, rfl, hr9, rfl, rfl, rfl, rfl, rfl⟩
def fX9_addTaskPoint (ad S Ln : Nat → Nat) (R : gR) (M : gM) (a0 : Nat) (x1 : Int) : Option ((Int × gM × gR) ⊕ (String × gM × gR)) :=
  rf S (R a0 0) 11 fun b1 => bd (fX8_refusalOfStop ad S Ln R M b1 x1) fun q2 => bd (fX9_refuse ad S Ln R M q2) fun q3 => Sum.elim (fun v3 => rf S (R a0 3) 9 fun b4 => rf S (R a0 0) 11 fun b5 => bd (fX4_keep ad S Ln R M b4 b5) fun q6 => rf S (q6.2 a0 0) 11 fun b7 => rf S (q6.2 b7 0) 7 fun b8 => bd (fX2_putStop ad S Ln q6.2 q6.1 b8 x1) fun q9 => some (Sum.inl (q9.1, q9.2, q6.2))) (fun e3 => some (Sum.inr (e3, M, R))) q3
theorem xX9_addTaskPoint {l : Launch} {G : gE} {sz : Nat} {S Ln : Nat → Nat} {M : gM} {R : gR} (hl : l.stackTraces = false) {a0 : Nat} (hs0 : S a0 = 12) {x1 : Int} (hp1 : (-2147483648 ≤ x1 ∧ x1 < 2147483648)) {r : (Int × gM × gR) ⊕ (String × gM × gR)} (h : fX9_addTaskPoint G.2.2.2.2 S Ln R M a0 x1 = some r) : Ct l G yX9_addTaskPoint cX9_addTaskPoint 2 (some .int) 9 1 6 [.ref a0, .int (iI x1)] sz S Ln M R (poS r (fun a => poI a.1 sz S Ln (a.2.1) (a.2.2))) (xoS r (fun e => xo e.1 S Ln e.2.1 e.2.2)) := by
  refine jj_start (own := RX9) (lv0 := [(0, .ref a0), (1, .int (iI x1))]) hl (by decide +kernel) rfl rfl (c_le rfl) (fun C hCl hC => ?_)
  unfold fX9_addTaskPoint at h
  refine jj_aload_n hC dX9_addTaskPoint_0 rfl 0 rfl ?_
  obtain ⟨b1, hb1, hs1, h⟩ := rf_e h
  refine jg_R hC kfX9 0 rfl hs0 (by decide) wd1117 rfl hb1 dX9_addTaskPoint_1 ?_
  refine jj_iload_n hC dX9_addTaskPoint_4 rfl 1 rfl ?_
  obtain ⟨q2, hq2, h⟩ := bd_e h
  refine jj_invV hC mvX8_refusalOfStop wd1168 wd1169 wd1167 hs1 (by decide) rfl (xX8_refusalOfStop (OKC.tr hC) hs1 hp1 hq2) rfl rfl (c_le rfl) (c_le rfl) (c_le rfl) (c_le rfl) dX9_addTaskPoint_5 noXk (po_kE (fun hr2 => ?_))
  obtain ⟨q3, hq3, h⟩ := bd_e h
  refine jj_invS hC mvX9_refuse wd574 wd573 (xX9_refuse (OKC.tr hC) hr2 hq3) rfl rfl (c_le rfl) (c_le rfl) (c_le rfl) (c_le rfl) dX9_addTaskPoint_8 (fun E3 sz3 S3 Ln3 M3 R3 hX3 => by
    obtain ⟨e3, he3, hx1, hx2, hx3, hx4, hx5⟩ := hX3
    subst he3
    replace h := el_r h
    cases h
    exact jj_out hC (c_le rfl) (c_le rfl) ⟨_, rfl, hx1, hx2, hx3, hx4, hx5⟩) (poS_k (fun v3 hv3 => po_kV ?_))
  subst hv3
  replace h := el_l h
  refine jj_aload_n hC dX9_addTaskPoint_11 rfl 0 rfl ?_
  obtain ⟨b4, hb4, hs4, h⟩ := rf_e h
  refine jg_R hC kfX9 3 rfl hs0 (by decide) wd1120 rfl hb4 dX9_addTaskPoint_12 ?_
  refine jj_aload_n hC dX9_addTaskPoint_15 rfl 0 rfl ?_
  obtain ⟨b5, hb5, hs5, h⟩ := rf_e h
  refine jg_R hC kfX9 0 rfl hs0 (by decide) wd1117 rfl hb5 dX9_addTaskPoint_16 ?_
  obtain ⟨q6, hq6, h⟩ := bd_e h
  refine jj_invV hC mvX4_keep wd545 wd546 wd544 hs4 (by decide) rfl (xX4_keep (OKC.tr hC) hs4 hs5 hq6) rfl rfl (c_le rfl) (c_le rfl) (c_le rfl) (c_le rfl) dX9_addTaskPoint_19 noXk (po_kV ?_)
  refine jj_aload_n hC dX9_addTaskPoint_22 rfl 0 rfl ?_
  obtain ⟨b7, hb7, hs7, h⟩ := rf_e h
  refine jg_R hC kfX9 0 rfl hs0 (by decide) wd1117 rfl hb7 dX9_addTaskPoint_23 ?_
  obtain ⟨b8, hb8, hs8, h⟩ := rf_e h
  refine jg_R hC kfX8 0 rfl hs7 (by decide) wd1037 rfl hb8 dX9_addTaskPoint_26 ?_
  refine jj_iload_n hC dX9_addTaskPoint_29 rfl 1 rfl ?_
  obtain ⟨q9, hq9, h⟩ := bd_e h
  refine jj_invV hC mvX2_putStop wd1181 wd1182 wd1180 hs8 (by decide) rfl (xX2_putStop (OKC.tr hC) hs8 hp1 hq9) rfl rfl (c_le rfl) (c_le rfl) (c_le rfl) (c_le rfl) dX9_addTaskPoint_30 noXk (po_kI (fun hr9 => ?_))
  cases h
  exact jj_iret hC (c_le rfl) (c_le rfl) dX9_addTaskPoint_33 ⟨_, rfl, rfl, hr9, rfl, rfl, rfl, rfl, rfl⟩
def fX9_clearTask (ad S Ln : Nat → Nat) (R : gR) (M : gM) (a0 : Nat) : Option ((Int × gM × gR) ⊕ (String × gM × gR)) :=
  rf S (R a0 0) 11 fun b1 => bd (fX8_allWaiting ad S Ln R M b1) fun q2 => if ¬ q2 = 0 then (rf S (R a0 3) 9 fun b3 => rf S (R a0 0) 11 fun b4 => bd (fX4_keep ad S Ln R M b3 b4) fun q5 => rf S (q5.2 a0 0) 11 fun b6 => rf S (q5.2 b6 0) 7 fun b7 => bd (fX2_dropStops ad S Ln q5.2 q5.1 b7) fun q8 => some (Sum.inl (q8.1, q8.2, q5.2))) else (some (Sum.inr ("java/lang/IllegalStateException", M, R)))
theorem xX9_clearTask {l : Launch} {G : gE} {sz : Nat} {S Ln : Nat → Nat} {M : gM} {R : gR} (hl : l.stackTraces = false) {a0 : Nat} (hs0 : S a0 = 12) {r : (Int × gM × gR) ⊕ (String × gM × gR)} (h : fX9_clearTask G.2.2.2.2 S Ln R M a0 = some r) : Ct l G yX9_clearTask cX9_clearTask 1 (some .int) 8 1 6 [.ref a0] sz S Ln M R (poS r (fun a => poI a.1 sz S Ln (a.2.1) (a.2.2))) (xoS r (fun e => xo e.1 S Ln e.2.1 e.2.2)) := by
  refine jj_start (own := RX9) (lv0 := [(0, .ref a0)]) hl (by decide +kernel) rfl rfl (c_le rfl) (fun C hCl hC => ?_)
  unfold fX9_clearTask at h
  refine jj_aload_n hC dX9_clearTask_0 rfl 0 rfl ?_
  obtain ⟨b1, hb1, hs1, h⟩ := rf_e h
  refine jg_R hC kfX9 0 rfl hs0 (by decide) wd1117 rfl hb1 dX9_clearTask_1 ?_
  obtain ⟨q2, hq2, h⟩ := bd_e h
  refine jj_invV hC mvX8_allWaiting wd746 wd747 wd1225 hs1 (by decide) rfl (xX8_allWaiting (OKC.tr hC) hs1 hq2) rfl rfl (c_le rfl) (c_le rfl) (c_le rfl) (c_le rfl) dX9_clearTask_4 noXk (po_kZ (fun hr2 => ?_))
  refine jj_if_ne (tgt := 20) hC dX9_clearTask_7 rfl (r_z hr2) (fun hc => ?_) (fun hc => ?_)
  · replace h := (if_pos hc).symm.trans h
    refine jj_aload_n hC dX9_clearTask_20 rfl 0 rfl ?_
    obtain ⟨b3, hb3, hs3, h⟩ := rf_e h
    refine jg_R hC kfX9 3 rfl hs0 (by decide) wd1120 rfl hb3 dX9_clearTask_21 ?_
    refine jj_aload_n hC dX9_clearTask_24 rfl 0 rfl ?_
    obtain ⟨b4, hb4, hs4, h⟩ := rf_e h
    refine jg_R hC kfX9 0 rfl hs0 (by decide) wd1117 rfl hb4 dX9_clearTask_25 ?_
    obtain ⟨q5, hq5, h⟩ := bd_e h
    refine jj_invV hC mvX4_keep wd545 wd546 wd544 hs3 (by decide) rfl (xX4_keep (OKC.tr hC) hs3 hs4 hq5) rfl rfl (c_le rfl) (c_le rfl) (c_le rfl) (c_le rfl) dX9_clearTask_28 noXk (po_kV ?_)
    refine jj_aload_n hC dX9_clearTask_31 rfl 0 rfl ?_
    obtain ⟨b6, hb6, hs6, h⟩ := rf_e h
    refine jg_R hC kfX9 0 rfl hs0 (by decide) wd1117 rfl hb6 dX9_clearTask_32 ?_
    obtain ⟨b7, hb7, hs7, h⟩ := rf_e h
    refine jg_R hC kfX8 0 rfl hs6 (by decide) wd1037 rfl hb7 dX9_clearTask_35 ?_
    obtain ⟨q8, hq8, h⟩ := bd_e h
    refine jj_invV hC mvX2_dropStops wd1228 wd1229 wd1227 hs7 (by decide) rfl (xX2_dropStops (OKC.tr hC) hs7 hq8) rfl rfl (c_le rfl) (c_le rfl) (c_le rfl) (c_le rfl) dX9_clearTask_38 noXk (po_kI (fun hr8 => ?_))
    cases h
    exact jj_iret hC (c_le rfl) (c_le rfl) dX9_clearTask_41 ⟨_, rfl, rfl, hr8, rfl, rfl, rfl, rfl, rfl⟩
  · replace h := (if_neg (fun k => k hc)).symm.trans h
    cases h
    exact jj_throwC2 hC 4 rfl (by decide +kernel) (tfit_of (by decide +kernel)) (by decide) wd582 wd43 ta_IllegalStateException92 tg_IllegalStateException92 dX9_clearTask_10 dX9_clearTask_13 dX9_clearTask_14 dX9_clearTask_16 dX9_clearTask_19 (c_le rfl) (c_le rfl) (c_le rfl) (c_le rfl) (fun sz7 _ => ⟨_, rfl, rfl, rfl, rfl, rfl, rfl⟩)
def fX9_addThermal (ad S Ln : Nat → Nat) (R : gR) (M : gM) (a0 : Nat) (x1 : Int) (x2 : Int) (x3 : Int) : Option ((Int × gM × gR) ⊕ (String × gM × gR)) :=
  rf S (R a0 0) 11 fun b1 => bd (fX8_refusalOfThermal ad S Ln R M b1 x1 x2 x3) fun q2 => bd (fX9_refuse ad S Ln R M q2) fun q3 => Sum.elim (fun v3 => rf S (R a0 3) 9 fun b4 => rf S (R a0 0) 11 fun b5 => bd (fX4_keep ad S Ln R M b4 b5) fun q6 => rf S (q6.2 a0 0) 11 fun b7 => rf S (q6.2 b7 1) 5 fun b8 => bd (fX0_putThermal ad S Ln q6.2 q6.1 b8 x1 x2 x3) fun q9 => some (Sum.inl (q9.1, q9.2, q6.2))) (fun e3 => some (Sum.inr (e3, M, R))) q3
theorem xX9_addThermal {l : Launch} {G : gE} {sz : Nat} {S Ln : Nat → Nat} {M : gM} {R : gR} (hl : l.stackTraces = false) {a0 : Nat} (hs0 : S a0 = 12) {x1 : Int} (hp1 : (-2147483648 ≤ x1 ∧ x1 < 2147483648)) {x2 : Int} (hp2 : (-2147483648 ≤ x2 ∧ x2 < 2147483648)) {x3 : Int} (hp3 : (-2147483648 ≤ x3 ∧ x3 < 2147483648)) {r : (Int × gM × gR) ⊕ (String × gM × gR)} (h : fX9_addThermal G.2.2.2.2 S Ln R M a0 x1 x2 x3 = some r) : Ct l G yX9_addThermal cX9_addThermal 4 (some .int) 9 1 6 [.ref a0, .int (iI x1), .int (iI x2), .int (iI x3)] sz S Ln M R (poS r (fun a => poI a.1 sz S Ln (a.2.1) (a.2.2))) (xoS r (fun e => xo e.1 S Ln e.2.1 e.2.2)) := by
  refine jj_start (own := RX9) (lv0 := [(0, .ref a0), (1, .int (iI x1)), (2, .int (iI x2)), (3, .int (iI x3))]) hl (by decide +kernel) rfl rfl (c_le rfl) (fun C hCl hC => ?_)
  unfold fX9_addThermal at h
  refine jj_aload_n hC dX9_addThermal_0 rfl 0 rfl ?_
  obtain ⟨b1, hb1, hs1, h⟩ := rf_e h
  refine jg_R hC kfX9 0 rfl hs0 (by decide) wd1117 rfl hb1 dX9_addThermal_1 ?_
  refine jj_iload_n hC dX9_addThermal_4 rfl 1 rfl ?_
  refine jj_iload_n hC dX9_addThermal_5 rfl 2 rfl ?_
  refine jj_iload_n hC dX9_addThermal_6 rfl 3 rfl ?_
  obtain ⟨q2, hq2, h⟩ := bd_e h
  refine jj_invV hC mvX8_refusalOfThermal wd1192 wd1193 wd1191 hs1 (by decide) rfl (xX8_refusalOfThermal (OKC.tr hC) hs1 hp1 hp2 hp3 hq2) rfl rfl (c_le rfl) (c_le rfl) (c_le rfl) (c_le rfl) dX9_addThermal_7 noXk (po_kE (fun hr2 => ?_))
  obtain ⟨q3, hq3, h⟩ := bd_e h
  refine jj_invS hC mvX9_refuse wd574 wd573 (xX9_refuse (OKC.tr hC) hr2 hq3) rfl rfl (c_le rfl) (c_le rfl) (c_le rfl) (c_le rfl) dX9_addThermal_10 (fun E3 sz3 S3 Ln3 M3 R3 hX3 => by
    obtain ⟨e3, he3, hx1, hx2, hx3, hx4, hx5⟩ := hX3
    subst he3
    replace h := el_r h
    cases h
    exact jj_out hC (c_le rfl) (c_le rfl) ⟨_, rfl, hx1, hx2, hx3, hx4, hx5⟩) (poS_k (fun v3 hv3 => po_kV ?_))
  subst hv3
  replace h := el_l h
  refine jj_aload_n hC dX9_addThermal_13 rfl 0 rfl ?_
  obtain ⟨b4, hb4, hs4, h⟩ := rf_e h
  refine jg_R hC kfX9 3 rfl hs0 (by decide) wd1120 rfl hb4 dX9_addThermal_14 ?_
  refine jj_aload_n hC dX9_addThermal_17 rfl 0 rfl ?_
  obtain ⟨b5, hb5, hs5, h⟩ := rf_e h
  refine jg_R hC kfX9 0 rfl hs0 (by decide) wd1117 rfl hb5 dX9_addThermal_18 ?_
  obtain ⟨q6, hq6, h⟩ := bd_e h
  refine jj_invV hC mvX4_keep wd545 wd546 wd544 hs4 (by decide) rfl (xX4_keep (OKC.tr hC) hs4 hs5 hq6) rfl rfl (c_le rfl) (c_le rfl) (c_le rfl) (c_le rfl) dX9_addThermal_21 noXk (po_kV ?_)
  refine jj_aload_n hC dX9_addThermal_24 rfl 0 rfl ?_
  obtain ⟨b7, hb7, hs7, h⟩ := rf_e h
  refine jg_R hC kfX9 0 rfl hs0 (by decide) wd1117 rfl hb7 dX9_addThermal_25 ?_
  obtain ⟨b8, hb8, hs8, h⟩ := rf_e h
  refine jg_R hC kfX8 1 rfl hs7 (by decide) wd1039 rfl hb8 dX9_addThermal_28 ?_
  refine jj_iload_n hC dX9_addThermal_31 rfl 1 rfl ?_
  refine jj_iload_n hC dX9_addThermal_32 rfl 2 rfl ?_
  refine jj_iload_n hC dX9_addThermal_33 rfl 3 rfl ?_
  obtain ⟨q9, hq9, h⟩ := bd_e h
  refine jj_invV hC mvX0_putThermal wd1196 wd1197 wd1195 hs8 (by decide) rfl (xX0_putThermal (OKC.tr hC) hs8 hp1 hp2 hp3 hq9) rfl rfl (c_le rfl) (c_le rfl) (c_le rfl) (c_le rfl) dX9_addThermal_34 noXk (po_kI (fun hr9 => ?_))
  cases h
  exact jj_iret hC (c_le rfl) (c_le rfl) dX9_addThermal_37 ⟨_, rfl, rfl, hr9, rfl, rfl, rfl, rfl, rfl⟩
def fX9_setCloudBase_B14 (ad S Ln : Nat → Nat) (R14 : gR) (M14 : gM)  : Option ((Int × gM × gR) ⊕ (String × gM × gR)) :=
  some (Sum.inr ("java/lang/IllegalArgumentException", M14, R14))
def fX9_setCloudBase (ad S Ln : Nat → Nat) (R : gR) (M : gM) (a0 : Nat) (x1 : Int) : Option ((Int × gM × gR) ⊕ (String × gM × gR)) :=
  if x1 < 500 then (fX9_setCloudBase_B14 ad S Ln R M ) else (if x1 ≤ 3000 then (rf S (R a0 3) 9 fun b1 => rf S (R a0 0) 11 fun b2 => bd (fX4_keep ad S Ln R M b1 b2) fun q3 => rf S (q3.2 a0 0) 11 fun b4 => rf S (q3.2 b4 1) 5 fun b5 => rf S (q3.2 a0 0) 11 fun b7 => rf S (q3.2 b7 1) 5 fun b8 => nam (wr q3.1 b8 4 x1) fun M9 => some (Sum.inl (q3.1 b5 4, M9, q3.2))) else (fX9_setCloudBase_B14 ad S Ln R M ))
theorem xX9_setCloudBase {l : Launch} {G : gE} {sz : Nat} {S Ln : Nat → Nat} {M : gM} {R : gR} (hl : l.stackTraces = false) {a0 : Nat} (hs0 : S a0 = 12) {x1 : Int} (hp1 : (-2147483648 ≤ x1 ∧ x1 < 2147483648)) {r : (Int × gM × gR) ⊕ (String × gM × gR)} (h : fX9_setCloudBase G.2.2.2.2 S Ln R M a0 x1 = some r) : Ct l G yX9_setCloudBase cX9_setCloudBase 3 (some .int) 8 1 6 [.ref a0, .int (iI x1)] sz S Ln M R (poS r (fun a => poI a.1 sz S Ln (a.2.1) (a.2.2))) (xoS r (fun e => xo e.1 S Ln e.2.1 e.2.2)) := by
  refine jj_start (own := RX9) (lv0 := [(0, .ref a0), (1, .int (iI x1))]) hl (by decide +kernel) rfl rfl (c_le rfl) (fun C hCl hC => ?_)
  have hB14 : ∀ (M14 : gM) (R14 : gR) , fX9_setCloudBase_B14 G.2.2.2.2 S Ln R14 M14  = some r → JJ G C 0 0 sz S Ln M14 R14 14 [] [] := by
    intro M14 R14 h
    unfold fX9_setCloudBase_B14 at h
    cases h
    exact jj_throwC2 hC 5 rfl (by decide +kernel) (tfit_of (by decide +kernel)) (by decide) wd541 wd42 ta_IllegalArgumentException117 tg_IllegalArgumentException117 dX9_setCloudBase_14 dX9_setCloudBase_17 dX9_setCloudBase_18 dX9_setCloudBase_20 dX9_setCloudBase_23 (c_le rfl) (c_le rfl) (c_le rfl) (c_le rfl) (fun sz7 _ => ⟨_, rfl, rfl, rfl, rfl, rfl, rfl⟩)
  unfold fX9_setCloudBase at h
  refine jj_iload_n hC dX9_setCloudBase_0 rfl 1 rfl ?_
  refine jj_sipush hC dX9_setCloudBase_1 (by decide) ?_
  refine jj_icmp_lt (tgt := 14) hC dX9_setCloudBase_4 rfl hp1 (show (-2147483648 ≤ (500 : Int) ∧ (500 : Int) < 2147483648) from by decide) (fun hc => ?_) (fun hc => ?_)
  · replace h := (if_pos hc).symm.trans h
    refine jj_lv (lv' := []) [] rfl ?_
    exact hB14 M R   h
  · replace h := (if_neg (Int.not_lt.mpr hc)).symm.trans h
    refine jj_iload_n hC dX9_setCloudBase_7 rfl 1 rfl ?_
    refine jj_sipush hC dX9_setCloudBase_8 (by decide) ?_
    refine jj_icmp_le (tgt := 24) hC dX9_setCloudBase_11 rfl hp1 (show (-2147483648 ≤ (3000 : Int) ∧ (3000 : Int) < 2147483648) from by decide) (fun hc => ?_) (fun hc => ?_)
    · replace h := (if_pos hc).symm.trans h
      refine jj_aload_n hC dX9_setCloudBase_24 rfl 0 rfl ?_
      obtain ⟨b1, hb1, hs1, h⟩ := rf_e h
      refine jg_R hC kfX9 3 rfl hs0 (by decide) wd1120 rfl hb1 dX9_setCloudBase_25 ?_
      refine jj_aload_n hC dX9_setCloudBase_28 rfl 0 rfl ?_
      obtain ⟨b2, hb2, hs2, h⟩ := rf_e h
      refine jg_R hC kfX9 0 rfl hs0 (by decide) wd1117 rfl hb2 dX9_setCloudBase_29 ?_
      obtain ⟨q3, hq3, h⟩ := bd_e h
      refine jj_invV hC mvX4_keep wd545 wd546 wd544 hs1 (by decide) rfl (xX4_keep (OKC.tr hC) hs1 hs2 hq3) rfl rfl (c_le rfl) (c_le rfl) (c_le rfl) (c_le rfl) dX9_setCloudBase_32 noXk (po_kV ?_)
      refine jj_aload_n hC dX9_setCloudBase_35 rfl 0 rfl ?_
      obtain ⟨b4, hb4, hs4, h⟩ := rf_e h
      refine jg_R hC kfX9 0 rfl hs0 (by decide) wd1117 rfl hb4 dX9_setCloudBase_36 ?_
      obtain ⟨b5, hb5, hs5, h⟩ := rf_e h
      refine jg_R hC kfX8 1 rfl hs4 (by decide) wd1039 rfl hb5 dX9_setCloudBase_39 ?_
      refine jg_I hC kfX0 4 rfl hs5 (by decide) wd942 rfl dX9_setCloudBase_42 (fun hr6 => ?_)
      refine jj_istore_n (lv' := [(2, .int (iI (q3.1 b5 4))), (0, .ref a0), (1, .int (iI x1))]) hC dX9_setCloudBase_45 rfl (by decide) rfl ?_
      refine jj_aload_n hC dX9_setCloudBase_46 rfl 1 rfl ?_
      obtain ⟨b7, hb7, hs7, h⟩ := rf_e h
      refine jg_R hC kfX9 0 rfl hs0 (by decide) wd1117 rfl hb7 dX9_setCloudBase_47 ?_
      obtain ⟨b8, hb8, hs8, h⟩ := rf_e h
      refine jg_R hC kfX8 1 rfl hs7 (by decide) wd1039 rfl hb8 dX9_setCloudBase_50 ?_
      refine jj_iload_n hC dX9_setCloudBase_53 rfl 2 rfl ?_
      obtain ⟨M9, hM9, h⟩ := nam_e h
      refine jp_I hC kfX0 4 rfl hs8 rfl (by decide) wd942 rfl rfl rfl hp1 dX9_setCloudBase_54 (jj_M hM9 ?_)
      refine jj_iload_n hC dX9_setCloudBase_57 rfl 0 rfl ?_
      cases h
      exact jj_iret hC (c_le rfl) (c_le rfl) dX9_setCloudBase_58 ⟨_, rfl, rfl, hr6, rfl, rfl, rfl, rfl, rfl⟩
    · replace h := (if_neg (Int.not_le.mpr hc)).symm.trans h
      refine jj_lv (lv' := []) [] rfl ?_
      exact hB14 M R   h
def fX9_addArea (ad S Ln : Nat → Nat) (R : gR) (M : gM) (a0 : Nat) (x1 : Int) (x2 : Int) (x3 : Int) (x4 : Int) : Option ((Int × gM × gR) ⊕ (String × gM × gR)) :=
  rf S (R a0 0) 11 fun b1 => bd (fX8_refusalOfArea ad S Ln R M b1 x1 x2 x3 x4) fun q2 => bd (fX9_refuse ad S Ln R M q2) fun q3 => Sum.elim (fun v3 => rf S (R a0 3) 9 fun b4 => rf S (R a0 0) 11 fun b5 => bd (fX4_keep ad S Ln R M b4 b5) fun q6 => rf S (q6.2 a0 0) 11 fun b7 => rf S (q6.2 b7 2) 6 fun b8 => bd (fX1_putArea ad S Ln q6.2 q6.1 b8 x1 x2 x3 x4) fun q9 => some (Sum.inl (q9.1, q9.2, q6.2))) (fun e3 => some (Sum.inr (e3, M, R))) q3
theorem xX9_addArea {l : Launch} {G : gE} {sz : Nat} {S Ln : Nat → Nat} {M : gM} {R : gR} (hl : l.stackTraces = false) {a0 : Nat} (hs0 : S a0 = 12) {x1 : Int} (hp1 : (-2147483648 ≤ x1 ∧ x1 < 2147483648)) {x2 : Int} (hp2 : (-2147483648 ≤ x2 ∧ x2 < 2147483648)) {x3 : Int} (hp3 : (-2147483648 ≤ x3 ∧ x3 < 2147483648)) {x4 : Int} (hp4 : (-2147483648 ≤ x4 ∧ x4 < 2147483648)) {r : (Int × gM × gR) ⊕ (String × gM × gR)} (h : fX9_addArea G.2.2.2.2 S Ln R M a0 x1 x2 x3 x4 = some r) : Ct l G yX9_addArea cX9_addArea 5 (some .int) 9 1 6 [.ref a0, .int (iI x1), .int (iI x2), .int (iI x3), .int (iI x4)] sz S Ln M R (poS r (fun a => poI a.1 sz S Ln (a.2.1) (a.2.2))) (xoS r (fun e => xo e.1 S Ln e.2.1 e.2.2)) := by
  refine jj_start (own := RX9) (lv0 := [(0, .ref a0), (1, .int (iI x1)), (2, .int (iI x2)), (3, .int (iI x3)), (4, .int (iI x4))]) hl (by decide +kernel) rfl rfl (c_le rfl) (fun C hCl hC => ?_)
  unfold fX9_addArea at h
  refine jj_aload_n hC dX9_addArea_0 rfl 0 rfl ?_
  obtain ⟨b1, hb1, hs1, h⟩ := rf_e h
  refine jg_R hC kfX9 0 rfl hs0 (by decide) wd1117 rfl hb1 dX9_addArea_1 ?_
  refine jj_iload_n hC dX9_addArea_4 rfl 1 rfl ?_
  refine jj_iload_n hC dX9_addArea_5 rfl 2 rfl ?_
  refine jj_iload_n hC dX9_addArea_6 rfl 3 rfl ?_
  refine jj_iload hC dX9_addArea_7 4 rfl ?_
  obtain ⟨q2, hq2, h⟩ := bd_e h
  refine jj_invV hC mvX8_refusalOfArea wd1207 wd1208 wd1206 hs1 (by decide) rfl (xX8_refusalOfArea (OKC.tr hC) hs1 hp1 hp2 hp3 hp4 hq2) rfl rfl (c_le rfl) (c_le rfl) (c_le rfl) (c_le rfl) dX9_addArea_9 noXk (po_kE (fun hr2 => ?_))
  obtain ⟨q3, hq3, h⟩ := bd_e h
  refine jj_invS hC mvX9_refuse wd574 wd573 (xX9_refuse (OKC.tr hC) hr2 hq3) rfl rfl (c_le rfl) (c_le rfl) (c_le rfl) (c_le rfl) dX9_addArea_12 (fun E3 sz3 S3 Ln3 M3 R3 hX3 => by
    obtain ⟨e3, he3, hx1, hx2, hx3, hx4, hx5⟩ := hX3
    subst he3
    replace h := el_r h
    cases h
    exact jj_out hC (c_le rfl) (c_le rfl) ⟨_, rfl, hx1, hx2, hx3, hx4, hx5⟩) (poS_k (fun v3 hv3 => po_kV ?_))
  subst hv3
  replace h := el_l h
  refine jj_aload_n hC dX9_addArea_15 rfl 0 rfl ?_
  obtain ⟨b4, hb4, hs4, h⟩ := rf_e h
  refine jg_R hC kfX9 3 rfl hs0 (by decide) wd1120 rfl hb4 dX9_addArea_16 ?_
  refine jj_aload_n hC dX9_addArea_19 rfl 0 rfl ?_
  obtain ⟨b5, hb5, hs5, h⟩ := rf_e h
  refine jg_R hC kfX9 0 rfl hs0 (by decide) wd1117 rfl hb5 dX9_addArea_20 ?_
  obtain ⟨q6, hq6, h⟩ := bd_e h
  refine jj_invV hC mvX4_keep wd545 wd546 wd544 hs4 (by decide) rfl (xX4_keep (OKC.tr hC) hs4 hs5 hq6) rfl rfl (c_le rfl) (c_le rfl) (c_le rfl) (c_le rfl) dX9_addArea_23 noXk (po_kV ?_)
  refine jj_aload_n hC dX9_addArea_26 rfl 0 rfl ?_
  obtain ⟨b7, hb7, hs7, h⟩ := rf_e h
  refine jg_R hC kfX9 0 rfl hs0 (by decide) wd1117 rfl hb7 dX9_addArea_27 ?_
  obtain ⟨b8, hb8, hs8, h⟩ := rf_e h
  refine jg_R hC kfX8 2 rfl hs7 (by decide) wd1041 rfl hb8 dX9_addArea_30 ?_
  refine jj_iload_n hC dX9_addArea_33 rfl 1 rfl ?_
  refine jj_iload_n hC dX9_addArea_34 rfl 2 rfl ?_
  refine jj_iload_n hC dX9_addArea_35 rfl 3 rfl ?_
  refine jj_iload hC dX9_addArea_36 4 rfl ?_
  obtain ⟨q9, hq9, h⟩ := bd_e h
  refine jj_invV hC mvX1_putArea wd1211 wd1212 wd1210 hs8 (by decide) rfl (xX1_putArea (OKC.tr hC) hs8 hp1 hp2 hp3 hp4 hq9) rfl rfl (c_le rfl) (c_le rfl) (c_le rfl) (c_le rfl) dX9_addArea_38 noXk (po_kI (fun hr9 => ?_))
  cases h
  exact jj_iret hC (c_le rfl) (c_le rfl) dX9_addArea_41 ⟨_, rfl, rfl, hr9, rfl, rfl, rfl, rfl, rfl⟩
def fX9_addPilot (ad S Ln : Nat → Nat) (R : gR) (M : gM) (a0 : Nat) (x1 : Int) : Option ((Int × gM × gR) ⊕ (String × gM × gR)) :=
  rf S (R a0 0) 11 fun b1 => bd (fX8_refusalOfPilot ad S Ln R M b1 x1) fun q2 => bd (fX9_refuse ad S Ln R M q2) fun q3 => Sum.elim (fun v3 => rf S (R a0 3) 9 fun b4 => rf S (R a0 0) 11 fun b5 => bd (fX4_keep ad S Ln R M b4 b5) fun q6 => rf S (q6.2 a0 0) 11 fun b7 => bd (fX8_putPilot ad S Ln q6.2 q6.1 b7 x1) fun q8 => some (Sum.inl (q8.1, q8.2, q6.2))) (fun e3 => some (Sum.inr (e3, M, R))) q3
theorem xX9_addPilot {l : Launch} {G : gE} {sz : Nat} {S Ln : Nat → Nat} {M : gM} {R : gR} (hl : l.stackTraces = false) {a0 : Nat} (hs0 : S a0 = 12) {x1 : Int} (hp1 : (-2147483648 ≤ x1 ∧ x1 < 2147483648)) {r : (Int × gM × gR) ⊕ (String × gM × gR)} (h : fX9_addPilot G.2.2.2.2 S Ln R M a0 x1 = some r) : Ct l G yX9_addPilot cX9_addPilot 2 (some .int) 9 1 6 [.ref a0, .int (iI x1)] sz S Ln M R (poS r (fun a => poI a.1 sz S Ln (a.2.1) (a.2.2))) (xoS r (fun e => xo e.1 S Ln e.2.1 e.2.2)) := by
  refine jj_start (own := RX9) (lv0 := [(0, .ref a0), (1, .int (iI x1))]) hl (by decide +kernel) rfl rfl (c_le rfl) (fun C hCl hC => ?_)
  unfold fX9_addPilot at h
  refine jj_aload_n hC dX9_addPilot_0 rfl 0 rfl ?_
  obtain ⟨b1, hb1, hs1, h⟩ := rf_e h
  refine jg_R hC kfX9 0 rfl hs0 (by decide) wd1117 rfl hb1 dX9_addPilot_1 ?_
  refine jj_iload_n hC dX9_addPilot_4 rfl 1 rfl ?_
  obtain ⟨q2, hq2, h⟩ := bd_e h
  refine jj_invV hC mvX8_refusalOfPilot wd564 wd565 wd563 hs1 (by decide) rfl (xX8_refusalOfPilot (OKC.tr hC) hs1 hp1 hq2) rfl rfl (c_le rfl) (c_le rfl) (c_le rfl) (c_le rfl) dX9_addPilot_5 noXk (po_kE (fun hr2 => ?_))
  obtain ⟨q3, hq3, h⟩ := bd_e h
  refine jj_invS hC mvX9_refuse wd574 wd573 (xX9_refuse (OKC.tr hC) hr2 hq3) rfl rfl (c_le rfl) (c_le rfl) (c_le rfl) (c_le rfl) dX9_addPilot_8 (fun E3 sz3 S3 Ln3 M3 R3 hX3 => by
    obtain ⟨e3, he3, hx1, hx2, hx3, hx4, hx5⟩ := hX3
    subst he3
    replace h := el_r h
    cases h
    exact jj_out hC (c_le rfl) (c_le rfl) ⟨_, rfl, hx1, hx2, hx3, hx4, hx5⟩) (poS_k (fun v3 hv3 => po_kV ?_))
  subst hv3
  replace h := el_l h
  refine jj_aload_n hC dX9_addPilot_11 rfl 0 rfl ?_
  obtain ⟨b4, hb4, hs4, h⟩ := rf_e h
  refine jg_R hC kfX9 3 rfl hs0 (by decide) wd1120 rfl hb4 dX9_addPilot_12 ?_
  refine jj_aload_n hC dX9_addPilot_15 rfl 0 rfl ?_
  obtain ⟨b5, hb5, hs5, h⟩ := rf_e h
  refine jg_R hC kfX9 0 rfl hs0 (by decide) wd1117 rfl hb5 dX9_addPilot_16 ?_
  obtain ⟨q6, hq6, h⟩ := bd_e h
  refine jj_invV hC mvX4_keep wd545 wd546 wd544 hs4 (by decide) rfl (xX4_keep (OKC.tr hC) hs4 hs5 hq6) rfl rfl (c_le rfl) (c_le rfl) (c_le rfl) (c_le rfl) dX9_addPilot_19 noXk (po_kV ?_)
  refine jj_aload_n hC dX9_addPilot_22 rfl 0 rfl ?_
  obtain ⟨b7, hb7, hs7, h⟩ := rf_e h
  refine jg_R hC kfX9 0 rfl hs0 (by decide) wd1117 rfl hb7 dX9_addPilot_23 ?_
  refine jj_iload_n hC dX9_addPilot_26 rfl 1 rfl ?_
  obtain ⟨q8, hq8, h⟩ := bd_e h
  refine jj_invV hC mvX8_putPilot wd617 wd618 wd616 hs7 (by decide) rfl (xX8_putPilot (OKC.tr hC) hs7 hp1 hq8) rfl rfl (c_le rfl) (c_le rfl) (c_le rfl) (c_le rfl) dX9_addPilot_27 noXk (po_kI (fun hr8 => ?_))
  cases h
  exact jj_iret hC (c_le rfl) (c_le rfl) dX9_addPilot_30 ⟨_, rfl, rfl, hr8, rfl, rfl, rfl, rfl, rfl⟩
def fX9_launch (ad S Ln : Nat → Nat) (R : gR) (M : gM) (a0 : Nat) (x1 : Int) : Option ((Int × gM × gR) ⊕ (String × gM × gR)) :=
  rf S (R a0 0) 11 fun b1 => bd (fX8_refusalOfLaunch ad S Ln R M b1 x1) fun q2 => bd (fX9_refuse ad S Ln R M q2) fun q3 => Sum.elim (fun v3 => rf S (R a0 3) 9 fun b4 => rf S (R a0 0) 11 fun b5 => bd (fX4_keep ad S Ln R M b4 b5) fun q6 => rf S (q6.2 a0 0) 11 fun b7 => bd (fX8_start ad S Ln q6.2 q6.1 b7 x1) fun q8 => some (Sum.inl (q8.1, q8.2, q6.2))) (fun e3 => some (Sum.inr (e3, M, R))) q3
theorem xX9_launch {l : Launch} {G : gE} {sz : Nat} {S Ln : Nat → Nat} {M : gM} {R : gR} (hl : l.stackTraces = false) {a0 : Nat} (hs0 : S a0 = 12) {x1 : Int} (hp1 : (-2147483648 ≤ x1 ∧ x1 < 2147483648)) {r : (Int × gM × gR) ⊕ (String × gM × gR)} (h : fX9_launch G.2.2.2.2 S Ln R M a0 x1 = some r) : Ct l G yX9_launch cX9_launch 2 (some .int) 9 1 6 [.ref a0, .int (iI x1)] sz S Ln M R (poS r (fun a => poI a.1 sz S Ln (a.2.1) (a.2.2))) (xoS r (fun e => xo e.1 S Ln e.2.1 e.2.2)) := by
  refine jj_start (own := RX9) (lv0 := [(0, .ref a0), (1, .int (iI x1))]) hl (by decide +kernel) rfl rfl (c_le rfl) (fun C hCl hC => ?_)
  unfold fX9_launch at h
  refine jj_aload_n hC dX9_launch_0 rfl 0 rfl ?_
  obtain ⟨b1, hb1, hs1, h⟩ := rf_e h
  refine jg_R hC kfX9 0 rfl hs0 (by decide) wd1117 rfl hb1 dX9_launch_1 ?_
  refine jj_iload_n hC dX9_launch_4 rfl 1 rfl ?_
  obtain ⟨q2, hq2, h⟩ := bd_e h
  refine jj_invV hC mvX8_refusalOfLaunch wd642 wd643 wd641 hs1 (by decide) rfl (xX8_refusalOfLaunch (OKC.tr hC) hs1 hp1 hq2) rfl rfl (c_le rfl) (c_le rfl) (c_le rfl) (c_le rfl) dX9_launch_5 noXk (po_kE (fun hr2 => ?_))
  obtain ⟨q3, hq3, h⟩ := bd_e h
  refine jj_invS hC mvX9_refuse wd574 wd573 (xX9_refuse (OKC.tr hC) hr2 hq3) rfl rfl (c_le rfl) (c_le rfl) (c_le rfl) (c_le rfl) dX9_launch_8 (fun E3 sz3 S3 Ln3 M3 R3 hX3 => by
    obtain ⟨e3, he3, hx1, hx2, hx3, hx4, hx5⟩ := hX3
    subst he3
    replace h := el_r h
    cases h
    exact jj_out hC (c_le rfl) (c_le rfl) ⟨_, rfl, hx1, hx2, hx3, hx4, hx5⟩) (poS_k (fun v3 hv3 => po_kV ?_))
  subst hv3
  replace h := el_l h
  refine jj_aload_n hC dX9_launch_11 rfl 0 rfl ?_
  obtain ⟨b4, hb4, hs4, h⟩ := rf_e h
  refine jg_R hC kfX9 3 rfl hs0 (by decide) wd1120 rfl hb4 dX9_launch_12 ?_
  refine jj_aload_n hC dX9_launch_15 rfl 0 rfl ?_
  obtain ⟨b5, hb5, hs5, h⟩ := rf_e h
  refine jg_R hC kfX9 0 rfl hs0 (by decide) wd1117 rfl hb5 dX9_launch_16 ?_
  obtain ⟨q6, hq6, h⟩ := bd_e h
  refine jj_invV hC mvX4_keep wd545 wd546 wd544 hs4 (by decide) rfl (xX4_keep (OKC.tr hC) hs4 hs5 hq6) rfl rfl (c_le rfl) (c_le rfl) (c_le rfl) (c_le rfl) dX9_launch_19 noXk (po_kV ?_)
  refine jj_aload_n hC dX9_launch_22 rfl 0 rfl ?_
  obtain ⟨b7, hb7, hs7, h⟩ := rf_e h
  refine jg_R hC kfX9 0 rfl hs0 (by decide) wd1117 rfl hb7 dX9_launch_23 ?_
  refine jj_iload_n hC dX9_launch_26 rfl 1 rfl ?_
  obtain ⟨q8, hq8, h⟩ := bd_e h
  refine jj_invV hC mvX8_start wd650 wd651 wd649 hs7 (by decide) rfl (xX8_start (OKC.tr hC) hs7 hp1 hq8) rfl rfl (c_le rfl) (c_le rfl) (c_le rfl) (c_le rfl) dX9_launch_27 noXk (po_kI (fun hr8 => ?_))
  cases h
  exact jj_iret hC (c_le rfl) (c_le rfl) dX9_launch_30 ⟨_, rfl, rfl, hr8, rfl, rfl, rfl, rfl, rfl⟩
def fX9_fly (ad S Ln : Nat → Nat) (R : gR) (M : gM) (a0 : Nat) (x1 : Int) (x2 : Int) (x3 : Int) : Option ((Int × gM × gR) ⊕ (String × gM × gR)) :=
  rf S (R a0 0) 11 fun b1 => bd (fX8_refusalOfFlight ad S Ln R M b1 x1 x2 x3) fun q2 => bd (fX9_refuse ad S Ln R M q2) fun q3 => Sum.elim (fun v3 => rf S (R a0 3) 9 fun b4 => rf S (R a0 0) 11 fun b5 => bd (fX4_keep ad S Ln R M b4 b5) fun q6 => rf S (q6.2 a0 0) 11 fun b7 => bd (fX8_glide ad S Ln q6.2 q6.1 b7 x1 x2 x3) fun q8 => some (Sum.inl (q8.1, q8.2, q6.2))) (fun e3 => some (Sum.inr (e3, M, R))) q3
theorem xX9_fly {l : Launch} {G : gE} {sz : Nat} {S Ln : Nat → Nat} {M : gM} {R : gR} (hl : l.stackTraces = false) {a0 : Nat} (hs0 : S a0 = 12) {x1 : Int} (hp1 : (-2147483648 ≤ x1 ∧ x1 < 2147483648)) {x2 : Int} (hp2 : (-2147483648 ≤ x2 ∧ x2 < 2147483648)) {x3 : Int} (hp3 : (-2147483648 ≤ x3 ∧ x3 < 2147483648)) {r : (Int × gM × gR) ⊕ (String × gM × gR)} (h : fX9_fly G.2.2.2.2 S Ln R M a0 x1 x2 x3 = some r) : Ct l G yX9_fly cX9_fly 4 (some .int) 9 1 6 [.ref a0, .int (iI x1), .int (iI x2), .int (iI x3)] sz S Ln M R (poS r (fun a => poI a.1 sz S Ln (a.2.1) (a.2.2))) (xoS r (fun e => xo e.1 S Ln e.2.1 e.2.2)) := by
  refine jj_start (own := RX9) (lv0 := [(0, .ref a0), (1, .int (iI x1)), (2, .int (iI x2)), (3, .int (iI x3))]) hl (by decide +kernel) rfl rfl (c_le rfl) (fun C hCl hC => ?_)
  unfold fX9_fly at h
  refine jj_aload_n hC dX9_fly_0 rfl 0 rfl ?_
  obtain ⟨b1, hb1, hs1, h⟩ := rf_e h
  refine jg_R hC kfX9 0 rfl hs0 (by decide) wd1117 rfl hb1 dX9_fly_1 ?_
  refine jj_iload_n hC dX9_fly_4 rfl 1 rfl ?_
  refine jj_iload_n hC dX9_fly_5 rfl 2 rfl ?_
  refine jj_iload_n hC dX9_fly_6 rfl 3 rfl ?_
  obtain ⟨q2, hq2, h⟩ := bd_e h
  refine jj_invV hC mvX8_refusalOfFlight wd679 wd680 wd678 hs1 (by decide) rfl (xX8_refusalOfFlight (OKC.tr hC) hs1 hp1 hp2 hp3 hq2) rfl rfl (c_le rfl) (c_le rfl) (c_le rfl) (c_le rfl) dX9_fly_7 noXk (po_kE (fun hr2 => ?_))
  obtain ⟨q3, hq3, h⟩ := bd_e h
  refine jj_invS hC mvX9_refuse wd574 wd573 (xX9_refuse (OKC.tr hC) hr2 hq3) rfl rfl (c_le rfl) (c_le rfl) (c_le rfl) (c_le rfl) dX9_fly_10 (fun E3 sz3 S3 Ln3 M3 R3 hX3 => by
    obtain ⟨e3, he3, hx1, hx2, hx3, hx4, hx5⟩ := hX3
    subst he3
    replace h := el_r h
    cases h
    exact jj_out hC (c_le rfl) (c_le rfl) ⟨_, rfl, hx1, hx2, hx3, hx4, hx5⟩) (poS_k (fun v3 hv3 => po_kV ?_))
  subst hv3
  replace h := el_l h
  refine jj_aload_n hC dX9_fly_13 rfl 0 rfl ?_
  obtain ⟨b4, hb4, hs4, h⟩ := rf_e h
  refine jg_R hC kfX9 3 rfl hs0 (by decide) wd1120 rfl hb4 dX9_fly_14 ?_
  refine jj_aload_n hC dX9_fly_17 rfl 0 rfl ?_
  obtain ⟨b5, hb5, hs5, h⟩ := rf_e h
  refine jg_R hC kfX9 0 rfl hs0 (by decide) wd1117 rfl hb5 dX9_fly_18 ?_
  obtain ⟨q6, hq6, h⟩ := bd_e h
  refine jj_invV hC mvX4_keep wd545 wd546 wd544 hs4 (by decide) rfl (xX4_keep (OKC.tr hC) hs4 hs5 hq6) rfl rfl (c_le rfl) (c_le rfl) (c_le rfl) (c_le rfl) dX9_fly_21 noXk (po_kV ?_)
  refine jj_aload_n hC dX9_fly_24 rfl 0 rfl ?_
  obtain ⟨b7, hb7, hs7, h⟩ := rf_e h
  refine jg_R hC kfX9 0 rfl hs0 (by decide) wd1117 rfl hb7 dX9_fly_25 ?_
  refine jj_iload_n hC dX9_fly_28 rfl 1 rfl ?_
  refine jj_iload_n hC dX9_fly_29 rfl 2 rfl ?_
  refine jj_iload_n hC dX9_fly_30 rfl 3 rfl ?_
  obtain ⟨q8, hq8, h⟩ := bd_e h
  refine jj_invV hC mvX8_glide wd692 wd693 wd691 hs7 (by decide) rfl (xX8_glide (OKC.tr hC) hs7 hp1 hp2 hp3 hq8) rfl rfl (c_le rfl) (c_le rfl) (c_le rfl) (c_le rfl) dX9_fly_31 noXk (po_kI (fun hr8 => ?_))
  cases h
  exact jj_iret hC (c_le rfl) (c_le rfl) dX9_fly_34 ⟨_, rfl, rfl, hr8, rfl, rfl, rfl, rfl, rfl⟩
def fX9_climb (ad S Ln : Nat → Nat) (R : gR) (M : gM) (a0 : Nat) (x1 : Int) (x2 : Int) : Option ((Int × gM × gR) ⊕ (String × gM × gR)) :=
  rf S (R a0 0) 11 fun b1 => bd (fX8_refusalOfClimb ad S Ln R M b1 x1 x2) fun q2 => bd (fX9_refuse ad S Ln R M q2) fun q3 => Sum.elim (fun v3 => rf S (R a0 3) 9 fun b4 => rf S (R a0 0) 11 fun b5 => bd (fX4_keep ad S Ln R M b4 b5) fun q6 => rf S (q6.2 a0 0) 11 fun b7 => bd (fX8_soar ad S Ln q6.2 q6.1 b7 x1 x2) fun q8 => some (Sum.inl (q8.1, q8.2, q6.2))) (fun e3 => some (Sum.inr (e3, M, R))) q3
theorem xX9_climb {l : Launch} {G : gE} {sz : Nat} {S Ln : Nat → Nat} {M : gM} {R : gR} (hl : l.stackTraces = false) {a0 : Nat} (hs0 : S a0 = 12) {x1 : Int} (hp1 : (-2147483648 ≤ x1 ∧ x1 < 2147483648)) {x2 : Int} (hp2 : (-2147483648 ≤ x2 ∧ x2 < 2147483648)) {r : (Int × gM × gR) ⊕ (String × gM × gR)} (h : fX9_climb G.2.2.2.2 S Ln R M a0 x1 x2 = some r) : Ct l G yX9_climb cX9_climb 3 (some .int) 9 1 6 [.ref a0, .int (iI x1), .int (iI x2)] sz S Ln M R (poS r (fun a => poI a.1 sz S Ln (a.2.1) (a.2.2))) (xoS r (fun e => xo e.1 S Ln e.2.1 e.2.2)) := by
  refine jj_start (own := RX9) (lv0 := [(0, .ref a0), (1, .int (iI x1)), (2, .int (iI x2))]) hl (by decide +kernel) rfl rfl (c_le rfl) (fun C hCl hC => ?_)
  unfold fX9_climb at h
  refine jj_aload_n hC dX9_climb_0 rfl 0 rfl ?_
  obtain ⟨b1, hb1, hs1, h⟩ := rf_e h
  refine jg_R hC kfX9 0 rfl hs0 (by decide) wd1117 rfl hb1 dX9_climb_1 ?_
  refine jj_iload_n hC dX9_climb_4 rfl 1 rfl ?_
  refine jj_iload_n hC dX9_climb_5 rfl 2 rfl ?_
  obtain ⟨q2, hq2, h⟩ := bd_e h
  refine jj_invV hC mvX8_refusalOfClimb wd1252 wd1253 wd1251 hs1 (by decide) rfl (xX8_refusalOfClimb (OKC.tr hC) hs1 hp1 hp2 hq2) rfl rfl (c_le rfl) (c_le rfl) (c_le rfl) (c_le rfl) dX9_climb_6 noXk (po_kE (fun hr2 => ?_))
  obtain ⟨q3, hq3, h⟩ := bd_e h
  refine jj_invS hC mvX9_refuse wd574 wd573 (xX9_refuse (OKC.tr hC) hr2 hq3) rfl rfl (c_le rfl) (c_le rfl) (c_le rfl) (c_le rfl) dX9_climb_9 (fun E3 sz3 S3 Ln3 M3 R3 hX3 => by
    obtain ⟨e3, he3, hx1, hx2, hx3, hx4, hx5⟩ := hX3
    subst he3
    replace h := el_r h
    cases h
    exact jj_out hC (c_le rfl) (c_le rfl) ⟨_, rfl, hx1, hx2, hx3, hx4, hx5⟩) (poS_k (fun v3 hv3 => po_kV ?_))
  subst hv3
  replace h := el_l h
  refine jj_aload_n hC dX9_climb_12 rfl 0 rfl ?_
  obtain ⟨b4, hb4, hs4, h⟩ := rf_e h
  refine jg_R hC kfX9 3 rfl hs0 (by decide) wd1120 rfl hb4 dX9_climb_13 ?_
  refine jj_aload_n hC dX9_climb_16 rfl 0 rfl ?_
  obtain ⟨b5, hb5, hs5, h⟩ := rf_e h
  refine jg_R hC kfX9 0 rfl hs0 (by decide) wd1117 rfl hb5 dX9_climb_17 ?_
  obtain ⟨q6, hq6, h⟩ := bd_e h
  refine jj_invV hC mvX4_keep wd545 wd546 wd544 hs4 (by decide) rfl (xX4_keep (OKC.tr hC) hs4 hs5 hq6) rfl rfl (c_le rfl) (c_le rfl) (c_le rfl) (c_le rfl) dX9_climb_20 noXk (po_kV ?_)
  refine jj_aload_n hC dX9_climb_23 rfl 0 rfl ?_
  obtain ⟨b7, hb7, hs7, h⟩ := rf_e h
  refine jg_R hC kfX9 0 rfl hs0 (by decide) wd1117 rfl hb7 dX9_climb_24 ?_
  refine jj_iload_n hC dX9_climb_27 rfl 1 rfl ?_
  refine jj_iload_n hC dX9_climb_28 rfl 2 rfl ?_
  obtain ⟨q8, hq8, h⟩ := bd_e h
  refine jj_invV hC mvX8_soar wd1257 wd1258 wd1256 hs7 (by decide) rfl (xX8_soar (OKC.tr hC) hs7 hp1 hp2 hq8) rfl rfl (c_le rfl) (c_le rfl) (c_le rfl) (c_le rfl) dX9_climb_29 noXk (po_kI (fun hr8 => ?_))
  cases h
  exact jj_iret hC (c_le rfl) (c_le rfl) dX9_climb_32 ⟨_, rfl, rfl, hr8, rfl, rfl, rfl, rfl, rfl⟩
def fX9_endDay (ad S Ln : Nat → Nat) (R : gR) (M : gM) (a0 : Nat) : Option ((Int × gM × gR) ⊕ (String × gM × gR)) :=
  rf S (R a0 0) 11 fun b1 => bd (fX8_refusalOfEnd ad S Ln R M b1) fun q2 => bd (fX9_refuse ad S Ln R M q2) fun q3 => Sum.elim (fun v3 => rf S (R a0 3) 9 fun b4 => rf S (R a0 0) 11 fun b5 => bd (fX4_keep ad S Ln R M b4 b5) fun q6 => rf S (q6.2 a0 0) 11 fun b7 => bd (fX8_closeDay ad S Ln q6.2 q6.1 b7) fun q8 => some (Sum.inl (q8.1, q8.2, q6.2))) (fun e3 => some (Sum.inr (e3, M, R))) q3
theorem xX9_endDay {l : Launch} {G : gE} {sz : Nat} {S Ln : Nat → Nat} {M : gM} {R : gR} (hl : l.stackTraces = false) {a0 : Nat} (hs0 : S a0 = 12) {r : (Int × gM × gR) ⊕ (String × gM × gR)} (h : fX9_endDay G.2.2.2.2 S Ln R M a0 = some r) : Ct l G yX9_endDay cX9_endDay 1 (some .int) 9 1 6 [.ref a0] sz S Ln M R (poS r (fun a => poI a.1 sz S Ln (a.2.1) (a.2.2))) (xoS r (fun e => xo e.1 S Ln e.2.1 e.2.2)) := by
  refine jj_start (own := RX9) (lv0 := [(0, .ref a0)]) hl (by decide +kernel) rfl rfl (c_le rfl) (fun C hCl hC => ?_)
  unfold fX9_endDay at h
  refine jj_aload_n hC dX9_endDay_0 rfl 0 rfl ?_
  obtain ⟨b1, hb1, hs1, h⟩ := rf_e h
  refine jg_R hC kfX9 0 rfl hs0 (by decide) wd1117 rfl hb1 dX9_endDay_1 ?_
  obtain ⟨q2, hq2, h⟩ := bd_e h
  refine jj_invV hC mvX8_refusalOfEnd wd742 wd743 wd741 hs1 (by decide) rfl (xX8_refusalOfEnd (OKC.tr hC) hs1 hq2) rfl rfl (c_le rfl) (c_le rfl) (c_le rfl) (c_le rfl) dX9_endDay_4 noXk (po_kE (fun hr2 => ?_))
  obtain ⟨q3, hq3, h⟩ := bd_e h
  refine jj_invS hC mvX9_refuse wd574 wd573 (xX9_refuse (OKC.tr hC) hr2 hq3) rfl rfl (c_le rfl) (c_le rfl) (c_le rfl) (c_le rfl) dX9_endDay_7 (fun E3 sz3 S3 Ln3 M3 R3 hX3 => by
    obtain ⟨e3, he3, hx1, hx2, hx3, hx4, hx5⟩ := hX3
    subst he3
    replace h := el_r h
    cases h
    exact jj_out hC (c_le rfl) (c_le rfl) ⟨_, rfl, hx1, hx2, hx3, hx4, hx5⟩) (poS_k (fun v3 hv3 => po_kV ?_))
  subst hv3
  replace h := el_l h
  refine jj_aload_n hC dX9_endDay_10 rfl 0 rfl ?_
  obtain ⟨b4, hb4, hs4, h⟩ := rf_e h
  refine jg_R hC kfX9 3 rfl hs0 (by decide) wd1120 rfl hb4 dX9_endDay_11 ?_
  refine jj_aload_n hC dX9_endDay_14 rfl 0 rfl ?_
  obtain ⟨b5, hb5, hs5, h⟩ := rf_e h
  refine jg_R hC kfX9 0 rfl hs0 (by decide) wd1117 rfl hb5 dX9_endDay_15 ?_
  obtain ⟨q6, hq6, h⟩ := bd_e h
  refine jj_invV hC mvX4_keep wd545 wd546 wd544 hs4 (by decide) rfl (xX4_keep (OKC.tr hC) hs4 hs5 hq6) rfl rfl (c_le rfl) (c_le rfl) (c_le rfl) (c_le rfl) dX9_endDay_18 noXk (po_kV ?_)
  refine jj_aload_n hC dX9_endDay_21 rfl 0 rfl ?_
  obtain ⟨b7, hb7, hs7, h⟩ := rf_e h
  refine jg_R hC kfX9 0 rfl hs0 (by decide) wd1117 rfl hb7 dX9_endDay_22 ?_
  obtain ⟨q8, hq8, h⟩ := bd_e h
  refine jj_invV hC mvX8_closeDay wd750 wd751 wd749 hs7 (by decide) rfl (xX8_closeDay (OKC.tr hC) hs7 hq8) rfl rfl (c_le rfl) (c_le rfl) (c_le rfl) (c_le rfl) dX9_endDay_25 noXk (po_kI (fun hr8 => ?_))
  cases h
  exact jj_iret hC (c_le rfl) (c_le rfl) dX9_endDay_28 ⟨_, rfl, rfl, hr8, rfl, rfl, rfl, rfl, rfl⟩
def fX9_pointCount (ad S Ln : Nat → Nat) (R : gR) (M : gM) (a0 : Nat) : Option Int :=
  rf S (R a0 0) 11 fun b1 => rf S (R b1 0) 7 fun b2 => some (M b2 2)
theorem xX9_pointCount {l : Launch} {G : gE} {sz : Nat} {S Ln : Nat → Nat} {M : gM} {R : gR} (hl : l.stackTraces = false) {a0 : Nat} (hs0 : S a0 = 12) {r : Int} (h : fX9_pointCount G.2.2.2.2 S Ln R M a0 = some r) : Ct l G yX9_pointCount cX9_pointCount 1 (some .int) 1 0 0 [.ref a0] sz S Ln M R (poI r sz S Ln (M) R) noX := by
  refine jj_start (own := RX9) (lv0 := [(0, .ref a0)]) hl (by decide +kernel) rfl rfl (c_le rfl) (fun C hCl hC => ?_)
  unfold fX9_pointCount at h
  refine jj_aload_n hC dX9_pointCount_0 rfl 0 rfl ?_
  obtain ⟨b1, hb1, hs1, h⟩ := rf_e h
  refine jg_R hC kfX9 0 rfl hs0 (by decide) wd1117 rfl hb1 dX9_pointCount_1 ?_
  obtain ⟨b2, hb2, hs2, h⟩ := rf_e h
  refine jg_R hC kfX8 0 rfl hs1 (by decide) wd1037 rfl hb2 dX9_pointCount_4 ?_
  refine jg_I hC kfX2 2 rfl hs2 (by decide) wd907 rfl dX9_pointCount_7 (fun hr3 => ?_)
  cases h
  exact jj_iret hC (c_le rfl) (c_le rfl) dX9_pointCount_10 ⟨rfl, hr3, rfl, rfl, rfl, rfl, rfl⟩
def fX9_distance_B28 (ad S Ln : Nat → Nat) (R : gR) (M : gM)  : Option ((Int) ⊕ (String)) :=
  some (Sum.inr ("java/lang/IndexOutOfBoundsException"))
def fX9_distance (ad S Ln : Nat → Nat) (R : gR) (M : gM) (a0 : Nat) (x1 : Int) (x2 : Int) : Option ((Int) ⊕ (String)) :=
  rf S (R a0 0) 11 fun b1 => rf S (R b1 0) 7 fun b2 => bd (fX2_hasPoint ad S Ln R M b2 x1) fun q3 => if q3 = 0 then (fX9_distance_B28 ad S Ln R M ) else (rf S (R a0 0) 11 fun b4 => rf S (R b4 0) 7 fun b5 => bd (fX2_hasPoint ad S Ln R M b5 x2) fun q6 => if ¬ q6 = 0 then (rf S (R a0 0) 11 fun b7 => rf S (R b7 0) 7 fun b8 => bd (fX2_span ad S Ln R M b8 x1 x2) fun q9 => some (Sum.inl q9)) else (fX9_distance_B28 ad S Ln R M ))
theorem xX9_distance {l : Launch} {G : gE} {sz : Nat} {S Ln : Nat → Nat} {M : gM} {R : gR} (hl : l.stackTraces = false) {a0 : Nat} (hs0 : S a0 = 12) {x1 : Int} (hp1 : (-2147483648 ≤ x1 ∧ x1 < 2147483648)) {x2 : Int} (hp2 : (-2147483648 ≤ x2 ∧ x2 < 2147483648)) {r : (Int) ⊕ (String)} (h : fX9_distance G.2.2.2.2 S Ln R M a0 x1 x2 = some r) : Ct l G yX9_distance cX9_distance 3 (some .int) 8 1 6 [.ref a0, .int (iI x1), .int (iI x2)] sz S Ln M R (poS r (fun a => poI a sz S Ln (M) R)) (xoS r (fun e => xo e S Ln M R)) := by
  refine jj_start (own := RX9) (lv0 := [(0, .ref a0), (1, .int (iI x1)), (2, .int (iI x2))]) hl (by decide +kernel) rfl rfl (c_le rfl) (fun C hCl hC => ?_)
  have hB28 : fX9_distance_B28 G.2.2.2.2 S Ln R M  = some r → JJ G C 0 0 sz S Ln M R 28 [] [] := by
    intro h
    unfold fX9_distance_B28 at h
    cases h
    exact jj_throwC2 hC 6 rfl (by decide +kernel) (tfit_of (by decide +kernel)) (by decide) wd69 wd41 ta_IndexOutOfBoundsException177 tg_IndexOutOfBoundsException177 dX9_distance_28 dX9_distance_31 dX9_distance_32 dX9_distance_34 dX9_distance_37 (c_le rfl) (c_le rfl) (c_le rfl) (c_le rfl) (fun sz7 _ => ⟨_, rfl, rfl, rfl, rfl, rfl, rfl⟩)
  unfold fX9_distance at h
  refine jj_aload_n hC dX9_distance_0 rfl 0 rfl ?_
  obtain ⟨b1, hb1, hs1, h⟩ := rf_e h
  refine jg_R hC kfX9 0 rfl hs0 (by decide) wd1117 rfl hb1 dX9_distance_1 ?_
  obtain ⟨b2, hb2, hs2, h⟩ := rf_e h
  refine jg_R hC kfX8 0 rfl hs1 (by decide) wd1037 rfl hb2 dX9_distance_4 ?_
  refine jj_iload_n hC dX9_distance_7 rfl 1 rfl ?_
  obtain ⟨q3, hq3, h⟩ := bd_e h
  refine jj_invV hC mvX2_hasPoint wd658 wd659 wd1485 hs2 (by decide) rfl (xX2_hasPoint (OKC.tr hC) hs2 hp1 hq3) rfl rfl (c_le rfl) (c_le rfl) (c_le rfl) (c_le rfl) dX9_distance_8 noXk (po_kZ (fun hr3 => ?_))
  refine jj_if_eq (tgt := 28) hC dX9_distance_11 rfl (r_z hr3) (fun hc => ?_) (fun hc => ?_)
  · replace h := (if_pos hc).symm.trans h
    refine jj_lv (lv' := []) [] rfl ?_
    exact hB28   h
  · replace h := (if_neg (hc)).symm.trans h
    refine jj_aload_n hC dX9_distance_14 rfl 0 rfl ?_
    obtain ⟨b4, hb4, hs4, h⟩ := rf_e h
    refine jg_R hC kfX9 0 rfl hs0 (by decide) wd1117 rfl hb4 dX9_distance_15 ?_
    obtain ⟨b5, hb5, hs5, h⟩ := rf_e h
    refine jg_R hC kfX8 0 rfl hs4 (by decide) wd1037 rfl hb5 dX9_distance_18 ?_
    refine jj_iload_n hC dX9_distance_21 rfl 2 rfl ?_
    obtain ⟨q6, hq6, h⟩ := bd_e h
    refine jj_invV hC mvX2_hasPoint wd658 wd659 wd1485 hs5 (by decide) rfl (xX2_hasPoint (OKC.tr hC) hs5 hp2 hq6) rfl rfl (c_le rfl) (c_le rfl) (c_le rfl) (c_le rfl) dX9_distance_22 noXk (po_kZ (fun hr6 => ?_))
    refine jj_if_ne (tgt := 38) hC dX9_distance_25 rfl (r_z hr6) (fun hc => ?_) (fun hc => ?_)
    · replace h := (if_pos hc).symm.trans h
      refine jj_aload_n hC dX9_distance_38 rfl 0 rfl ?_
      obtain ⟨b7, hb7, hs7, h⟩ := rf_e h
      refine jg_R hC kfX9 0 rfl hs0 (by decide) wd1117 rfl hb7 dX9_distance_39 ?_
      obtain ⟨b8, hb8, hs8, h⟩ := rf_e h
      refine jg_R hC kfX8 0 rfl hs7 (by decide) wd1037 rfl hb8 dX9_distance_42 ?_
      refine jj_iload_n hC dX9_distance_45 rfl 1 rfl ?_
      refine jj_iload_n hC dX9_distance_46 rfl 2 rfl ?_
      obtain ⟨q9, hq9, h⟩ := bd_e h
      refine jj_invV hC mvX2_span wd1176 wd1177 wd1487 hs8 (by decide) rfl (xX2_span (OKC.tr hC) hs8 hp1 hp2 hq9) rfl rfl (c_le rfl) (c_le rfl) (c_le rfl) (c_le rfl) dX9_distance_47 noXk (po_kI (fun hr9 => ?_))
      cases h
      exact jj_iret hC (c_le rfl) (c_le rfl) dX9_distance_50 ⟨_, rfl, rfl, hr9, rfl, rfl, rfl, rfl, rfl⟩
    · replace h := (if_neg (fun k => k hc)).symm.trans h
      refine jj_lv (lv' := []) [] rfl ?_
      exact hB28   h
def fX9_taskLength (ad S Ln : Nat → Nat) (R : gR) (M : gM) (a0 : Nat) : Option Int :=
  rf S (R a0 0) 11 fun b1 => rf S (R b1 0) 7 fun b2 => some (M b2 5)
theorem xX9_taskLength {l : Launch} {G : gE} {sz : Nat} {S Ln : Nat → Nat} {M : gM} {R : gR} (hl : l.stackTraces = false) {a0 : Nat} (hs0 : S a0 = 12) {r : Int} (h : fX9_taskLength G.2.2.2.2 S Ln R M a0 = some r) : Ct l G yX9_taskLength cX9_taskLength 1 (some .int) 1 0 0 [.ref a0] sz S Ln M R (poI r sz S Ln (M) R) noX := by
  refine jj_start (own := RX9) (lv0 := [(0, .ref a0)]) hl (by decide +kernel) rfl rfl (c_le rfl) (fun C hCl hC => ?_)
  unfold fX9_taskLength at h
  refine jj_aload_n hC dX9_taskLength_0 rfl 0 rfl ?_
  obtain ⟨b1, hb1, hs1, h⟩ := rf_e h
  refine jg_R hC kfX9 0 rfl hs0 (by decide) wd1117 rfl hb1 dX9_taskLength_1 ?_
  obtain ⟨b2, hb2, hs2, h⟩ := rf_e h
  refine jg_R hC kfX8 0 rfl hs1 (by decide) wd1037 rfl hb2 dX9_taskLength_4 ?_
  refine jg_I hC kfX2 5 rfl hs2 (by decide) wd915 rfl dX9_taskLength_7 (fun hr3 => ?_)
  cases h
  exact jj_iret hC (c_le rfl) (c_le rfl) dX9_taskLength_10 ⟨rfl, hr3, rfl, rfl, rfl, rfl, rfl⟩
def fX9_taskPoint (ad S Ln : Nat → Nat) (R : gR) (M : gM) (a0 : Nat) (x1 : Int) : Option ((Int) ⊕ (String)) :=
  rf S (R a0 0) 11 fun b1 => rf S (R b1 0) 7 fun b2 => bd (fX2_hasStop ad S Ln R M b2 x1) fun q3 => if ¬ q3 = 0 then (rf S (R a0 0) 11 fun b4 => rf S (R b4 0) 7 fun b5 => rf S (R b5 3) 20 fun b6 => gd ((0 : Int) ≤ x1 ∧ x1 < (Ln b6 : Int)) (some (Sum.inl (M b6 x1)))) else (some (Sum.inr ("java/util/NoSuchElementException")))
theorem xX9_taskPoint {l : Launch} {G : gE} {sz : Nat} {S Ln : Nat → Nat} {M : gM} {R : gR} (hl : l.stackTraces = false) {a0 : Nat} (hs0 : S a0 = 12) {x1 : Int} (hp1 : (-2147483648 ≤ x1 ∧ x1 < 2147483648)) {r : (Int) ⊕ (String)} (h : fX9_taskPoint G.2.2.2.2 S Ln R M a0 x1 = some r) : Ct l G yX9_taskPoint cX9_taskPoint 2 (some .int) 8 1 6 [.ref a0, .int (iI x1)] sz S Ln M R (poS r (fun a => poI a sz S Ln (M) R)) (xoS r (fun e => xo e S Ln M R)) := by
  refine jj_start (own := RX9) (lv0 := [(0, .ref a0), (1, .int (iI x1))]) hl (by decide +kernel) rfl rfl (c_le rfl) (fun C hCl hC => ?_)
  unfold fX9_taskPoint at h
  refine jj_aload_n hC dX9_taskPoint_0 rfl 0 rfl ?_
  obtain ⟨b1, hb1, hs1, h⟩ := rf_e h
  refine jg_R hC kfX9 0 rfl hs0 (by decide) wd1117 rfl hb1 dX9_taskPoint_1 ?_
  obtain ⟨b2, hb2, hs2, h⟩ := rf_e h
  refine jg_R hC kfX8 0 rfl hs1 (by decide) wd1037 rfl hb2 dX9_taskPoint_4 ?_
  refine jj_iload_n hC dX9_taskPoint_7 rfl 1 rfl ?_
  obtain ⟨q3, hq3, h⟩ := bd_e h
  refine jj_invV hC mvX2_hasStop wd654 wd655 wd1413 hs2 (by decide) rfl (xX2_hasStop (OKC.tr hC) hs2 hp1 hq3) rfl rfl (c_le rfl) (c_le rfl) (c_le rfl) (c_le rfl) dX9_taskPoint_8 noXk (po_kZ (fun hr3 => ?_))
  refine jj_if_ne (tgt := 24) hC dX9_taskPoint_11 rfl (r_z hr3) (fun hc => ?_) (fun hc => ?_)
  · replace h := (if_pos hc).symm.trans h
    refine jj_aload_n hC dX9_taskPoint_24 rfl 0 rfl ?_
    obtain ⟨b4, hb4, hs4, h⟩ := rf_e h
    refine jg_R hC kfX9 0 rfl hs0 (by decide) wd1117 rfl hb4 dX9_taskPoint_25 ?_
    obtain ⟨b5, hb5, hs5, h⟩ := rf_e h
    refine jg_R hC kfX8 0 rfl hs4 (by decide) wd1037 rfl hb5 dX9_taskPoint_28 ?_
    obtain ⟨b6, hb6, hs6, h⟩ := rf_e h
    refine jg_R hC kfX2 3 rfl hs5 (by decide) wd910 rfl hb6 dX9_taskPoint_31 ?_
    refine jj_iload_n hC dX9_taskPoint_34 rfl 1 rfl ?_
    obtain ⟨⟨ha7, hb7⟩, h⟩ := gd_e h
    refine jj_iald hC hs6 ha7 hb7 dX9_taskPoint_35 (fun hr7 => ?_)
    cases h
    exact jj_iret hC (c_le rfl) (c_le rfl) dX9_taskPoint_36 ⟨_, rfl, rfl, hr7, rfl, rfl, rfl, rfl, rfl⟩
  · replace h := (if_neg (fun k => k hc)).symm.trans h
    cases h
    exact jj_throwX2 hC (Y0 := "java/lang/RuntimeException") (names := ["java/lang/Exception"]) (ix := 13) (rx := prog_40_method_4_code) (by decide +kernel) (by decide +kernel) (by decide +kernel) (by decide +kernel) 7 rfl (by decide +kernel) (by decide +kernel) (tfit_of (by decide +kernel)) (by decide) wd800 wd48 ta_NoSuchElementException191 tg_NoSuchElementException191 dX9_taskPoint_14 dX9_taskPoint_17 dX9_taskPoint_18 dX9_taskPoint_20 dX9_taskPoint_23 (c_le rfl) (c_le rfl) (c_le rfl) (c_le rfl) (fun sz7 _ => ⟨_, rfl, rfl, rfl, rfl, rfl, rfl⟩)
def fX9_taskDistance (ad S Ln : Nat → Nat) (R : gR) (M : gM) (a0 : Nat) : Option Int :=
  rf S (R a0 0) 11 fun b1 => rf S (R b1 0) 7 fun b2 => bd (fX2_wholeDistance ad S Ln R M b2) fun q3 => some (q3)
theorem xX9_taskDistance {l : Launch} {G : gE} {sz : Nat} {S Ln : Nat → Nat} {M : gM} {R : gR} (hl : l.stackTraces = false) {a0 : Nat} (hs0 : S a0 = 12) {r : Int} (h : fX9_taskDistance G.2.2.2.2 S Ln R M a0 = some r) : Ct l G yX9_taskDistance cX9_taskDistance 1 (some .int) 3 0 0 [.ref a0] sz S Ln M R (poI r sz S Ln (M) R) noX := by
  refine jj_start (own := RX9) (lv0 := [(0, .ref a0)]) hl (by decide +kernel) rfl rfl (c_le rfl) (fun C hCl hC => ?_)
  unfold fX9_taskDistance at h
  refine jj_aload_n hC dX9_taskDistance_0 rfl 0 rfl ?_
  obtain ⟨b1, hb1, hs1, h⟩ := rf_e h
  refine jg_R hC kfX9 0 rfl hs0 (by decide) wd1117 rfl hb1 dX9_taskDistance_1 ?_
  obtain ⟨b2, hb2, hs2, h⟩ := rf_e h
  refine jg_R hC kfX8 0 rfl hs1 (by decide) wd1037 rfl hb2 dX9_taskDistance_4 ?_
  obtain ⟨q3, hq3, h⟩ := bd_e h
  refine jj_invV hC mvX2_wholeDistance wd771 wd772 wd1408 hs2 (by decide) rfl (xX2_wholeDistance (OKC.tr hC) hs2 hq3) rfl rfl (c_le rfl) (c_le rfl) (c_le rfl) (c_le rfl) dX9_taskDistance_7 noXk (po_kI (fun hr3 => ?_))
  cases h
  exact jj_iret hC (c_le rfl) (c_le rfl) dX9_taskDistance_10 ⟨rfl, hr3, rfl, rfl, rfl, rfl, rfl⟩
def fX9_requirePosition_B14 (ad S Ln : Nat → Nat) (R : gR) (M : gM)  : Option ((Unit) ⊕ (String)) :=
  some (Sum.inr ("java/lang/IllegalArgumentException"))
def fX9_requirePosition (ad S Ln : Nat → Nat) (R : gR) (M : gM) (x0 : Int) (x1 : Int) : Option ((Unit) ⊕ (String)) :=
  bd (fX9_isCoordinate ad S Ln R M x0) fun q1 => if q1 = 0 then (fX9_requirePosition_B14 ad S Ln R M ) else (bd (fX9_isCoordinate ad S Ln R M x1) fun q2 => if ¬ q2 = 0 then (some (Sum.inl ())) else (fX9_requirePosition_B14 ad S Ln R M ))
theorem xX9_requirePosition {l : Launch} {G : gE} {sz : Nat} {S Ln : Nat → Nat} {M : gM} {R : gR} (hl : l.stackTraces = false) {x0 : Int} (hp0 : (-2147483648 ≤ x0 ∧ x0 < 2147483648)) {x1 : Int} (hp1 : (-2147483648 ≤ x1 ∧ x1 < 2147483648)) {r : (Unit) ⊕ (String)} (h : fX9_requirePosition G.2.2.2.2 S Ln R M x0 x1 = some r) : Ct l G yX9_requirePosition cX9_requirePosition 2 none 8 1 6 [.int (iI x0), .int (iI x1)] sz S Ln M R (poS r (fun a => poV sz S Ln (M) R)) (xoS r (fun e => xo e S Ln M R)) := by
  refine jj_start (own := RX9) (lv0 := [(0, .int (iI x0)), (1, .int (iI x1))]) hl (by decide +kernel) rfl rfl (c_le rfl) (fun C hCl hC => ?_)
  have hB14 : fX9_requirePosition_B14 G.2.2.2.2 S Ln R M  = some r → JJ G C 0 0 sz S Ln M R 14 [] [] := by
    intro h
    unfold fX9_requirePosition_B14 at h
    cases h
    exact jj_throwC hC 8 rfl (by decide +kernel) (tfit_of (by decide +kernel)) (by decide) wd541 wd42 ta_IllegalArgumentException117 tg_IllegalArgumentException117 dX9_requirePosition_14 dX9_requirePosition_17 dX9_requirePosition_18 dX9_requirePosition_21 dX9_requirePosition_24 (c_le rfl) (c_le rfl) (c_le rfl) (c_le rfl) (fun sz7 _ => ⟨_, rfl, rfl, rfl, rfl, rfl, rfl⟩)
  unfold fX9_requirePosition at h
  refine jj_iload_n hC dX9_requirePosition_0 rfl 0 rfl ?_
  obtain ⟨q1, hq1, h⟩ := bd_e h
  refine jj_invS hC mvX9_isCoordinate wd689 wd793 (xX9_isCoordinate (OKC.tr hC) hp0 hq1) rfl rfl (c_le rfl) (c_le rfl) (c_le rfl) (c_le rfl) dX9_requirePosition_1 noXk (po_kZ (fun hr1 => ?_))
  refine jj_if_eq (tgt := 14) hC dX9_requirePosition_4 rfl (r_z hr1) (fun hc => ?_) (fun hc => ?_)
  · replace h := (if_pos hc).symm.trans h
    refine jj_lv (lv' := []) [] rfl ?_
    exact hB14   h
  · replace h := (if_neg (hc)).symm.trans h
    refine jj_iload_n hC dX9_requirePosition_7 rfl 1 rfl ?_
    obtain ⟨q2, hq2, h⟩ := bd_e h
    refine jj_invS hC mvX9_isCoordinate wd689 wd793 (xX9_isCoordinate (OKC.tr hC) hp1 hq2) rfl rfl (c_le rfl) (c_le rfl) (c_le rfl) (c_le rfl) dX9_requirePosition_8 noXk (po_kZ (fun hr2 => ?_))
    refine jj_if_ne (tgt := 25) hC dX9_requirePosition_11 rfl (r_z hr2) (fun hc => ?_) (fun hc => ?_)
    · replace h := (if_pos hc).symm.trans h
      cases h
      exact jj_vret hC (c_le rfl) (c_le rfl) dX9_requirePosition_25 ⟨_, rfl, rfl, trivial, rfl, rfl, rfl, rfl, rfl⟩
    · replace h := (if_neg (fun k => k hc)).symm.trans h
      refine jj_lv (lv' := []) [] rfl ?_
      exact hB14   h
def fX9_strongestThermal (ad S Ln : Nat → Nat) (R : gR) (M : gM) (a0 : Nat) (x1 : Int) (x2 : Int) : Option ((Int) ⊕ (String)) :=
  bd (fX9_requirePosition ad S Ln R M x1 x2) fun q1 => Sum.elim (fun v1 => rf S (R a0 0) 11 fun b2 => rf S (R b2 1) 5 fun b3 => bd (fX0_strongestAt ad S Ln R M b3 x1 x2) fun q4 => if ¬ q4 = 0 then (some (Sum.inl q4)) else (some (Sum.inr ("java/util/NoSuchElementException")))) (fun e1 => some (Sum.inr e1)) q1
theorem xX9_strongestThermal {l : Launch} {G : gE} {sz : Nat} {S Ln : Nat → Nat} {M : gM} {R : gR} (hl : l.stackTraces = false) {a0 : Nat} (hs0 : S a0 = 12) {x1 : Int} (hp1 : (-2147483648 ≤ x1 ∧ x1 < 2147483648)) {x2 : Int} (hp2 : (-2147483648 ≤ x2 ∧ x2 < 2147483648)) {r : (Int) ⊕ (String)} (h : fX9_strongestThermal G.2.2.2.2 S Ln R M a0 x1 x2 = some r) : Ct l G yX9_strongestThermal cX9_strongestThermal 4 (some .int) 9 2 12 [.ref a0, .int (iI x1), .int (iI x2)] sz S Ln M R (poS r (fun a => poI a sz S Ln (M) R)) (xoS r (fun e => xo e S Ln M R)) := by
  refine jj_start (own := RX9) (lv0 := [(0, .ref a0), (1, .int (iI x1)), (2, .int (iI x2))]) hl (by decide +kernel) rfl rfl (c_le rfl) (fun C hCl hC => ?_)
  unfold fX9_strongestThermal at h
  refine jj_iload_n hC dX9_strongestThermal_0 rfl 1 rfl ?_
  refine jj_iload_n hC dX9_strongestThermal_1 rfl 2 rfl ?_
  obtain ⟨q1, hq1, h⟩ := bd_e h
  refine jj_invS hC mvX9_requirePosition wd791 wd790 (xX9_requirePosition (OKC.tr hC) hp1 hp2 hq1) rfl rfl (c_le rfl) (c_le rfl) (c_le rfl) (c_le rfl) dX9_strongestThermal_2 (fun E1 sz1 S1 Ln1 M1 R1 hX1 => by
    obtain ⟨e1, he1, hx1, hx2, hx3, hx4, hx5⟩ := hX1
    subst he1
    replace h := el_r h
    cases h
    exact jj_out hC (c_le rfl) (c_le rfl) ⟨_, rfl, hx1, hx2, hx3, hx4, hx5⟩) (poS_k (fun v1 hv1 => po_kV ?_))
  subst hv1
  replace h := el_l h
  refine jj_aload_n hC dX9_strongestThermal_5 rfl 0 rfl ?_
  obtain ⟨b2, hb2, hs2, h⟩ := rf_e h
  refine jg_R hC kfX9 0 rfl hs0 (by decide) wd1117 rfl hb2 dX9_strongestThermal_6 ?_
  obtain ⟨b3, hb3, hs3, h⟩ := rf_e h
  refine jg_R hC kfX8 1 rfl hs2 (by decide) wd1039 rfl hb3 dX9_strongestThermal_9 ?_
  refine jj_iload_n hC dX9_strongestThermal_12 rfl 1 rfl ?_
  refine jj_iload_n hC dX9_strongestThermal_13 rfl 2 rfl ?_
  obtain ⟨q4, hq4, h⟩ := bd_e h
  refine jj_invV hC mvX0_strongestAt wd796 wd797 wd795 hs3 (by decide) rfl (xX0_strongestAt (OKC.tr hC) hs3 hp1 hp2 hq4) rfl rfl (c_le rfl) (c_le rfl) (c_le rfl) (c_le rfl) dX9_strongestThermal_14 noXk (po_kI (fun hr4 => ?_))
  refine jj_istore_n (lv' := [(3, .int (iI q4)), (0, .ref a0), (1, .int (iI x1)), (2, .int (iI x2))]) hC dX9_strongestThermal_17 rfl (by decide) rfl ?_
  refine jj_iload_n hC dX9_strongestThermal_18 rfl 0 rfl ?_
  refine jj_if_ne (tgt := 32) hC dX9_strongestThermal_19 rfl hr4 (fun hc => ?_) (fun hc => ?_)
  · replace h := (if_pos hc).symm.trans h
    refine jj_iload_n hC dX9_strongestThermal_32 rfl 0 rfl ?_
    cases h
    exact jj_iret hC (c_le rfl) (c_le rfl) dX9_strongestThermal_33 ⟨_, rfl, rfl, hr4, rfl, rfl, rfl, rfl, rfl⟩
  · replace h := (if_neg (fun k => k hc)).symm.trans h
    cases h
    exact jj_throwX2 hC (Y0 := "java/lang/RuntimeException") (names := ["java/lang/Exception"]) (ix := 13) (rx := prog_40_method_4_code) (by decide +kernel) (by decide +kernel) (by decide +kernel) (by decide +kernel) 9 rfl (by decide +kernel) (by decide +kernel) (tfit_of (by decide +kernel)) (by decide) wd800 wd48 ta_NoSuchElementException191 tg_NoSuchElementException191 dX9_strongestThermal_22 dX9_strongestThermal_25 dX9_strongestThermal_26 dX9_strongestThermal_28 dX9_strongestThermal_31 (c_le rfl) (c_le rfl) (c_le rfl) (c_le rfl) (fun sz7 _ => ⟨_, rfl, rfl, rfl, rfl, rfl, rfl⟩)
def fX9_cloudBase (ad S Ln : Nat → Nat) (R : gR) (M : gM) (a0 : Nat) : Option Int :=
  rf S (R a0 0) 11 fun b1 => rf S (R b1 1) 5 fun b2 => some (M b2 4)
theorem xX9_cloudBase {l : Launch} {G : gE} {sz : Nat} {S Ln : Nat → Nat} {M : gM} {R : gR} (hl : l.stackTraces = false) {a0 : Nat} (hs0 : S a0 = 12) {r : Int} (h : fX9_cloudBase G.2.2.2.2 S Ln R M a0 = some r) : Ct l G yX9_cloudBase cX9_cloudBase 1 (some .int) 1 0 0 [.ref a0] sz S Ln M R (poI r sz S Ln (M) R) noX := by
  refine jj_start (own := RX9) (lv0 := [(0, .ref a0)]) hl (by decide +kernel) rfl rfl (c_le rfl) (fun C hCl hC => ?_)
  unfold fX9_cloudBase at h
  refine jj_aload_n hC dX9_cloudBase_0 rfl 0 rfl ?_
  obtain ⟨b1, hb1, hs1, h⟩ := rf_e h
  refine jg_R hC kfX9 0 rfl hs0 (by decide) wd1117 rfl hb1 dX9_cloudBase_1 ?_
  obtain ⟨b2, hb2, hs2, h⟩ := rf_e h
  refine jg_R hC kfX8 1 rfl hs1 (by decide) wd1039 rfl hb2 dX9_cloudBase_4 ?_
  refine jg_I hC kfX0 4 rfl hs2 (by decide) wd942 rfl dX9_cloudBase_7 (fun hr3 => ?_)
  cases h
  exact jj_iret hC (c_le rfl) (c_le rfl) dX9_cloudBase_10 ⟨rfl, hr3, rfl, rfl, rfl, rfl, rfl⟩
def fX9_isRestricted (ad S Ln : Nat → Nat) (R : gR) (M : gM) (a0 : Nat) (x1 : Int) (x2 : Int) : Option ((Int) ⊕ (String)) :=
  bd (fX9_requirePosition ad S Ln R M x1 x2) fun q1 => Sum.elim (fun v1 => rf S (R a0 0) 11 fun b2 => rf S (R b2 2) 6 fun b3 => bd (fX1_covers ad S Ln R M b3 x1 x2) fun q4 => some (Sum.inl q4)) (fun e1 => some (Sum.inr e1)) q1
theorem xX9_isRestricted {l : Launch} {G : gE} {sz : Nat} {S Ln : Nat → Nat} {M : gM} {R : gR} (hl : l.stackTraces = false) {a0 : Nat} (hs0 : S a0 = 12) {x1 : Int} (hp1 : (-2147483648 ≤ x1 ∧ x1 < 2147483648)) {x2 : Int} (hp2 : (-2147483648 ≤ x2 ∧ x2 < 2147483648)) {r : (Int) ⊕ (String)} (h : fX9_isRestricted G.2.2.2.2 S Ln R M a0 x1 x2 = some r) : Ct l G yX9_isRestricted cX9_isRestricted 3 (some .boolean) 9 1 6 [.ref a0, .int (iI x1), .int (iI x2)] sz S Ln M R (poS r (fun a => poZ a sz S Ln (M) R)) (xoS r (fun e => xo e S Ln M R)) := by
  refine jj_start (own := RX9) (lv0 := [(0, .ref a0), (1, .int (iI x1)), (2, .int (iI x2))]) hl (by decide +kernel) rfl rfl (c_le rfl) (fun C hCl hC => ?_)
  unfold fX9_isRestricted at h
  refine jj_iload_n hC dX9_isRestricted_0 rfl 1 rfl ?_
  refine jj_iload_n hC dX9_isRestricted_1 rfl 2 rfl ?_
  obtain ⟨q1, hq1, h⟩ := bd_e h
  refine jj_invS hC mvX9_requirePosition wd791 wd790 (xX9_requirePosition (OKC.tr hC) hp1 hp2 hq1) rfl rfl (c_le rfl) (c_le rfl) (c_le rfl) (c_le rfl) dX9_isRestricted_2 (fun E1 sz1 S1 Ln1 M1 R1 hX1 => by
    obtain ⟨e1, he1, hx1, hx2, hx3, hx4, hx5⟩ := hX1
    subst he1
    replace h := el_r h
    cases h
    exact jj_out hC (c_le rfl) (c_le rfl) ⟨_, rfl, hx1, hx2, hx3, hx4, hx5⟩) (poS_k (fun v1 hv1 => po_kV ?_))
  subst hv1
  replace h := el_l h
  refine jj_aload_n hC dX9_isRestricted_5 rfl 0 rfl ?_
  obtain ⟨b2, hb2, hs2, h⟩ := rf_e h
  refine jg_R hC kfX9 0 rfl hs0 (by decide) wd1117 rfl hb2 dX9_isRestricted_6 ?_
  obtain ⟨b3, hb3, hs3, h⟩ := rf_e h
  refine jg_R hC kfX8 2 rfl hs2 (by decide) wd1041 rfl hb3 dX9_isRestricted_9 ?_
  refine jj_iload_n hC dX9_isRestricted_12 rfl 1 rfl ?_
  refine jj_iload_n hC dX9_isRestricted_13 rfl 2 rfl ?_
  obtain ⟨q4, hq4, h⟩ := bd_e h
  refine jj_invV hC mvX1_covers wd715 wd716 wd1524 hs3 (by decide) rfl (xX1_covers (OKC.tr hC) hs3 hp1 hp2 hq4) rfl rfl (c_le rfl) (c_le rfl) (c_le rfl) (c_le rfl) dX9_isRestricted_14 noXk (po_kZ (fun hr4 => ?_))
  cases h
  exact jj_zret hC hr4 (c_le rfl) (c_le rfl) dX9_isRestricted_17 ⟨_, rfl, rfl, hr4, rfl, rfl, rfl, rfl, rfl⟩
def fX9_restrictedInRow (ad S Ln : Nat → Nat) (R : gR) (M : gM) (a0 : Nat) (x1 : Int) : Option ((Int) ⊕ (String)) :=
  bd (fX9_requirePosition ad S Ln R M 0 x1) fun q1 => Sum.elim (fun v1 => rf S (R a0 0) 11 fun b2 => rf S (R b2 2) 6 fun b3 => bd (fX1_countByPositions ad S Ln R M b3 x1) fun q4 => some (Sum.inl q4)) (fun e1 => some (Sum.inr e1)) q1
theorem xX9_restrictedInRow {l : Launch} {G : gE} {sz : Nat} {S Ln : Nat → Nat} {M : gM} {R : gR} (hl : l.stackTraces = false) {a0 : Nat} (hs0 : S a0 = 12) {x1 : Int} (hp1 : (-2147483648 ≤ x1 ∧ x1 < 2147483648)) {r : (Int) ⊕ (String)} (h : fX9_restrictedInRow G.2.2.2.2 S Ln R M a0 x1 = some r) : Ct l G yX9_restrictedInRow cX9_restrictedInRow 2 (some .int) 9 1 6 [.ref a0, .int (iI x1)] sz S Ln M R (poS r (fun a => poI a sz S Ln (M) R)) (xoS r (fun e => xo e S Ln M R)) := by
  refine jj_start (own := RX9) (lv0 := [(0, .ref a0), (1, .int (iI x1))]) hl (by decide +kernel) rfl rfl (c_le rfl) (fun C hCl hC => ?_)
  unfold fX9_restrictedInRow at h
  refine jj_iconst hC dX9_restrictedInRow_0 ?_
  refine jj_iload_n hC dX9_restrictedInRow_1 rfl 1 rfl ?_
  obtain ⟨q1, hq1, h⟩ := bd_e h
  refine jj_invS hC mvX9_requirePosition wd791 wd790 (xX9_requirePosition (OKC.tr hC) (show (-2147483648 ≤ (0 : Int) ∧ (0 : Int) < 2147483648) from by decide) hp1 hq1) rfl rfl (c_le rfl) (c_le rfl) (c_le rfl) (c_le rfl) dX9_restrictedInRow_2 (fun E1 sz1 S1 Ln1 M1 R1 hX1 => by
    obtain ⟨e1, he1, hx1, hx2, hx3, hx4, hx5⟩ := hX1
    subst he1
    replace h := el_r h
    cases h
    exact jj_out hC (c_le rfl) (c_le rfl) ⟨_, rfl, hx1, hx2, hx3, hx4, hx5⟩) (poS_k (fun v1 hv1 => po_kV ?_))
  subst hv1
  replace h := el_l h
  refine jj_aload_n hC dX9_restrictedInRow_5 rfl 0 rfl ?_
  obtain ⟨b2, hb2, hs2, h⟩ := rf_e h
  refine jg_R hC kfX9 0 rfl hs0 (by decide) wd1117 rfl hb2 dX9_restrictedInRow_6 ?_
  obtain ⟨b3, hb3, hs3, h⟩ := rf_e h
  refine jg_R hC kfX8 2 rfl hs2 (by decide) wd1041 rfl hb3 dX9_restrictedInRow_9 ?_
  refine jj_iload_n hC dX9_restrictedInRow_12 rfl 1 rfl ?_
  obtain ⟨q4, hq4, h⟩ := bd_e h
  refine jj_invV hC mvX1_countByPositions wd1468 wd1469 wd1467 hs3 (by decide) rfl (xX1_countByPositions (OKC.tr hC) hs3 hp1 hq4) rfl rfl (c_le rfl) (c_le rfl) (c_le rfl) (c_le rfl) dX9_restrictedInRow_13 noXk (po_kI (fun hr4 => ?_))
  cases h
  exact jj_iret hC (c_le rfl) (c_le rfl) dX9_restrictedInRow_16 ⟨_, rfl, rfl, hr4, rfl, rfl, rfl, rfl, rfl⟩
def fX9_restrictedInRowByRanges (ad S Ln : Nat → Nat) (R : gR) (M : gM) (a0 : Nat) (x1 : Int) : Option ((Int × gM) ⊕ (String × gM)) :=
  bd (fX9_requirePosition ad S Ln R M 0 x1) fun q1 => Sum.elim (fun v1 => rf S (R a0 0) 11 fun b2 => rf S (R b2 2) 6 fun b3 => bd (fX1_countByRanges ad S Ln R M b3 x1) fun q4 => some (Sum.inl (q4.1, q4.2))) (fun e1 => some (Sum.inr (e1, M))) q1
theorem xX9_restrictedInRowByRanges {l : Launch} {G : gE} {sz : Nat} {S Ln : Nat → Nat} {M : gM} {R : gR} (hl : l.stackTraces = false) {a0 : Nat} (hs0 : S a0 = 12) {x1 : Int} (hp1 : (-2147483648 ≤ x1 ∧ x1 < 2147483648)) {r : (Int × gM) ⊕ (String × gM)} (h : fX9_restrictedInRowByRanges G.2.2.2.2 S Ln R M a0 x1 = some r) : Ct l G yX9_restrictedInRowByRanges cX9_restrictedInRowByRanges 2 (some .int) 9 1 6 [.ref a0, .int (iI x1)] sz S Ln M R (poS r (fun a => poI a.1 sz S Ln (a.2) R)) (xoS r (fun e => xo e.1 S Ln e.2 R)) := by
  refine jj_start (own := RX9) (lv0 := [(0, .ref a0), (1, .int (iI x1))]) hl (by decide +kernel) rfl rfl (c_le rfl) (fun C hCl hC => ?_)
  unfold fX9_restrictedInRowByRanges at h
  refine jj_iconst hC dX9_restrictedInRowByRanges_0 ?_
  refine jj_iload_n hC dX9_restrictedInRowByRanges_1 rfl 1 rfl ?_
  obtain ⟨q1, hq1, h⟩ := bd_e h
  refine jj_invS hC mvX9_requirePosition wd791 wd790 (xX9_requirePosition (OKC.tr hC) (show (-2147483648 ≤ (0 : Int) ∧ (0 : Int) < 2147483648) from by decide) hp1 hq1) rfl rfl (c_le rfl) (c_le rfl) (c_le rfl) (c_le rfl) dX9_restrictedInRowByRanges_2 (fun E1 sz1 S1 Ln1 M1 R1 hX1 => by
    obtain ⟨e1, he1, hx1, hx2, hx3, hx4, hx5⟩ := hX1
    subst he1
    replace h := el_r h
    cases h
    exact jj_out hC (c_le rfl) (c_le rfl) ⟨_, rfl, hx1, hx2, hx3, hx4, hx5⟩) (poS_k (fun v1 hv1 => po_kV ?_))
  subst hv1
  replace h := el_l h
  refine jj_aload_n hC dX9_restrictedInRowByRanges_5 rfl 0 rfl ?_
  obtain ⟨b2, hb2, hs2, h⟩ := rf_e h
  refine jg_R hC kfX9 0 rfl hs0 (by decide) wd1117 rfl hb2 dX9_restrictedInRowByRanges_6 ?_
  obtain ⟨b3, hb3, hs3, h⟩ := rf_e h
  refine jg_R hC kfX8 2 rfl hs2 (by decide) wd1041 rfl hb3 dX9_restrictedInRowByRanges_9 ?_
  refine jj_iload_n hC dX9_restrictedInRowByRanges_12 rfl 1 rfl ?_
  obtain ⟨q4, hq4, h⟩ := bd_e h
  refine jj_invV hC mvX1_countByRanges wd1530 wd1531 wd1529 hs3 (by decide) rfl (xX1_countByRanges (OKC.tr hC) hs3 hp1 hq4) rfl rfl (c_le rfl) (c_le rfl) (c_le rfl) (c_le rfl) dX9_restrictedInRowByRanges_13 noXk (po_kI (fun hr4 => ?_))
  cases h
  exact jj_iret hC (c_le rfl) (c_le rfl) dX9_restrictedInRowByRanges_16 ⟨_, rfl, rfl, hr4, rfl, rfl, rfl, rfl, rfl⟩
def fX9_pilotCount (ad S Ln : Nat → Nat) (R : gR) (M : gM) (a0 : Nat) : Option Int :=
  rf S (R a0 0) 11 fun b1 => some (M b1 4)
theorem xX9_pilotCount {l : Launch} {G : gE} {sz : Nat} {S Ln : Nat → Nat} {M : gM} {R : gR} (hl : l.stackTraces = false) {a0 : Nat} (hs0 : S a0 = 12) {r : Int} (h : fX9_pilotCount G.2.2.2.2 S Ln R M a0 = some r) : Ct l G yX9_pilotCount cX9_pilotCount 1 (some .int) 1 0 0 [.ref a0] sz S Ln M R (poI r sz S Ln (M) R) noX := by
  refine jj_start (own := RX9) (lv0 := [(0, .ref a0)]) hl (by decide +kernel) rfl rfl (c_le rfl) (fun C hCl hC => ?_)
  unfold fX9_pilotCount at h
  refine jj_aload_n hC dX9_pilotCount_0 rfl 0 rfl ?_
  obtain ⟨b1, hb1, hs1, h⟩ := rf_e h
  refine jg_R hC kfX9 0 rfl hs0 (by decide) wd1117 rfl hb1 dX9_pilotCount_1 ?_
  refine jg_I hC kfX8 4 rfl hs1 (by decide) wd1045 rfl dX9_pilotCount_4 (fun hr2 => ?_)
  cases h
  exact jj_iret hC (c_le rfl) (c_le rfl) dX9_pilotCount_7 ⟨rfl, hr2, rfl, rfl, rfl, rfl, rfl⟩
def fX9_isPlanning (ad S Ln : Nat → Nat) (R : gR) (M : gM) (a0 : Nat) : Option Int :=
  rf S (R a0 0) 11 fun b1 => bd (fX8_allWaiting ad S Ln R M b1) fun q2 => some (q2)
theorem xX9_isPlanning {l : Launch} {G : gE} {sz : Nat} {S Ln : Nat → Nat} {M : gM} {R : gR} (hl : l.stackTraces = false) {a0 : Nat} (hs0 : S a0 = 12) {r : Int} (h : fX9_isPlanning G.2.2.2.2 S Ln R M a0 = some r) : Ct l G yX9_isPlanning cX9_isPlanning 1 (some .boolean) 3 0 0 [.ref a0] sz S Ln M R (poZ r sz S Ln (M) R) noX := by
  refine jj_start (own := RX9) (lv0 := [(0, .ref a0)]) hl (by decide +kernel) rfl rfl (c_le rfl) (fun C hCl hC => ?_)
  unfold fX9_isPlanning at h
  refine jj_aload_n hC dX9_isPlanning_0 rfl 0 rfl ?_
  obtain ⟨b1, hb1, hs1, h⟩ := rf_e h
  refine jg_R hC kfX9 0 rfl hs0 (by decide) wd1117 rfl hb1 dX9_isPlanning_1 ?_
  obtain ⟨q2, hq2, h⟩ := bd_e h
  refine jj_invV hC mvX8_allWaiting wd746 wd747 wd1225 hs1 (by decide) rfl (xX8_allWaiting (OKC.tr hC) hs1 hq2) rfl rfl (c_le rfl) (c_le rfl) (c_le rfl) (c_le rfl) dX9_isPlanning_4 noXk (po_kZ (fun hr2 => ?_))
  cases h
  exact jj_zret hC hr2 (c_le rfl) (c_le rfl) dX9_isPlanning_7 ⟨rfl, hr2, rfl, rfl, rfl, rfl, rfl⟩
def fX9_knownPilot (ad S Ln : Nat → Nat) (R : gR) (M : gM) (a0 : Nat) (x1 : Int) : Option ((Nat) ⊕ (String)) :=
  rf S (R a0 0) 11 fun b1 => bd (fX8_hasPilot ad S Ln R M b1 x1) fun q2 => if ¬ q2 = 0 then (rf S (R a0 0) 11 fun b3 => rf S (R b3 3) 26 fun b4 => gd ((0 : Int) ≤ x1 ∧ x1 < (Ln b4 : Int)) (rf S (R b4 x1) 8 fun b5 => some (Sum.inl b5))) else (some (Sum.inr ("java/lang/IndexOutOfBoundsException")))
theorem xX9_knownPilot {l : Launch} {G : gE} {sz : Nat} {S Ln : Nat → Nat} {M : gM} {R : gR} (hl : l.stackTraces = false) {a0 : Nat} (hs0 : S a0 = 12) {x1 : Int} (hp1 : (-2147483648 ≤ x1 ∧ x1 < 2147483648)) {r : (Nat) ⊕ (String)} (h : fX9_knownPilot G.2.2.2.2 S Ln R M a0 x1 = some r) : Ct l G yX9_knownPilot cX9_knownPilot 2 (some (.object "GlidingContest$Glider")) 8 1 6 [.ref a0, .int (iI x1)] sz S Ln M R (poS r (fun a => poA 8 a sz S Ln (M) R)) (xoS r (fun e => xo e S Ln M R)) := by
  refine jj_start (own := RX9) (lv0 := [(0, .ref a0), (1, .int (iI x1))]) hl (by decide +kernel) rfl rfl (c_le rfl) (fun C hCl hC => ?_)
  unfold fX9_knownPilot at h
  refine jj_aload_n hC dX9_knownPilot_0 rfl 0 rfl ?_
  obtain ⟨b1, hb1, hs1, h⟩ := rf_e h
  refine jg_R hC kfX9 0 rfl hs0 (by decide) wd1117 rfl hb1 dX9_knownPilot_1 ?_
  refine jj_iload_n hC dX9_knownPilot_4 rfl 1 rfl ?_
  obtain ⟨q2, hq2, h⟩ := bd_e h
  refine jj_invV hC mvX8_hasPilot wd66 wd67 wd65 hs1 (by decide) rfl (xX8_hasPilot (OKC.tr hC) hs1 hp1 hq2) rfl rfl (c_le rfl) (c_le rfl) (c_le rfl) (c_le rfl) dX9_knownPilot_5 noXk (po_kZ (fun hr2 => ?_))
  refine jj_if_ne (tgt := 22) hC dX9_knownPilot_8 rfl (r_z hr2) (fun hc => ?_) (fun hc => ?_)
  · replace h := (if_pos hc).symm.trans h
    refine jj_aload_n hC dX9_knownPilot_22 rfl 0 rfl ?_
    obtain ⟨b3, hb3, hs3, h⟩ := rf_e h
    refine jg_R hC kfX9 0 rfl hs0 (by decide) wd1117 rfl hb3 dX9_knownPilot_23 ?_
    obtain ⟨b4, hb4, hs4, h⟩ := rf_e h
    refine jg_R hC kfX8 3 rfl hs3 (by decide) wd1043 rfl hb4 dX9_knownPilot_26 ?_
    refine jj_iload_n hC dX9_knownPilot_29 rfl 1 rfl ?_
    obtain ⟨⟨ha5, hb5⟩, h⟩ := gd_e h
    obtain ⟨b5, hd5, hs5, h⟩ := rf_e h
    refine jj_aald hC hs4 (by decide) ha5 hb5 hd5 dX9_knownPilot_30 ?_
    cases h
    exact jj_aret hC rfl (Or.inl ⟨_, rfl⟩) (c_le rfl) (c_le rfl) dX9_knownPilot_31 ⟨_, rfl, rfl, hs5, rfl, rfl, rfl, rfl, rfl⟩
  · replace h := (if_neg (fun k => k hc)).symm.trans h
    cases h
    exact jj_throwC hC 10 rfl (by decide +kernel) (tfit_of (by decide +kernel)) (by decide) wd69 wd41 ta_IndexOutOfBoundsException177 tg_IndexOutOfBoundsException177 dX9_knownPilot_11 dX9_knownPilot_14 dX9_knownPilot_15 dX9_knownPilot_18 dX9_knownPilot_21 (c_le rfl) (c_le rfl) (c_le rfl) (c_le rfl) (fun sz7 _ => ⟨_, rfl, rfl, rfl, rfl, rfl, rfl⟩)
def fX9_isFlying (ad S Ln : Nat → Nat) (R : gR) (M : gM) (a0 : Nat) (x1 : Int) : Option ((Int) ⊕ (String)) :=
  bd (fX9_knownPilot ad S Ln R M a0 x1) fun q1 => Sum.elim (fun v1 => gd (0 ≤ M v1 1) (if ¬ (M v1 1) = 1 then (some (Sum.inl 0)) else (some (Sum.inl 1)))) (fun e1 => some (Sum.inr e1)) q1
theorem xX9_isFlying {l : Launch} {G : gE} {sz : Nat} {S Ln : Nat → Nat} {M : gM} {R : gR} (hl : l.stackTraces = false) {a0 : Nat} (hs0 : S a0 = 12) {x1 : Int} (hp1 : (-2147483648 ≤ x1 ∧ x1 < 2147483648)) {r : (Int) ⊕ (String)} (h : fX9_isFlying G.2.2.2.2 S Ln R M a0 x1 = some r) : Ct l G yX9_isFlying cX9_isFlying 2 (some .boolean) 9 1 6 [.ref a0, .int (iI x1)] sz S Ln M R (poS r (fun a => poZ a sz S Ln (M) R)) (xoS r (fun e => xo e S Ln M R)) := by
  refine jj_start (own := RX9) (lv0 := [(0, .ref a0), (1, .int (iI x1))]) hl (by decide +kernel) rfl rfl (c_le rfl) (fun C hCl hC => ?_)
  unfold fX9_isFlying at h
  refine jj_aload_n hC dX9_isFlying_0 rfl 0 rfl ?_
  refine jj_iload_n hC dX9_isFlying_1 rfl 1 rfl ?_
  obtain ⟨q1, hq1, h⟩ := bd_e h
  refine jj_invV hC mvX9_knownPilot wd62 wd0 wd60 hs0 (by decide) rfl (xX9_knownPilot (OKC.tr hC) hs0 hp1 hq1) rfl rfl (c_le rfl) (c_le rfl) (c_le rfl) (c_le rfl) dX9_isFlying_2 (fun E1 sz1 S1 Ln1 M1 R1 hX1 => by
    obtain ⟨e1, he1, hx1, hx2, hx3, hx4, hx5⟩ := hX1
    subst he1
    replace h := el_r h
    cases h
    exact jj_out hC (c_le rfl) (c_le rfl) ⟨_, rfl, hx1, hx2, hx3, hx4, hx5⟩) (poS_k (fun v1 hv1 => po_kA (fun hr1 => ?_)))
  subst hv1
  replace h := el_l h
  obtain ⟨hg2, h⟩ := gd_e h
  refine jg_E hC kfX3 1 rfl hr1 (by decide) wd994 rfl hg2 dX9_isFlying_5 (fun hr2 => ?_)
  refine jg_s (j := 1) hC 1 rfl rfl wd823 dX9_isFlying_8 ?_
  refine jg_acmp_ne (tgt := 18) hC dX9_isFlying_11 rfl ⟨hg2, hr2⟩ (show (0 ≤ (1 : Int) ∧ (1 : Int) < 9) from by decide) (fun hc => ?_) (fun hc => ?_)
  · replace h := (if_pos hc).symm.trans h
    refine jj_iconst hC dX9_isFlying_18 ?_
    cases h
    exact jj_zret hC (show (0 ≤ (0 : Int) ∧ (0 : Int) ≤ 1) from by decide) (c_le rfl) (c_le rfl) dX9_isFlying_19 ⟨_, rfl, rfl, (show (0 ≤ (0 : Int) ∧ (0 : Int) ≤ 1) from by decide), rfl, rfl, rfl, rfl, rfl⟩
  · replace h := (if_neg (fun k => k hc)).symm.trans h
    refine jj_iconst hC dX9_isFlying_14 ?_
    refine jj_goto (tgt := 19) hC dX9_isFlying_15 rfl ?_
    cases h
    exact jj_zret hC (show (0 ≤ (1 : Int) ∧ (1 : Int) ≤ 1) from by decide) (c_le rfl) (c_le rfl) dX9_isFlying_19 ⟨_, rfl, rfl, (show (0 ≤ (1 : Int) ∧ (1 : Int) ≤ 1) from by decide), rfl, rfl, rfl, rfl, rfl⟩
def fX9_isLanded (ad S Ln : Nat → Nat) (R : gR) (M : gM) (a0 : Nat) (x1 : Int) : Option ((Int) ⊕ (String)) :=
  bd (fX9_knownPilot ad S Ln R M a0 x1) fun q1 => Sum.elim (fun v1 => gd (0 ≤ M v1 1) (if ¬ (M v1 1) = 2 then (some (Sum.inl 0)) else (some (Sum.inl 1)))) (fun e1 => some (Sum.inr e1)) q1
theorem xX9_isLanded {l : Launch} {G : gE} {sz : Nat} {S Ln : Nat → Nat} {M : gM} {R : gR} (hl : l.stackTraces = false) {a0 : Nat} (hs0 : S a0 = 12) {x1 : Int} (hp1 : (-2147483648 ≤ x1 ∧ x1 < 2147483648)) {r : (Int) ⊕ (String)} (h : fX9_isLanded G.2.2.2.2 S Ln R M a0 x1 = some r) : Ct l G yX9_isLanded cX9_isLanded 2 (some .boolean) 9 1 6 [.ref a0, .int (iI x1)] sz S Ln M R (poS r (fun a => poZ a sz S Ln (M) R)) (xoS r (fun e => xo e S Ln M R)) := by
  refine jj_start (own := RX9) (lv0 := [(0, .ref a0), (1, .int (iI x1))]) hl (by decide +kernel) rfl rfl (c_le rfl) (fun C hCl hC => ?_)
  unfold fX9_isLanded at h
  refine jj_aload_n hC dX9_isLanded_0 rfl 0 rfl ?_
  refine jj_iload_n hC dX9_isLanded_1 rfl 1 rfl ?_
  obtain ⟨q1, hq1, h⟩ := bd_e h
  refine jj_invV hC mvX9_knownPilot wd62 wd0 wd60 hs0 (by decide) rfl (xX9_knownPilot (OKC.tr hC) hs0 hp1 hq1) rfl rfl (c_le rfl) (c_le rfl) (c_le rfl) (c_le rfl) dX9_isLanded_2 (fun E1 sz1 S1 Ln1 M1 R1 hX1 => by
    obtain ⟨e1, he1, hx1, hx2, hx3, hx4, hx5⟩ := hX1
    subst he1
    replace h := el_r h
    cases h
    exact jj_out hC (c_le rfl) (c_le rfl) ⟨_, rfl, hx1, hx2, hx3, hx4, hx5⟩) (poS_k (fun v1 hv1 => po_kA (fun hr1 => ?_)))
  subst hv1
  replace h := el_l h
  obtain ⟨hg2, h⟩ := gd_e h
  refine jg_E hC kfX3 1 rfl hr1 (by decide) wd994 rfl hg2 dX9_isLanded_5 (fun hr2 => ?_)
  refine jg_s (j := 2) hC 2 rfl rfl wd1424 dX9_isLanded_8 ?_
  refine jg_acmp_ne (tgt := 18) hC dX9_isLanded_11 rfl ⟨hg2, hr2⟩ (show (0 ≤ (2 : Int) ∧ (2 : Int) < 9) from by decide) (fun hc => ?_) (fun hc => ?_)
  · replace h := (if_pos hc).symm.trans h
    refine jj_iconst hC dX9_isLanded_18 ?_
    cases h
    exact jj_zret hC (show (0 ≤ (0 : Int) ∧ (0 : Int) ≤ 1) from by decide) (c_le rfl) (c_le rfl) dX9_isLanded_19 ⟨_, rfl, rfl, (show (0 ≤ (0 : Int) ∧ (0 : Int) ≤ 1) from by decide), rfl, rfl, rfl, rfl, rfl⟩
  · replace h := (if_neg (fun k => k hc)).symm.trans h
    refine jj_iconst hC dX9_isLanded_14 ?_
    refine jj_goto (tgt := 19) hC dX9_isLanded_15 rfl ?_
    cases h
    exact jj_zret hC (show (0 ≤ (1 : Int) ∧ (1 : Int) ≤ 1) from by decide) (c_le rfl) (c_le rfl) dX9_isLanded_19 ⟨_, rfl, rfl, (show (0 ≤ (1 : Int) ∧ (1 : Int) ≤ 1) from by decide), rfl, rfl, rfl, rfl, rfl⟩
def fX9_isFinished (ad S Ln : Nat → Nat) (R : gR) (M : gM) (a0 : Nat) (x1 : Int) : Option ((Int) ⊕ (String)) :=
  bd (fX9_knownPilot ad S Ln R M a0 x1) fun q1 => Sum.elim (fun v1 => gd (0 ≤ M v1 1) (if ¬ (M v1 1) = 3 then (some (Sum.inl 0)) else (some (Sum.inl 1)))) (fun e1 => some (Sum.inr e1)) q1
theorem xX9_isFinished {l : Launch} {G : gE} {sz : Nat} {S Ln : Nat → Nat} {M : gM} {R : gR} (hl : l.stackTraces = false) {a0 : Nat} (hs0 : S a0 = 12) {x1 : Int} (hp1 : (-2147483648 ≤ x1 ∧ x1 < 2147483648)) {r : (Int) ⊕ (String)} (h : fX9_isFinished G.2.2.2.2 S Ln R M a0 x1 = some r) : Ct l G yX9_isFinished cX9_isFinished 2 (some .boolean) 9 1 6 [.ref a0, .int (iI x1)] sz S Ln M R (poS r (fun a => poZ a sz S Ln (M) R)) (xoS r (fun e => xo e S Ln M R)) := by
  refine jj_start (own := RX9) (lv0 := [(0, .ref a0), (1, .int (iI x1))]) hl (by decide +kernel) rfl rfl (c_le rfl) (fun C hCl hC => ?_)
  unfold fX9_isFinished at h
  refine jj_aload_n hC dX9_isFinished_0 rfl 0 rfl ?_
  refine jj_iload_n hC dX9_isFinished_1 rfl 1 rfl ?_
  obtain ⟨q1, hq1, h⟩ := bd_e h
  refine jj_invV hC mvX9_knownPilot wd62 wd0 wd60 hs0 (by decide) rfl (xX9_knownPilot (OKC.tr hC) hs0 hp1 hq1) rfl rfl (c_le rfl) (c_le rfl) (c_le rfl) (c_le rfl) dX9_isFinished_2 (fun E1 sz1 S1 Ln1 M1 R1 hX1 => by
    obtain ⟨e1, he1, hx1, hx2, hx3, hx4, hx5⟩ := hX1
    subst he1
    replace h := el_r h
    cases h
    exact jj_out hC (c_le rfl) (c_le rfl) ⟨_, rfl, hx1, hx2, hx3, hx4, hx5⟩) (poS_k (fun v1 hv1 => po_kA (fun hr1 => ?_)))
  subst hv1
  replace h := el_l h
  obtain ⟨hg2, h⟩ := gd_e h
  refine jg_E hC kfX3 1 rfl hr1 (by decide) wd994 rfl hg2 dX9_isFinished_5 (fun hr2 => ?_)
  refine jg_s (j := 3) hC 3 rfl rfl wd1429 dX9_isFinished_8 ?_
  refine jg_acmp_ne (tgt := 18) hC dX9_isFinished_11 rfl ⟨hg2, hr2⟩ (show (0 ≤ (3 : Int) ∧ (3 : Int) < 9) from by decide) (fun hc => ?_) (fun hc => ?_)
  · replace h := (if_pos hc).symm.trans h
    refine jj_iconst hC dX9_isFinished_18 ?_
    cases h
    exact jj_zret hC (show (0 ≤ (0 : Int) ∧ (0 : Int) ≤ 1) from by decide) (c_le rfl) (c_le rfl) dX9_isFinished_19 ⟨_, rfl, rfl, (show (0 ≤ (0 : Int) ∧ (0 : Int) ≤ 1) from by decide), rfl, rfl, rfl, rfl, rfl⟩
  · replace h := (if_neg (fun k => k hc)).symm.trans h
    refine jj_iconst hC dX9_isFinished_14 ?_
    refine jj_goto (tgt := 19) hC dX9_isFinished_15 rfl ?_
    cases h
    exact jj_zret hC (show (0 ≤ (1 : Int) ∧ (1 : Int) ≤ 1) from by decide) (c_le rfl) (c_le rfl) dX9_isFinished_19 ⟨_, rfl, rfl, (show (0 ≤ (1 : Int) ∧ (1 : Int) ≤ 1) from by decide), rfl, rfl, rfl, rfl, rfl⟩
def fX9_sink (ad S Ln : Nat → Nat) (R : gR) (M : gM) (a0 : Nat) (x1 : Int) : Option ((Int) ⊕ (String)) :=
  bd (fX9_knownPilot ad S Ln R M a0 x1) fun q1 => Sum.elim (fun v1 => bd (fX3_sinkRate ad S Ln R M v1) fun q2 => some (Sum.inl q2)) (fun e1 => some (Sum.inr e1)) q1
theorem xX9_sink {l : Launch} {G : gE} {sz : Nat} {S Ln : Nat → Nat} {M : gM} {R : gR} (hl : l.stackTraces = false) {a0 : Nat} (hs0 : S a0 = 12) {x1 : Int} (hp1 : (-2147483648 ≤ x1 ∧ x1 < 2147483648)) {r : (Int) ⊕ (String)} (h : fX9_sink G.2.2.2.2 S Ln R M a0 x1 = some r) : Ct l G yX9_sink cX9_sink 2 (some .int) 9 1 6 [.ref a0, .int (iI x1)] sz S Ln M R (poS r (fun a => poI a sz S Ln (M) R)) (xoS r (fun e => xo e S Ln M R)) := by
  refine jj_start (own := RX9) (lv0 := [(0, .ref a0), (1, .int (iI x1))]) hl (by decide +kernel) rfl rfl (c_le rfl) (fun C hCl hC => ?_)
  unfold fX9_sink at h
  refine jj_aload_n hC dX9_sink_0 rfl 0 rfl ?_
  refine jj_iload_n hC dX9_sink_1 rfl 1 rfl ?_
  obtain ⟨q1, hq1, h⟩ := bd_e h
  refine jj_invV hC mvX9_knownPilot wd62 wd0 wd60 hs0 (by decide) rfl (xX9_knownPilot (OKC.tr hC) hs0 hp1 hq1) rfl rfl (c_le rfl) (c_le rfl) (c_le rfl) (c_le rfl) dX9_sink_2 (fun E1 sz1 S1 Ln1 M1 R1 hX1 => by
    obtain ⟨e1, he1, hx1, hx2, hx3, hx4, hx5⟩ := hX1
    subst he1
    replace h := el_r h
    cases h
    exact jj_out hC (c_le rfl) (c_le rfl) ⟨_, rfl, hx1, hx2, hx3, hx4, hx5⟩) (poS_k (fun v1 hv1 => po_kA (fun hr1 => ?_)))
  subst hv1
  replace h := el_l h
  obtain ⟨q2, hq2, h⟩ := bd_e h
  refine jj_invV hC mvX3_sinkRate wd707 wd708 wd1419 hr1 (by decide) rfl (xX3_sinkRate (OKC.tr hC) hr1 hq2) rfl rfl (c_le rfl) (c_le rfl) (c_le rfl) (c_le rfl) dX9_sink_5 noXk (po_kI (fun hr2 => ?_))
  cases h
  exact jj_iret hC (c_le rfl) (c_le rfl) dX9_sink_8 ⟨_, rfl, rfl, hr2, rfl, rfl, rfl, rfl, rfl⟩
def fX9_launchedPilot (ad S Ln : Nat → Nat) (R : gR) (M : gM) (a0 : Nat) (x1 : Int) : Option ((Nat) ⊕ (String)) :=
  bd (fX9_knownPilot ad S Ln R M a0 x1) fun q1 => Sum.elim (fun v1 => gd (0 ≤ M v1 1) (if ¬ (M v1 1) = 0 then (some (Sum.inl v1)) else (some (Sum.inr ("java/lang/IllegalStateException"))))) (fun e1 => some (Sum.inr e1)) q1
theorem xX9_launchedPilot {l : Launch} {G : gE} {sz : Nat} {S Ln : Nat → Nat} {M : gM} {R : gR} (hl : l.stackTraces = false) {a0 : Nat} (hs0 : S a0 = 12) {x1 : Int} (hp1 : (-2147483648 ≤ x1 ∧ x1 < 2147483648)) {r : (Nat) ⊕ (String)} (h : fX9_launchedPilot G.2.2.2.2 S Ln R M a0 x1 = some r) : Ct l G yX9_launchedPilot cX9_launchedPilot 3 (some (.object "GlidingContest$Glider")) 9 2 12 [.ref a0, .int (iI x1)] sz S Ln M R (poS r (fun a => poA 8 a sz S Ln (M) R)) (xoS r (fun e => xo e S Ln M R)) := by
  refine jj_start (own := RX9) (lv0 := [(0, .ref a0), (1, .int (iI x1))]) hl (by decide +kernel) rfl rfl (c_le rfl) (fun C hCl hC => ?_)
  unfold fX9_launchedPilot at h
  refine jj_aload_n hC dX9_launchedPilot_0 rfl 0 rfl ?_
  refine jj_iload_n hC dX9_launchedPilot_1 rfl 1 rfl ?_
  obtain ⟨q1, hq1, h⟩ := bd_e h
  refine jj_invV hC mvX9_knownPilot wd62 wd0 wd60 hs0 (by decide) rfl (xX9_knownPilot (OKC.tr hC) hs0 hp1 hq1) rfl rfl (c_le rfl) (c_le rfl) (c_le rfl) (c_le rfl) dX9_launchedPilot_2 (fun E1 sz1 S1 Ln1 M1 R1 hX1 => by
    obtain ⟨e1, he1, hx1, hx2, hx3, hx4, hx5⟩ := hX1
    subst he1
    replace h := el_r h
    cases h
    exact jj_out hC (c_le rfl) (c_le rfl) ⟨_, rfl, hx1, hx2, hx3, hx4, hx5⟩) (poS_k (fun v1 hv1 => po_kA (fun hr1 => ?_)))
  subst hv1
  replace h := el_l h
  refine jj_astore_n (lv' := [(2, .ref v1), (0, .ref a0), (1, .int (iI x1))]) hC dX9_launchedPilot_5 rfl (by decide) rfl ?_
  refine jj_aload_n hC dX9_launchedPilot_6 rfl 0 rfl ?_
  obtain ⟨hg2, h⟩ := gd_e h
  refine jg_E hC kfX3 1 rfl hr1 (by decide) wd994 rfl hg2 dX9_launchedPilot_7 (fun hr2 => ?_)
  refine jg_s (j := 0) hC 0 rfl rfl wd462 dX9_launchedPilot_10 ?_
  refine jg_acmp_ne (tgt := 27) hC dX9_launchedPilot_13 rfl ⟨hg2, hr2⟩ (show (0 ≤ (0 : Int) ∧ (0 : Int) < 9) from by decide) (fun hc => ?_) (fun hc => ?_)
  · replace h := (if_pos hc).symm.trans h
    refine jj_aload_n hC dX9_launchedPilot_27 rfl 0 rfl ?_
    cases h
    exact jj_aret hC rfl (Or.inl ⟨_, rfl⟩) (c_le rfl) (c_le rfl) dX9_launchedPilot_28 ⟨_, rfl, rfl, hr1, rfl, rfl, rfl, rfl, rfl⟩
  · replace h := (if_neg (fun k => k hc)).symm.trans h
    cases h
    exact jj_throwC hC 11 rfl (by decide +kernel) (tfit_of (by decide +kernel)) (by decide) wd582 wd43 ta_IllegalStateException92 tg_IllegalStateException92 dX9_launchedPilot_16 dX9_launchedPilot_19 dX9_launchedPilot_20 dX9_launchedPilot_23 dX9_launchedPilot_26 (c_le rfl) (c_le rfl) (c_le rfl) (c_le rfl) (fun sz7 _ => ⟨_, rfl, rfl, rfl, rfl, rfl, rfl⟩)
def fX9_x (ad S Ln : Nat → Nat) (R : gR) (M : gM) (a0 : Nat) (x1 : Int) : Option ((Int) ⊕ (String)) :=
  bd (fX9_launchedPilot ad S Ln R M a0 x1) fun q1 => Sum.elim (fun v1 => some (Sum.inl (M v1 2))) (fun e1 => some (Sum.inr e1)) q1
theorem xX9_x {l : Launch} {G : gE} {sz : Nat} {S Ln : Nat → Nat} {M : gM} {R : gR} (hl : l.stackTraces = false) {a0 : Nat} (hs0 : S a0 = 12) {x1 : Int} (hp1 : (-2147483648 ≤ x1 ∧ x1 < 2147483648)) {r : (Int) ⊕ (String)} (h : fX9_x G.2.2.2.2 S Ln R M a0 x1 = some r) : Ct l G yX9_x cX9_x 2 (some .int) 10 2 12 [.ref a0, .int (iI x1)] sz S Ln M R (poS r (fun a => poI a sz S Ln (M) R)) (xoS r (fun e => xo e S Ln M R)) := by
  refine jj_start (own := RX9) (lv0 := [(0, .ref a0), (1, .int (iI x1))]) hl (by decide +kernel) rfl rfl (c_le rfl) (fun C hCl hC => ?_)
  unfold fX9_x at h
  refine jj_aload_n hC dX9_x_0 rfl 0 rfl ?_
  refine jj_iload_n hC dX9_x_1 rfl 1 rfl ?_
  obtain ⟨q1, hq1, h⟩ := bd_e h
  refine jj_invV hC mvX9_launchedPilot wd1444 wd19 wd1442 hs0 (by decide) rfl (xX9_launchedPilot (OKC.tr hC) hs0 hp1 hq1) rfl rfl (c_le rfl) (c_le rfl) (c_le rfl) (c_le rfl) dX9_x_2 (fun E1 sz1 S1 Ln1 M1 R1 hX1 => by
    obtain ⟨e1, he1, hx1, hx2, hx3, hx4, hx5⟩ := hX1
    subst he1
    replace h := el_r h
    cases h
    exact jj_out hC (c_le rfl) (c_le rfl) ⟨_, rfl, hx1, hx2, hx3, hx4, hx5⟩) (poS_k (fun v1 hv1 => po_kA (fun hr1 => ?_)))
  subst hv1
  replace h := el_l h
  refine jg_I hC kfX3 2 rfl hr1 (by decide) wd997 rfl dX9_x_5 (fun hr2 => ?_)
  cases h
  exact jj_iret hC (c_le rfl) (c_le rfl) dX9_x_8 ⟨_, rfl, rfl, hr2, rfl, rfl, rfl, rfl, rfl⟩
def fX9_y (ad S Ln : Nat → Nat) (R : gR) (M : gM) (a0 : Nat) (x1 : Int) : Option ((Int) ⊕ (String)) :=
  bd (fX9_launchedPilot ad S Ln R M a0 x1) fun q1 => Sum.elim (fun v1 => some (Sum.inl (M v1 3))) (fun e1 => some (Sum.inr e1)) q1
theorem xX9_y {l : Launch} {G : gE} {sz : Nat} {S Ln : Nat → Nat} {M : gM} {R : gR} (hl : l.stackTraces = false) {a0 : Nat} (hs0 : S a0 = 12) {x1 : Int} (hp1 : (-2147483648 ≤ x1 ∧ x1 < 2147483648)) {r : (Int) ⊕ (String)} (h : fX9_y G.2.2.2.2 S Ln R M a0 x1 = some r) : Ct l G yX9_y cX9_y 2 (some .int) 10 2 12 [.ref a0, .int (iI x1)] sz S Ln M R (poS r (fun a => poI a sz S Ln (M) R)) (xoS r (fun e => xo e S Ln M R)) := by
  refine jj_start (own := RX9) (lv0 := [(0, .ref a0), (1, .int (iI x1))]) hl (by decide +kernel) rfl rfl (c_le rfl) (fun C hCl hC => ?_)
  unfold fX9_y at h
  refine jj_aload_n hC dX9_y_0 rfl 0 rfl ?_
  refine jj_iload_n hC dX9_y_1 rfl 1 rfl ?_
  obtain ⟨q1, hq1, h⟩ := bd_e h
  refine jj_invV hC mvX9_launchedPilot wd1444 wd19 wd1442 hs0 (by decide) rfl (xX9_launchedPilot (OKC.tr hC) hs0 hp1 hq1) rfl rfl (c_le rfl) (c_le rfl) (c_le rfl) (c_le rfl) dX9_y_2 (fun E1 sz1 S1 Ln1 M1 R1 hX1 => by
    obtain ⟨e1, he1, hx1, hx2, hx3, hx4, hx5⟩ := hX1
    subst he1
    replace h := el_r h
    cases h
    exact jj_out hC (c_le rfl) (c_le rfl) ⟨_, rfl, hx1, hx2, hx3, hx4, hx5⟩) (poS_k (fun v1 hv1 => po_kA (fun hr1 => ?_)))
  subst hv1
  replace h := el_l h
  refine jg_I hC kfX3 3 rfl hr1 (by decide) wd1000 rfl dX9_y_5 (fun hr2 => ?_)
  cases h
  exact jj_iret hC (c_le rfl) (c_le rfl) dX9_y_8 ⟨_, rfl, rfl, hr2, rfl, rfl, rfl, rfl, rfl⟩
def fX9_height (ad S Ln : Nat → Nat) (R : gR) (M : gM) (a0 : Nat) (x1 : Int) : Option ((Int) ⊕ (String)) :=
  bd (fX9_launchedPilot ad S Ln R M a0 x1) fun q1 => Sum.elim (fun v1 => some (Sum.inl (M v1 4))) (fun e1 => some (Sum.inr e1)) q1
theorem xX9_height {l : Launch} {G : gE} {sz : Nat} {S Ln : Nat → Nat} {M : gM} {R : gR} (hl : l.stackTraces = false) {a0 : Nat} (hs0 : S a0 = 12) {x1 : Int} (hp1 : (-2147483648 ≤ x1 ∧ x1 < 2147483648)) {r : (Int) ⊕ (String)} (h : fX9_height G.2.2.2.2 S Ln R M a0 x1 = some r) : Ct l G yX9_height cX9_height 2 (some .int) 10 2 12 [.ref a0, .int (iI x1)] sz S Ln M R (poS r (fun a => poI a sz S Ln (M) R)) (xoS r (fun e => xo e S Ln M R)) := by
  refine jj_start (own := RX9) (lv0 := [(0, .ref a0), (1, .int (iI x1))]) hl (by decide +kernel) rfl rfl (c_le rfl) (fun C hCl hC => ?_)
  unfold fX9_height at h
  refine jj_aload_n hC dX9_height_0 rfl 0 rfl ?_
  refine jj_iload_n hC dX9_height_1 rfl 1 rfl ?_
  obtain ⟨q1, hq1, h⟩ := bd_e h
  refine jj_invV hC mvX9_launchedPilot wd1444 wd19 wd1442 hs0 (by decide) rfl (xX9_launchedPilot (OKC.tr hC) hs0 hp1 hq1) rfl rfl (c_le rfl) (c_le rfl) (c_le rfl) (c_le rfl) dX9_height_2 (fun E1 sz1 S1 Ln1 M1 R1 hX1 => by
    obtain ⟨e1, he1, hx1, hx2, hx3, hx4, hx5⟩ := hX1
    subst he1
    replace h := el_r h
    cases h
    exact jj_out hC (c_le rfl) (c_le rfl) ⟨_, rfl, hx1, hx2, hx3, hx4, hx5⟩) (poS_k (fun v1 hv1 => po_kA (fun hr1 => ?_)))
  subst hv1
  replace h := el_l h
  refine jg_I hC kfX3 4 rfl hr1 (by decide) wd1003 rfl dX9_height_5 (fun hr2 => ?_)
  cases h
  exact jj_iret hC (c_le rfl) (c_le rfl) dX9_height_8 ⟨_, rfl, rfl, hr2, rfl, rfl, rfl, rfl, rfl⟩
def fX9_minutes (ad S Ln : Nat → Nat) (R : gR) (M : gM) (a0 : Nat) (x1 : Int) : Option ((Int) ⊕ (String)) :=
  bd (fX9_launchedPilot ad S Ln R M a0 x1) fun q1 => Sum.elim (fun v1 => some (Sum.inl (M v1 5))) (fun e1 => some (Sum.inr e1)) q1
theorem xX9_minutes {l : Launch} {G : gE} {sz : Nat} {S Ln : Nat → Nat} {M : gM} {R : gR} (hl : l.stackTraces = false) {a0 : Nat} (hs0 : S a0 = 12) {x1 : Int} (hp1 : (-2147483648 ≤ x1 ∧ x1 < 2147483648)) {r : (Int) ⊕ (String)} (h : fX9_minutes G.2.2.2.2 S Ln R M a0 x1 = some r) : Ct l G yX9_minutes cX9_minutes 2 (some .int) 10 2 12 [.ref a0, .int (iI x1)] sz S Ln M R (poS r (fun a => poI a sz S Ln (M) R)) (xoS r (fun e => xo e S Ln M R)) := by
  refine jj_start (own := RX9) (lv0 := [(0, .ref a0), (1, .int (iI x1))]) hl (by decide +kernel) rfl rfl (c_le rfl) (fun C hCl hC => ?_)
  unfold fX9_minutes at h
  refine jj_aload_n hC dX9_minutes_0 rfl 0 rfl ?_
  refine jj_iload_n hC dX9_minutes_1 rfl 1 rfl ?_
  obtain ⟨q1, hq1, h⟩ := bd_e h
  refine jj_invV hC mvX9_launchedPilot wd1444 wd19 wd1442 hs0 (by decide) rfl (xX9_launchedPilot (OKC.tr hC) hs0 hp1 hq1) rfl rfl (c_le rfl) (c_le rfl) (c_le rfl) (c_le rfl) dX9_minutes_2 (fun E1 sz1 S1 Ln1 M1 R1 hX1 => by
    obtain ⟨e1, he1, hx1, hx2, hx3, hx4, hx5⟩ := hX1
    subst he1
    replace h := el_r h
    cases h
    exact jj_out hC (c_le rfl) (c_le rfl) ⟨_, rfl, hx1, hx2, hx3, hx4, hx5⟩) (poS_k (fun v1 hv1 => po_kA (fun hr1 => ?_)))
  subst hv1
  replace h := el_l h
  refine jg_I hC kfX3 5 rfl hr1 (by decide) wd1006 rfl dX9_minutes_5 (fun hr2 => ?_)
  cases h
  exact jj_iret hC (c_le rfl) (c_le rfl) dX9_minutes_8 ⟨_, rfl, rfl, hr2, rfl, rfl, rfl, rfl, rfl⟩
def fX9_penalty (ad S Ln : Nat → Nat) (R : gR) (M : gM) (a0 : Nat) (x1 : Int) : Option ((Int) ⊕ (String)) :=
  bd (fX9_launchedPilot ad S Ln R M a0 x1) fun q1 => Sum.elim (fun v1 => some (Sum.inl (M v1 6))) (fun e1 => some (Sum.inr e1)) q1
theorem xX9_penalty {l : Launch} {G : gE} {sz : Nat} {S Ln : Nat → Nat} {M : gM} {R : gR} (hl : l.stackTraces = false) {a0 : Nat} (hs0 : S a0 = 12) {x1 : Int} (hp1 : (-2147483648 ≤ x1 ∧ x1 < 2147483648)) {r : (Int) ⊕ (String)} (h : fX9_penalty G.2.2.2.2 S Ln R M a0 x1 = some r) : Ct l G yX9_penalty cX9_penalty 2 (some .int) 10 2 12 [.ref a0, .int (iI x1)] sz S Ln M R (poS r (fun a => poI a sz S Ln (M) R)) (xoS r (fun e => xo e S Ln M R)) := by
  refine jj_start (own := RX9) (lv0 := [(0, .ref a0), (1, .int (iI x1))]) hl (by decide +kernel) rfl rfl (c_le rfl) (fun C hCl hC => ?_)
  unfold fX9_penalty at h
  refine jj_aload_n hC dX9_penalty_0 rfl 0 rfl ?_
  refine jj_iload_n hC dX9_penalty_1 rfl 1 rfl ?_
  obtain ⟨q1, hq1, h⟩ := bd_e h
  refine jj_invV hC mvX9_launchedPilot wd1444 wd19 wd1442 hs0 (by decide) rfl (xX9_launchedPilot (OKC.tr hC) hs0 hp1 hq1) rfl rfl (c_le rfl) (c_le rfl) (c_le rfl) (c_le rfl) dX9_penalty_2 (fun E1 sz1 S1 Ln1 M1 R1 hX1 => by
    obtain ⟨e1, he1, hx1, hx2, hx3, hx4, hx5⟩ := hX1
    subst he1
    replace h := el_r h
    cases h
    exact jj_out hC (c_le rfl) (c_le rfl) ⟨_, rfl, hx1, hx2, hx3, hx4, hx5⟩) (poS_k (fun v1 hv1 => po_kA (fun hr1 => ?_)))
  subst hv1
  replace h := el_l h
  refine jg_I hC kfX3 6 rfl hr1 (by decide) wd1009 rfl dX9_penalty_5 (fun hr2 => ?_)
  cases h
  exact jj_iret hC (c_le rfl) (c_le rfl) dX9_penalty_8 ⟨_, rfl, rfl, hr2, rfl, rfl, rfl, rfl, rfl⟩
def fX9_reached (ad S Ln : Nat → Nat) (R : gR) (M : gM) (a0 : Nat) (x1 : Int) : Option ((Int) ⊕ (String)) :=
  bd (fX9_knownPilot ad S Ln R M a0 x1) fun q1 => Sum.elim (fun v1 => some (Sum.inl (M v1 7))) (fun e1 => some (Sum.inr e1)) q1
theorem xX9_reached {l : Launch} {G : gE} {sz : Nat} {S Ln : Nat → Nat} {M : gM} {R : gR} (hl : l.stackTraces = false) {a0 : Nat} (hs0 : S a0 = 12) {x1 : Int} (hp1 : (-2147483648 ≤ x1 ∧ x1 < 2147483648)) {r : (Int) ⊕ (String)} (h : fX9_reached G.2.2.2.2 S Ln R M a0 x1 = some r) : Ct l G yX9_reached cX9_reached 2 (some .int) 9 1 6 [.ref a0, .int (iI x1)] sz S Ln M R (poS r (fun a => poI a sz S Ln (M) R)) (xoS r (fun e => xo e S Ln M R)) := by
  refine jj_start (own := RX9) (lv0 := [(0, .ref a0), (1, .int (iI x1))]) hl (by decide +kernel) rfl rfl (c_le rfl) (fun C hCl hC => ?_)
  unfold fX9_reached at h
  refine jj_aload_n hC dX9_reached_0 rfl 0 rfl ?_
  refine jj_iload_n hC dX9_reached_1 rfl 1 rfl ?_
  obtain ⟨q1, hq1, h⟩ := bd_e h
  refine jj_invV hC mvX9_knownPilot wd62 wd0 wd60 hs0 (by decide) rfl (xX9_knownPilot (OKC.tr hC) hs0 hp1 hq1) rfl rfl (c_le rfl) (c_le rfl) (c_le rfl) (c_le rfl) dX9_reached_2 (fun E1 sz1 S1 Ln1 M1 R1 hX1 => by
    obtain ⟨e1, he1, hx1, hx2, hx3, hx4, hx5⟩ := hX1
    subst he1
    replace h := el_r h
    cases h
    exact jj_out hC (c_le rfl) (c_le rfl) ⟨_, rfl, hx1, hx2, hx3, hx4, hx5⟩) (poS_k (fun v1 hv1 => po_kA (fun hr1 => ?_)))
  subst hv1
  replace h := el_l h
  refine jg_I hC kfX3 7 rfl hr1 (by decide) wd1012 rfl dX9_reached_5 (fun hr2 => ?_)
  cases h
  exact jj_iret hC (c_le rfl) (c_le rfl) dX9_reached_8 ⟨_, rfl, rfl, hr2, rfl, rfl, rfl, rfl, rfl⟩
def fX9_pilotInPhase (ad S Ln : Nat → Nat) (R : gR) (M : gM) (a0 : Nat) (x1 : Int) (x2 : Int) : Option ((Nat) ⊕ (String)) :=
  bd (fX9_knownPilot ad S Ln R M a0 x1) fun q1 => Sum.elim (fun v1 => gd (0 ≤ M v1 1) (if (M v1 1) = x2 then (some (Sum.inl v1)) else (some (Sum.inr ("java/lang/IllegalStateException"))))) (fun e1 => some (Sum.inr e1)) q1
theorem xX9_pilotInPhase {l : Launch} {G : gE} {sz : Nat} {S Ln : Nat → Nat} {M : gM} {R : gR} (hl : l.stackTraces = false) {a0 : Nat} (hs0 : S a0 = 12) {x1 : Int} (hp1 : (-2147483648 ≤ x1 ∧ x1 < 2147483648)) {x2 : Int} (hp2 : (0 ≤ x2 ∧ x2 < 9)) {r : (Nat) ⊕ (String)} (h : fX9_pilotInPhase G.2.2.2.2 S Ln R M a0 x1 x2 = some r) : Ct l G yX9_pilotInPhase cX9_pilotInPhase 4 (some (.object "GlidingContest$Glider")) 9 2 12 [.ref a0, .int (iI x1), .ref (G.2.2.2.2 x2.toNat)] sz S Ln M R (poS r (fun a => poA 8 a sz S Ln (M) R)) (xoS r (fun e => xo e S Ln M R)) := by
  refine jj_start (own := RX9) (lv0 := [(0, .ref a0), (1, .int (iI x1)), (2, .ref (G.2.2.2.2 x2.toNat))]) hl (by decide +kernel) rfl rfl (c_le rfl) (fun C hCl hC => ?_)
  unfold fX9_pilotInPhase at h
  refine jj_aload_n hC dX9_pilotInPhase_0 rfl 0 rfl ?_
  refine jj_iload_n hC dX9_pilotInPhase_1 rfl 1 rfl ?_
  obtain ⟨q1, hq1, h⟩ := bd_e h
  refine jj_invV hC mvX9_knownPilot wd62 wd0 wd60 hs0 (by decide) rfl (xX9_knownPilot (OKC.tr hC) hs0 hp1 hq1) rfl rfl (c_le rfl) (c_le rfl) (c_le rfl) (c_le rfl) dX9_pilotInPhase_2 (fun E1 sz1 S1 Ln1 M1 R1 hX1 => by
    obtain ⟨e1, he1, hx1, hx2, hx3, hx4, hx5⟩ := hX1
    subst he1
    replace h := el_r h
    cases h
    exact jj_out hC (c_le rfl) (c_le rfl) ⟨_, rfl, hx1, hx2, hx3, hx4, hx5⟩) (poS_k (fun v1 hv1 => po_kA (fun hr1 => ?_)))
  subst hv1
  replace h := el_l h
  refine jj_astore_n (lv' := [(3, .ref v1), (0, .ref a0), (1, .int (iI x1)), (2, .ref (G.2.2.2.2 x2.toNat))]) hC dX9_pilotInPhase_5 rfl (by decide) rfl ?_
  refine jj_aload_n hC dX9_pilotInPhase_6 rfl 0 rfl ?_
  obtain ⟨hg2, h⟩ := gd_e h
  refine jg_E hC kfX3 1 rfl hr1 (by decide) wd994 rfl hg2 dX9_pilotInPhase_7 (fun hr2 => ?_)
  refine jj_aload_n hC dX9_pilotInPhase_10 rfl 3 rfl ?_
  refine jg_acmp_eq (tgt := 25) hC dX9_pilotInPhase_11 rfl ⟨hg2, hr2⟩ hp2 (fun hc => ?_) (fun hc => ?_)
  · replace h := (if_pos hc).symm.trans h
    refine jj_aload_n hC dX9_pilotInPhase_25 rfl 0 rfl ?_
    cases h
    exact jj_aret hC rfl (Or.inl ⟨_, rfl⟩) (c_le rfl) (c_le rfl) dX9_pilotInPhase_26 ⟨_, rfl, rfl, hr1, rfl, rfl, rfl, rfl, rfl⟩
  · replace h := (if_neg (hc)).symm.trans h
    cases h
    exact jj_throwC hC 12 rfl (by decide +kernel) (tfit_of (by decide +kernel)) (by decide) wd582 wd43 ta_IllegalStateException92 tg_IllegalStateException92 dX9_pilotInPhase_14 dX9_pilotInPhase_17 dX9_pilotInPhase_18 dX9_pilotInPhase_21 dX9_pilotInPhase_24 (c_le rfl) (c_le rfl) (c_le rfl) (c_le rfl) (fun sz7 _ => ⟨_, rfl, rfl, rfl, rfl, rfl, rfl⟩)
def fX9_remainingDistance (ad S Ln : Nat → Nat) (R : gR) (M : gM) (a0 : Nat) (x1 : Int) : Option ((Int) ⊕ (String)) :=
  rf S (R a0 0) 11 fun b1 => bd (fX9_pilotInPhase ad S Ln R M a0 x1 1) fun q2 => Sum.elim (fun v2 => bd (fX8_distanceLeft ad S Ln R M b1 v2) fun q3 => some (Sum.inl q3)) (fun e2 => some (Sum.inr e2)) q2
theorem xX9_remainingDistance {l : Launch} {G : gE} {sz : Nat} {S Ln : Nat → Nat} {M : gM} {R : gR} (hl : l.stackTraces = false) {a0 : Nat} (hs0 : S a0 = 12) {x1 : Int} (hp1 : (-2147483648 ≤ x1 ∧ x1 < 2147483648)) {r : (Int) ⊕ (String)} (h : fX9_remainingDistance G.2.2.2.2 S Ln R M a0 x1 = some r) : Ct l G yX9_remainingDistance cX9_remainingDistance 2 (some .int) 10 2 12 [.ref a0, .int (iI x1)] sz S Ln M R (poS r (fun a => poI a sz S Ln (M) R)) (xoS r (fun e => xo e S Ln M R)) := by
  refine jj_start (own := RX9) (lv0 := [(0, .ref a0), (1, .int (iI x1))]) hl (by decide +kernel) rfl rfl (c_le rfl) (fun C hCl hC => ?_)
  unfold fX9_remainingDistance at h
  refine jj_aload_n hC dX9_remainingDistance_0 rfl 0 rfl ?_
  obtain ⟨b1, hb1, hs1, h⟩ := rf_e h
  refine jg_R hC kfX9 0 rfl hs0 (by decide) wd1117 rfl hb1 dX9_remainingDistance_1 ?_
  refine jj_aload_n hC dX9_remainingDistance_4 rfl 0 rfl ?_
  refine jj_iload_n hC dX9_remainingDistance_5 rfl 1 rfl ?_
  refine jg_s (j := 1) hC 1 rfl rfl wd823 dX9_remainingDistance_6 ?_
  obtain ⟨q2, hq2, h⟩ := bd_e h
  refine jj_invV hC mvX9_pilotInPhase wd826 wd6 wd824 hs0 (by decide) rfl (xX9_pilotInPhase (OKC.tr hC) hs0 hp1 (show (0 ≤ (1 : Int) ∧ (1 : Int) < 9) from by decide) hq2) rfl rfl (c_le rfl) (c_le rfl) (c_le rfl) (c_le rfl) dX9_remainingDistance_9 (fun E2 sz2 S2 Ln2 M2 R2 hX2 => by
    obtain ⟨e2, he2, hx1, hx2, hx3, hx4, hx5⟩ := hX2
    subst he2
    replace h := el_r h
    cases h
    exact jj_out hC (c_le rfl) (c_le rfl) ⟨_, rfl, hx1, hx2, hx3, hx4, hx5⟩) (poS_k (fun v2 hv2 => po_kA (fun hr2 => ?_)))
  subst hv2
  replace h := el_l h
  obtain ⟨q3, hq3, h⟩ := bd_e h
  refine jj_invV hC mvX8_distanceLeft wd830 wd831 wd829 hs1 (by decide) rfl (xX8_distanceLeft (OKC.tr hC) hs1 hr2 hq3) rfl rfl (c_le rfl) (c_le rfl) (c_le rfl) (c_le rfl) dX9_remainingDistance_12 noXk (po_kI (fun hr3 => ?_))
  cases h
  exact jj_iret hC (c_le rfl) (c_le rfl) dX9_remainingDistance_15 ⟨_, rfl, rfl, hr3, rfl, rfl, rfl, rfl, rfl⟩
def fX9_canFinish (ad S Ln : Nat → Nat) (R : gR) (M : gM) (a0 : Nat) (x1 : Int) : Option ((Int) ⊕ (String)) :=
  rf S (R a0 0) 11 fun b1 => bd (fX9_pilotInPhase ad S Ln R M a0 x1 1) fun q2 => Sum.elim (fun v2 => bd (fX8_finishesByHeight ad S Ln R M b1 v2) fun q3 => some (Sum.inl q3)) (fun e2 => some (Sum.inr e2)) q2
theorem xX9_canFinish {l : Launch} {G : gE} {sz : Nat} {S Ln : Nat → Nat} {M : gM} {R : gR} (hl : l.stackTraces = false) {a0 : Nat} (hs0 : S a0 = 12) {x1 : Int} (hp1 : (-2147483648 ≤ x1 ∧ x1 < 2147483648)) {r : (Int) ⊕ (String)} (h : fX9_canFinish G.2.2.2.2 S Ln R M a0 x1 = some r) : Ct l G yX9_canFinish cX9_canFinish 2 (some .boolean) 10 2 12 [.ref a0, .int (iI x1)] sz S Ln M R (poS r (fun a => poZ a sz S Ln (M) R)) (xoS r (fun e => xo e S Ln M R)) := by
  refine jj_start (own := RX9) (lv0 := [(0, .ref a0), (1, .int (iI x1))]) hl (by decide +kernel) rfl rfl (c_le rfl) (fun C hCl hC => ?_)
  unfold fX9_canFinish at h
  refine jj_aload_n hC dX9_canFinish_0 rfl 0 rfl ?_
  obtain ⟨b1, hb1, hs1, h⟩ := rf_e h
  refine jg_R hC kfX9 0 rfl hs0 (by decide) wd1117 rfl hb1 dX9_canFinish_1 ?_
  refine jj_aload_n hC dX9_canFinish_4 rfl 0 rfl ?_
  refine jj_iload_n hC dX9_canFinish_5 rfl 1 rfl ?_
  refine jg_s (j := 1) hC 1 rfl rfl wd823 dX9_canFinish_6 ?_
  obtain ⟨q2, hq2, h⟩ := bd_e h
  refine jj_invV hC mvX9_pilotInPhase wd826 wd6 wd824 hs0 (by decide) rfl (xX9_pilotInPhase (OKC.tr hC) hs0 hp1 (show (0 ≤ (1 : Int) ∧ (1 : Int) < 9) from by decide) hq2) rfl rfl (c_le rfl) (c_le rfl) (c_le rfl) (c_le rfl) dX9_canFinish_9 (fun E2 sz2 S2 Ln2 M2 R2 hX2 => by
    obtain ⟨e2, he2, hx1, hx2, hx3, hx4, hx5⟩ := hX2
    subst he2
    replace h := el_r h
    cases h
    exact jj_out hC (c_le rfl) (c_le rfl) ⟨_, rfl, hx1, hx2, hx3, hx4, hx5⟩) (poS_k (fun v2 hv2 => po_kA (fun hr2 => ?_)))
  subst hv2
  replace h := el_l h
  obtain ⟨q3, hq3, h⟩ := bd_e h
  refine jj_invV hC mvX8_finishesByHeight wd1503 wd1504 wd1502 hs1 (by decide) rfl (xX8_finishesByHeight (OKC.tr hC) hs1 hr2 hq3) rfl rfl (c_le rfl) (c_le rfl) (c_le rfl) (c_le rfl) dX9_canFinish_12 noXk (po_kZ (fun hr3 => ?_))
  cases h
  exact jj_zret hC hr3 (c_le rfl) (c_le rfl) dX9_canFinish_15 ⟨_, rfl, rfl, hr3, rfl, rfl, rfl, rfl, rfl⟩
def fX9_canFinishBySimulation (ad S Ln : Nat → Nat) (R : gR) (M : gM) (a0 : Nat) (x1 : Int) : Option ((Int × gM) ⊕ (String × gM)) :=
  rf S (R a0 0) 11 fun b1 => bd (fX9_pilotInPhase ad S Ln R M a0 x1 1) fun q2 => Sum.elim (fun v2 => bd (fX8_finishesInFlight ad S Ln R M b1 v2) fun q3 => some (Sum.inl (q3.1, q3.2))) (fun e2 => some (Sum.inr (e2, M))) q2
theorem xX9_canFinishBySimulation {l : Launch} {G : gE} {sz : Nat} {S Ln : Nat → Nat} {M : gM} {R : gR} (hl : l.stackTraces = false) {a0 : Nat} (hs0 : S a0 = 12) {x1 : Int} (hp1 : (-2147483648 ≤ x1 ∧ x1 < 2147483648)) {r : (Int × gM) ⊕ (String × gM)} (h : fX9_canFinishBySimulation G.2.2.2.2 S Ln R M a0 x1 = some r) : Ct l G yX9_canFinishBySimulation cX9_canFinishBySimulation 2 (some .boolean) 10 2 12 [.ref a0, .int (iI x1)] sz S Ln M R (poS r (fun a => poZ a.1 sz S Ln (a.2) R)) (xoS r (fun e => xo e.1 S Ln e.2 R)) := by
  refine jj_start (own := RX9) (lv0 := [(0, .ref a0), (1, .int (iI x1))]) hl (by decide +kernel) rfl rfl (c_le rfl) (fun C hCl hC => ?_)
  unfold fX9_canFinishBySimulation at h
  refine jj_aload_n hC dX9_canFinishBySimulation_0 rfl 0 rfl ?_
  obtain ⟨b1, hb1, hs1, h⟩ := rf_e h
  refine jg_R hC kfX9 0 rfl hs0 (by decide) wd1117 rfl hb1 dX9_canFinishBySimulation_1 ?_
  refine jj_aload_n hC dX9_canFinishBySimulation_4 rfl 0 rfl ?_
  refine jj_iload_n hC dX9_canFinishBySimulation_5 rfl 1 rfl ?_
  refine jg_s (j := 1) hC 1 rfl rfl wd823 dX9_canFinishBySimulation_6 ?_
  obtain ⟨q2, hq2, h⟩ := bd_e h
  refine jj_invV hC mvX9_pilotInPhase wd826 wd6 wd824 hs0 (by decide) rfl (xX9_pilotInPhase (OKC.tr hC) hs0 hp1 (show (0 ≤ (1 : Int) ∧ (1 : Int) < 9) from by decide) hq2) rfl rfl (c_le rfl) (c_le rfl) (c_le rfl) (c_le rfl) dX9_canFinishBySimulation_9 (fun E2 sz2 S2 Ln2 M2 R2 hX2 => by
    obtain ⟨e2, he2, hx1, hx2, hx3, hx4, hx5⟩ := hX2
    subst he2
    replace h := el_r h
    cases h
    exact jj_out hC (c_le rfl) (c_le rfl) ⟨_, rfl, hx1, hx2, hx3, hx4, hx5⟩) (poS_k (fun v2 hv2 => po_kA (fun hr2 => ?_)))
  subst hv2
  replace h := el_l h
  obtain ⟨q3, hq3, h⟩ := bd_e h
  refine jj_invV hC mvX8_finishesInFlight wd1513 wd1514 wd1512 hs1 (by decide) rfl (xX8_finishesInFlight (OKC.tr hC) hs1 hr2 hq3) rfl rfl (c_le rfl) (c_le rfl) (c_le rfl) (c_le rfl) dX9_canFinishBySimulation_12 noXk (po_kZ (fun hr3 => ?_))
  cases h
  exact jj_zret hC hr3 (c_le rfl) (c_le rfl) dX9_canFinishBySimulation_15 ⟨_, rfl, rfl, hr3, rfl, rfl, rfl, rfl, rfl⟩
def fX9_achievedDistance (ad S Ln : Nat → Nat) (R : gR) (M : gM) (a0 : Nat) (x1 : Int) : Option ((Int) ⊕ (String)) :=
  rf S (R a0 0) 11 fun b1 => bd (fX9_knownPilot ad S Ln R M a0 x1) fun q2 => Sum.elim (fun v2 => bd (fX8_distanceDone ad S Ln R M b1 v2) fun q3 => some (Sum.inl q3)) (fun e2 => some (Sum.inr e2)) q2
theorem xX9_achievedDistance {l : Launch} {G : gE} {sz : Nat} {S Ln : Nat → Nat} {M : gM} {R : gR} (hl : l.stackTraces = false) {a0 : Nat} (hs0 : S a0 = 12) {x1 : Int} (hp1 : (-2147483648 ≤ x1 ∧ x1 < 2147483648)) {r : (Int) ⊕ (String)} (h : fX9_achievedDistance G.2.2.2.2 S Ln R M a0 x1 = some r) : Ct l G yX9_achievedDistance cX9_achievedDistance 2 (some .int) 9 1 6 [.ref a0, .int (iI x1)] sz S Ln M R (poS r (fun a => poI a sz S Ln (M) R)) (xoS r (fun e => xo e S Ln M R)) := by
  refine jj_start (own := RX9) (lv0 := [(0, .ref a0), (1, .int (iI x1))]) hl (by decide +kernel) rfl rfl (c_le rfl) (fun C hCl hC => ?_)
  unfold fX9_achievedDistance at h
  refine jj_aload_n hC dX9_achievedDistance_0 rfl 0 rfl ?_
  obtain ⟨b1, hb1, hs1, h⟩ := rf_e h
  refine jg_R hC kfX9 0 rfl hs0 (by decide) wd1117 rfl hb1 dX9_achievedDistance_1 ?_
  refine jj_aload_n hC dX9_achievedDistance_4 rfl 0 rfl ?_
  refine jj_iload_n hC dX9_achievedDistance_5 rfl 1 rfl ?_
  obtain ⟨q2, hq2, h⟩ := bd_e h
  refine jj_invV hC mvX9_knownPilot wd62 wd0 wd60 hs0 (by decide) rfl (xX9_knownPilot (OKC.tr hC) hs0 hp1 hq2) rfl rfl (c_le rfl) (c_le rfl) (c_le rfl) (c_le rfl) dX9_achievedDistance_6 (fun E2 sz2 S2 Ln2 M2 R2 hX2 => by
    obtain ⟨e2, he2, hx1, hx2, hx3, hx4, hx5⟩ := hX2
    subst he2
    replace h := el_r h
    cases h
    exact jj_out hC (c_le rfl) (c_le rfl) ⟨_, rfl, hx1, hx2, hx3, hx4, hx5⟩) (poS_k (fun v2 hv2 => po_kA (fun hr2 => ?_)))
  subst hv2
  replace h := el_l h
  obtain ⟨q3, hq3, h⟩ := bd_e h
  refine jj_invV hC mvX8_distanceDone wd758 wd759 wd1492 hs1 (by decide) rfl (xX8_distanceDone (OKC.tr hC) hs1 hr2 hq3) rfl rfl (c_le rfl) (c_le rfl) (c_le rfl) (c_le rfl) dX9_achievedDistance_9 noXk (po_kI (fun hr3 => ?_))
  cases h
  exact jj_iret hC (c_le rfl) (c_le rfl) dX9_achievedDistance_12 ⟨_, rfl, rfl, hr3, rfl, rfl, rfl, rfl, rfl⟩
def fX9_dayScore (ad S Ln : Nat → Nat) (R : gR) (M : gM) (a0 : Nat) (x1 : Int) : Option ((Int) ⊕ (String)) :=
  rf S (R a0 0) 11 fun b1 => bd (fX9_knownPilot ad S Ln R M a0 x1) fun q2 => Sum.elim (fun v2 => bd (fX8_scoreOf ad S Ln R M b1 v2) fun q3 => some (Sum.inl q3)) (fun e2 => some (Sum.inr e2)) q2
theorem xX9_dayScore {l : Launch} {G : gE} {sz : Nat} {S Ln : Nat → Nat} {M : gM} {R : gR} (hl : l.stackTraces = false) {a0 : Nat} (hs0 : S a0 = 12) {x1 : Int} (hp1 : (-2147483648 ≤ x1 ∧ x1 < 2147483648)) {r : (Int) ⊕ (String)} (h : fX9_dayScore G.2.2.2.2 S Ln R M a0 x1 = some r) : Ct l G yX9_dayScore cX9_dayScore 2 (some .int) 9 1 6 [.ref a0, .int (iI x1)] sz S Ln M R (poS r (fun a => poI a sz S Ln (M) R)) (xoS r (fun e => xo e S Ln M R)) := by
  refine jj_start (own := RX9) (lv0 := [(0, .ref a0), (1, .int (iI x1))]) hl (by decide +kernel) rfl rfl (c_le rfl) (fun C hCl hC => ?_)
  unfold fX9_dayScore at h
  refine jj_aload_n hC dX9_dayScore_0 rfl 0 rfl ?_
  obtain ⟨b1, hb1, hs1, h⟩ := rf_e h
  refine jg_R hC kfX9 0 rfl hs0 (by decide) wd1117 rfl hb1 dX9_dayScore_1 ?_
  refine jj_aload_n hC dX9_dayScore_4 rfl 0 rfl ?_
  refine jj_iload_n hC dX9_dayScore_5 rfl 1 rfl ?_
  obtain ⟨q2, hq2, h⟩ := bd_e h
  refine jj_invV hC mvX9_knownPilot wd62 wd0 wd60 hs0 (by decide) rfl (xX9_knownPilot (OKC.tr hC) hs0 hp1 hq2) rfl rfl (c_le rfl) (c_le rfl) (c_le rfl) (c_le rfl) dX9_dayScore_6 (fun E2 sz2 S2 Ln2 M2 R2 hX2 => by
    obtain ⟨e2, he2, hx1, hx2, hx3, hx4, hx5⟩ := hX2
    subst he2
    replace h := el_r h
    cases h
    exact jj_out hC (c_le rfl) (c_le rfl) ⟨_, rfl, hx1, hx2, hx3, hx4, hx5⟩) (poS_k (fun v2 hv2 => po_kA (fun hr2 => ?_)))
  subst hv2
  replace h := el_l h
  obtain ⟨q3, hq3, h⟩ := bd_e h
  refine jj_invV hC mvX8_scoreOf wd754 wd755 wd1497 hs1 (by decide) rfl (xX8_scoreOf (OKC.tr hC) hs1 hr2 hq3) rfl rfl (c_le rfl) (c_le rfl) (c_le rfl) (c_le rfl) dX9_dayScore_9 noXk (po_kI (fun hr3 => ?_))
  cases h
  exact jj_iret hC (c_le rfl) (c_le rfl) dX9_dayScore_12 ⟨_, rfl, rfl, hr3, rfl, rfl, rfl, rfl, rfl⟩
def fX9_total (ad S Ln : Nat → Nat) (R : gR) (M : gM) (a0 : Nat) (x1 : Int) : Option ((Int) ⊕ (String)) :=
  bd (fX9_knownPilot ad S Ln R M a0 x1) fun q1 => Sum.elim (fun v1 => some (Sum.inl (M v1 8))) (fun e1 => some (Sum.inr e1)) q1
theorem xX9_total {l : Launch} {G : gE} {sz : Nat} {S Ln : Nat → Nat} {M : gM} {R : gR} (hl : l.stackTraces = false) {a0 : Nat} (hs0 : S a0 = 12) {x1 : Int} (hp1 : (-2147483648 ≤ x1 ∧ x1 < 2147483648)) {r : (Int) ⊕ (String)} (h : fX9_total G.2.2.2.2 S Ln R M a0 x1 = some r) : Ct l G yX9_total cX9_total 2 (some .long) 9 1 6 [.ref a0, .int (iI x1)] sz S Ln M R (poS r (fun a => poL a sz S Ln (M) R)) (xoS r (fun e => xo e S Ln M R)) := by
  refine jj_start (own := RX9) (lv0 := [(0, .ref a0), (1, .int (iI x1))]) hl (by decide +kernel) rfl rfl (c_le rfl) (fun C hCl hC => ?_)
  unfold fX9_total at h
  refine jj_aload_n hC dX9_total_0 rfl 0 rfl ?_
  refine jj_iload_n hC dX9_total_1 rfl 1 rfl ?_
  obtain ⟨q1, hq1, h⟩ := bd_e h
  refine jj_invV hC mvX9_knownPilot wd62 wd0 wd60 hs0 (by decide) rfl (xX9_knownPilot (OKC.tr hC) hs0 hp1 hq1) rfl rfl (c_le rfl) (c_le rfl) (c_le rfl) (c_le rfl) dX9_total_2 (fun E1 sz1 S1 Ln1 M1 R1 hX1 => by
    obtain ⟨e1, he1, hx1, hx2, hx3, hx4, hx5⟩ := hX1
    subst he1
    replace h := el_r h
    cases h
    exact jj_out hC (c_le rfl) (c_le rfl) ⟨_, rfl, hx1, hx2, hx3, hx4, hx5⟩) (poS_k (fun v1 hv1 => po_kA (fun hr1 => ?_)))
  subst hv1
  replace h := el_l h
  refine jg_L hC kfX3 8 rfl hr1 (by decide) wd1015 rfl dX9_total_5 (fun hr2 => ?_)
  cases h
  exact jj_lret hC (c_le rfl) (c_le rfl) dX9_total_8 ⟨_, rfl, rfl, hr2, rfl, rfl, rfl, rfl, rfl⟩
def fX9_pilotAtRank (ad S Ln : Nat → Nat) (R : gR) (M : gM) (a0 : Nat) (x1 : Int) : Option ((Int × gM) ⊕ (String × gM)) :=
  rf S (R a0 0) 11 fun b1 => bd (fX8_hasPilot ad S Ln R M b1 x1) fun q2 => if ¬ q2 = 0 then (rf S (R a0 0) 11 fun b3 => bd (fX8_rankedAt ad S Ln R M b3 x1) fun q4 => some (Sum.inl (q4.1, q4.2))) else (some (Sum.inr ("java/util/NoSuchElementException", M)))
theorem xX9_pilotAtRank {l : Launch} {G : gE} {sz : Nat} {S Ln : Nat → Nat} {M : gM} {R : gR} (hl : l.stackTraces = false) {a0 : Nat} (hs0 : S a0 = 12) {x1 : Int} (hp1 : (-2147483648 ≤ x1 ∧ x1 < 2147483648)) {r : (Int × gM) ⊕ (String × gM)} (h : fX9_pilotAtRank G.2.2.2.2 S Ln R M a0 x1 = some r) : Ct l G yX9_pilotAtRank cX9_pilotAtRank 2 (some .int) 8 1 6 [.ref a0, .int (iI x1)] sz S Ln M R (poS r (fun a => poI a.1 sz S Ln (a.2) R)) (xoS r (fun e => xo e.1 S Ln e.2 R)) := by
  refine jj_start (own := RX9) (lv0 := [(0, .ref a0), (1, .int (iI x1))]) hl (by decide +kernel) rfl rfl (c_le rfl) (fun C hCl hC => ?_)
  unfold fX9_pilotAtRank at h
  refine jj_aload_n hC dX9_pilotAtRank_0 rfl 0 rfl ?_
  obtain ⟨b1, hb1, hs1, h⟩ := rf_e h
  refine jg_R hC kfX9 0 rfl hs0 (by decide) wd1117 rfl hb1 dX9_pilotAtRank_1 ?_
  refine jj_iload_n hC dX9_pilotAtRank_4 rfl 1 rfl ?_
  obtain ⟨q2, hq2, h⟩ := bd_e h
  refine jj_invV hC mvX8_hasPilot wd66 wd67 wd65 hs1 (by decide) rfl (xX8_hasPilot (OKC.tr hC) hs1 hp1 hq2) rfl rfl (c_le rfl) (c_le rfl) (c_le rfl) (c_le rfl) dX9_pilotAtRank_5 noXk (po_kZ (fun hr2 => ?_))
  refine jj_if_ne (tgt := 22) hC dX9_pilotAtRank_8 rfl (r_z hr2) (fun hc => ?_) (fun hc => ?_)
  · replace h := (if_pos hc).symm.trans h
    refine jj_aload_n hC dX9_pilotAtRank_22 rfl 0 rfl ?_
    obtain ⟨b3, hb3, hs3, h⟩ := rf_e h
    refine jg_R hC kfX9 0 rfl hs0 (by decide) wd1117 rfl hb3 dX9_pilotAtRank_23 ?_
    refine jj_iload_n hC dX9_pilotAtRank_26 rfl 1 rfl ?_
    obtain ⟨q4, hq4, h⟩ := bd_e h
    refine jj_invV hC mvX8_rankedAt wd842 wd843 wd841 hs3 (by decide) rfl (xX8_rankedAt (OKC.tr hC) hs3 hp1 hq4) rfl rfl (c_le rfl) (c_le rfl) (c_le rfl) (c_le rfl) dX9_pilotAtRank_27 noXk (po_kI (fun hr4 => ?_))
    cases h
    exact jj_iret hC (c_le rfl) (c_le rfl) dX9_pilotAtRank_30 ⟨_, rfl, rfl, hr4, rfl, rfl, rfl, rfl, rfl⟩
  · replace h := (if_neg (fun k => k hc)).symm.trans h
    cases h
    exact jj_throwX hC (Y0 := "java/lang/RuntimeException") (names := ["java/lang/Exception"]) (ix := 13) (rx := prog_40_method_4_code) (by decide +kernel) (by decide +kernel) (by decide +kernel) (by decide +kernel) 13 rfl (by decide +kernel) (by decide +kernel) (tfit_of (by decide +kernel)) (by decide) wd800 wd48 ta_NoSuchElementException191 tg_NoSuchElementException191 dX9_pilotAtRank_11 dX9_pilotAtRank_14 dX9_pilotAtRank_15 dX9_pilotAtRank_18 dX9_pilotAtRank_21 (c_le rfl) (c_le rfl) (c_le rfl) (c_le rfl) (fun sz7 _ => ⟨_, rfl, rfl, rfl, rfl, rfl, rfl⟩)
def fX9_days (ad S Ln : Nat → Nat) (R : gR) (M : gM) (a0 : Nat) : Option Int :=
  rf S (R a0 0) 11 fun b1 => some (M b1 5)
theorem xX9_days {l : Launch} {G : gE} {sz : Nat} {S Ln : Nat → Nat} {M : gM} {R : gR} (hl : l.stackTraces = false) {a0 : Nat} (hs0 : S a0 = 12) {r : Int} (h : fX9_days G.2.2.2.2 S Ln R M a0 = some r) : Ct l G yX9_days cX9_days 1 (some .int) 1 0 0 [.ref a0] sz S Ln M R (poI r sz S Ln (M) R) noX := by
  refine jj_start (own := RX9) (lv0 := [(0, .ref a0)]) hl (by decide +kernel) rfl rfl (c_le rfl) (fun C hCl hC => ?_)
  unfold fX9_days at h
  refine jj_aload_n hC dX9_days_0 rfl 0 rfl ?_
  obtain ⟨b1, hb1, hs1, h⟩ := rf_e h
  refine jg_R hC kfX9 0 rfl hs0 (by decide) wd1117 rfl hb1 dX9_days_1 ?_
  refine jg_I hC kfX8 5 rfl hs1 (by decide) wd1047 rfl dX9_days_4 (fun hr2 => ?_)
  cases h
  exact jj_iret hC (c_le rfl) (c_le rfl) dX9_days_7 ⟨rfl, hr2, rfl, rfl, rfl, rfl, rfl⟩
def fX9_isConsistent (ad S Ln : Nat → Nat) (R : gR) (M : gM) (a0 : Nat) : Option (Int × gM) :=
  rf S (R a0 0) 11 fun b1 => bd (fX8_rowCountsAgree ad S Ln R M b1) fun q2 => if q2.1 = 0 then (some ((0, q2.2))) else (rf S (R a0 0) 11 fun b3 => bd (fX8_finishForecastsAgree ad S Ln R q2.2 b3) fun q4 => if q4.1 = 0 then (some ((0, q4.2))) else (rf S (R a0 0) 11 fun b5 => bd (fX8_distancesAreBounded ad S Ln R q4.2 b5) fun q6 => if q6 = 0 then (some ((0, q4.2))) else (some ((1, q4.2)))))
theorem xX9_isConsistent {l : Launch} {G : gE} {sz : Nat} {S Ln : Nat → Nat} {M : gM} {R : gR} (hl : l.stackTraces = false) {a0 : Nat} (hs0 : S a0 = 12) {r : Int × gM} (h : fX9_isConsistent G.2.2.2.2 S Ln R M a0 = some r) : Ct l G yX9_isConsistent cX9_isConsistent 1 (some .boolean) 7 0 0 [.ref a0] sz S Ln M R (poZ r.1 sz S Ln (r.2) R) noX := by
  refine jj_start (own := RX9) (lv0 := [(0, .ref a0)]) hl (by decide +kernel) rfl rfl (c_le rfl) (fun C hCl hC => ?_)
  unfold fX9_isConsistent at h
  refine jj_aload_n hC dX9_isConsistent_0 rfl 0 rfl ?_
  obtain ⟨b1, hb1, hs1, h⟩ := rf_e h
  refine jg_R hC kfX9 0 rfl hs0 (by decide) wd1117 rfl hb1 dX9_isConsistent_1 ?_
  obtain ⟨q2, hq2, h⟩ := bd_e h
  refine jj_invV hC mvX8_rowCountsAgree wd1551 wd1552 wd1550 hs1 (by decide) rfl (xX8_rowCountsAgree (OKC.tr hC) hs1 hq2) rfl rfl (c_le rfl) (c_le rfl) (c_le rfl) (c_le rfl) dX9_isConsistent_4 noXk (po_kZ (fun hr2 => ?_))
  refine jj_if_eq (tgt := 34) hC dX9_isConsistent_7 rfl (r_z hr2) (fun hc => ?_) (fun hc => ?_)
  · replace h := (if_pos hc).symm.trans h
    refine jj_iconst hC dX9_isConsistent_34 ?_
    cases h
    exact jj_zret hC (show (0 ≤ (0 : Int) ∧ (0 : Int) ≤ 1) from by decide) (c_le rfl) (c_le rfl) dX9_isConsistent_35 ⟨rfl, (show (0 ≤ (0 : Int) ∧ (0 : Int) ≤ 1) from by decide), rfl, rfl, rfl, rfl, rfl⟩
  · replace h := (if_neg (hc)).symm.trans h
    refine jj_aload_n hC dX9_isConsistent_10 rfl 0 rfl ?_
    obtain ⟨b3, hb3, hs3, h⟩ := rf_e h
    refine jg_R hC kfX9 0 rfl hs0 (by decide) wd1117 rfl hb3 dX9_isConsistent_11 ?_
    obtain ⟨q4, hq4, h⟩ := bd_e h
    refine jj_invV hC mvX8_finishForecastsAgree wd1557 wd1558 wd1556 hs3 (by decide) rfl (xX8_finishForecastsAgree (OKC.tr hC) hs3 hq4) rfl rfl (c_le rfl) (c_le rfl) (c_le rfl) (c_le rfl) dX9_isConsistent_14 noXk (po_kZ (fun hr4 => ?_))
    refine jj_if_eq (tgt := 34) hC dX9_isConsistent_17 rfl (r_z hr4) (fun hc => ?_) (fun hc => ?_)
    · replace h := (if_pos hc).symm.trans h
      refine jj_iconst hC dX9_isConsistent_34 ?_
      cases h
      exact jj_zret hC (show (0 ≤ (0 : Int) ∧ (0 : Int) ≤ 1) from by decide) (c_le rfl) (c_le rfl) dX9_isConsistent_35 ⟨rfl, (show (0 ≤ (0 : Int) ∧ (0 : Int) ≤ 1) from by decide), rfl, rfl, rfl, rfl, rfl⟩
    · replace h := (if_neg (hc)).symm.trans h
      refine jj_aload_n hC dX9_isConsistent_20 rfl 0 rfl ?_
      obtain ⟨b5, hb5, hs5, h⟩ := rf_e h
      refine jg_R hC kfX9 0 rfl hs0 (by decide) wd1117 rfl hb5 dX9_isConsistent_21 ?_
      obtain ⟨q6, hq6, h⟩ := bd_e h
      refine jj_invV hC mvX8_distancesAreBounded wd1563 wd1564 wd1562 hs5 (by decide) rfl (xX8_distancesAreBounded (OKC.tr hC) hs5 hq6) rfl rfl (c_le rfl) (c_le rfl) (c_le rfl) (c_le rfl) dX9_isConsistent_24 noXk (po_kZ (fun hr6 => ?_))
      refine jj_if_eq (tgt := 34) hC dX9_isConsistent_27 rfl (r_z hr6) (fun hc => ?_) (fun hc => ?_)
      · replace h := (if_pos hc).symm.trans h
        refine jj_iconst hC dX9_isConsistent_34 ?_
        cases h
        exact jj_zret hC (show (0 ≤ (0 : Int) ∧ (0 : Int) ≤ 1) from by decide) (c_le rfl) (c_le rfl) dX9_isConsistent_35 ⟨rfl, (show (0 ≤ (0 : Int) ∧ (0 : Int) ≤ 1) from by decide), rfl, rfl, rfl, rfl, rfl⟩
      · replace h := (if_neg (hc)).symm.trans h
        refine jj_iconst hC dX9_isConsistent_30 ?_
        refine jj_goto (tgt := 35) hC dX9_isConsistent_31 rfl ?_
        cases h
        exact jj_zret hC (show (0 ≤ (1 : Int) ∧ (1 : Int) ≤ 1) from by decide) (c_le rfl) (c_le rfl) dX9_isConsistent_35 ⟨rfl, (show (0 ≤ (1 : Int) ∧ (1 : Int) ≤ 1) from by decide), rfl, rfl, rfl, rfl, rfl⟩
def fX9_append (ad S Ln : Nat → Nat) (R : gR) (M : gM) (a0 : Nat) (x1 : Int) : Option ((Int × gM) ⊕ (String × gM)) :=
  rf S (R a0 4) 10 fun b1 => bd (fX7_hasRoom ad S Ln R M b1) fun q2 => if ¬ q2 = 0 then (rf S (R a0 4) 10 fun b3 => bd (fX7_add ad S Ln R M b3 x1) fun q4 => some (Sum.inl (q4.1, q4.2))) else (some (Sum.inr ("java/lang/IllegalStateException", M)))
theorem xX9_append {l : Launch} {G : gE} {sz : Nat} {S Ln : Nat → Nat} {M : gM} {R : gR} (hl : l.stackTraces = false) {a0 : Nat} (hs0 : S a0 = 12) {x1 : Int} (hp1 : (0 ≤ x1 ∧ x1 < 65536)) {r : (Int × gM) ⊕ (String × gM)} (h : fX9_append G.2.2.2.2 S Ln R M a0 x1 = some r) : Ct l G yX9_append cX9_append 2 (some .int) 8 1 6 [.ref a0, .int (iI x1)] sz S Ln M R (poS r (fun a => poI a.1 sz S Ln (a.2) R)) (xoS r (fun e => xo e.1 S Ln e.2 R)) := by
  refine jj_start (own := RX9) (lv0 := [(0, .ref a0), (1, .int (iI x1))]) hl (by decide +kernel) rfl rfl (c_le rfl) (fun C hCl hC => ?_)
  unfold fX9_append at h
  refine jj_aload_n hC dX9_append_0 rfl 0 rfl ?_
  obtain ⟨b1, hb1, hs1, h⟩ := rf_e h
  refine jg_R hC kfX9 4 rfl hs0 (by decide) wd1121 rfl hb1 dX9_append_1 ?_
  obtain ⟨q2, hq2, h⟩ := bd_e h
  refine jj_invV hC mvX7_hasRoom wd1303 wd1304 wd1302 hs1 (by decide) rfl (xX7_hasRoom (OKC.tr hC) hs1 hq2) rfl rfl (c_le rfl) (c_le rfl) (c_le rfl) (c_le rfl) dX9_append_4 noXk (po_kZ (fun hr2 => ?_))
  refine jj_if_ne (tgt := 21) hC dX9_append_7 rfl (r_z hr2) (fun hc => ?_) (fun hc => ?_)
  · replace h := (if_pos hc).symm.trans h
    refine jj_aload_n hC dX9_append_21 rfl 0 rfl ?_
    obtain ⟨b3, hb3, hs3, h⟩ := rf_e h
    refine jg_R hC kfX9 4 rfl hs0 (by decide) wd1121 rfl hb3 dX9_append_22 ?_
    refine jj_iload_n hC dX9_append_25 rfl 1 rfl ?_
    obtain ⟨q4, hq4, h⟩ := bd_e h
    refine jj_invV hC mvX7_add wd1308 wd1309 wd1307 hs3 (by decide) rfl (xX7_add (OKC.tr hC) hs3 hp1 hq4) rfl rfl (c_le rfl) (c_le rfl) (c_le rfl) (c_le rfl) dX9_append_26 noXk (po_kI (fun hr4 => ?_))
    cases h
    exact jj_iret hC (c_le rfl) (c_le rfl) dX9_append_29 ⟨_, rfl, rfl, hr4, rfl, rfl, rfl, rfl, rfl⟩
  · replace h := (if_neg (fun k => k hc)).symm.trans h
    cases h
    exact jj_throwC hC 14 rfl (by decide +kernel) (tfit_of (by decide +kernel)) (by decide) wd582 wd43 ta_IllegalStateException92 tg_IllegalStateException92 dX9_append_10 dX9_append_13 dX9_append_14 dX9_append_17 dX9_append_20 (c_le rfl) (c_le rfl) (c_le rfl) (c_le rfl) (fun sz7 _ => ⟨_, rfl, rfl, rfl, rfl, rfl, rfl⟩)
def fX9_refusalOf (ad S Ln : Nat → Nat) (R : gR) (M : gM) (a0 : Nat) (x1 : Int) : Option Int :=
  rf S (R a0 4) 10 fun b1 => rf S (R b1 3) 25 fun b2 => gd ((0 : Int) ≤ x1 ∧ x1 < (Ln b2 : Int)) (rf S (R b2 x1) 20 fun b3 => rf S (R a0 4) 10 fun b4 => rf S (R b4 2) 20 fun b5 => gd ((0 : Int) ≤ x1 ∧ x1 < (Ln b5 : Int)) (if (M b5 x1) = 0 then (rf S (R a0 0) 11 fun b39 => gd ((0 : Int) ≤ 0 ∧ 0 < (Ln b3 : Int)) (gd ((0 : Int) ≤ 1 ∧ 1 < (Ln b3 : Int)) (bd (fX8_refusalOfPoint ad S Ln R M b39 (M b3 0) (M b3 1)) fun q42 => some (q42)))) else (if (M b5 x1) = 1 then (rf S (R a0 0) 11 fun b36 => gd ((0 : Int) ≤ 0 ∧ 0 < (Ln b3 : Int)) (bd (fX8_refusalOfStop ad S Ln R M b36 (M b3 0)) fun q38 => some (q38))) else (if (M b5 x1) = 2 then (rf S (R a0 0) 11 fun b31 => gd ((0 : Int) ≤ 0 ∧ 0 < (Ln b3 : Int)) (gd ((0 : Int) ≤ 1 ∧ 1 < (Ln b3 : Int)) (gd ((0 : Int) ≤ 2 ∧ 2 < (Ln b3 : Int)) (bd (fX8_refusalOfThermal ad S Ln R M b31 (M b3 0) (M b3 1) (M b3 2)) fun q35 => some (q35))))) else (if (M b5 x1) = 3 then (rf S (R a0 0) 11 fun b25 => gd ((0 : Int) ≤ 0 ∧ 0 < (Ln b3 : Int)) (gd ((0 : Int) ≤ 1 ∧ 1 < (Ln b3 : Int)) (gd ((0 : Int) ≤ 2 ∧ 2 < (Ln b3 : Int)) (gd ((0 : Int) ≤ 3 ∧ 3 < (Ln b3 : Int)) (bd (fX8_refusalOfArea ad S Ln R M b25 (M b3 0) (M b3 1) (M b3 2) (M b3 3)) fun q30 => some (q30)))))) else (if (M b5 x1) = 4 then (rf S (R a0 0) 11 fun b22 => gd ((0 : Int) ≤ 0 ∧ 0 < (Ln b3 : Int)) (bd (fX8_refusalOfPilot ad S Ln R M b22 (M b3 0)) fun q24 => some (q24))) else (if (M b5 x1) = 5 then (rf S (R a0 0) 11 fun b19 => gd ((0 : Int) ≤ 0 ∧ 0 < (Ln b3 : Int)) (bd (fX8_refusalOfLaunch ad S Ln R M b19 (M b3 0)) fun q21 => some (q21))) else (if (M b5 x1) = 6 then (rf S (R a0 0) 11 fun b14 => gd ((0 : Int) ≤ 0 ∧ 0 < (Ln b3 : Int)) (gd ((0 : Int) ≤ 1 ∧ 1 < (Ln b3 : Int)) (gd ((0 : Int) ≤ 2 ∧ 2 < (Ln b3 : Int)) (bd (fX8_refusalOfFlight ad S Ln R M b14 (M b3 0) (M b3 1) (M b3 2)) fun q18 => some (q18))))) else (if (M b5 x1) = 7 then (rf S (R a0 0) 11 fun b10 => gd ((0 : Int) ≤ 0 ∧ 0 < (Ln b3 : Int)) (gd ((0 : Int) ≤ 1 ∧ 1 < (Ln b3 : Int)) (bd (fX8_refusalOfClimb ad S Ln R M b10 (M b3 0) (M b3 1)) fun q13 => some (q13)))) else (rf S (R a0 0) 11 fun b7 => bd (fX8_refusalOfEnd ad S Ln R M b7) fun q8 => some (q8)))))))))))
theorem xX9_refusalOf {l : Launch} {G : gE} {sz : Nat} {S Ln : Nat → Nat} {M : gM} {R : gR} (hl : l.stackTraces = false) {a0 : Nat} (hs0 : S a0 = 12) {x1 : Int} (hp1 : (-2147483648 ≤ x1 ∧ x1 < 2147483648)) {r : Int} (h : fX9_refusalOf G.2.2.2.2 S Ln R M a0 x1 = some r) : Ct l G yX9_refusalOf cX9_refusalOf 3 (some (.object "GlidingContest$Refusal")) 5 0 0 [.ref a0, .int (iI x1)] sz S Ln M R (poE G r sz S Ln (M) R) noX := by
  refine jj_start (own := RX9) (lv0 := [(0, .ref a0), (1, .int (iI x1))]) hl (by decide +kernel) rfl rfl (c_le rfl) (fun C hCl hC => ?_)
  unfold fX9_refusalOf at h
  refine jj_aload_n hC dX9_refusalOf_0 rfl 0 rfl ?_
  obtain ⟨b1, hb1, hs1, h⟩ := rf_e h
  refine jg_R hC kfX9 4 rfl hs0 (by decide) wd1121 rfl hb1 dX9_refusalOf_1 ?_
  obtain ⟨b2, hb2, hs2, h⟩ := rf_e h
  refine jg_R hC kfX7 3 rfl hs1 (by decide) wd1097 rfl hb2 dX9_refusalOf_4 ?_
  refine jj_iload_n hC dX9_refusalOf_7 rfl 1 rfl ?_
  obtain ⟨⟨ha3, hb3⟩, h⟩ := gd_e h
  obtain ⟨b3, hd3, hs3, h⟩ := rf_e h
  refine jj_aald hC hs2 (by decide) ha3 hb3 hd3 dX9_refusalOf_8 ?_
  refine jj_astore_n (lv' := [(2, .ref b3), (0, .ref a0), (1, .int (iI x1))]) hC dX9_refusalOf_9 rfl (by decide) rfl ?_
  refine jj_aload_n hC dX9_refusalOf_10 rfl 1 rfl ?_
  obtain ⟨b4, hb4, hs4, h⟩ := rf_e h
  refine jg_R hC kfX9 4 rfl hs0 (by decide) wd1121 rfl hb4 dX9_refusalOf_11 ?_
  obtain ⟨b5, hb5, hs5, h⟩ := rf_e h
  refine jg_R hC kfX7 2 rfl hs4 (by decide) wd1095 rfl hb5 dX9_refusalOf_14 ?_
  refine jj_iload_n hC dX9_refusalOf_17 rfl 2 rfl ?_
  obtain ⟨⟨ha6, hb6⟩, h⟩ := gd_e h
  refine jj_iald hC hs5 ha6 hb6 dX9_refusalOf_18 (fun hr6 => ?_)
  by_cases hc9_0 : (M b5 x1) = 0
  · replace h := (if_pos hc9_0).symm.trans h
    refine jj_tblIn (tgt := 64) hC dX9_refusalOf_19 hr6 (by omega) (by omega) (by rw [hc9_0]; rfl) rfl ?_
    refine jj_aload_n hC dX9_refusalOf_64 rfl 1 rfl ?_
    obtain ⟨b39, hb39, hs39, h⟩ := rf_e h
    refine jg_R hC kfX9 0 rfl hs0 (by decide) wd1117 rfl hb39 dX9_refusalOf_65 ?_
    refine jj_aload_n hC dX9_refusalOf_68 rfl 0 rfl ?_
    refine jj_iconst hC dX9_refusalOf_69 ?_
    obtain ⟨⟨ha40, hb40⟩, h⟩ := gd_e h
    refine jj_iald hC hs3 ha40 hb40 dX9_refusalOf_70 (fun hr40 => ?_)
    refine jj_aload_n hC dX9_refusalOf_71 rfl 0 rfl ?_
    refine jj_iconst hC dX9_refusalOf_72 ?_
    obtain ⟨⟨ha41, hb41⟩, h⟩ := gd_e h
    refine jj_iald hC hs3 ha41 hb41 dX9_refusalOf_73 (fun hr41 => ?_)
    obtain ⟨q42, hq42, h⟩ := bd_e h
    refine jj_invV hC mvX8_refusalOfPoint wd1153 wd1154 wd1152 hs39 (by decide) rfl (xX8_refusalOfPoint (OKC.tr hC) hs39 hr40 hr41 hq42) rfl rfl (c_le rfl) (c_le rfl) (c_le rfl) (c_le rfl) dX9_refusalOf_74 noXk (po_kE (fun hr42 => ?_))
    cases h
    exact jj_aret hC rfl (Or.inl ⟨_, rfl⟩) (c_le rfl) (c_le rfl) dX9_refusalOf_77 ⟨rfl, hr42, rfl, rfl, rfl, rfl, rfl⟩
  · replace h := (if_neg hc9_0).symm.trans h
    by_cases hc9_1 : (M b5 x1) = 1
    · replace h := (if_pos hc9_1).symm.trans h
      refine jj_tblIn (tgt := 78) hC dX9_refusalOf_19 hr6 (by omega) (by omega) (by rw [hc9_1]; rfl) rfl ?_
      refine jj_aload_n hC dX9_refusalOf_78 rfl 1 rfl ?_
      obtain ⟨b36, hb36, hs36, h⟩ := rf_e h
      refine jg_R hC kfX9 0 rfl hs0 (by decide) wd1117 rfl hb36 dX9_refusalOf_79 ?_
      refine jj_aload_n hC dX9_refusalOf_82 rfl 0 rfl ?_
      refine jj_iconst hC dX9_refusalOf_83 ?_
      obtain ⟨⟨ha37, hb37⟩, h⟩ := gd_e h
      refine jj_iald hC hs3 ha37 hb37 dX9_refusalOf_84 (fun hr37 => ?_)
      obtain ⟨q38, hq38, h⟩ := bd_e h
      refine jj_invV hC mvX8_refusalOfStop wd1168 wd1169 wd1167 hs36 (by decide) rfl (xX8_refusalOfStop (OKC.tr hC) hs36 hr37 hq38) rfl rfl (c_le rfl) (c_le rfl) (c_le rfl) (c_le rfl) dX9_refusalOf_85 noXk (po_kE (fun hr38 => ?_))
      cases h
      exact jj_aret hC rfl (Or.inl ⟨_, rfl⟩) (c_le rfl) (c_le rfl) dX9_refusalOf_88 ⟨rfl, hr38, rfl, rfl, rfl, rfl, rfl⟩
    · replace h := (if_neg hc9_1).symm.trans h
      by_cases hc9_2 : (M b5 x1) = 2
      · replace h := (if_pos hc9_2).symm.trans h
        refine jj_tblIn (tgt := 89) hC dX9_refusalOf_19 hr6 (by omega) (by omega) (by rw [hc9_2]; rfl) rfl ?_
        refine jj_aload_n hC dX9_refusalOf_89 rfl 1 rfl ?_
        obtain ⟨b31, hb31, hs31, h⟩ := rf_e h
        refine jg_R hC kfX9 0 rfl hs0 (by decide) wd1117 rfl hb31 dX9_refusalOf_90 ?_
        refine jj_aload_n hC dX9_refusalOf_93 rfl 0 rfl ?_
        refine jj_iconst hC dX9_refusalOf_94 ?_
        obtain ⟨⟨ha32, hb32⟩, h⟩ := gd_e h
        refine jj_iald hC hs3 ha32 hb32 dX9_refusalOf_95 (fun hr32 => ?_)
        refine jj_aload_n hC dX9_refusalOf_96 rfl 0 rfl ?_
        refine jj_iconst hC dX9_refusalOf_97 ?_
        obtain ⟨⟨ha33, hb33⟩, h⟩ := gd_e h
        refine jj_iald hC hs3 ha33 hb33 dX9_refusalOf_98 (fun hr33 => ?_)
        refine jj_aload_n hC dX9_refusalOf_99 rfl 0 rfl ?_
        refine jj_iconst hC dX9_refusalOf_100 ?_
        obtain ⟨⟨ha34, hb34⟩, h⟩ := gd_e h
        refine jj_iald hC hs3 ha34 hb34 dX9_refusalOf_101 (fun hr34 => ?_)
        obtain ⟨q35, hq35, h⟩ := bd_e h
        refine jj_invV hC mvX8_refusalOfThermal wd1192 wd1193 wd1191 hs31 (by decide) rfl (xX8_refusalOfThermal (OKC.tr hC) hs31 hr32 hr33 hr34 hq35) rfl rfl (c_le rfl) (c_le rfl) (c_le rfl) (c_le rfl) dX9_refusalOf_102 noXk (po_kE (fun hr35 => ?_))
        cases h
        exact jj_aret hC rfl (Or.inl ⟨_, rfl⟩) (c_le rfl) (c_le rfl) dX9_refusalOf_105 ⟨rfl, hr35, rfl, rfl, rfl, rfl, rfl⟩
      · replace h := (if_neg hc9_2).symm.trans h
        by_cases hc9_3 : (M b5 x1) = 3
        · replace h := (if_pos hc9_3).symm.trans h
          refine jj_tblIn (tgt := 106) hC dX9_refusalOf_19 hr6 (by omega) (by omega) (by rw [hc9_3]; rfl) rfl ?_
          refine jj_aload_n hC dX9_refusalOf_106 rfl 1 rfl ?_
          obtain ⟨b25, hb25, hs25, h⟩ := rf_e h
          refine jg_R hC kfX9 0 rfl hs0 (by decide) wd1117 rfl hb25 dX9_refusalOf_107 ?_
          refine jj_aload_n hC dX9_refusalOf_110 rfl 0 rfl ?_
          refine jj_iconst hC dX9_refusalOf_111 ?_
          obtain ⟨⟨ha26, hb26⟩, h⟩ := gd_e h
          refine jj_iald hC hs3 ha26 hb26 dX9_refusalOf_112 (fun hr26 => ?_)
          refine jj_aload_n hC dX9_refusalOf_113 rfl 0 rfl ?_
          refine jj_iconst hC dX9_refusalOf_114 ?_
          obtain ⟨⟨ha27, hb27⟩, h⟩ := gd_e h
          refine jj_iald hC hs3 ha27 hb27 dX9_refusalOf_115 (fun hr27 => ?_)
          refine jj_aload_n hC dX9_refusalOf_116 rfl 0 rfl ?_
          refine jj_iconst hC dX9_refusalOf_117 ?_
          obtain ⟨⟨ha28, hb28⟩, h⟩ := gd_e h
          refine jj_iald hC hs3 ha28 hb28 dX9_refusalOf_118 (fun hr28 => ?_)
          refine jj_aload_n hC dX9_refusalOf_119 rfl 0 rfl ?_
          refine jj_iconst hC dX9_refusalOf_120 ?_
          obtain ⟨⟨ha29, hb29⟩, h⟩ := gd_e h
          refine jj_iald hC hs3 ha29 hb29 dX9_refusalOf_121 (fun hr29 => ?_)
          obtain ⟨q30, hq30, h⟩ := bd_e h
          refine jj_invV hC mvX8_refusalOfArea wd1207 wd1208 wd1206 hs25 (by decide) rfl (xX8_refusalOfArea (OKC.tr hC) hs25 hr26 hr27 hr28 hr29 hq30) rfl rfl (c_le rfl) (c_le rfl) (c_le rfl) (c_le rfl) dX9_refusalOf_122 noXk (po_kE (fun hr30 => ?_))
          cases h
          exact jj_aret hC rfl (Or.inl ⟨_, rfl⟩) (c_le rfl) (c_le rfl) dX9_refusalOf_125 ⟨rfl, hr30, rfl, rfl, rfl, rfl, rfl⟩
        · replace h := (if_neg hc9_3).symm.trans h
          by_cases hc9_4 : (M b5 x1) = 4
          · replace h := (if_pos hc9_4).symm.trans h
            refine jj_tblIn (tgt := 126) hC dX9_refusalOf_19 hr6 (by omega) (by omega) (by rw [hc9_4]; rfl) rfl ?_
            refine jj_aload_n hC dX9_refusalOf_126 rfl 1 rfl ?_
            obtain ⟨b22, hb22, hs22, h⟩ := rf_e h
            refine jg_R hC kfX9 0 rfl hs0 (by decide) wd1117 rfl hb22 dX9_refusalOf_127 ?_
            refine jj_aload_n hC dX9_refusalOf_130 rfl 0 rfl ?_
            refine jj_iconst hC dX9_refusalOf_131 ?_
            obtain ⟨⟨ha23, hb23⟩, h⟩ := gd_e h
            refine jj_iald hC hs3 ha23 hb23 dX9_refusalOf_132 (fun hr23 => ?_)
            obtain ⟨q24, hq24, h⟩ := bd_e h
            refine jj_invV hC mvX8_refusalOfPilot wd564 wd565 wd563 hs22 (by decide) rfl (xX8_refusalOfPilot (OKC.tr hC) hs22 hr23 hq24) rfl rfl (c_le rfl) (c_le rfl) (c_le rfl) (c_le rfl) dX9_refusalOf_133 noXk (po_kE (fun hr24 => ?_))
            cases h
            exact jj_aret hC rfl (Or.inl ⟨_, rfl⟩) (c_le rfl) (c_le rfl) dX9_refusalOf_136 ⟨rfl, hr24, rfl, rfl, rfl, rfl, rfl⟩
          · replace h := (if_neg hc9_4).symm.trans h
            by_cases hc9_5 : (M b5 x1) = 5
            · replace h := (if_pos hc9_5).symm.trans h
              refine jj_tblIn (tgt := 137) hC dX9_refusalOf_19 hr6 (by omega) (by omega) (by rw [hc9_5]; rfl) rfl ?_
              refine jj_aload_n hC dX9_refusalOf_137 rfl 1 rfl ?_
              obtain ⟨b19, hb19, hs19, h⟩ := rf_e h
              refine jg_R hC kfX9 0 rfl hs0 (by decide) wd1117 rfl hb19 dX9_refusalOf_138 ?_
              refine jj_aload_n hC dX9_refusalOf_141 rfl 0 rfl ?_
              refine jj_iconst hC dX9_refusalOf_142 ?_
              obtain ⟨⟨ha20, hb20⟩, h⟩ := gd_e h
              refine jj_iald hC hs3 ha20 hb20 dX9_refusalOf_143 (fun hr20 => ?_)
              obtain ⟨q21, hq21, h⟩ := bd_e h
              refine jj_invV hC mvX8_refusalOfLaunch wd642 wd643 wd641 hs19 (by decide) rfl (xX8_refusalOfLaunch (OKC.tr hC) hs19 hr20 hq21) rfl rfl (c_le rfl) (c_le rfl) (c_le rfl) (c_le rfl) dX9_refusalOf_144 noXk (po_kE (fun hr21 => ?_))
              cases h
              exact jj_aret hC rfl (Or.inl ⟨_, rfl⟩) (c_le rfl) (c_le rfl) dX9_refusalOf_147 ⟨rfl, hr21, rfl, rfl, rfl, rfl, rfl⟩
            · replace h := (if_neg hc9_5).symm.trans h
              by_cases hc9_6 : (M b5 x1) = 6
              · replace h := (if_pos hc9_6).symm.trans h
                refine jj_tblIn (tgt := 148) hC dX9_refusalOf_19 hr6 (by omega) (by omega) (by rw [hc9_6]; rfl) rfl ?_
                refine jj_aload_n hC dX9_refusalOf_148 rfl 1 rfl ?_
                obtain ⟨b14, hb14, hs14, h⟩ := rf_e h
                refine jg_R hC kfX9 0 rfl hs0 (by decide) wd1117 rfl hb14 dX9_refusalOf_149 ?_
                refine jj_aload_n hC dX9_refusalOf_152 rfl 0 rfl ?_
                refine jj_iconst hC dX9_refusalOf_153 ?_
                obtain ⟨⟨ha15, hb15⟩, h⟩ := gd_e h
                refine jj_iald hC hs3 ha15 hb15 dX9_refusalOf_154 (fun hr15 => ?_)
                refine jj_aload_n hC dX9_refusalOf_155 rfl 0 rfl ?_
                refine jj_iconst hC dX9_refusalOf_156 ?_
                obtain ⟨⟨ha16, hb16⟩, h⟩ := gd_e h
                refine jj_iald hC hs3 ha16 hb16 dX9_refusalOf_157 (fun hr16 => ?_)
                refine jj_aload_n hC dX9_refusalOf_158 rfl 0 rfl ?_
                refine jj_iconst hC dX9_refusalOf_159 ?_
                obtain ⟨⟨ha17, hb17⟩, h⟩ := gd_e h
                refine jj_iald hC hs3 ha17 hb17 dX9_refusalOf_160 (fun hr17 => ?_)
                obtain ⟨q18, hq18, h⟩ := bd_e h
                refine jj_invV hC mvX8_refusalOfFlight wd679 wd680 wd678 hs14 (by decide) rfl (xX8_refusalOfFlight (OKC.tr hC) hs14 hr15 hr16 hr17 hq18) rfl rfl (c_le rfl) (c_le rfl) (c_le rfl) (c_le rfl) dX9_refusalOf_161 noXk (po_kE (fun hr18 => ?_))
                cases h
                exact jj_aret hC rfl (Or.inl ⟨_, rfl⟩) (c_le rfl) (c_le rfl) dX9_refusalOf_164 ⟨rfl, hr18, rfl, rfl, rfl, rfl, rfl⟩
              · replace h := (if_neg hc9_6).symm.trans h
                by_cases hc9_7 : (M b5 x1) = 7
                · replace h := (if_pos hc9_7).symm.trans h
                  refine jj_tblIn (tgt := 165) hC dX9_refusalOf_19 hr6 (by omega) (by omega) (by rw [hc9_7]; rfl) rfl ?_
                  refine jj_aload_n hC dX9_refusalOf_165 rfl 1 rfl ?_
                  obtain ⟨b10, hb10, hs10, h⟩ := rf_e h
                  refine jg_R hC kfX9 0 rfl hs0 (by decide) wd1117 rfl hb10 dX9_refusalOf_166 ?_
                  refine jj_aload_n hC dX9_refusalOf_169 rfl 0 rfl ?_
                  refine jj_iconst hC dX9_refusalOf_170 ?_
                  obtain ⟨⟨ha11, hb11⟩, h⟩ := gd_e h
                  refine jj_iald hC hs3 ha11 hb11 dX9_refusalOf_171 (fun hr11 => ?_)
                  refine jj_aload_n hC dX9_refusalOf_172 rfl 0 rfl ?_
                  refine jj_iconst hC dX9_refusalOf_173 ?_
                  obtain ⟨⟨ha12, hb12⟩, h⟩ := gd_e h
                  refine jj_iald hC hs3 ha12 hb12 dX9_refusalOf_174 (fun hr12 => ?_)
                  obtain ⟨q13, hq13, h⟩ := bd_e h
                  refine jj_invV hC mvX8_refusalOfClimb wd1252 wd1253 wd1251 hs10 (by decide) rfl (xX8_refusalOfClimb (OKC.tr hC) hs10 hr11 hr12 hq13) rfl rfl (c_le rfl) (c_le rfl) (c_le rfl) (c_le rfl) dX9_refusalOf_175 noXk (po_kE (fun hr13 => ?_))
                  cases h
                  exact jj_aret hC rfl (Or.inl ⟨_, rfl⟩) (c_le rfl) (c_le rfl) dX9_refusalOf_178 ⟨rfl, hr13, rfl, rfl, rfl, rfl, rfl⟩
                · replace h := (if_neg hc9_7).symm.trans h
                  refine jj_tblOut (tgt := 179) hC dX9_refusalOf_19 hr6 (by omega) rfl ?_
                  refine jj_aload_n hC dX9_refusalOf_179 rfl 1 rfl ?_
                  obtain ⟨b7, hb7, hs7, h⟩ := rf_e h
                  refine jg_R hC kfX9 0 rfl hs0 (by decide) wd1117 rfl hb7 dX9_refusalOf_180 ?_
                  obtain ⟨q8, hq8, h⟩ := bd_e h
                  refine jj_invV hC mvX8_refusalOfEnd wd742 wd743 wd741 hs7 (by decide) rfl (xX8_refusalOfEnd (OKC.tr hC) hs7 hq8) rfl rfl (c_le rfl) (c_le rfl) (c_le rfl) (c_le rfl) dX9_refusalOf_183 noXk (po_kE (fun hr8 => ?_))
                  cases h
                  exact jj_aret hC rfl (Or.inl ⟨_, rfl⟩) (c_le rfl) (c_le rfl) dX9_refusalOf_186 ⟨rfl, hr8, rfl, rfl, rfl, rfl, rfl⟩
def fX9_carryOut (ad S Ln : Nat → Nat) (R : gR) (M : gM) (a0 : Nat) (x1 : Int) : Option gM :=
  rf S (R a0 4) 10 fun b1 => rf S (R b1 3) 25 fun b2 => gd ((0 : Int) ≤ x1 ∧ x1 < (Ln b2 : Int)) (rf S (R b2 x1) 20 fun b3 => rf S (R a0 4) 10 fun b4 => rf S (R b4 2) 20 fun b5 => gd ((0 : Int) ≤ x1 ∧ x1 < (Ln b5 : Int)) (if (M b5 x1) = 0 then (rf S (R a0 0) 11 fun b42 => rf S (R b42 0) 7 fun b43 => gd ((0 : Int) ≤ 0 ∧ 0 < (Ln b3 : Int)) (gd ((0 : Int) ≤ 1 ∧ 1 < (Ln b3 : Int)) (bd (fX2_putPoint ad S Ln R M b43 (M b3 0) (M b3 1)) fun q46 => some (q46.2)))) else (if (M b5 x1) = 1 then (rf S (R a0 0) 11 fun b38 => rf S (R b38 0) 7 fun b39 => gd ((0 : Int) ≤ 0 ∧ 0 < (Ln b3 : Int)) (bd (fX2_putStop ad S Ln R M b39 (M b3 0)) fun q41 => some (q41.2))) else (if (M b5 x1) = 2 then (rf S (R a0 0) 11 fun b32 => rf S (R b32 1) 5 fun b33 => gd ((0 : Int) ≤ 0 ∧ 0 < (Ln b3 : Int)) (gd ((0 : Int) ≤ 1 ∧ 1 < (Ln b3 : Int)) (gd ((0 : Int) ≤ 2 ∧ 2 < (Ln b3 : Int)) (bd (fX0_putThermal ad S Ln R M b33 (M b3 0) (M b3 1) (M b3 2)) fun q37 => some (q37.2))))) else (if (M b5 x1) = 3 then (rf S (R a0 0) 11 fun b25 => rf S (R b25 2) 6 fun b26 => gd ((0 : Int) ≤ 0 ∧ 0 < (Ln b3 : Int)) (gd ((0 : Int) ≤ 1 ∧ 1 < (Ln b3 : Int)) (gd ((0 : Int) ≤ 2 ∧ 2 < (Ln b3 : Int)) (gd ((0 : Int) ≤ 3 ∧ 3 < (Ln b3 : Int)) (bd (fX1_putArea ad S Ln R M b26 (M b3 0) (M b3 1) (M b3 2) (M b3 3)) fun q31 => some (q31.2)))))) else (if (M b5 x1) = 4 then (rf S (R a0 0) 11 fun b22 => gd ((0 : Int) ≤ 0 ∧ 0 < (Ln b3 : Int)) (bd (fX8_putPilot ad S Ln R M b22 (M b3 0)) fun q24 => some (q24.2))) else (if (M b5 x1) = 5 then (rf S (R a0 0) 11 fun b19 => gd ((0 : Int) ≤ 0 ∧ 0 < (Ln b3 : Int)) (bd (fX8_start ad S Ln R M b19 (M b3 0)) fun q21 => some (q21.2))) else (if (M b5 x1) = 6 then (rf S (R a0 0) 11 fun b14 => gd ((0 : Int) ≤ 0 ∧ 0 < (Ln b3 : Int)) (gd ((0 : Int) ≤ 1 ∧ 1 < (Ln b3 : Int)) (gd ((0 : Int) ≤ 2 ∧ 2 < (Ln b3 : Int)) (bd (fX8_glide ad S Ln R M b14 (M b3 0) (M b3 1) (M b3 2)) fun q18 => some (q18.2))))) else (if (M b5 x1) = 7 then (rf S (R a0 0) 11 fun b10 => gd ((0 : Int) ≤ 0 ∧ 0 < (Ln b3 : Int)) (gd ((0 : Int) ≤ 1 ∧ 1 < (Ln b3 : Int)) (bd (fX8_soar ad S Ln R M b10 (M b3 0) (M b3 1)) fun q13 => some (q13.2)))) else (rf S (R a0 0) 11 fun b7 => bd (fX8_closeDay ad S Ln R M b7) fun q8 => some (q8.2)))))))))))
theorem xX9_carryOut {l : Launch} {G : gE} {sz : Nat} {S Ln : Nat → Nat} {M : gM} {R : gR} (hl : l.stackTraces = false) {a0 : Nat} (hs0 : S a0 = 12) {x1 : Int} (hp1 : (-2147483648 ≤ x1 ∧ x1 < 2147483648)) {r : gM} (h : fX9_carryOut G.2.2.2.2 S Ln R M a0 x1 = some r) : Ct l G yX9_carryOut cX9_carryOut 3 none 6 0 0 [.ref a0, .int (iI x1)] sz S Ln M R (poV sz S Ln (r) R) noX := by
  refine jj_start (own := RX9) (lv0 := [(0, .ref a0), (1, .int (iI x1))]) hl (by decide +kernel) rfl rfl (c_le rfl) (fun C hCl hC => ?_)
  unfold fX9_carryOut at h
  refine jj_aload_n hC dX9_carryOut_0 rfl 0 rfl ?_
  obtain ⟨b1, hb1, hs1, h⟩ := rf_e h
  refine jg_R hC kfX9 4 rfl hs0 (by decide) wd1121 rfl hb1 dX9_carryOut_1 ?_
  obtain ⟨b2, hb2, hs2, h⟩ := rf_e h
  refine jg_R hC kfX7 3 rfl hs1 (by decide) wd1097 rfl hb2 dX9_carryOut_4 ?_
  refine jj_iload_n hC dX9_carryOut_7 rfl 1 rfl ?_
  obtain ⟨⟨ha3, hb3⟩, h⟩ := gd_e h
  obtain ⟨b3, hd3, hs3, h⟩ := rf_e h
  refine jj_aald hC hs2 (by decide) ha3 hb3 hd3 dX9_carryOut_8 ?_
  refine jj_astore_n (lv' := [(2, .ref b3), (0, .ref a0), (1, .int (iI x1))]) hC dX9_carryOut_9 rfl (by decide) rfl ?_
  refine jj_aload_n hC dX9_carryOut_10 rfl 1 rfl ?_
  obtain ⟨b4, hb4, hs4, h⟩ := rf_e h
  refine jg_R hC kfX9 4 rfl hs0 (by decide) wd1121 rfl hb4 dX9_carryOut_11 ?_
  obtain ⟨b5, hb5, hs5, h⟩ := rf_e h
  refine jg_R hC kfX7 2 rfl hs4 (by decide) wd1095 rfl hb5 dX9_carryOut_14 ?_
  refine jj_iload_n hC dX9_carryOut_17 rfl 2 rfl ?_
  obtain ⟨⟨ha6, hb6⟩, h⟩ := gd_e h
  refine jj_iald hC hs5 ha6 hb6 dX9_carryOut_18 (fun hr6 => ?_)
  by_cases hc9_0 : (M b5 x1) = 0
  · replace h := (if_pos hc9_0).symm.trans h
    refine jj_tblIn (tgt := 64) hC dX9_carryOut_19 hr6 (by omega) (by omega) (by rw [hc9_0]; rfl) rfl ?_
    refine jj_aload_n hC dX9_carryOut_64 rfl 1 rfl ?_
    obtain ⟨b42, hb42, hs42, h⟩ := rf_e h
    refine jg_R hC kfX9 0 rfl hs0 (by decide) wd1117 rfl hb42 dX9_carryOut_65 ?_
    obtain ⟨b43, hb43, hs43, h⟩ := rf_e h
    refine jg_R hC kfX8 0 rfl hs42 (by decide) wd1037 rfl hb43 dX9_carryOut_68 ?_
    refine jj_aload_n hC dX9_carryOut_71 rfl 0 rfl ?_
    refine jj_iconst hC dX9_carryOut_72 ?_
    obtain ⟨⟨ha44, hb44⟩, h⟩ := gd_e h
    refine jj_iald hC hs3 ha44 hb44 dX9_carryOut_73 (fun hr44 => ?_)
    refine jj_aload_n hC dX9_carryOut_74 rfl 0 rfl ?_
    refine jj_iconst hC dX9_carryOut_75 ?_
    obtain ⟨⟨ha45, hb45⟩, h⟩ := gd_e h
    refine jj_iald hC hs3 ha45 hb45 dX9_carryOut_76 (fun hr45 => ?_)
    obtain ⟨q46, hq46, h⟩ := bd_e h
    refine jj_invV hC mvX2_putPoint wd1157 wd1158 wd1156 hs43 (by decide) rfl (xX2_putPoint (OKC.tr hC) hs43 hr44 hr45 hq46) rfl rfl (c_le rfl) (c_le rfl) (c_le rfl) (c_le rfl) dX9_carryOut_77 noXk (po_kI (fun hr46 => ?_))
    refine jj_pop hC dX9_carryOut_80 rfl ?_
    refine jj_goto (tgt := 223) hC dX9_carryOut_81 rfl ?_
    cases h
    exact jj_vret hC (c_le rfl) (c_le rfl) dX9_carryOut_223 ⟨rfl, trivial, rfl, rfl, rfl, rfl, rfl⟩
  · replace h := (if_neg hc9_0).symm.trans h
    by_cases hc9_1 : (M b5 x1) = 1
    · replace h := (if_pos hc9_1).symm.trans h
      refine jj_tblIn (tgt := 84) hC dX9_carryOut_19 hr6 (by omega) (by omega) (by rw [hc9_1]; rfl) rfl ?_
      refine jj_aload_n hC dX9_carryOut_84 rfl 1 rfl ?_
      obtain ⟨b38, hb38, hs38, h⟩ := rf_e h
      refine jg_R hC kfX9 0 rfl hs0 (by decide) wd1117 rfl hb38 dX9_carryOut_85 ?_
      obtain ⟨b39, hb39, hs39, h⟩ := rf_e h
      refine jg_R hC kfX8 0 rfl hs38 (by decide) wd1037 rfl hb39 dX9_carryOut_88 ?_
      refine jj_aload_n hC dX9_carryOut_91 rfl 0 rfl ?_
      refine jj_iconst hC dX9_carryOut_92 ?_
      obtain ⟨⟨ha40, hb40⟩, h⟩ := gd_e h
      refine jj_iald hC hs3 ha40 hb40 dX9_carryOut_93 (fun hr40 => ?_)
      obtain ⟨q41, hq41, h⟩ := bd_e h
      refine jj_invV hC mvX2_putStop wd1181 wd1182 wd1180 hs39 (by decide) rfl (xX2_putStop (OKC.tr hC) hs39 hr40 hq41) rfl rfl (c_le rfl) (c_le rfl) (c_le rfl) (c_le rfl) dX9_carryOut_94 noXk (po_kI (fun hr41 => ?_))
      refine jj_pop hC dX9_carryOut_97 rfl ?_
      refine jj_goto (tgt := 223) hC dX9_carryOut_98 rfl ?_
      cases h
      exact jj_vret hC (c_le rfl) (c_le rfl) dX9_carryOut_223 ⟨rfl, trivial, rfl, rfl, rfl, rfl, rfl⟩
    · replace h := (if_neg hc9_1).symm.trans h
      by_cases hc9_2 : (M b5 x1) = 2
      · replace h := (if_pos hc9_2).symm.trans h
        refine jj_tblIn (tgt := 101) hC dX9_carryOut_19 hr6 (by omega) (by omega) (by rw [hc9_2]; rfl) rfl ?_
        refine jj_aload_n hC dX9_carryOut_101 rfl 1 rfl ?_
        obtain ⟨b32, hb32, hs32, h⟩ := rf_e h
        refine jg_R hC kfX9 0 rfl hs0 (by decide) wd1117 rfl hb32 dX9_carryOut_102 ?_
        obtain ⟨b33, hb33, hs33, h⟩ := rf_e h
        refine jg_R hC kfX8 1 rfl hs32 (by decide) wd1039 rfl hb33 dX9_carryOut_105 ?_
        refine jj_aload_n hC dX9_carryOut_108 rfl 0 rfl ?_
        refine jj_iconst hC dX9_carryOut_109 ?_
        obtain ⟨⟨ha34, hb34⟩, h⟩ := gd_e h
        refine jj_iald hC hs3 ha34 hb34 dX9_carryOut_110 (fun hr34 => ?_)
        refine jj_aload_n hC dX9_carryOut_111 rfl 0 rfl ?_
        refine jj_iconst hC dX9_carryOut_112 ?_
        obtain ⟨⟨ha35, hb35⟩, h⟩ := gd_e h
        refine jj_iald hC hs3 ha35 hb35 dX9_carryOut_113 (fun hr35 => ?_)
        refine jj_aload_n hC dX9_carryOut_114 rfl 0 rfl ?_
        refine jj_iconst hC dX9_carryOut_115 ?_
        obtain ⟨⟨ha36, hb36⟩, h⟩ := gd_e h
        refine jj_iald hC hs3 ha36 hb36 dX9_carryOut_116 (fun hr36 => ?_)
        obtain ⟨q37, hq37, h⟩ := bd_e h
        refine jj_invV hC mvX0_putThermal wd1196 wd1197 wd1195 hs33 (by decide) rfl (xX0_putThermal (OKC.tr hC) hs33 hr34 hr35 hr36 hq37) rfl rfl (c_le rfl) (c_le rfl) (c_le rfl) (c_le rfl) dX9_carryOut_117 noXk (po_kI (fun hr37 => ?_))
        refine jj_pop hC dX9_carryOut_120 rfl ?_
        refine jj_goto (tgt := 223) hC dX9_carryOut_121 rfl ?_
        cases h
        exact jj_vret hC (c_le rfl) (c_le rfl) dX9_carryOut_223 ⟨rfl, trivial, rfl, rfl, rfl, rfl, rfl⟩
      · replace h := (if_neg hc9_2).symm.trans h
        by_cases hc9_3 : (M b5 x1) = 3
        · replace h := (if_pos hc9_3).symm.trans h
          refine jj_tblIn (tgt := 124) hC dX9_carryOut_19 hr6 (by omega) (by omega) (by rw [hc9_3]; rfl) rfl ?_
          refine jj_aload_n hC dX9_carryOut_124 rfl 1 rfl ?_
          obtain ⟨b25, hb25, hs25, h⟩ := rf_e h
          refine jg_R hC kfX9 0 rfl hs0 (by decide) wd1117 rfl hb25 dX9_carryOut_125 ?_
          obtain ⟨b26, hb26, hs26, h⟩ := rf_e h
          refine jg_R hC kfX8 2 rfl hs25 (by decide) wd1041 rfl hb26 dX9_carryOut_128 ?_
          refine jj_aload_n hC dX9_carryOut_131 rfl 0 rfl ?_
          refine jj_iconst hC dX9_carryOut_132 ?_
          obtain ⟨⟨ha27, hb27⟩, h⟩ := gd_e h
          refine jj_iald hC hs3 ha27 hb27 dX9_carryOut_133 (fun hr27 => ?_)
          refine jj_aload_n hC dX9_carryOut_134 rfl 0 rfl ?_
          refine jj_iconst hC dX9_carryOut_135 ?_
          obtain ⟨⟨ha28, hb28⟩, h⟩ := gd_e h
          refine jj_iald hC hs3 ha28 hb28 dX9_carryOut_136 (fun hr28 => ?_)
          refine jj_aload_n hC dX9_carryOut_137 rfl 0 rfl ?_
          refine jj_iconst hC dX9_carryOut_138 ?_
          obtain ⟨⟨ha29, hb29⟩, h⟩ := gd_e h
          refine jj_iald hC hs3 ha29 hb29 dX9_carryOut_139 (fun hr29 => ?_)
          refine jj_aload_n hC dX9_carryOut_140 rfl 0 rfl ?_
          refine jj_iconst hC dX9_carryOut_141 ?_
          obtain ⟨⟨ha30, hb30⟩, h⟩ := gd_e h
          refine jj_iald hC hs3 ha30 hb30 dX9_carryOut_142 (fun hr30 => ?_)
          obtain ⟨q31, hq31, h⟩ := bd_e h
          refine jj_invV hC mvX1_putArea wd1211 wd1212 wd1210 hs26 (by decide) rfl (xX1_putArea (OKC.tr hC) hs26 hr27 hr28 hr29 hr30 hq31) rfl rfl (c_le rfl) (c_le rfl) (c_le rfl) (c_le rfl) dX9_carryOut_143 noXk (po_kI (fun hr31 => ?_))
          refine jj_pop hC dX9_carryOut_146 rfl ?_
          refine jj_goto (tgt := 223) hC dX9_carryOut_147 rfl ?_
          cases h
          exact jj_vret hC (c_le rfl) (c_le rfl) dX9_carryOut_223 ⟨rfl, trivial, rfl, rfl, rfl, rfl, rfl⟩
        · replace h := (if_neg hc9_3).symm.trans h
          by_cases hc9_4 : (M b5 x1) = 4
          · replace h := (if_pos hc9_4).symm.trans h
            refine jj_tblIn (tgt := 150) hC dX9_carryOut_19 hr6 (by omega) (by omega) (by rw [hc9_4]; rfl) rfl ?_
            refine jj_aload_n hC dX9_carryOut_150 rfl 1 rfl ?_
            obtain ⟨b22, hb22, hs22, h⟩ := rf_e h
            refine jg_R hC kfX9 0 rfl hs0 (by decide) wd1117 rfl hb22 dX9_carryOut_151 ?_
            refine jj_aload_n hC dX9_carryOut_154 rfl 0 rfl ?_
            refine jj_iconst hC dX9_carryOut_155 ?_
            obtain ⟨⟨ha23, hb23⟩, h⟩ := gd_e h
            refine jj_iald hC hs3 ha23 hb23 dX9_carryOut_156 (fun hr23 => ?_)
            obtain ⟨q24, hq24, h⟩ := bd_e h
            refine jj_invV hC mvX8_putPilot wd617 wd618 wd616 hs22 (by decide) rfl (xX8_putPilot (OKC.tr hC) hs22 hr23 hq24) rfl rfl (c_le rfl) (c_le rfl) (c_le rfl) (c_le rfl) dX9_carryOut_157 noXk (po_kI (fun hr24 => ?_))
            refine jj_pop hC dX9_carryOut_160 rfl ?_
            refine jj_goto (tgt := 223) hC dX9_carryOut_161 rfl ?_
            cases h
            exact jj_vret hC (c_le rfl) (c_le rfl) dX9_carryOut_223 ⟨rfl, trivial, rfl, rfl, rfl, rfl, rfl⟩
          · replace h := (if_neg hc9_4).symm.trans h
            by_cases hc9_5 : (M b5 x1) = 5
            · replace h := (if_pos hc9_5).symm.trans h
              refine jj_tblIn (tgt := 164) hC dX9_carryOut_19 hr6 (by omega) (by omega) (by rw [hc9_5]; rfl) rfl ?_
              refine jj_aload_n hC dX9_carryOut_164 rfl 1 rfl ?_
              obtain ⟨b19, hb19, hs19, h⟩ := rf_e h
              refine jg_R hC kfX9 0 rfl hs0 (by decide) wd1117 rfl hb19 dX9_carryOut_165 ?_
              refine jj_aload_n hC dX9_carryOut_168 rfl 0 rfl ?_
              refine jj_iconst hC dX9_carryOut_169 ?_
              obtain ⟨⟨ha20, hb20⟩, h⟩ := gd_e h
              refine jj_iald hC hs3 ha20 hb20 dX9_carryOut_170 (fun hr20 => ?_)
              obtain ⟨q21, hq21, h⟩ := bd_e h
              refine jj_invV hC mvX8_start wd650 wd651 wd649 hs19 (by decide) rfl (xX8_start (OKC.tr hC) hs19 hr20 hq21) rfl rfl (c_le rfl) (c_le rfl) (c_le rfl) (c_le rfl) dX9_carryOut_171 noXk (po_kI (fun hr21 => ?_))
              refine jj_pop hC dX9_carryOut_174 rfl ?_
              refine jj_goto (tgt := 223) hC dX9_carryOut_175 rfl ?_
              cases h
              exact jj_vret hC (c_le rfl) (c_le rfl) dX9_carryOut_223 ⟨rfl, trivial, rfl, rfl, rfl, rfl, rfl⟩
            · replace h := (if_neg hc9_5).symm.trans h
              by_cases hc9_6 : (M b5 x1) = 6
              · replace h := (if_pos hc9_6).symm.trans h
                refine jj_tblIn (tgt := 178) hC dX9_carryOut_19 hr6 (by omega) (by omega) (by rw [hc9_6]; rfl) rfl ?_
                refine jj_aload_n hC dX9_carryOut_178 rfl 1 rfl ?_
                obtain ⟨b14, hb14, hs14, h⟩ := rf_e h
                refine jg_R hC kfX9 0 rfl hs0 (by decide) wd1117 rfl hb14 dX9_carryOut_179 ?_
                refine jj_aload_n hC dX9_carryOut_182 rfl 0 rfl ?_
                refine jj_iconst hC dX9_carryOut_183 ?_
                obtain ⟨⟨ha15, hb15⟩, h⟩ := gd_e h
                refine jj_iald hC hs3 ha15 hb15 dX9_carryOut_184 (fun hr15 => ?_)
                refine jj_aload_n hC dX9_carryOut_185 rfl 0 rfl ?_
                refine jj_iconst hC dX9_carryOut_186 ?_
                obtain ⟨⟨ha16, hb16⟩, h⟩ := gd_e h
                refine jj_iald hC hs3 ha16 hb16 dX9_carryOut_187 (fun hr16 => ?_)
                refine jj_aload_n hC dX9_carryOut_188 rfl 0 rfl ?_
                refine jj_iconst hC dX9_carryOut_189 ?_
                obtain ⟨⟨ha17, hb17⟩, h⟩ := gd_e h
                refine jj_iald hC hs3 ha17 hb17 dX9_carryOut_190 (fun hr17 => ?_)
                obtain ⟨q18, hq18, h⟩ := bd_e h
                refine jj_invV hC mvX8_glide wd692 wd693 wd691 hs14 (by decide) rfl (xX8_glide (OKC.tr hC) hs14 hr15 hr16 hr17 hq18) rfl rfl (c_le rfl) (c_le rfl) (c_le rfl) (c_le rfl) dX9_carryOut_191 noXk (po_kI (fun hr18 => ?_))
                refine jj_pop hC dX9_carryOut_194 rfl ?_
                refine jj_goto (tgt := 223) hC dX9_carryOut_195 rfl ?_
                cases h
                exact jj_vret hC (c_le rfl) (c_le rfl) dX9_carryOut_223 ⟨rfl, trivial, rfl, rfl, rfl, rfl, rfl⟩
              · replace h := (if_neg hc9_6).symm.trans h
                by_cases hc9_7 : (M b5 x1) = 7
                · replace h := (if_pos hc9_7).symm.trans h
                  refine jj_tblIn (tgt := 198) hC dX9_carryOut_19 hr6 (by omega) (by omega) (by rw [hc9_7]; rfl) rfl ?_
                  refine jj_aload_n hC dX9_carryOut_198 rfl 1 rfl ?_
                  obtain ⟨b10, hb10, hs10, h⟩ := rf_e h
                  refine jg_R hC kfX9 0 rfl hs0 (by decide) wd1117 rfl hb10 dX9_carryOut_199 ?_
                  refine jj_aload_n hC dX9_carryOut_202 rfl 0 rfl ?_
                  refine jj_iconst hC dX9_carryOut_203 ?_
                  obtain ⟨⟨ha11, hb11⟩, h⟩ := gd_e h
                  refine jj_iald hC hs3 ha11 hb11 dX9_carryOut_204 (fun hr11 => ?_)
                  refine jj_aload_n hC dX9_carryOut_205 rfl 0 rfl ?_
                  refine jj_iconst hC dX9_carryOut_206 ?_
                  obtain ⟨⟨ha12, hb12⟩, h⟩ := gd_e h
                  refine jj_iald hC hs3 ha12 hb12 dX9_carryOut_207 (fun hr12 => ?_)
                  obtain ⟨q13, hq13, h⟩ := bd_e h
                  refine jj_invV hC mvX8_soar wd1257 wd1258 wd1256 hs10 (by decide) rfl (xX8_soar (OKC.tr hC) hs10 hr11 hr12 hq13) rfl rfl (c_le rfl) (c_le rfl) (c_le rfl) (c_le rfl) dX9_carryOut_208 noXk (po_kI (fun hr13 => ?_))
                  refine jj_pop hC dX9_carryOut_211 rfl ?_
                  refine jj_goto (tgt := 223) hC dX9_carryOut_212 rfl ?_
                  cases h
                  exact jj_vret hC (c_le rfl) (c_le rfl) dX9_carryOut_223 ⟨rfl, trivial, rfl, rfl, rfl, rfl, rfl⟩
                · replace h := (if_neg hc9_7).symm.trans h
                  refine jj_tblOut (tgt := 215) hC dX9_carryOut_19 hr6 (by omega) rfl ?_
                  refine jj_aload_n hC dX9_carryOut_215 rfl 1 rfl ?_
                  obtain ⟨b7, hb7, hs7, h⟩ := rf_e h
                  refine jg_R hC kfX9 0 rfl hs0 (by decide) wd1117 rfl hb7 dX9_carryOut_216 ?_
                  obtain ⟨q8, hq8, h⟩ := bd_e h
                  refine jj_invV hC mvX8_closeDay wd750 wd751 wd749 hs7 (by decide) rfl (xX8_closeDay (OKC.tr hC) hs7 hq8) rfl rfl (c_le rfl) (c_le rfl) (c_le rfl) (c_le rfl) dX9_carryOut_219 noXk (po_kI (fun hr8 => ?_))
                  refine jj_pop hC dX9_carryOut_222 rfl ?_
                  cases h
                  exact jj_vret hC (c_le rfl) (c_le rfl) dX9_carryOut_223 ⟨rfl, trivial, rfl, rfl, rfl, rfl, rfl⟩
def fX9_run_L50 (ad S Ln : Nat → Nat) (R50 : gR) (l0_50 : Nat) (s50 : Int × gM) : Option ((Int × gM) ⊕ ((gM) ⊕ ((Int × gM × gR) ⊕ (String × gM × gR)))) :=
  rf S (R50 l0_50 4) 10 fun b8 => if (s50.2 b8 4) ≤ s50.1 then (some (.inr (.inl s50.2))) else (bd (fX9_refusalOf ad S Ln R50 s50.2 l0_50 s50.1) fun q10 => if q10 = 4 then (bd (fX9_carryOut ad S Ln R50 s50.2 l0_50 s50.1) fun q11 => some (.inl (w32 (s50.1 + 1), q11))) else (rf S (R50 l0_50 0) 11 fun b12 => rf S (R50 l0_50 2) 11 fun b13 => bd (fX8_copyFrom ad S Ln R50 s50.2 b12 b13) fun q14 => nam (wr q14 l0_50 8 s50.1) fun M15 => some (.inr (.inr (Sum.inr ("java/lang/UnsupportedOperationException", M15, R50))))))
def fX9_run (ad S Ln : Nat → Nat) (R : gR) (M : gM) (a0 : Nat) : Option ((Int × gM × gR) ⊕ (String × gM × gR)) :=
  rf S (R a0 4) 10 fun b1 => bd (fX7_findError ad S Ln R M b1) fun q2 => rf S (R a0 4) 10 fun b3 => nam (wr q2.2 b3 1 0) fun M4 => if q2.1 = (-1) then (rf S (R a0 2) 11 fun b5 => rf S (R a0 0) 11 fun b6 => bd (fX8_copyFrom ad S Ln R M4 b5 b6) fun q7 => bd (lp (fX9_run_L50 ad S Ln R a0) FU (0, q7)) fun q22 => Sum.elim (fun e50_16 => rf S (R a0 3) 9 fun b17 => rf S (R a0 2) 11 fun b18 => bd (fX4_keep ad S Ln R e50_16 b17 b18) fun q19 => rf S (q19.2 a0 4) 10 fun b20 => some (Sum.inl (q19.1 b20 4, q19.1, q19.2))) (fun c22 => some c22) q22) else (nam (wr M4 a0 7 q2.1) fun M23 => some (Sum.inr ("java/lang/IllegalArgumentException", M23, R)))
theorem xX9_run {l : Launch} {G : gE} {sz : Nat} {S Ln : Nat → Nat} {M : gM} {R : gR} (hl : l.stackTraces = false) {a0 : Nat} (hs0 : S a0 = 12) {r : (Int × gM × gR) ⊕ (String × gM × gR)} (h : fX9_run G.2.2.2.2 S Ln R M a0 = some r) : Ct l G yX9_run cX9_run 3 (some .int) 17 1 6 [.ref a0] sz S Ln M R (poS r (fun a => poI a.1 sz S Ln (a.2.1) (a.2.2))) (xoS r (fun e => xo e.1 S Ln e.2.1 e.2.2)) := by
  refine jj_start (own := RX9) (lv0 := [(0, .ref a0)]) hl (by decide +kernel) rfl rfl (c_le rfl) (fun C hCl hC => ?_)
  have hL50 : ∀ (R50 : gR) (l0_50 : Nat), S l0_50 = 12 → ∀ (n : Nat) (s50 : Int × gM) (q : (gM) ⊕ ((Int × gM × gR) ⊕ (String × gM × gR))), lp (fX9_run_L50 G.2.2.2.2 S Ln R50 l0_50) n s50 = some q → (-2147483648 ≤ s50.1 ∧ s50.1 < 2147483648) → (∀ e50, q = .inl e50 → True → JJ G C 0 0 sz S Ln e50 R50 110 [(0, .ref l0_50)] []) → (∀ c, q = .inr c → c = r) → JJ G C 0 0 sz S Ln s50.2 R50 50 [(0, .ref l0_50), (2, .int (iI s50.1))] [] := by
    intro R50 l0_50 hl0_50
    refine lp_ind ?_
    intro s50 r50 hI50 h hJ50 hE50 hR50
    have hs50_0 := hI50
    unfold fX9_run_L50 at h
    refine jj_iload_n hC dX9_run_50 rfl 1 rfl ?_
    refine jj_aload_n hC dX9_run_51 rfl 0 rfl ?_
    obtain ⟨b8, hb8, hs8, h⟩ := rf_e h
    refine jg_R hC kfX9 4 rfl hl0_50 (by decide) wd1121 rfl hb8 dX9_run_52 ?_
    refine jg_I hC kfX7 4 rfl hs8 (by decide) wd1099 rfl dX9_run_55 (fun hr9 => ?_)
    refine jj_icmp_ge (tgt := 110) hC dX9_run_58 rfl hs50_0 hr9 (fun hc => ?_) (fun hc => ?_)
    · replace h := (if_pos hc).symm.trans h
      refine jj_lv (lv' := [(0, .ref l0_50)]) [0] rfl ?_
      exact hE50 _ (Option.some.inj h).symm trivial
    · replace h := (if_neg (Int.not_le.mpr hc)).symm.trans h
      refine jj_aload_n hC dX9_run_61 rfl 0 rfl ?_
      refine jj_iload_n hC dX9_run_62 rfl 1 rfl ?_
      obtain ⟨q10, hq10, h⟩ := bd_e h
      refine jj_invV hC mvX9_refusalOf wd1377 wd17 wd1375 hl0_50 (by decide) rfl (xX9_refusalOf (OKC.tr hC) hl0_50 hs50_0 hq10) rfl rfl (c_le rfl) (c_le rfl) (c_le rfl) (c_le rfl) dX9_run_63 noXk (po_kE (fun hr10 => ?_))
      refine jg_s (j := 4) hC 4 rfl rfl wd1379 dX9_run_66 ?_
      refine jg_acmp_eq (tgt := 99) hC dX9_run_69 rfl hr10 (show (0 ≤ (4 : Int) ∧ (4 : Int) < 9) from by decide) (fun hc => ?_) (fun hc => ?_)
      · replace h := (if_pos hc).symm.trans h
        refine jj_aload_n hC dX9_run_99 rfl 0 rfl ?_
        refine jj_iload_n hC dX9_run_100 rfl 1 rfl ?_
        obtain ⟨q11, hq11, h⟩ := bd_e h
        refine jj_invV hC mvX9_carryOut wd1383 wd18 wd1381 hl0_50 (by decide) rfl (xX9_carryOut (OKC.tr hC) hl0_50 hs50_0 hq11) rfl rfl (c_le rfl) (c_le rfl) (c_le rfl) (c_le rfl) dX9_run_101 noXk (po_kV ?_)
        refine jg_iinc (q := 1) (lv' := [(2, .int (iI (w32 (s50.1 + 1)))), (0, .ref l0_50)]) hC dX9_run_104 rfl (by decide) rfl ?_
        refine jj_goto (tgt := 50) hC dX9_run_107 rfl ?_
        refine jj_lv (lv' := [(0, .ref l0_50), (2, .int (iI (w32 (s50.1 + 1))))]) [1, 0] rfl ?_
        exact hJ50 _ (Option.some.inj h).symm (w32_r _)
      · replace h := (if_neg (hc)).symm.trans h
        refine jj_aload_n hC dX9_run_72 rfl 0 rfl ?_
        obtain ⟨b12, hb12, hs12, h⟩ := rf_e h
        refine jg_R hC kfX9 0 rfl hl0_50 (by decide) wd1117 rfl hb12 dX9_run_73 ?_
        refine jj_aload_n hC dX9_run_76 rfl 0 rfl ?_
        obtain ⟨b13, hb13, hs13, h⟩ := rf_e h
        refine jg_R hC kfX9 2 rfl hl0_50 (by decide) wd1119 rfl hb13 dX9_run_77 ?_
        obtain ⟨q14, hq14, h⟩ := bd_e h
        refine jj_invV hC mvX8_copyFrom wd511 wd512 wd510 hs12 (by decide) rfl (xX8_copyFrom (OKC.tr hC) hs12 hs13 hq14) rfl rfl (c_le rfl) (c_le rfl) (c_le rfl) (c_le rfl) dX9_run_80 noXk (po_kV ?_)
        refine jj_aload_n hC dX9_run_83 rfl 0 rfl ?_
        refine jj_iload_n hC dX9_run_84 rfl 1 rfl ?_
        obtain ⟨M15, hM15, h⟩ := nam_e h
        refine jp_I hC kfX9 8 rfl hl0_50 rfl (by decide) wd1125 rfl rfl rfl hs50_0 dX9_run_85 (jj_M hM15 ?_)
        have h := hR50 _ (Option.some.inj h).symm
        subst h
        exact jj_throwC hC 16 rfl (by decide +kernel) (tfit_of (by decide +kernel)) (by decide) wd600 wd44 ta_UnsupportedOperationException353 tg_UnsupportedOperationException353 dX9_run_88 dX9_run_91 dX9_run_92 dX9_run_95 dX9_run_98 (c_le rfl) (c_le rfl) (c_le rfl) (c_le rfl) (fun sz7 _ => ⟨_, rfl, rfl, rfl, rfl, rfl, rfl⟩)
  unfold fX9_run at h
  refine jj_aload_n hC dX9_run_0 rfl 0 rfl ?_
  obtain ⟨b1, hb1, hs1, h⟩ := rf_e h
  refine jg_R hC kfX9 4 rfl hs0 (by decide) wd1121 rfl hb1 dX9_run_1 ?_
  obtain ⟨q2, hq2, h⟩ := bd_e h
  refine jj_invV hC mvX7_findError wd1320 wd1321 wd1319 hs1 (by decide) rfl (xX7_findError (OKC.tr hC) hs1 hq2) rfl rfl (c_le rfl) (c_le rfl) (c_le rfl) (c_le rfl) dX9_run_4 noXk (po_kI (fun hr2 => ?_))
  refine jj_istore_n (lv' := [(1, .int (iI q2.1)), (0, .ref a0)]) hC dX9_run_7 rfl (by decide) rfl ?_
  refine jj_aload_n hC dX9_run_8 rfl 1 rfl ?_
  obtain ⟨b3, hb3, hs3, h⟩ := rf_e h
  refine jg_R hC kfX9 4 rfl hs0 (by decide) wd1121 rfl hb3 dX9_run_9 ?_
  refine jj_iconst hC dX9_run_12 ?_
  obtain ⟨M4, hM4, h⟩ := nam_e h
  refine jp_I hC kfX7 1 rfl hs3 rfl (by decide) wd1093 rfl rfl rfl (show (-2147483648 ≤ (0 : Int) ∧ (0 : Int) < 2147483648) from by decide) dX9_run_13 (jj_M hM4 ?_)
  refine jj_iload_n hC dX9_run_16 rfl 0 rfl ?_
  refine jj_iconst hC dX9_run_17 ?_
  refine jj_icmp_eq (tgt := 37) hC dX9_run_18 rfl hr2 (show (-2147483648 ≤ ((-1) : Int) ∧ ((-1) : Int) < 2147483648) from by decide) (fun hc => ?_) (fun hc => ?_)
  · replace h := (if_pos hc).symm.trans h
    refine jj_aload_n hC dX9_run_37 rfl 1 rfl ?_
    obtain ⟨b5, hb5, hs5, h⟩ := rf_e h
    refine jg_R hC kfX9 2 rfl hs0 (by decide) wd1119 rfl hb5 dX9_run_38 ?_
    refine jj_aload_n hC dX9_run_41 rfl 1 rfl ?_
    obtain ⟨b6, hb6, hs6, h⟩ := rf_e h
    refine jg_R hC kfX9 0 rfl hs0 (by decide) wd1117 rfl hb6 dX9_run_42 ?_
    obtain ⟨q7, hq7, h⟩ := bd_e h
    refine jj_invV hC mvX8_copyFrom wd511 wd512 wd510 hs5 (by decide) rfl (xX8_copyFrom (OKC.tr hC) hs5 hs6 hq7) rfl rfl (c_le rfl) (c_le rfl) (c_le rfl) (c_le rfl) dX9_run_45 noXk (po_kV ?_)
    refine jj_iconst hC dX9_run_48 ?_
    refine jj_istore_n (lv' := [(2, .int (iI 0)), (1, .int (iI q2.1)), (0, .ref a0)]) hC dX9_run_49 rfl (by decide) rfl ?_
    obtain ⟨q22, hq22, h⟩ := bd_e h
    refine jj_lv (lv' := [(0, .ref a0), (2, .int (iI 0))]) [2, 0] rfl ?_
    refine hL50 R a0 hs0 FU _ q22 hq22 (show (-2147483648 ≤ (0 : Int) ∧ (0 : Int) < 2147483648) from by decide) (fun e50_16 he22 hIE22 => ?_) (fun c22 hc22 => ?_)
    · subst he22
      replace h := el_l h
      refine jj_aload_n hC dX9_run_110 rfl 0 rfl ?_
      obtain ⟨b17, hb17, hs17, h⟩ := rf_e h
      refine jg_R hC kfX9 3 rfl hs0 (by decide) wd1120 rfl hb17 dX9_run_111 ?_
      refine jj_aload_n hC dX9_run_114 rfl 0 rfl ?_
      obtain ⟨b18, hb18, hs18, h⟩ := rf_e h
      refine jg_R hC kfX9 2 rfl hs0 (by decide) wd1119 rfl hb18 dX9_run_115 ?_
      obtain ⟨q19, hq19, h⟩ := bd_e h
      refine jj_invV hC mvX4_keep wd545 wd546 wd544 hs17 (by decide) rfl (xX4_keep (OKC.tr hC) hs17 hs18 hq19) rfl rfl (c_le rfl) (c_le rfl) (c_le rfl) (c_le rfl) dX9_run_118 noXk (po_kV ?_)
      refine jj_aload_n hC dX9_run_121 rfl 0 rfl ?_
      obtain ⟨b20, hb20, hs20, h⟩ := rf_e h
      refine jg_R hC kfX9 4 rfl hs0 (by decide) wd1121 rfl hb20 dX9_run_122 ?_
      refine jg_I hC kfX7 4 rfl hs20 (by decide) wd1099 rfl dX9_run_125 (fun hr21 => ?_)
      cases h
      exact jj_iret hC (c_le rfl) (c_le rfl) dX9_run_128 ⟨_, rfl, rfl, hr21, rfl, rfl, rfl, rfl, rfl⟩
    · subst hc22
      replace h := el_r h
      exact Option.some.inj h
  · replace h := (if_neg (hc)).symm.trans h
    refine jj_aload_n hC dX9_run_21 rfl 1 rfl ?_
    refine jj_iload_n hC dX9_run_22 rfl 0 rfl ?_
    obtain ⟨M23, hM23, h⟩ := nam_e h
    refine jp_I hC kfX9 7 rfl hs0 rfl (by decide) wd1124 rfl rfl rfl hr2 dX9_run_23 (jj_M hM23 ?_)
    cases h
    exact jj_throwC hC 15 rfl (by decide +kernel) (tfit_of (by decide +kernel)) (by decide) wd541 wd42 ta_IllegalArgumentException117 tg_IllegalArgumentException117 dX9_run_26 dX9_run_29 dX9_run_30 dX9_run_33 dX9_run_36 (c_le rfl) (c_le rfl) (c_le rfl) (c_le rfl) (fun sz7 _ => ⟨_, rfl, rfl, rfl, rfl, rfl, rfl⟩)
def fX9_writeFlight (ad : Nat → Nat) (sz : Nat) (S Ln : Nat → Nat) (R : gR) (M : gM) (a0 : Nat) (x1 : Nat) : Option (Nat × (Nat → Nat) × (Nat → Nat) × gM × gR) :=
  rf S (R a0 5) 2 fun b1 => bd (fX3_phaseSign ad S Ln R M x1) fun q2 => bd (fJ4_append_cf468 ad sz S Ln R M b1 q2) fun q3 => bd (fJ4_append_bf812 ad q3.2.1 q3.2.2.1 q3.2.2.2.1 q3.2.2.2.2.2 q3.2.2.2.2.1 q3.1 (q3.2.2.2.2.1 x1 2)) fun q5 => bd (fJ4_append_cf468 ad q5.2.1 q5.2.2.1 q5.2.2.2.1 q5.2.2.2.2.2 q5.2.2.2.2.1 q5.1 44) fun q6 => bd (fJ4_append_bf812 ad q6.2.1 q6.2.2.1 q6.2.2.2.1 q6.2.2.2.2.2 q6.2.2.2.2.1 q6.1 (q6.2.2.2.2.1 x1 3)) fun q8 => rf q8.2.2.1 (q8.2.2.2.2.2 a0 5) 2 fun b9 => bd (fJ4_append_cf468 ad q8.2.1 q8.2.2.1 q8.2.2.2.1 q8.2.2.2.2.2 q8.2.2.2.2.1 b9 32) fun q10 => bd (fJ4_append_bf812 ad q10.2.1 q10.2.2.1 q10.2.2.2.1 q10.2.2.2.2.2 q10.2.2.2.2.1 q10.1 (q10.2.2.2.2.1 x1 4)) fun q12 => rf q12.2.2.1 (some (ad 26)) 1 fun b13 => bd (fJ4_append_15ec4 ad q12.2.1 q12.2.2.1 q12.2.2.2.1 q12.2.2.2.2.2 q12.2.2.2.2.1 q12.1 b13) fun q14 => rf q14.2.2.1 (q14.2.2.2.2.2 a0 5) 2 fun b15 => bd (fJ4_append_bf812 ad q14.2.1 q14.2.2.1 q14.2.2.2.1 q14.2.2.2.2.2 q14.2.2.2.2.1 b15 (q14.2.2.2.2.1 x1 7)) fun q17 => bd (fJ4_append_cf468 ad q17.2.1 q17.2.2.1 q17.2.2.2.1 q17.2.2.2.2.2 q17.2.2.2.2.1 q17.1 47) fun q18 => rf q18.2.2.1 (q18.2.2.2.2.2 a0 0) 11 fun b19 => rf q18.2.2.1 (q18.2.2.2.2.2 b19 0) 7 fun b20 => bd (fJ4_append_bf812 ad q18.2.1 q18.2.2.1 q18.2.2.2.1 q18.2.2.2.2.2 q18.2.2.2.2.1 q18.1 (q18.2.2.2.2.1 b20 5)) fun q22 => if (q22.2.2.2.2.1 x1 6) = 0 then (some ((q22.2.1, q22.2.2.1, q22.2.2.2.1, q22.2.2.2.2.1, q22.2.2.2.2.2))) else (rf q22.2.2.1 (q22.2.2.2.2.2 a0 5) 2 fun b24 => rf q22.2.2.1 (some (ad 27)) 1 fun b25 => bd (fJ4_append_15ec4 ad q22.2.1 q22.2.2.1 q22.2.2.2.1 q22.2.2.2.2.2 q22.2.2.2.2.1 b24 b25) fun q26 => bd (fJ4_append_bf812 ad q26.2.1 q26.2.2.1 q26.2.2.2.1 q26.2.2.2.2.2 q26.2.2.2.2.1 q26.1 (q26.2.2.2.2.1 x1 6)) fun q28 => some ((q28.2.1, q28.2.2.1, q28.2.2.2.1, q28.2.2.2.2.1, q28.2.2.2.2.2)))
theorem xX9_writeFlight {l : Launch} {G : gE} {sz : Nat} {S Ln : Nat → Nat} {M : gM} {R : gR} (hl : l.stackTraces = false) {a0 : Nat} (hs0 : S a0 = 12) {x1 : Nat} (hp1 : S x1 = 8) {r : Nat × (Nat → Nat) × (Nat → Nat) × gM × gR} (h : fX9_writeFlight G.2.2.2.2 sz S Ln R M a0 x1 = some r) : Ct l G yX9_writeFlight cX9_writeFlight 2 none 12 12 3072 [.ref a0, .ref x1] sz S Ln M R (poX (poV (r.1) (r.2.1) (r.2.2.1) (r.2.2.2.1) (r.2.2.2.2)) (Ext sz S Ln (r.1) (r.2.1) (r.2.2.1))) noX := by
  refine jj_start (own := RX9) (lv0 := [(0, .ref a0), (1, .ref x1)]) hl (by decide +kernel) rfl rfl (c_le rfl) (fun C hCl hC => ?_)
  unfold fX9_writeFlight at h
  refine jj_aload_n hC dX9_writeFlight_0 rfl 0 rfl ?_
  obtain ⟨b1, hb1, hs1, h⟩ := rf_e h
  refine jg_R hC kfX9 5 rfl hs0 (by decide) wd1122 rfl hb1 dX9_writeFlight_1 ?_
  refine jj_aload_n hC dX9_writeFlight_4 rfl 1 rfl ?_
  obtain ⟨q2, hq2, h⟩ := bd_e h
  refine jj_invV hC mvX3_phaseSign wd491 wd492 wd490 hp1 (by decide) rfl (xX3_phaseSign (OKC.tr hC) hp1 hq2) rfl rfl (c_le rfl) (c_le rfl) (by omega) (by omega) dX9_writeFlight_5 noXk (po_kC (fun hr2 => ?_))
  obtain ⟨q3, hq3, h⟩ := bd_e h
  refine jj_invV hC mvJ4_append_cf468 wd465 wd466 wd464 hs1 (by decide) rfl (xJ4_append_cf468 (OKC.tr hC) hs1 hr2 hq3) rfl rfl (c_le rfl) (c_le rfl) (by omega) (by omega) dX9_writeFlight_8 noXk (poX_k (fun hx3 => po_kA (fun hr3 => ?_)))
  refine jj_widen (k' := 1) (n' := 256) (by omega) (by omega) ?_
  refine jj_aload_n hC dX9_writeFlight_11 rfl 1 rfl ?_
  refine jg_I hC kfX3 2 rfl (ext_s hx3 hp1 (by decide)) (by decide) wd997 rfl dX9_writeFlight_12 (fun hr4 => ?_)
  obtain ⟨q5, hq5, h⟩ := bd_e h
  refine jj_invV hC mvJ4_append_bf812 wd309 wd310 wd461 hr3 (by decide) rfl (xJ4_append_bf812 (OKC.tr hC) hr3 hr4 hq5) rfl rfl (c_le rfl) (c_le rfl) (by omega) (by omega) dX9_writeFlight_15 noXk (poX_k (fun hx5 => po_kA (fun hr5 => ?_)))
  refine jj_widen (k' := 2) (n' := 512) (by omega) (by omega) ?_
  refine jj_bipush hC dX9_writeFlight_18 (by decide) ?_
  obtain ⟨q6, hq6, h⟩ := bd_e h
  refine jj_invV hC mvJ4_append_cf468 wd465 wd466 wd464 hr5 (by decide) rfl (xJ4_append_cf468 (OKC.tr hC) hr5 (show (0 ≤ (44 : Int) ∧ (44 : Int) < 65536) from by decide) hq6) rfl rfl (c_le rfl) (c_le rfl) (by omega) (by omega) dX9_writeFlight_20 noXk (poX_k (fun hx6 => po_kA (fun hr6 => ?_)))
  refine jj_widen (k' := 3) (n' := 768) (by omega) (by omega) ?_
  refine jj_aload_n hC dX9_writeFlight_23 rfl 1 rfl ?_
  refine jg_I hC kfX3 3 rfl (ext_s hx6 (ext_s hx5 (ext_s hx3 hp1 (by decide)) (by decide)) (by decide)) (by decide) wd1000 rfl dX9_writeFlight_24 (fun hr7 => ?_)
  obtain ⟨q8, hq8, h⟩ := bd_e h
  refine jj_invV hC mvJ4_append_bf812 wd309 wd310 wd461 hr6 (by decide) rfl (xJ4_append_bf812 (OKC.tr hC) hr6 hr7 hq8) rfl rfl (c_le rfl) (c_le rfl) (by omega) (by omega) dX9_writeFlight_27 noXk (poX_k (fun hx8 => po_kA (fun hr8 => ?_)))
  refine jj_widen (k' := 4) (n' := 1024) (by omega) (by omega) ?_
  refine jj_pop hC dX9_writeFlight_30 rfl ?_
  refine jj_aload_n hC dX9_writeFlight_31 rfl 0 rfl ?_
  obtain ⟨b9, hb9, hs9, h⟩ := rf_e h
  refine jg_R hC kfX9 5 rfl (ext_s hx8 (ext_s hx6 (ext_s hx5 (ext_s hx3 hs0 (by decide)) (by decide)) (by decide)) (by decide)) (by decide) wd1122 rfl hb9 dX9_writeFlight_32 ?_
  refine jj_bipush hC dX9_writeFlight_35 (by decide) ?_
  obtain ⟨q10, hq10, h⟩ := bd_e h
  refine jj_invV hC mvJ4_append_cf468 wd465 wd466 wd464 hs9 (by decide) rfl (xJ4_append_cf468 (OKC.tr hC) hs9 (show (0 ≤ (32 : Int) ∧ (32 : Int) < 65536) from by decide) hq10) rfl rfl (c_le rfl) (c_le rfl) (by omega) (by omega) dX9_writeFlight_37 noXk (poX_k (fun hx10 => po_kA (fun hr10 => ?_)))
  refine jj_widen (k' := 5) (n' := 1280) (by omega) (by omega) ?_
  refine jj_aload_n hC dX9_writeFlight_40 rfl 1 rfl ?_
  refine jg_I hC kfX3 4 rfl (ext_s hx10 (ext_s hx8 (ext_s hx6 (ext_s hx5 (ext_s hx3 hp1 (by decide)) (by decide)) (by decide)) (by decide)) (by decide)) (by decide) wd1003 rfl dX9_writeFlight_41 (fun hr11 => ?_)
  obtain ⟨q12, hq12, h⟩ := bd_e h
  refine jj_invV hC mvJ4_append_bf812 wd309 wd310 wd461 hr10 (by decide) rfl (xJ4_append_bf812 (OKC.tr hC) hr10 hr11 hq12) rfl rfl (c_le rfl) (c_le rfl) (by omega) (by omega) dX9_writeFlight_44 noXk (poX_k (fun hx12 => po_kA (fun hr12 => ?_)))
  refine jj_widen (k' := 6) (n' := 1536) (by omega) (by omega) ?_
  obtain ⟨b13, hb13, hs13, h⟩ := rf_e h
  refine jg_ldc_wS hC 10 rfl (Option.some.inj hb13) dX9_writeFlight_47 ?_
  obtain ⟨q14, hq14, h⟩ := bd_e h
  refine jj_invV hC mvJ4_append_15ec4 wd189 wd190 wd499 hr12 (by decide) rfl (xJ4_append_15ec4 (OKC.tr hC) hr12 hs13 hq14) rfl rfl (c_le rfl) (c_le rfl) (by omega) (by omega) dX9_writeFlight_50 noXk (poX_k (fun hx14 => po_kA (fun hr14 => ?_)))
  refine jj_widen (k' := 7) (n' := 1792) (by omega) (by omega) ?_
  refine jj_pop hC dX9_writeFlight_53 rfl ?_
  refine jj_aload_n hC dX9_writeFlight_54 rfl 0 rfl ?_
  obtain ⟨b15, hb15, hs15, h⟩ := rf_e h
  refine jg_R hC kfX9 5 rfl (ext_s hx14 (ext_s hx12 (ext_s hx10 (ext_s hx8 (ext_s hx6 (ext_s hx5 (ext_s hx3 hs0 (by decide)) (by decide)) (by decide)) (by decide)) (by decide)) (by decide)) (by decide)) (by decide) wd1122 rfl hb15 dX9_writeFlight_55 ?_
  refine jj_aload_n hC dX9_writeFlight_58 rfl 1 rfl ?_
  refine jg_I hC kfX3 7 rfl (ext_s hx14 (ext_s hx12 (ext_s hx10 (ext_s hx8 (ext_s hx6 (ext_s hx5 (ext_s hx3 hp1 (by decide)) (by decide)) (by decide)) (by decide)) (by decide)) (by decide)) (by decide)) (by decide) wd1012 rfl dX9_writeFlight_59 (fun hr16 => ?_)
  obtain ⟨q17, hq17, h⟩ := bd_e h
  refine jj_invV hC mvJ4_append_bf812 wd309 wd310 wd461 hs15 (by decide) rfl (xJ4_append_bf812 (OKC.tr hC) hs15 hr16 hq17) rfl rfl (c_le rfl) (c_le rfl) (by omega) (by omega) dX9_writeFlight_62 noXk (poX_k (fun hx17 => po_kA (fun hr17 => ?_)))
  refine jj_widen (k' := 8) (n' := 2048) (by omega) (by omega) ?_
  refine jj_bipush hC dX9_writeFlight_65 (by decide) ?_
  obtain ⟨q18, hq18, h⟩ := bd_e h
  refine jj_invV hC mvJ4_append_cf468 wd465 wd466 wd464 hr17 (by decide) rfl (xJ4_append_cf468 (OKC.tr hC) hr17 (show (0 ≤ (47 : Int) ∧ (47 : Int) < 65536) from by decide) hq18) rfl rfl (c_le rfl) (c_le rfl) (by omega) (by omega) dX9_writeFlight_67 noXk (poX_k (fun hx18 => po_kA (fun hr18 => ?_)))
  refine jj_widen (k' := 9) (n' := 2304) (by omega) (by omega) ?_
  refine jj_aload_n hC dX9_writeFlight_70 rfl 0 rfl ?_
  obtain ⟨b19, hb19, hs19, h⟩ := rf_e h
  refine jg_R hC kfX9 0 rfl (ext_s hx18 (ext_s hx17 (ext_s hx14 (ext_s hx12 (ext_s hx10 (ext_s hx8 (ext_s hx6 (ext_s hx5 (ext_s hx3 hs0 (by decide)) (by decide)) (by decide)) (by decide)) (by decide)) (by decide)) (by decide)) (by decide)) (by decide)) (by decide) wd1117 rfl hb19 dX9_writeFlight_71 ?_
  obtain ⟨b20, hb20, hs20, h⟩ := rf_e h
  refine jg_R hC kfX8 0 rfl hs19 (by decide) wd1037 rfl hb20 dX9_writeFlight_74 ?_
  refine jg_I hC kfX2 5 rfl hs20 (by decide) wd915 rfl dX9_writeFlight_77 (fun hr21 => ?_)
  obtain ⟨q22, hq22, h⟩ := bd_e h
  refine jj_invV hC mvJ4_append_bf812 wd309 wd310 wd461 hr18 (by decide) rfl (xJ4_append_bf812 (OKC.tr hC) hr18 hr21 hq22) rfl rfl (c_le rfl) (c_le rfl) (by omega) (by omega) dX9_writeFlight_80 noXk (poX_k (fun hx22 => po_kA (fun hr22 => ?_)))
  refine jj_widen (k' := 10) (n' := 2560) (by omega) (by omega) ?_
  refine jj_pop hC dX9_writeFlight_83 rfl ?_
  refine jj_aload_n hC dX9_writeFlight_84 rfl 1 rfl ?_
  refine jg_I hC kfX3 6 rfl (ext_s hx22 (ext_s hx18 (ext_s hx17 (ext_s hx14 (ext_s hx12 (ext_s hx10 (ext_s hx8 (ext_s hx6 (ext_s hx5 (ext_s hx3 hp1 (by decide)) (by decide)) (by decide)) (by decide)) (by decide)) (by decide)) (by decide)) (by decide)) (by decide)) (by decide)) (by decide) wd1009 rfl dX9_writeFlight_85 (fun hr23 => ?_)
  refine jj_if_eq (tgt := 109) hC dX9_writeFlight_88 rfl hr23 (fun hc => ?_) (fun hc => ?_)
  · replace h := (if_pos hc).symm.trans h
    cases h
    exact jj_vret hC (by omega) (by omega) dX9_writeFlight_109 ⟨⟨rfl, trivial, rfl, rfl, rfl, rfl, rfl⟩, (ext_t (ext_t (ext_t (ext_t (ext_t (ext_t (ext_t (ext_t (ext_t hx3 hx5) hx6) hx8) hx10) hx12) hx14) hx17) hx18) hx22)⟩
  · replace h := (if_neg (hc)).symm.trans h
    refine jj_aload_n hC dX9_writeFlight_91 rfl 0 rfl ?_
    obtain ⟨b24, hb24, hs24, h⟩ := rf_e h
    refine jg_R hC kfX9 5 rfl (ext_s hx22 (ext_s hx18 (ext_s hx17 (ext_s hx14 (ext_s hx12 (ext_s hx10 (ext_s hx8 (ext_s hx6 (ext_s hx5 (ext_s hx3 hs0 (by decide)) (by decide)) (by decide)) (by decide)) (by decide)) (by decide)) (by decide)) (by decide)) (by decide)) (by decide)) (by decide) wd1122 rfl hb24 dX9_writeFlight_92 ?_
    obtain ⟨b25, hb25, hs25, h⟩ := rf_e h
    refine jg_ldc_wS hC 11 rfl (Option.some.inj hb25) dX9_writeFlight_95 ?_
    obtain ⟨q26, hq26, h⟩ := bd_e h
    refine jj_invV hC mvJ4_append_15ec4 wd189 wd190 wd499 hs24 (by decide) rfl (xJ4_append_15ec4 (OKC.tr hC) hs24 hs25 hq26) rfl rfl (c_le rfl) (c_le rfl) (by omega) (by omega) dX9_writeFlight_98 noXk (poX_k (fun hx26 => po_kA (fun hr26 => ?_)))
    refine jj_widen (k' := 11) (n' := 2816) (by omega) (by omega) ?_
    refine jj_aload_n hC dX9_writeFlight_101 rfl 1 rfl ?_
    refine jg_I hC kfX3 6 rfl (ext_s hx26 (ext_s hx22 (ext_s hx18 (ext_s hx17 (ext_s hx14 (ext_s hx12 (ext_s hx10 (ext_s hx8 (ext_s hx6 (ext_s hx5 (ext_s hx3 hp1 (by decide)) (by decide)) (by decide)) (by decide)) (by decide)) (by decide)) (by decide)) (by decide)) (by decide)) (by decide)) (by decide)) (by decide) wd1009 rfl dX9_writeFlight_102 (fun hr27 => ?_)
    obtain ⟨q28, hq28, h⟩ := bd_e h
    refine jj_invV hC mvJ4_append_bf812 wd309 wd310 wd461 hr26 (by decide) rfl (xJ4_append_bf812 (OKC.tr hC) hr26 hr27 hq28) rfl rfl (c_le rfl) (c_le rfl) (by omega) (by omega) dX9_writeFlight_105 noXk (poX_k (fun hx28 => po_kA (fun hr28 => ?_)))
    refine jj_widen (k' := 12) (n' := 3072) (by omega) (by omega) ?_
    refine jj_pop hC dX9_writeFlight_108 rfl ?_
    cases h
    exact jj_vret hC (by omega) (by omega) dX9_writeFlight_109 ⟨⟨rfl, trivial, rfl, rfl, rfl, rfl, rfl⟩, (ext_t (ext_t (ext_t (ext_t (ext_t (ext_t (ext_t (ext_t (ext_t (ext_t (ext_t hx3 hx5) hx6) hx8) hx10) hx12) hx14) hx17) hx18) hx22) hx26) hx28)⟩
def fX9_writePilot_B51 (ad : Nat → Nat) (sz51 : Nat) (S51 Ln51 : Nat → Nat) (R51 : gR) (M51 : gM) (l0_51 : Nat) : Option ((Int × Nat × (Nat → Nat) × (Nat → Nat) × gM × gR) ⊕ (String × (Nat → Nat) × (Nat → Nat) × gM × gR)) :=
  rf S51 (R51 l0_51 5) 2 fun b8 => bd (fJ4_length_8abf5 ad S51 Ln51 R51 M51 b8) fun q9 => some (Sum.inl (q9, sz51, S51, Ln51, M51, R51))
def fX9_writePilot (ad : Nat → Nat) (sz : Nat) (S Ln : Nat → Nat) (R : gR) (M : gM) (a0 : Nat) (x1 : Int) : Option ((Int × Nat × (Nat → Nat) × (Nat → Nat) × gM × gR) ⊕ (String × (Nat → Nat) × (Nat → Nat) × gM × gR)) :=
  bd (fX9_knownPilot ad S Ln R M a0 x1) fun q1 => Sum.elim (fun v1 => rf S (R a0 5) 2 fun b2 => bd (fJ4_setLength_d00df ad sz S Ln R M b2 0) fun q3 => rf q3.2.1 (q3.2.2.2.2 a0 5) 2 fun b4 => bd (fJ4_append_bf812 ad q3.1 q3.2.1 q3.2.2.1 q3.2.2.2.2 q3.2.2.2.1 b4 x1) fun q5 => gd (0 ≤ q5.2.2.2.2.1 v1 1) (if ¬ (q5.2.2.2.2.1 v1 1) = 0 then (bd (fX9_writeFlight ad q5.2.1 q5.2.2.1 q5.2.2.2.1 q5.2.2.2.2.2 q5.2.2.2.2.1 a0 v1) fun q7 => fX9_writePilot_B51 ad q7.1 q7.2.1 q7.2.2.1 q7.2.2.2.2 q7.2.2.2.1 a0) else (rf q5.2.2.1 (q5.2.2.2.2.2 a0 5) 2 fun b10 => bd (fJ4_append_cf468 ad q5.2.1 q5.2.2.1 q5.2.2.2.1 q5.2.2.2.2.2 q5.2.2.2.2.1 b10 45) fun q11 => fX9_writePilot_B51 ad q11.2.1 q11.2.2.1 q11.2.2.2.1 q11.2.2.2.2.2 q11.2.2.2.2.1 a0))) (fun e1 => some (Sum.inr (e1, S, Ln, M, R))) q1
theorem xX9_writePilot {l : Launch} {G : gE} {sz : Nat} {S Ln : Nat → Nat} {M : gM} {R : gR} (hl : l.stackTraces = false) {a0 : Nat} (hs0 : S a0 = 12) {x1 : Int} (hp1 : (-2147483648 ≤ x1 ∧ x1 < 2147483648)) {r : (Int × Nat × (Nat → Nat) × (Nat → Nat) × gM × gR) ⊕ (String × (Nat → Nat) × (Nat → Nat) × gM × gR)} (h : fX9_writePilot G.2.2.2.2 sz S Ln R M a0 x1 = some r) : Ct l G yX9_writePilot cX9_writePilot 3 (some .int) 13 15 3840 [.ref a0, .int (iI x1)] sz S Ln M R (poS r (fun a => poX (poI a.1 (a.2.1) (a.2.2.1) (a.2.2.2.1) (a.2.2.2.2.1) (a.2.2.2.2.2)) (Ext sz S Ln (a.2.1) (a.2.2.1) (a.2.2.2.1)))) (xoS r (fun e => xo e.1 e.2.1 e.2.2.1 e.2.2.2.1 e.2.2.2.2)) := by
  refine jj_start (own := RX9) (lv0 := [(0, .ref a0), (1, .int (iI x1))]) hl (by decide +kernel) rfl rfl (c_le rfl) (fun C hCl hC => ?_)
  have hB51 : ∀ (sz51 : Nat) (S51 : (Nat → Nat)) (Ln51 : (Nat → Nat)) (M51 : gM) (R51 : gR) (l0_51 : Nat), Ext sz S Ln sz51 S51 Ln51 → S51 l0_51 = 12 → fX9_writePilot_B51 G.2.2.2.2 sz51 S51 Ln51 R51 M51 l0_51 = some r → JJ G C 15 3840 sz51 S51 Ln51 M51 R51 51 [(0, .ref l0_51)] [] := by
    intro sz51 S51 Ln51 M51 R51 l0_51 hx51 hl0_51 h
    unfold fX9_writePilot_B51 at h
    refine jj_aload_n hC dX9_writePilot_51 rfl 0 rfl ?_
    obtain ⟨b8, hb8, hs8, h⟩ := rf_e h
    refine jg_R hC kfX9 5 rfl hl0_51 (by decide) wd1122 rfl hb8 dX9_writePilot_52 ?_
    obtain ⟨q9, hq9, h⟩ := bd_e h
    refine jj_invV hC mvJ4_length_8abf5 wd355 wd1578 wd501 hs8 (by decide) rfl (xJ4_length_8abf5 (OKC.tr hC) hs8 hq9) rfl rfl (c_le rfl) (c_le rfl) (by omega) (by omega) dX9_writePilot_55 noXk (po_kI (fun hr9 => ?_))
    cases h
    exact jj_iret hC (by omega) (by omega) dX9_writePilot_58 ⟨_, rfl, ⟨rfl, hr9, rfl, rfl, rfl, rfl, rfl⟩, hx51⟩
  unfold fX9_writePilot at h
  refine jj_aload_n hC dX9_writePilot_0 rfl 0 rfl ?_
  refine jj_iload_n hC dX9_writePilot_1 rfl 1 rfl ?_
  obtain ⟨q1, hq1, h⟩ := bd_e h
  refine jj_invV hC mvX9_knownPilot wd62 wd0 wd60 hs0 (by decide) rfl (xX9_knownPilot (OKC.tr hC) hs0 hp1 hq1) rfl rfl (c_le rfl) (c_le rfl) (by omega) (by omega) dX9_writePilot_2 (fun E1 sz1 S1 Ln1 M1 R1 hX1 => by
    obtain ⟨e1, he1, hx1, hx2, hx3, hx4, hx5⟩ := hX1
    subst he1
    replace h := el_r h
    cases h
    exact jj_out hC (by omega) (by omega) ⟨_, rfl, hx1, hx2, hx3, hx4, hx5⟩) (poS_k (fun v1 hv1 => po_kA (fun hr1 => ?_)))
  refine jj_widen (k' := 1) (n' := 256) (by omega) (by omega) ?_
  subst hv1
  replace h := el_l h
  refine jj_astore_n (lv' := [(2, .ref v1), (0, .ref a0), (1, .int (iI x1))]) hC dX9_writePilot_5 rfl (by decide) rfl ?_
  refine jj_aload_n hC dX9_writePilot_6 rfl 1 rfl ?_
  obtain ⟨b2, hb2, hs2, h⟩ := rf_e h
  refine jg_R hC kfX9 5 rfl hs0 (by decide) wd1122 rfl hb2 dX9_writePilot_7 ?_
  refine jj_iconst hC dX9_writePilot_10 ?_
  obtain ⟨q3, hq3, h⟩ := bd_e h
  refine jj_invV hC mvJ4_setLength_d00df wd144 wd145 wd143 hs2 (by decide) rfl (xJ4_setLength_d00df (OKC.tr hC) hs2 (show (-2147483648 ≤ (0 : Int) ∧ (0 : Int) < 2147483648) from by decide) hq3) rfl rfl (c_le rfl) (c_le rfl) (by omega) (by omega) dX9_writePilot_11 noXk (poX_k (fun hx3 => po_kV ?_))
  refine jj_widen (k' := 2) (n' := 512) (by omega) (by omega) ?_
  refine jj_aload_n hC dX9_writePilot_14 rfl 1 rfl ?_
  obtain ⟨b4, hb4, hs4, h⟩ := rf_e h
  refine jg_R hC kfX9 5 rfl (ext_s hx3 hs0 (by decide)) (by decide) wd1122 rfl hb4 dX9_writePilot_15 ?_
  refine jj_iload_n hC dX9_writePilot_18 rfl 2 rfl ?_
  obtain ⟨q5, hq5, h⟩ := bd_e h
  refine jj_invV hC mvJ4_append_bf812 wd309 wd310 wd461 hs4 (by decide) rfl (xJ4_append_bf812 (OKC.tr hC) hs4 hp1 hq5) rfl rfl (c_le rfl) (c_le rfl) (by omega) (by omega) dX9_writePilot_19 noXk (poX_k (fun hx5 => po_kA (fun hr5 => ?_)))
  refine jj_widen (k' := 3) (n' := 768) (by omega) (by omega) ?_
  refine jj_pop hC dX9_writePilot_22 rfl ?_
  refine jj_aload_n hC dX9_writePilot_23 rfl 0 rfl ?_
  obtain ⟨hg6, h⟩ := gd_e h
  refine jg_E hC kfX3 1 rfl (ext_s hx5 (ext_s hx3 hr1 (by decide)) (by decide)) (by decide) wd994 rfl hg6 dX9_writePilot_24 (fun hr6 => ?_)
  refine jg_s (j := 0) hC 0 rfl rfl wd462 dX9_writePilot_27 ?_
  refine jg_acmp_ne (tgt := 46) hC dX9_writePilot_30 rfl ⟨hg6, hr6⟩ (show (0 ≤ (0 : Int) ∧ (0 : Int) < 9) from by decide) (fun hc => ?_) (fun hc => ?_)
  · replace h := (if_pos hc).symm.trans h
    refine jj_aload_n hC dX9_writePilot_46 rfl 1 rfl ?_
    refine jj_aload_n hC dX9_writePilot_47 rfl 0 rfl ?_
    obtain ⟨q7, hq7, h⟩ := bd_e h
    refine jj_invV hC mvX9_writeFlight wd488 wd2 wd486 (ext_s hx5 (ext_s hx3 hs0 (by decide)) (by decide)) (by decide) rfl (xX9_writeFlight (OKC.tr hC) (ext_s hx5 (ext_s hx3 hs0 (by decide)) (by decide)) (ext_s hx5 (ext_s hx3 hr1 (by decide)) (by decide)) hq7) rfl rfl (c_le rfl) (c_le rfl) (by omega) (by omega) dX9_writePilot_48 noXk (poX_k (fun hx7 => po_kV ?_))
    refine jj_widen (k' := 15) (n' := 3840) (by omega) (by omega) ?_
    refine jj_widen (k' := 15) (n' := 3840) (by omega) (by omega) ?_
    refine jj_lv (lv' := [(0, .ref a0)]) [1] rfl ?_
    exact hB51 q7.1 q7.2.1 q7.2.2.1 q7.2.2.2.1 q7.2.2.2.2 a0 (ext_t (ext_t hx3 hx5) hx7) (ext_s hx7 (ext_s hx5 (ext_s hx3 hs0 (by decide)) (by decide)) (by decide)) h
  · replace h := (if_neg (fun k => k hc)).symm.trans h
    refine jj_aload_n hC dX9_writePilot_33 rfl 1 rfl ?_
    obtain ⟨b10, hb10, hs10, h⟩ := rf_e h
    refine jg_R hC kfX9 5 rfl (ext_s hx5 (ext_s hx3 hs0 (by decide)) (by decide)) (by decide) wd1122 rfl hb10 dX9_writePilot_34 ?_
    refine jj_bipush hC dX9_writePilot_37 (by decide) ?_
    obtain ⟨q11, hq11, h⟩ := bd_e h
    refine jj_invV hC mvJ4_append_cf468 wd465 wd466 wd464 hs10 (by decide) rfl (xJ4_append_cf468 (OKC.tr hC) hs10 (show (0 ≤ (45 : Int) ∧ (45 : Int) < 65536) from by decide) hq11) rfl rfl (c_le rfl) (c_le rfl) (by omega) (by omega) dX9_writePilot_39 noXk (poX_k (fun hx11 => po_kA (fun hr11 => ?_)))
    refine jj_widen (k' := 4) (n' := 1024) (by omega) (by omega) ?_
    refine jj_pop hC dX9_writePilot_42 rfl ?_
    refine jj_goto (tgt := 51) hC dX9_writePilot_43 rfl ?_
    refine jj_widen (k' := 15) (n' := 3840) (by omega) (by omega) ?_
    refine jj_lv (lv' := [(0, .ref a0)]) [1] rfl ?_
    exact hB51 q11.2.1 q11.2.2.1 q11.2.2.2.1 q11.2.2.2.2.1 q11.2.2.2.2.2 a0 (ext_t (ext_t hx3 hx5) hx11) (ext_s hx11 (ext_s hx5 (ext_s hx3 hs0 (by decide)) (by decide)) (by decide)) h
def fX9_writeTask_B60 (ad : Nat → Nat) (sz60 : Nat) (S60 Ln60 : Nat → Nat) (R60 : gR) (M60 : gM) (l0_10 : Nat) (l1_60 : Int) (ccj : Nat) : Option ((Int × Nat × (Nat → Nat) × (Nat → Nat) × gM × gR × Nat) ⊕ ((Nat × (Nat → Nat) × (Nat → Nat) × gM × gR) ⊕ (Int × Nat × (Nat → Nat) × (Nat → Nat) × gM × gR))) :=
  rf S60 (R60 l0_10 5) 2 fun b6 => rf S60 (R60 l0_10 0) 11 fun b7 => rf S60 (R60 b7 0) 7 fun b8 => rf S60 (R60 b8 3) 20 fun b9 => gd ((0 : Int) ≤ l1_60 ∧ l1_60 < (Ln60 b9 : Int)) (bd (fJ4_append_bf812 ad sz60 S60 Ln60 R60 M60 b6 (M60 b9 l1_60)) fun q11 => some (.inl (w32 (l1_60 + 1), q11.2.1, q11.2.2.1, q11.2.2.2.1, q11.2.2.2.2.1, q11.2.2.2.2.2, ccj + 1)))
def fX9_writeTask_L10 (ad : Nat → Nat) (l0_10 : Nat) (s10 : Int × Nat × (Nat → Nat) × (Nat → Nat) × gM × gR × Nat) : Option ((Int × Nat × (Nat → Nat) × (Nat → Nat) × gM × gR × Nat) ⊕ ((Nat × (Nat → Nat) × (Nat → Nat) × gM × gR) ⊕ (Int × Nat × (Nat → Nat) × (Nat → Nat) × gM × gR))) :=
  gd (s10.2.2.2.2.2.2 ≤ 8) (rf s10.2.2.1 (s10.2.2.2.2.2.1 l0_10 0) 11 fun b3 => rf s10.2.2.1 (s10.2.2.2.2.2.1 b3 0) 7 fun b4 => if (s10.2.2.2.2.1 b4 5) ≤ s10.1 then (some (.inr (.inl (s10.2.1, s10.2.2.1, s10.2.2.2.1, s10.2.2.2.2.1, s10.2.2.2.2.2.1)))) else (if s10.1 ≤ 0 then (fX9_writeTask_B60 ad s10.2.1 s10.2.2.1 s10.2.2.2.1 s10.2.2.2.2.2.1 s10.2.2.2.2.1 l0_10 s10.1 s10.2.2.2.2.2.2) else (rf s10.2.2.1 (s10.2.2.2.2.2.1 l0_10 5) 2 fun b12 => bd (fJ4_append_cf468 ad s10.2.1 s10.2.2.1 s10.2.2.2.1 s10.2.2.2.2.2.1 s10.2.2.2.2.1 b12 45) fun q13 => rf q13.2.2.1 (q13.2.2.2.2.2 l0_10 0) 11 fun b14 => rf q13.2.2.1 (q13.2.2.2.2.2 b14 0) 7 fun b15 => rf q13.2.2.1 (q13.2.2.2.2.2 b15 4) 20 fun b16 => gd ((0 : Int) ≤ (w32 (s10.1 - 1)) ∧ (w32 (s10.1 - 1)) < (q13.2.2.2.1 b16 : Int)) (bd (fJ4_append_bf812 ad q13.2.1 q13.2.2.1 q13.2.2.2.1 q13.2.2.2.2.2 q13.2.2.2.2.1 q13.1 (q13.2.2.2.2.1 b16 (w32 (s10.1 - 1)))) fun q18 => bd (fJ4_append_cf468 ad q18.2.1 q18.2.2.1 q18.2.2.2.1 q18.2.2.2.2.2 q18.2.2.2.2.1 q18.1 62) fun q19 => fX9_writeTask_B60 ad q19.2.1 q19.2.2.1 q19.2.2.2.1 q19.2.2.2.2.2 q19.2.2.2.2.1 l0_10 s10.1 s10.2.2.2.2.2.2))))
def fX9_writeTask (ad : Nat → Nat) (sz : Nat) (S Ln : Nat → Nat) (R : gR) (M : gM) (a0 : Nat) : Option (Int × Nat × (Nat → Nat) × (Nat → Nat) × gM × gR) :=
  rf S (R a0 5) 2 fun b1 => bd (fJ4_setLength_d00df ad sz S Ln R M b1 0) fun q2 => bd (lp (fX9_writeTask_L10 ad a0) FU (0, q2.1, q2.2.1, q2.2.2.1, q2.2.2.2.1, q2.2.2.2.2, 0)) fun q23 => Sum.elim (fun e10_20 => rf e10_20.2.1 (e10_20.2.2.2.2 a0 5) 2 fun b21 => bd (fJ4_length_8abf5 ad e10_20.2.1 e10_20.2.2.1 e10_20.2.2.2.2 e10_20.2.2.2.1 b21) fun q22 => some ((q22, e10_20.1, e10_20.2.1, e10_20.2.2.1, e10_20.2.2.2.1, e10_20.2.2.2.2))) (fun c23 => some c23) q23
theorem xX9_writeTask {l : Launch} {G : gE} {sz : Nat} {S Ln : Nat → Nat} {M : gM} {R : gR} (hl : l.stackTraces = false) {a0 : Nat} (hs0 : S a0 = 12) {r : Int × Nat × (Nat → Nat) × (Nat → Nat) × gM × gR} (h : fX9_writeTask G.2.2.2.2 sz S Ln R M a0 = some r) : Ct l G yX9_writeTask cX9_writeTask 2 (some .int) 12 37 9472 [.ref a0] sz S Ln M R (poX (poI r.1 (r.2.1) (r.2.2.1) (r.2.2.2.1) (r.2.2.2.2.1) (r.2.2.2.2.2)) (Ext sz S Ln (r.2.1) (r.2.2.1) (r.2.2.2.1))) noX := by
  refine jj_start (own := RX9) (lv0 := [(0, .ref a0)]) hl (by decide +kernel) rfl rfl (c_le rfl) (fun C hCl hC => ?_)
  have hL10 : ∀ (l0_10 : Nat), ∀ (n : Nat) (s10 : Int × Nat × (Nat → Nat) × (Nat → Nat) × gM × gR × Nat) (q : (Nat × (Nat → Nat) × (Nat → Nat) × gM × gR) ⊕ (Int × Nat × (Nat → Nat) × (Nat → Nat) × gM × gR)), lp (fX9_writeTask_L10 G.2.2.2.2 l0_10) n s10 = some q → (-2147483648 ≤ s10.1 ∧ s10.1 < 2147483648) ∧ s10.2.2.1 l0_10 = 12 ∧ Ext sz S Ln s10.2.1 s10.2.2.1 s10.2.2.2.1 → (∀ e10, q = .inl e10 → e10.2.1 l0_10 = 12 ∧ Ext sz S Ln e10.1 e10.2.1 e10.2.2.1 → JJ G C 33 8448 e10.1 e10.2.1 e10.2.2.1 e10.2.2.2.1 e10.2.2.2.2 86 [(0, .ref l0_10)] []) → (∀ c, q = .inr c → c = r) → JJ G C (1 + 4 * s10.2.2.2.2.2.2) (256 * (1 + 4 * s10.2.2.2.2.2.2)) s10.2.1 s10.2.2.1 s10.2.2.2.1 s10.2.2.2.2.1 s10.2.2.2.2.2.1 10 [(0, .ref l0_10), (1, .int (iI s10.1))] [] := by
    intro l0_10
    refine lp_ind ?_
    intro s10 r10 hI10 h hJ10 hE10 hR10
    obtain ⟨hs10_0, hl0_10, hx10⟩ := hI10
    have hB60 : ∀ (sz60 : Nat) (S60 : (Nat → Nat)) (Ln60 : (Nat → Nat)) (M60 : gM) (R60 : gR) (l1_60 : Int), Ext sz S Ln sz60 S60 Ln60 → (-2147483648 ≤ l1_60 ∧ l1_60 < 2147483648) → S60 l0_10 = 12 → s10.2.2.2.2.2.2 ≤ 8 → fX9_writeTask_B60 G.2.2.2.2 sz60 S60 Ln60 R60 M60 l0_10 l1_60 s10.2.2.2.2.2.2 = some r10 → JJ G C (1 + 4 * s10.2.2.2.2.2.2 + 3) (256 * (1 + 4 * s10.2.2.2.2.2.2 + 3)) sz60 S60 Ln60 M60 R60 60 [(0, .ref l0_10), (1, .int (iI l1_60))] [] := by
      intro sz60 S60 Ln60 M60 R60 l1_60 hx60 hl1_60 hl0_10_60 hcc10 h
      unfold fX9_writeTask_B60 at h
      refine jj_aload_n hC dX9_writeTask_60 rfl 0 rfl ?_
      obtain ⟨b6, hb6, hs6, h⟩ := rf_e h
      refine jg_R hC kfX9 5 rfl hl0_10_60 (by decide) wd1122 rfl hb6 dX9_writeTask_61 ?_
      refine jj_aload_n hC dX9_writeTask_64 rfl 0 rfl ?_
      obtain ⟨b7, hb7, hs7, h⟩ := rf_e h
      refine jg_R hC kfX9 0 rfl hl0_10_60 (by decide) wd1117 rfl hb7 dX9_writeTask_65 ?_
      obtain ⟨b8, hb8, hs8, h⟩ := rf_e h
      refine jg_R hC kfX8 0 rfl hs7 (by decide) wd1037 rfl hb8 dX9_writeTask_68 ?_
      obtain ⟨b9, hb9, hs9, h⟩ := rf_e h
      refine jg_R hC kfX2 3 rfl hs8 (by decide) wd910 rfl hb9 dX9_writeTask_71 ?_
      refine jj_iload_n hC dX9_writeTask_74 rfl 1 rfl ?_
      obtain ⟨⟨ha10, hb10⟩, h⟩ := gd_e h
      refine jj_iald hC hs9 ha10 hb10 dX9_writeTask_75 (fun hr10 => ?_)
      obtain ⟨q11, hq11, h⟩ := bd_e h
      refine jj_invV hC mvJ4_append_bf812 wd309 wd310 wd461 hs6 (by decide) rfl (xJ4_append_bf812 (OKC.tr hC) hs6 hr10 hq11) rfl rfl (c_le rfl) (c_le rfl) (by omega) (by omega) dX9_writeTask_76 noXk (poX_k (fun hx11 => po_kA (fun hr11 => ?_)))
      refine jj_widen (k' := 1 + 4 * s10.2.2.2.2.2.2 + 4) (n' := 256 * (1 + 4 * s10.2.2.2.2.2.2 + 4)) (by omega) (by omega) ?_
      refine jj_pop hC dX9_writeTask_79 rfl ?_
      refine jg_iinc (q := 1) (lv' := [(1, .int (iI (w32 (l1_60 + 1)))), (0, .ref l0_10)]) hC dX9_writeTask_80 rfl (by decide) rfl ?_
      refine jj_goto (tgt := 10) hC dX9_writeTask_83 rfl ?_
      refine jj_widen (k' := 1 + 4 * (s10.2.2.2.2.2.2 + 1)) (n' := 256 * (1 + 4 * (s10.2.2.2.2.2.2 + 1))) (by omega) (by omega) ?_
      refine jj_lv (lv' := [(0, .ref l0_10), (1, .int (iI (w32 (l1_60 + 1))))]) [1, 0] rfl ?_
      exact hJ10 _ (Option.some.inj h).symm ⟨(w32_r _), (ext_s hx11 hl0_10_60 (by decide)), (ext_t hx60 hx11)⟩
    unfold fX9_writeTask_L10 at h
    obtain ⟨hcc10, h⟩ := gd_e h
    refine jj_iload_n hC dX9_writeTask_10 rfl 1 rfl ?_
    refine jj_aload_n hC dX9_writeTask_11 rfl 0 rfl ?_
    obtain ⟨b3, hb3, hs3, h⟩ := rf_e h
    refine jg_R hC kfX9 0 rfl hl0_10 (by decide) wd1117 rfl hb3 dX9_writeTask_12 ?_
    obtain ⟨b4, hb4, hs4, h⟩ := rf_e h
    refine jg_R hC kfX8 0 rfl hs3 (by decide) wd1037 rfl hb4 dX9_writeTask_15 ?_
    refine jg_I hC kfX2 5 rfl hs4 (by decide) wd915 rfl dX9_writeTask_18 (fun hr5 => ?_)
    refine jj_icmp_ge (tgt := 86) hC dX9_writeTask_21 rfl hs10_0 hr5 (fun hc => ?_) (fun hc => ?_)
    · replace h := (if_pos hc).symm.trans h
      refine jj_widen (k' := 33) (n' := 8448) (by omega) (by omega) ?_
      refine jj_lv (lv' := [(0, .ref l0_10)]) [0] rfl ?_
      exact hE10 _ (Option.some.inj h).symm ⟨hl0_10, hx10⟩
    · replace h := (if_neg (Int.not_le.mpr hc)).symm.trans h
      refine jj_iload_n hC dX9_writeTask_24 rfl 1 rfl ?_
      refine jj_if_le (tgt := 60) hC dX9_writeTask_25 rfl hs10_0 (fun hc => ?_) (fun hc => ?_)
      · replace h := (if_pos hc).symm.trans h
        refine jj_widen (k' := 1 + 4 * s10.2.2.2.2.2.2 + 3) (n' := 256 * (1 + 4 * s10.2.2.2.2.2.2 + 3)) (by omega) (by omega) ?_
        refine jj_lv (lv' := [(0, .ref l0_10), (1, .int (iI s10.1))]) [0, 1] rfl ?_
        exact hB60 s10.2.1 s10.2.2.1 s10.2.2.2.1 s10.2.2.2.2.1 s10.2.2.2.2.2.1 s10.1 hx10 hs10_0 hl0_10 hcc10 h
      · replace h := (if_neg (Int.not_le.mpr hc)).symm.trans h
        refine jj_aload_n hC dX9_writeTask_28 rfl 0 rfl ?_
        obtain ⟨b12, hb12, hs12, h⟩ := rf_e h
        refine jg_R hC kfX9 5 rfl hl0_10 (by decide) wd1122 rfl hb12 dX9_writeTask_29 ?_
        refine jj_bipush hC dX9_writeTask_32 (by decide) ?_
        obtain ⟨q13, hq13, h⟩ := bd_e h
        refine jj_invV hC mvJ4_append_cf468 wd465 wd466 wd464 hs12 (by decide) rfl (xJ4_append_cf468 (OKC.tr hC) hs12 (show (0 ≤ (45 : Int) ∧ (45 : Int) < 65536) from by decide) hq13) rfl rfl (c_le rfl) (c_le rfl) (by omega) (by omega) dX9_writeTask_34 noXk (poX_k (fun hx13 => po_kA (fun hr13 => ?_)))
        refine jj_widen (k' := 1 + 4 * s10.2.2.2.2.2.2 + 1) (n' := 256 * (1 + 4 * s10.2.2.2.2.2.2 + 1)) (by omega) (by omega) ?_
        refine jj_aload_n hC dX9_writeTask_37 rfl 0 rfl ?_
        obtain ⟨b14, hb14, hs14, h⟩ := rf_e h
        refine jg_R hC kfX9 0 rfl (ext_s hx13 hl0_10 (by decide)) (by decide) wd1117 rfl hb14 dX9_writeTask_38 ?_
        obtain ⟨b15, hb15, hs15, h⟩ := rf_e h
        refine jg_R hC kfX8 0 rfl hs14 (by decide) wd1037 rfl hb15 dX9_writeTask_41 ?_
        obtain ⟨b16, hb16, hs16, h⟩ := rf_e h
        refine jg_R hC kfX2 4 rfl hs15 (by decide) wd912 rfl hb16 dX9_writeTask_44 ?_
        refine jj_iload_n hC dX9_writeTask_47 rfl 1 rfl ?_
        refine jj_iconst hC dX9_writeTask_48 ?_
        refine jg_isub hC dX9_writeTask_49 ?_
        obtain ⟨⟨ha17, hb17⟩, h⟩ := gd_e h
        refine jj_iald hC hs16 ha17 hb17 dX9_writeTask_50 (fun hr17 => ?_)
        obtain ⟨q18, hq18, h⟩ := bd_e h
        refine jj_invV hC mvJ4_append_bf812 wd309 wd310 wd461 hr13 (by decide) rfl (xJ4_append_bf812 (OKC.tr hC) hr13 hr17 hq18) rfl rfl (c_le rfl) (c_le rfl) (by omega) (by omega) dX9_writeTask_51 noXk (poX_k (fun hx18 => po_kA (fun hr18 => ?_)))
        refine jj_widen (k' := 1 + 4 * s10.2.2.2.2.2.2 + 2) (n' := 256 * (1 + 4 * s10.2.2.2.2.2.2 + 2)) (by omega) (by omega) ?_
        refine jj_bipush hC dX9_writeTask_54 (by decide) ?_
        obtain ⟨q19, hq19, h⟩ := bd_e h
        refine jj_invV hC mvJ4_append_cf468 wd465 wd466 wd464 hr18 (by decide) rfl (xJ4_append_cf468 (OKC.tr hC) hr18 (show (0 ≤ (62 : Int) ∧ (62 : Int) < 65536) from by decide) hq19) rfl rfl (c_le rfl) (c_le rfl) (by omega) (by omega) dX9_writeTask_56 noXk (poX_k (fun hx19 => po_kA (fun hr19 => ?_)))
        refine jj_widen (k' := 1 + 4 * s10.2.2.2.2.2.2 + 3) (n' := 256 * (1 + 4 * s10.2.2.2.2.2.2 + 3)) (by omega) (by omega) ?_
        refine jj_pop hC dX9_writeTask_59 rfl ?_
        refine jj_widen (k' := 1 + 4 * s10.2.2.2.2.2.2 + 3) (n' := 256 * (1 + 4 * s10.2.2.2.2.2.2 + 3)) (by omega) (by omega) ?_
        refine jj_lv (lv' := [(0, .ref l0_10), (1, .int (iI s10.1))]) [0, 1] rfl ?_
        exact hB60 q19.2.1 q19.2.2.1 q19.2.2.2.1 q19.2.2.2.2.1 q19.2.2.2.2.2 s10.1 (ext_t (ext_t (ext_t hx10 hx13) hx18) hx19) hs10_0 (ext_s hx19 (ext_s hx18 (ext_s hx13 hl0_10 (by decide)) (by decide)) (by decide)) hcc10 h
  unfold fX9_writeTask at h
  refine jj_aload_n hC dX9_writeTask_0 rfl 0 rfl ?_
  obtain ⟨b1, hb1, hs1, h⟩ := rf_e h
  refine jg_R hC kfX9 5 rfl hs0 (by decide) wd1122 rfl hb1 dX9_writeTask_1 ?_
  refine jj_iconst hC dX9_writeTask_4 ?_
  obtain ⟨q2, hq2, h⟩ := bd_e h
  refine jj_invV hC mvJ4_setLength_d00df wd144 wd145 wd143 hs1 (by decide) rfl (xJ4_setLength_d00df (OKC.tr hC) hs1 (show (-2147483648 ≤ (0 : Int) ∧ (0 : Int) < 2147483648) from by decide) hq2) rfl rfl (c_le rfl) (c_le rfl) (by omega) (by omega) dX9_writeTask_5 noXk (poX_k (fun hx2 => po_kV ?_))
  refine jj_widen (k' := 1) (n' := 256) (by omega) (by omega) ?_
  refine jj_iconst hC dX9_writeTask_8 ?_
  refine jj_istore_n (lv' := [(1, .int (iI 0)), (0, .ref a0)]) hC dX9_writeTask_9 rfl (by decide) rfl ?_
  obtain ⟨q23, hq23, h⟩ := bd_e h
  refine jj_widen (k' := 1 + 4 * 0) (n' := 256 * (1 + 4 * 0)) (by omega) (by omega) ?_
  refine jj_lv (lv' := [(0, .ref a0), (1, .int (iI 0))]) [1, 0] rfl ?_
  refine hL10 a0  FU _ q23 hq23 ⟨(show (-2147483648 ≤ (0 : Int) ∧ (0 : Int) < 2147483648) from by decide), (ext_s hx2 hs0 (by decide)), hx2⟩ (fun e10_20 he23 hIE23 => ?_) (fun c23 hc23 => ?_)
  · subst he23
    replace h := el_l h
    obtain ⟨he10_20_c0, hxe10_20⟩ := hIE23
    refine jj_aload_n hC dX9_writeTask_86 rfl 0 rfl ?_
    obtain ⟨b21, hb21, hs21, h⟩ := rf_e h
    refine jg_R hC kfX9 5 rfl he10_20_c0 (by decide) wd1122 rfl hb21 dX9_writeTask_87 ?_
    obtain ⟨q22, hq22, h⟩ := bd_e h
    refine jj_invV hC mvJ4_length_8abf5 wd355 wd1578 wd501 hs21 (by decide) rfl (xJ4_length_8abf5 (OKC.tr hC) hs21 hq22) rfl rfl (c_le rfl) (c_le rfl) (by omega) (by omega) dX9_writeTask_90 noXk (po_kI (fun hr22 => ?_))
    cases h
    exact jj_iret hC (by omega) (by omega) dX9_writeTask_93 ⟨⟨rfl, hr22, rfl, rfl, rfl, rfl, rfl⟩, hxe10_20⟩
  · subst hc23
    replace h := el_r h
    exact Option.some.inj h
def fX9_undo (ad S Ln : Nat → Nat) (R : gR) (M : gM) (a0 : Nat) : Option ((Int × gM) ⊕ (String × gM)) :=
  rf S (R a0 3) 9 fun b1 => if 0 < (M b1 1) then (rf S (R a0 3) 9 fun b3 => rf S (R a0 0) 11 fun b4 => bd (fX4_takeBack ad S Ln R M b3 b4) fun q5 => rf S (R a0 3) 9 fun b6 => some (Sum.inl (q5 b6 1, q5))) else (some (Sum.inr ("java/lang/IllegalStateException", M)))
theorem xX9_undo {l : Launch} {G : gE} {sz : Nat} {S Ln : Nat → Nat} {M : gM} {R : gR} (hl : l.stackTraces = false) {a0 : Nat} (hs0 : S a0 = 12) {r : (Int × gM) ⊕ (String × gM)} (h : fX9_undo G.2.2.2.2 S Ln R M a0 = some r) : Ct l G yX9_undo cX9_undo 1 (some .int) 8 1 6 [.ref a0] sz S Ln M R (poS r (fun a => poI a.1 sz S Ln (a.2) R)) (xoS r (fun e => xo e.1 S Ln e.2 R)) := by
  refine jj_start (own := RX9) (lv0 := [(0, .ref a0)]) hl (by decide +kernel) rfl rfl (c_le rfl) (fun C hCl hC => ?_)
  unfold fX9_undo at h
  refine jj_aload_n hC dX9_undo_0 rfl 0 rfl ?_
  obtain ⟨b1, hb1, hs1, h⟩ := rf_e h
  refine jg_R hC kfX9 3 rfl hs0 (by decide) wd1120 rfl hb1 dX9_undo_1 ?_
  refine jg_I hC kfX4 1 rfl hs1 (by decide) wd1077 rfl dX9_undo_4 (fun hr2 => ?_)
  refine jj_if_gt (tgt := 21) hC dX9_undo_7 rfl hr2 (fun hc => ?_) (fun hc => ?_)
  · replace h := (if_pos hc).symm.trans h
    refine jj_aload_n hC dX9_undo_21 rfl 0 rfl ?_
    obtain ⟨b3, hb3, hs3, h⟩ := rf_e h
    refine jg_R hC kfX9 3 rfl hs0 (by decide) wd1120 rfl hb3 dX9_undo_22 ?_
    refine jj_aload_n hC dX9_undo_25 rfl 0 rfl ?_
    obtain ⟨b4, hb4, hs4, h⟩ := rf_e h
    refine jg_R hC kfX9 0 rfl hs0 (by decide) wd1117 rfl hb4 dX9_undo_26 ?_
    obtain ⟨q5, hq5, h⟩ := bd_e h
    refine jj_invV hC mvX4_takeBack wd862 wd863 wd861 hs3 (by decide) rfl (xX4_takeBack (OKC.tr hC) hs3 hs4 hq5) rfl rfl (c_le rfl) (c_le rfl) (c_le rfl) (c_le rfl) dX9_undo_29 noXk (po_kV ?_)
    refine jj_aload_n hC dX9_undo_32 rfl 0 rfl ?_
    obtain ⟨b6, hb6, hs6, h⟩ := rf_e h
    refine jg_R hC kfX9 3 rfl hs0 (by decide) wd1120 rfl hb6 dX9_undo_33 ?_
    refine jg_I hC kfX4 1 rfl hs6 (by decide) wd1077 rfl dX9_undo_36 (fun hr7 => ?_)
    cases h
    exact jj_iret hC (c_le rfl) (c_le rfl) dX9_undo_39 ⟨_, rfl, rfl, hr7, rfl, rfl, rfl, rfl, rfl⟩
  · replace h := (if_neg (Int.not_lt.mpr hc)).symm.trans h
    cases h
    exact jj_throwC hC 17 rfl (by decide +kernel) (tfit_of (by decide +kernel)) (by decide) wd582 wd43 ta_IllegalStateException92 tg_IllegalStateException92 dX9_undo_10 dX9_undo_13 dX9_undo_14 dX9_undo_17 dX9_undo_20 (c_le rfl) (c_le rfl) (c_le rfl) (c_le rfl) (fun sz7 _ => ⟨_, rfl, rfl, rfl, rfl, rfl, rfl⟩)
def fX9_save (ad S Ln : Nat → Nat) (R : gR) (M : gM) (a0 : Nat) : Option gM :=
  rf S (R a0 1) 11 fun b1 => rf S (R a0 0) 11 fun b2 => bd (fX8_copyFrom ad S Ln R M b1 b2) fun q3 => nam (wr q3 a0 6 1) fun M4 => some (M4)
theorem xX9_save {l : Launch} {G : gE} {sz : Nat} {S Ln : Nat → Nat} {M : gM} {R : gR} (hl : l.stackTraces = false) {a0 : Nat} (hs0 : S a0 = 12) {r : gM} (h : fX9_save G.2.2.2.2 S Ln R M a0 = some r) : Ct l G yX9_save cX9_save 1 none 3 0 0 [.ref a0] sz S Ln M R (poV sz S Ln (r) R) noX := by
  refine jj_start (own := RX9) (lv0 := [(0, .ref a0)]) hl (by decide +kernel) rfl rfl (c_le rfl) (fun C hCl hC => ?_)
  unfold fX9_save at h
  refine jj_aload_n hC dX9_save_0 rfl 0 rfl ?_
  obtain ⟨b1, hb1, hs1, h⟩ := rf_e h
  refine jg_R hC kfX9 1 rfl hs0 (by decide) wd1118 rfl hb1 dX9_save_1 ?_
  refine jj_aload_n hC dX9_save_4 rfl 0 rfl ?_
  obtain ⟨b2, hb2, hs2, h⟩ := rf_e h
  refine jg_R hC kfX9 0 rfl hs0 (by decide) wd1117 rfl hb2 dX9_save_5 ?_
  obtain ⟨q3, hq3, h⟩ := bd_e h
  refine jj_invV hC mvX8_copyFrom wd511 wd512 wd510 hs1 (by decide) rfl (xX8_copyFrom (OKC.tr hC) hs1 hs2 hq3) rfl rfl (c_le rfl) (c_le rfl) (c_le rfl) (c_le rfl) dX9_save_8 noXk (po_kV ?_)
  refine jj_aload_n hC dX9_save_11 rfl 0 rfl ?_
  refine jj_iconst hC dX9_save_12 ?_
  obtain ⟨M4, hM4, h⟩ := nam_e h
  refine jp_Z hC kfX9 6 rfl hs0 rfl (by decide) wd1123 rfl rfl rfl (show (0 ≤ (1 : Int) ∧ (1 : Int) ≤ 1) from by decide) dX9_save_13 (jj_M hM4 ?_)
  cases h
  exact jj_vret hC (c_le rfl) (c_le rfl) dX9_save_16 ⟨rfl, trivial, rfl, rfl, rfl, rfl, rfl⟩
def fX9_restore (ad S Ln : Nat → Nat) (R : gR) (M : gM) (a0 : Nat) : Option ((gM) ⊕ (String × gM)) :=
  if ¬ (M a0 6) = 0 then (rf S (R a0 0) 11 fun b2 => rf S (R a0 1) 11 fun b3 => bd (fX8_copyFrom ad S Ln R M b2 b3) fun q4 => rf S (R a0 3) 9 fun b5 => nam (wr q4 b5 1 0) fun M6 => some (Sum.inl M6)) else (some (Sum.inr ("java/lang/IllegalStateException", M)))
theorem xX9_restore {l : Launch} {G : gE} {sz : Nat} {S Ln : Nat → Nat} {M : gM} {R : gR} (hl : l.stackTraces = false) {a0 : Nat} (hs0 : S a0 = 12) {r : (gM) ⊕ (String × gM)} (h : fX9_restore G.2.2.2.2 S Ln R M a0 = some r) : Ct l G yX9_restore cX9_restore 1 none 8 1 6 [.ref a0] sz S Ln M R (poS r (fun a => poV sz S Ln (a) R)) (xoS r (fun e => xo e.1 S Ln e.2 R)) := by
  refine jj_start (own := RX9) (lv0 := [(0, .ref a0)]) hl (by decide +kernel) rfl rfl (c_le rfl) (fun C hCl hC => ?_)
  unfold fX9_restore at h
  refine jj_aload_n hC dX9_restore_0 rfl 0 rfl ?_
  refine jg_Z hC kfX9 6 rfl hs0 (by decide) wd1123 rfl dX9_restore_1 (fun hr1 => ?_)
  refine jj_if_ne (tgt := 18) hC dX9_restore_4 rfl (r_z hr1) (fun hc => ?_) (fun hc => ?_)
  · replace h := (if_pos hc).symm.trans h
    refine jj_aload_n hC dX9_restore_18 rfl 0 rfl ?_
    obtain ⟨b2, hb2, hs2, h⟩ := rf_e h
    refine jg_R hC kfX9 0 rfl hs0 (by decide) wd1117 rfl hb2 dX9_restore_19 ?_
    refine jj_aload_n hC dX9_restore_22 rfl 0 rfl ?_
    obtain ⟨b3, hb3, hs3, h⟩ := rf_e h
    refine jg_R hC kfX9 1 rfl hs0 (by decide) wd1118 rfl hb3 dX9_restore_23 ?_
    obtain ⟨q4, hq4, h⟩ := bd_e h
    refine jj_invV hC mvX8_copyFrom wd511 wd512 wd510 hs2 (by decide) rfl (xX8_copyFrom (OKC.tr hC) hs2 hs3 hq4) rfl rfl (c_le rfl) (c_le rfl) (c_le rfl) (c_le rfl) dX9_restore_26 noXk (po_kV ?_)
    refine jj_aload_n hC dX9_restore_29 rfl 0 rfl ?_
    obtain ⟨b5, hb5, hs5, h⟩ := rf_e h
    refine jg_R hC kfX9 3 rfl hs0 (by decide) wd1120 rfl hb5 dX9_restore_30 ?_
    refine jj_iconst hC dX9_restore_33 ?_
    obtain ⟨M6, hM6, h⟩ := nam_e h
    refine jp_I hC kfX4 1 rfl hs5 rfl (by decide) wd1077 rfl rfl rfl (show (-2147483648 ≤ (0 : Int) ∧ (0 : Int) < 2147483648) from by decide) dX9_restore_34 (jj_M hM6 ?_)
    cases h
    exact jj_vret hC (c_le rfl) (c_le rfl) dX9_restore_37 ⟨_, rfl, rfl, trivial, rfl, rfl, rfl, rfl, rfl⟩
  · replace h := (if_neg (fun k => k hc)).symm.trans h
    cases h
    exact jj_throwC hC 18 rfl (by decide +kernel) (tfit_of (by decide +kernel)) (by decide) wd582 wd43 ta_IllegalStateException92 tg_IllegalStateException92 dX9_restore_7 dX9_restore_10 dX9_restore_11 dX9_restore_14 dX9_restore_17 (c_le rfl) (c_le rfl) (c_le rfl) (c_le rfl) (fun sz7 _ => ⟨_, rfl, rfl, rfl, rfl, rfl, rfl⟩)
