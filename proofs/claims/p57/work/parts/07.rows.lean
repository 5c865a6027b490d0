theorem j8_i2c {x : Int} (h : 0 ≤ x ∧ x < 65536) : ((iI x).toUInt32 % 65536).toInt32 = iI x := by
  rw [jj_nI h.1]
  have e := pk_char (nI x.toNat)
  rw [e]
  have e2 : (nI x.toNat).toBitVec.toNat = x.toNat := pk_tn (by omega)
  rw [e2, Nat.mod_eq_of_lt (by omega)]
theorem j8_i2b {x : Int} (h : -128 ≤ x ∧ x < 128) : (iI x).toInt8.toInt32 = iI x := by
  rw [← Int32.toInt_inj, Int8.toInt_toInt32, Int32.toInt_toInt8, iI_toInt (by omega)]
  have h8 : Int8.size = 256 := rfl
  exact Int.bmod_eq_of_le (by omega) (by omega)
theorem j8_lcmp {x y : Int} (hx : (-9223372036854775808 ≤ x ∧ x < 9223372036854775808)) (hy : (-9223372036854775808 ≤ y ∧ y < 9223372036854775808)) : lg_cmp (lI x) (lI y) = iI (if x < y then -1 else if x = y then 0 else 1) := by
  unfold lg_cmp
  simp only [gt_iff_lt, lI_lt hy hx, lI_eq hx hy]
  rcases Int.lt_trichotomy x y with h | h | h
  · rw [if_neg (by omega), if_neg (by omega), if_pos h]; rfl
  · rw [if_neg (by omega), if_pos h, if_neg (by omega), if_pos h]; rfl
  · rw [if_pos h, if_neg (by omega), if_neg (by omega)]; rfl

section JJI
variable {G : gE} {C : gC} {own : String} {cc : ByteArray} {nL : Nat} {ret : Option FieldType} {fr mc ms : Nat} {P : gP} {X : gX} {k n sz : Nat} {S Ln : Nat → Nat} {M : gM} {R : gR} {pc : Nat} {lv lv' : List (Nat × Value)} {st : List Value}
theorem jj_iconst (hC : OKC G C own cc nL ret fr mc ms P X) {z : Int} (hd : decode cc pc = .ok (.iconst z, 1))  (kk : JJ G C k n sz S Ln M R (pc + 1) lv (.int (iI z) :: st)) : JJ G C k n sz S Ln M R pc lv (st) := by
  obtain ⟨p, l, e, Rm, s, m, args, below, meth, c, Q⟩ := C
  obtain ⟨hx, hb, hml, hown, hts, hE, hlk, hrt, hst, hRm, hQ, htab, hz⟩ := hC
  intro H locs ls hR hS hl
  exact lv_iconst hx hb hd rfl (kk H locs ls hR hS hl)

theorem jj_bipush (hC : OKC G C own cc nL ret fr mc ms P X) {z : Int} (hd : decode cc pc = .ok (.bipush z, 2)) (hz8 : -128 ≤ z ∧ z < 128) (kk : JJ G C k n sz S Ln M R (pc + 2) lv (.int (iI z) :: st)) : JJ G C k n sz S Ln M R pc lv (st) := by
  obtain ⟨p, l, e, Rm, s, m, args, below, meth, c, Q⟩ := C
  obtain ⟨hx, hb, hml, hown, hts, hE, hlk, hrt, hst, hRm, hQ, htab, hz⟩ := hC
  intro H locs ls hR hS hl
  exact lv_bipush hx hb hd (jj_i8 hz8) (kk H locs ls hR hS hl)

theorem jj_sipush (hC : OKC G C own cc nL ret fr mc ms P X) {z : Int} (hd : decode cc pc = .ok (.sipush z, 3)) (hz16 : -32768 ≤ z ∧ z < 32768) (kk : JJ G C k n sz S Ln M R (pc + 3) lv (.int (iI z) :: st)) : JJ G C k n sz S Ln M R pc lv (st) := by
  obtain ⟨p, l, e, Rm, s, m, args, below, meth, c, Q⟩ := C
  obtain ⟨hx, hb, hml, hown, hts, hE, hlk, hrt, hst, hRm, hQ, htab, hz⟩ := hC
  intro H locs ls hR hS hl
  exact lv_sipush hx hb hd (jj_i16 hz16) (kk H locs ls hR hS hl)

theorem jj_lconst (hC : OKC G C own cc nL ret fr mc ms P X) {j : Fin 2} {z : Int} (hd : decode cc pc = .ok (.lconst j, 1)) (hj : ((j : Nat) : Int) = z) (kk : JJ G C k n sz S Ln M R (pc + 1) lv (.long (lI z) :: st)) : JJ G C k n sz S Ln M R pc lv (st) := by
  obtain ⟨p, l, e, Rm, s, m, args, below, meth, c, Q⟩ := C
  obtain ⟨hx, hb, hml, hown, hts, hE, hlk, hrt, hst, hRm, hQ, htab, hz⟩ := hC
  intro H locs ls hR hS hl
  subst hj; exact lv_lconst hx hb hd rfl (kk H locs ls hR hS hl)

theorem jj_iload_n (hC : OKC G C own cc nL ret fr mc ms P X) {j : Fin 4} {i : Nat} {x : Int32} (hd : decode cc pc = .ok (.iload_n j, 1)) (hi : (j : Nat) = i) (q : Nat) (hq : lv[q]? = some (i, .int x)) (kk : JJ G C k n sz S Ln M R (pc + 1) lv (.int x :: st)) : JJ G C k n sz S Ln M R pc lv (st) := by
  obtain ⟨p, l, e, Rm, s, m, args, below, meth, c, Q⟩ := C
  obtain ⟨hx, hb, hml, hown, hts, hE, hlk, hrt, hst, hRm, hQ, htab, hz⟩ := hC
  intro H locs ls hR hS hl
  exact lv_iload_n hx hb hd hi (lv_at hl q hq) (kk H locs ls hR hS hl)

theorem jj_iload (hC : OKC G C own cc nL ret fr mc ms P X) {i : Nat} {x : Int32} (hd : decode cc pc = .ok (.iload i, 2)) (q : Nat) (hq : lv[q]? = some (i, .int x)) (kk : JJ G C k n sz S Ln M R (pc + 2) lv (.int x :: st)) : JJ G C k n sz S Ln M R pc lv (st) := by
  obtain ⟨p, l, e, Rm, s, m, args, below, meth, c, Q⟩ := C
  obtain ⟨hx, hb, hml, hown, hts, hE, hlk, hrt, hst, hRm, hQ, htab, hz⟩ := hC
  intro H locs ls hR hS hl
  exact lv_iload hx hb hd (lv_at hl q hq) (kk H locs ls hR hS hl)

theorem jj_lload_n (hC : OKC G C own cc nL ret fr mc ms P X) {j : Fin 4} {i : Nat} {x : Int64} (hd : decode cc pc = .ok (.lload_n j, 1)) (hi : (j : Nat) = i) (q : Nat) (hq : lv[q]? = some (i, .long x)) (kk : JJ G C k n sz S Ln M R (pc + 1) lv (.long x :: st)) : JJ G C k n sz S Ln M R pc lv (st) := by
  obtain ⟨p, l, e, Rm, s, m, args, below, meth, c, Q⟩ := C
  obtain ⟨hx, hb, hml, hown, hts, hE, hlk, hrt, hst, hRm, hQ, htab, hz⟩ := hC
  intro H locs ls hR hS hl
  exact lv_lload_n hx hb hd hi (lv_at hl q hq) (kk H locs ls hR hS hl)

theorem jj_lload (hC : OKC G C own cc nL ret fr mc ms P X) {i : Nat} {x : Int64} (hd : decode cc pc = .ok (.lload i, 2)) (q : Nat) (hq : lv[q]? = some (i, .long x)) (kk : JJ G C k n sz S Ln M R (pc + 2) lv (.long x :: st)) : JJ G C k n sz S Ln M R pc lv (st) := by
  obtain ⟨p, l, e, Rm, s, m, args, below, meth, c, Q⟩ := C
  obtain ⟨hx, hb, hml, hown, hts, hE, hlk, hrt, hst, hRm, hQ, htab, hz⟩ := hC
  intro H locs ls hR hS hl
  exact lv_lload hx hb hd (lv_at hl q hq) (kk H locs ls hR hS hl)

theorem jj_fload_n (hC : OKC G C own cc nL ret fr mc ms P X) {j : Fin 4} {i : Nat} {x : UInt32} (hd : decode cc pc = .ok (.fload_n j, 1)) (hi : (j : Nat) = i) (q : Nat) (hq : lv[q]? = some (i, .float x)) (kk : JJ G C k n sz S Ln M R (pc + 1) lv (.float x :: st)) : JJ G C k n sz S Ln M R pc lv (st) := by
  obtain ⟨p, l, e, Rm, s, m, args, below, meth, c, Q⟩ := C
  obtain ⟨hx, hb, hml, hown, hts, hE, hlk, hrt, hst, hRm, hQ, htab, hz⟩ := hC
  intro H locs ls hR hS hl
  exact lv_fload_n hx hb hd hi (lv_at hl q hq) (kk H locs ls hR hS hl)

theorem jj_fload (hC : OKC G C own cc nL ret fr mc ms P X) {i : Nat} {x : UInt32} (hd : decode cc pc = .ok (.fload i, 2)) (q : Nat) (hq : lv[q]? = some (i, .float x)) (kk : JJ G C k n sz S Ln M R (pc + 2) lv (.float x :: st)) : JJ G C k n sz S Ln M R pc lv (st) := by
  obtain ⟨p, l, e, Rm, s, m, args, below, meth, c, Q⟩ := C
  obtain ⟨hx, hb, hml, hown, hts, hE, hlk, hrt, hst, hRm, hQ, htab, hz⟩ := hC
  intro H locs ls hR hS hl
  exact lv_fload hx hb hd (lv_at hl q hq) (kk H locs ls hR hS hl)

theorem jj_dload_n (hC : OKC G C own cc nL ret fr mc ms P X) {j : Fin 4} {i : Nat} {x : UInt64} (hd : decode cc pc = .ok (.dload_n j, 1)) (hi : (j : Nat) = i) (q : Nat) (hq : lv[q]? = some (i, .double x)) (kk : JJ G C k n sz S Ln M R (pc + 1) lv (.double x :: st)) : JJ G C k n sz S Ln M R pc lv (st) := by
  obtain ⟨p, l, e, Rm, s, m, args, below, meth, c, Q⟩ := C
  obtain ⟨hx, hb, hml, hown, hts, hE, hlk, hrt, hst, hRm, hQ, htab, hz⟩ := hC
  intro H locs ls hR hS hl
  exact lv_dload_n hx hb hd hi (lv_at hl q hq) (kk H locs ls hR hS hl)

theorem jj_dload (hC : OKC G C own cc nL ret fr mc ms P X) {i : Nat} {x : UInt64} (hd : decode cc pc = .ok (.dload i, 2)) (q : Nat) (hq : lv[q]? = some (i, .double x)) (kk : JJ G C k n sz S Ln M R (pc + 2) lv (.double x :: st)) : JJ G C k n sz S Ln M R pc lv (st) := by
  obtain ⟨p, l, e, Rm, s, m, args, below, meth, c, Q⟩ := C
  obtain ⟨hx, hb, hml, hown, hts, hE, hlk, hrt, hst, hRm, hQ, htab, hz⟩ := hC
  intro H locs ls hR hS hl
  exact lv_dload hx hb hd (lv_at hl q hq) (kk H locs ls hR hS hl)

theorem jj_aload_n (hC : OKC G C own cc nL ret fr mc ms P X) {j : Fin 4} {i : Nat} {x : Nat} (hd : decode cc pc = .ok (.aload_n j, 1)) (hi : (j : Nat) = i) (q : Nat) (hq : lv[q]? = some (i, .ref x)) (kk : JJ G C k n sz S Ln M R (pc + 1) lv (.ref x :: st)) : JJ G C k n sz S Ln M R pc lv (st) := by
  obtain ⟨p, l, e, Rm, s, m, args, below, meth, c, Q⟩ := C
  obtain ⟨hx, hb, hml, hown, hts, hE, hlk, hrt, hst, hRm, hQ, htab, hz⟩ := hC
  intro H locs ls hR hS hl
  exact lv_aload_n hx hb hd hi (lv_at hl q hq) (kk H locs ls hR hS hl)

theorem jj_aload (hC : OKC G C own cc nL ret fr mc ms P X) {i : Nat} {x : Nat} (hd : decode cc pc = .ok (.aload i, 2)) (q : Nat) (hq : lv[q]? = some (i, .ref x)) (kk : JJ G C k n sz S Ln M R (pc + 2) lv (.ref x :: st)) : JJ G C k n sz S Ln M R pc lv (st) := by
  obtain ⟨p, l, e, Rm, s, m, args, below, meth, c, Q⟩ := C
  obtain ⟨hx, hb, hml, hown, hts, hE, hlk, hrt, hst, hRm, hQ, htab, hz⟩ := hC
  intro H locs ls hR hS hl
  exact lv_aload hx hb hd (lv_at hl q hq) (kk H locs ls hR hS hl)

theorem jj_istore_n (hC : OKC G C own cc nL ret fr mc ms P X) {j : Fin 4} {i : Nat} {x : Int32} {lv' : List (Nat × Value)} (hd : decode cc pc = .ok (.istore_n j, 1)) (hi : (j : Nat) = i) (hn : i < nL) (hl2 : (i, Value.int x) :: lv.filter (fun q => !(q.1 == i) && !(q.1 + 1 == i && q.2.category == 2)) = lv') (kk : JJ G C k n sz S Ln M R (pc + 1) lv' (st)) : JJ G C k n sz S Ln M R pc lv (.int x :: st) := by
  obtain ⟨p, l, e, Rm, s, m, args, below, meth, c, Q⟩ := C
  obtain ⟨hx, hb, hml, hown, hts, hE, hlk, hrt, hst, hRm, hQ, htab, hz⟩ := hC
  intro H locs ls hR hS hl
  exact lv_istore_n hx hb hd hi hl (by rw [hml]; exact hn) hl2 (fun ls' hl' => kk H locs ls' hR hS hl')

theorem jj_istore (hC : OKC G C own cc nL ret fr mc ms P X) {i : Nat} {x : Int32} {lv' : List (Nat × Value)} (hd : decode cc pc = .ok (.istore i, 2)) (hn : i < nL) (hl2 : (i, Value.int x) :: lv.filter (fun q => !(q.1 == i) && !(q.1 + 1 == i && q.2.category == 2)) = lv') (kk : JJ G C k n sz S Ln M R (pc + 2) lv' (st)) : JJ G C k n sz S Ln M R pc lv (.int x :: st) := by
  obtain ⟨p, l, e, Rm, s, m, args, below, meth, c, Q⟩ := C
  obtain ⟨hx, hb, hml, hown, hts, hE, hlk, hrt, hst, hRm, hQ, htab, hz⟩ := hC
  intro H locs ls hR hS hl
  exact lv_istore hx hb hd hl (by rw [hml]; exact hn) hl2 (fun ls' hl' => kk H locs ls' hR hS hl')

theorem jj_lstore_n (hC : OKC G C own cc nL ret fr mc ms P X) {j : Fin 4} {i : Nat} {x : Int64} {lv' : List (Nat × Value)} (hd : decode cc pc = .ok (.lstore_n j, 1)) (hi : (j : Nat) = i) (hn : i + 1 < nL) (hl2 : (i, Value.long x) :: lv.filter (fun q => !(q.1 == i) && (!(q.1 == i + 1) && !(q.1 + 1 == i && q.2.category == 2))) = lv') (kk : JJ G C k n sz S Ln M R (pc + 1) lv' (st)) : JJ G C k n sz S Ln M R pc lv (.long x :: st) := by
  obtain ⟨p, l, e, Rm, s, m, args, below, meth, c, Q⟩ := C
  obtain ⟨hx, hb, hml, hown, hts, hE, hlk, hrt, hst, hRm, hQ, htab, hz⟩ := hC
  intro H locs ls hR hS hl
  exact lv_lstore_n hx hb hd hi hl (by rw [hml]; exact hn) hl2 (fun ls' hl' => kk H locs ls' hR hS hl')

theorem jj_lstore (hC : OKC G C own cc nL ret fr mc ms P X) {i : Nat} {x : Int64} {lv' : List (Nat × Value)} (hd : decode cc pc = .ok (.lstore i, 2)) (hn : i + 1 < nL) (hl2 : (i, Value.long x) :: lv.filter (fun q => !(q.1 == i) && (!(q.1 == i + 1) && !(q.1 + 1 == i && q.2.category == 2))) = lv') (kk : JJ G C k n sz S Ln M R (pc + 2) lv' (st)) : JJ G C k n sz S Ln M R pc lv (.long x :: st) := by
  obtain ⟨p, l, e, Rm, s, m, args, below, meth, c, Q⟩ := C
  obtain ⟨hx, hb, hml, hown, hts, hE, hlk, hrt, hst, hRm, hQ, htab, hz⟩ := hC
  intro H locs ls hR hS hl
  exact lv_lstore hx hb hd hl (by rw [hml]; exact hn) hl2 (fun ls' hl' => kk H locs ls' hR hS hl')

theorem jj_fstore_n (hC : OKC G C own cc nL ret fr mc ms P X) {j : Fin 4} {i : Nat} {x : UInt32} {lv' : List (Nat × Value)} (hd : decode cc pc = .ok (.fstore_n j, 1)) (hi : (j : Nat) = i) (hn : i < nL) (hl2 : (i, Value.float x) :: lv.filter (fun q => !(q.1 == i) && !(q.1 + 1 == i && q.2.category == 2)) = lv') (kk : JJ G C k n sz S Ln M R (pc + 1) lv' (st)) : JJ G C k n sz S Ln M R pc lv (.float x :: st) := by
  obtain ⟨p, l, e, Rm, s, m, args, below, meth, c, Q⟩ := C
  obtain ⟨hx, hb, hml, hown, hts, hE, hlk, hrt, hst, hRm, hQ, htab, hz⟩ := hC
  intro H locs ls hR hS hl
  exact lv_fstore_n hx hb hd hi hl (by rw [hml]; exact hn) hl2 (fun ls' hl' => kk H locs ls' hR hS hl')

theorem jj_fstore (hC : OKC G C own cc nL ret fr mc ms P X) {i : Nat} {x : UInt32} {lv' : List (Nat × Value)} (hd : decode cc pc = .ok (.fstore i, 2)) (hn : i < nL) (hl2 : (i, Value.float x) :: lv.filter (fun q => !(q.1 == i) && !(q.1 + 1 == i && q.2.category == 2)) = lv') (kk : JJ G C k n sz S Ln M R (pc + 2) lv' (st)) : JJ G C k n sz S Ln M R pc lv (.float x :: st) := by
  obtain ⟨p, l, e, Rm, s, m, args, below, meth, c, Q⟩ := C
  obtain ⟨hx, hb, hml, hown, hts, hE, hlk, hrt, hst, hRm, hQ, htab, hz⟩ := hC
  intro H locs ls hR hS hl
  exact lv_fstore hx hb hd hl (by rw [hml]; exact hn) hl2 (fun ls' hl' => kk H locs ls' hR hS hl')

theorem jj_dstore_n (hC : OKC G C own cc nL ret fr mc ms P X) {j : Fin 4} {i : Nat} {x : UInt64} {lv' : List (Nat × Value)} (hd : decode cc pc = .ok (.dstore_n j, 1)) (hi : (j : Nat) = i) (hn : i + 1 < nL) (hl2 : (i, Value.double x) :: lv.filter (fun q => !(q.1 == i) && (!(q.1 == i + 1) && !(q.1 + 1 == i && q.2.category == 2))) = lv') (kk : JJ G C k n sz S Ln M R (pc + 1) lv' (st)) : JJ G C k n sz S Ln M R pc lv (.double x :: st) := by
  obtain ⟨p, l, e, Rm, s, m, args, below, meth, c, Q⟩ := C
  obtain ⟨hx, hb, hml, hown, hts, hE, hlk, hrt, hst, hRm, hQ, htab, hz⟩ := hC
  intro H locs ls hR hS hl
  exact lv_dstore_n hx hb hd hi hl (by rw [hml]; exact hn) hl2 (fun ls' hl' => kk H locs ls' hR hS hl')

theorem jj_dstore (hC : OKC G C own cc nL ret fr mc ms P X) {i : Nat} {x : UInt64} {lv' : List (Nat × Value)} (hd : decode cc pc = .ok (.dstore i, 2)) (hn : i + 1 < nL) (hl2 : (i, Value.double x) :: lv.filter (fun q => !(q.1 == i) && (!(q.1 == i + 1) && !(q.1 + 1 == i && q.2.category == 2))) = lv') (kk : JJ G C k n sz S Ln M R (pc + 2) lv' (st)) : JJ G C k n sz S Ln M R pc lv (.double x :: st) := by
  obtain ⟨p, l, e, Rm, s, m, args, below, meth, c, Q⟩ := C
  obtain ⟨hx, hb, hml, hown, hts, hE, hlk, hrt, hst, hRm, hQ, htab, hz⟩ := hC
  intro H locs ls hR hS hl
  exact lv_dstore hx hb hd hl (by rw [hml]; exact hn) hl2 (fun ls' hl' => kk H locs ls' hR hS hl')

theorem jj_astore_n (hC : OKC G C own cc nL ret fr mc ms P X) {j : Fin 4} {i : Nat} {x : Nat} {lv' : List (Nat × Value)} (hd : decode cc pc = .ok (.astore_n j, 1)) (hi : (j : Nat) = i) (hn : i < nL) (hl2 : (i, Value.ref x) :: lv.filter (fun q => !(q.1 == i) && !(q.1 + 1 == i && q.2.category == 2)) = lv') (kk : JJ G C k n sz S Ln M R (pc + 1) lv' (st)) : JJ G C k n sz S Ln M R pc lv (.ref x :: st) := by
  obtain ⟨p, l, e, Rm, s, m, args, below, meth, c, Q⟩ := C
  obtain ⟨hx, hb, hml, hown, hts, hE, hlk, hrt, hst, hRm, hQ, htab, hz⟩ := hC
  intro H locs ls hR hS hl
  exact lv_astore_n hx hb hd hi hl (by rw [hml]; exact hn) hl2 (fun ls' hl' => kk H locs ls' hR hS hl')

theorem jj_astore (hC : OKC G C own cc nL ret fr mc ms P X) {i : Nat} {x : Nat} {lv' : List (Nat × Value)} (hd : decode cc pc = .ok (.astore i, 2)) (hn : i < nL) (hl2 : (i, Value.ref x) :: lv.filter (fun q => !(q.1 == i) && !(q.1 + 1 == i && q.2.category == 2)) = lv') (kk : JJ G C k n sz S Ln M R (pc + 2) lv' (st)) : JJ G C k n sz S Ln M R pc lv (.ref x :: st) := by
  obtain ⟨p, l, e, Rm, s, m, args, below, meth, c, Q⟩ := C
  obtain ⟨hx, hb, hml, hown, hts, hE, hlk, hrt, hst, hRm, hQ, htab, hz⟩ := hC
  intro H locs ls hR hS hl
  exact lv_astore hx hb hd hl (by rw [hml]; exact hn) hl2 (fun ls' hl' => kk H locs ls' hR hS hl')

theorem jj_iinc (hC : OKC G C own cc nL ret fr mc ms P X) {i q : Nat} {z x : Int} {lv' : List (Nat × Value)} (hd : decode cc pc = .ok (.iinc i z, 3)) (hq : lv[q]? = some (i, .int (iI x))) (hn : i < nL) (hl2 : (i, Value.int (iI (x + z))) :: lv.filter (fun q => !(q.1 == i) && !(q.1 + 1 == i && q.2.category == 2)) = lv') (kk : JJ G C k n sz S Ln M R (pc + 3) lv' (st)) : JJ G C k n sz S Ln M R pc lv (st) := by
  obtain ⟨p, l, e, Rm, s, m, args, below, meth, c, Q⟩ := C
  obtain ⟨hx, hb, hml, hown, hts, hE, hlk, hrt, hst, hRm, hQ, htab, hz⟩ := hC
  intro H locs ls hR hS hl
  exact lv_iinc hx hb hd hl hq (iI_add x z) (by rw [hml]; exact hn) hl2 (fun ls' hl' => kk H locs ls' hR hS hl')

theorem jj_iadd (hC : OKC G C own cc nL ret fr mc ms P X) {x y : Int} (hd : decode cc pc = .ok (.iadd, 1))  (kk : JJ G C k n sz S Ln M R (pc + 1) lv (.int (iI (x + y)) :: st)) : JJ G C k n sz S Ln M R pc lv (.int (iI y) :: .int (iI x) :: st) := by
  obtain ⟨p, l, e, Rm, s, m, args, below, meth, c, Q⟩ := C
  obtain ⟨hx, hb, hml, hown, hts, hE, hlk, hrt, hst, hRm, hQ, htab, hz⟩ := hC
  intro H locs ls hR hS hl
  exact lv_iadd hx hb hd (by rw [iI_add]; exact (kk H locs ls hR hS hl))

theorem jj_isub (hC : OKC G C own cc nL ret fr mc ms P X) {x y : Int} (hd : decode cc pc = .ok (.isub, 1))  (kk : JJ G C k n sz S Ln M R (pc + 1) lv (.int (iI (x - y)) :: st)) : JJ G C k n sz S Ln M R pc lv (.int (iI y) :: .int (iI x) :: st) := by
  obtain ⟨p, l, e, Rm, s, m, args, below, meth, c, Q⟩ := C
  obtain ⟨hx, hb, hml, hown, hts, hE, hlk, hrt, hst, hRm, hQ, htab, hz⟩ := hC
  intro H locs ls hR hS hl
  exact lv_isub hx hb hd (by rw [iI_sub]; exact (kk H locs ls hR hS hl))

theorem jj_imul (hC : OKC G C own cc nL ret fr mc ms P X) {x y : Int} (hd : decode cc pc = .ok (.imul, 1))  (kk : JJ G C k n sz S Ln M R (pc + 1) lv (.int (iI (x * y)) :: st)) : JJ G C k n sz S Ln M R pc lv (.int (iI y) :: .int (iI x) :: st) := by
  obtain ⟨p, l, e, Rm, s, m, args, below, meth, c, Q⟩ := C
  obtain ⟨hx, hb, hml, hown, hts, hE, hlk, hrt, hst, hRm, hQ, htab, hz⟩ := hC
  intro H locs ls hR hS hl
  exact lv_imul hx hb hd (by rw [iI_mul]; exact (kk H locs ls hR hS hl))

theorem jj_ineg (hC : OKC G C own cc nL ret fr mc ms P X) {x : Int} (hd : decode cc pc = .ok (.ineg, 1))  (kk : JJ G C k n sz S Ln M R (pc + 1) lv (.int (iI (-x)) :: st)) : JJ G C k n sz S Ln M R pc lv (.int (iI x) :: st) := by
  obtain ⟨p, l, e, Rm, s, m, args, below, meth, c, Q⟩ := C
  obtain ⟨hx, hb, hml, hown, hts, hE, hlk, hrt, hst, hRm, hQ, htab, hz⟩ := hC
  intro H locs ls hR hS hl
  exact lv_ineg hx hb hd (by rw [iI_neg]; exact (kk H locs ls hR hS hl))

theorem jj_idiv (hC : OKC G C own cc nL ret fr mc ms P X) {x y : Int} (hd : decode cc pc = .ok (.idiv, 1)) (hrx : (-2147483648 ≤ x ∧ x < 2147483648)) (hry : (-2147483648 ≤ y ∧ y < 2147483648)) (h0 : 0 < y) (kk : JJ G C k n sz S Ln M R (pc + 1) lv (.int (iI (Int.tdiv x y)) :: st)) : JJ G C k n sz S Ln M R pc lv (.int (iI y) :: .int (iI x) :: st) := by
  obtain ⟨p, l, e, Rm, s, m, args, below, meth, c, Q⟩ := C
  obtain ⟨hx, hb, hml, hown, hts, hE, hlk, hrt, hst, hRm, hQ, htab, hz⟩ := hC
  intro H locs ls hR hS hl
  exact lv_idiv hx hb hd (jj_ne0 hry h0) (by rw [iI_div hrx hry h0]; exact (kk H locs ls hR hS hl))

theorem jj_irem (hC : OKC G C own cc nL ret fr mc ms P X) {x y : Int} (hd : decode cc pc = .ok (.irem, 1)) (hrx : (-2147483648 ≤ x ∧ x < 2147483648)) (hry : (-2147483648 ≤ y ∧ y < 2147483648)) (h0 : 0 < y) (kk : JJ G C k n sz S Ln M R (pc + 1) lv (.int (iI (Int.tmod x y)) :: st)) : JJ G C k n sz S Ln M R pc lv (.int (iI y) :: .int (iI x) :: st) := by
  obtain ⟨p, l, e, Rm, s, m, args, below, meth, c, Q⟩ := C
  obtain ⟨hx, hb, hml, hown, hts, hE, hlk, hrt, hst, hRm, hQ, htab, hz⟩ := hC
  intro H locs ls hR hS hl
  exact lv_irem hx hb hd (jj_ne0 hry h0) (by rw [iI_rem hrx hry h0]; exact (kk H locs ls hR hS hl))

theorem jj_iand (hC : OKC G C own cc nL ret fr mc ms P X) {x y v : Int32} (hd : decode cc pc = .ok (.iand, 1)) (hv : x &&& y = v) (kk : JJ G C k n sz S Ln M R (pc + 1) lv (.int v :: st)) : JJ G C k n sz S Ln M R pc lv (.int y :: .int x :: st) := by
  obtain ⟨p, l, e, Rm, s, m, args, below, meth, c, Q⟩ := C
  obtain ⟨hx, hb, hml, hown, hts, hE, hlk, hrt, hst, hRm, hQ, htab, hz⟩ := hC
  intro H locs ls hR hS hl
  subst hv; exact lv_iand hx hb hd (kk H locs ls hR hS hl)

theorem jj_ior (hC : OKC G C own cc nL ret fr mc ms P X) {x y v : Int32} (hd : decode cc pc = .ok (.ior, 1)) (hv : x ||| y = v) (kk : JJ G C k n sz S Ln M R (pc + 1) lv (.int v :: st)) : JJ G C k n sz S Ln M R pc lv (.int y :: .int x :: st) := by
  obtain ⟨p, l, e, Rm, s, m, args, below, meth, c, Q⟩ := C
  obtain ⟨hx, hb, hml, hown, hts, hE, hlk, hrt, hst, hRm, hQ, htab, hz⟩ := hC
  intro H locs ls hR hS hl
  subst hv; exact lv_ior hx hb hd (kk H locs ls hR hS hl)

theorem jj_ishl (hC : OKC G C own cc nL ret fr mc ms P X) {x y v : Int32} (hd : decode cc pc = .ok (.ishl, 1)) (hv : x <<< (y &&& 31) = v) (kk : JJ G C k n sz S Ln M R (pc + 1) lv (.int v :: st)) : JJ G C k n sz S Ln M R pc lv (.int y :: .int x :: st) := by
  obtain ⟨p, l, e, Rm, s, m, args, below, meth, c, Q⟩ := C
  obtain ⟨hx, hb, hml, hown, hts, hE, hlk, hrt, hst, hRm, hQ, htab, hz⟩ := hC
  intro H locs ls hR hS hl
  subst hv; exact lv_ishl hx hb hd (kk H locs ls hR hS hl)

theorem jj_ishr (hC : OKC G C own cc nL ret fr mc ms P X) {x y v : Int32} (hd : decode cc pc = .ok (.ishr, 1)) (hv : x >>> (y &&& 31) = v) (kk : JJ G C k n sz S Ln M R (pc + 1) lv (.int v :: st)) : JJ G C k n sz S Ln M R pc lv (.int y :: .int x :: st) := by
  obtain ⟨p, l, e, Rm, s, m, args, below, meth, c, Q⟩ := C
  obtain ⟨hx, hb, hml, hown, hts, hE, hlk, hrt, hst, hRm, hQ, htab, hz⟩ := hC
  intro H locs ls hR hS hl
  subst hv; exact lv_ishr hx hb hd (kk H locs ls hR hS hl)

theorem jj_iushr (hC : OKC G C own cc nL ret fr mc ms P X) {x y v : Int32} (hd : decode cc pc = .ok (.iushr, 1)) (hv : (x.toUInt32 >>> (y.toUInt32 &&& Int32.toUInt32 31)).toInt32 = v) (kk : JJ G C k n sz S Ln M R (pc + 1) lv (.int v :: st)) : JJ G C k n sz S Ln M R pc lv (.int y :: .int x :: st) := by
  obtain ⟨p, l, e, Rm, s, m, args, below, meth, c, Q⟩ := C
  obtain ⟨hx, hb, hml, hown, hts, hE, hlk, hrt, hst, hRm, hQ, htab, hz⟩ := hC
  intro H locs ls hR hS hl
  exact lv_iushr hx hb hd hv (kk H locs ls hR hS hl)

theorem jj_i2l (hC : OKC G C own cc nL ret fr mc ms P X) {x : Int} (hd : decode cc pc = .ok (.i2l, 1)) (hrx : (-2147483648 ≤ x ∧ x < 2147483648)) (kk : JJ G C k n sz S Ln M R (pc + 1) lv (.long (lI x) :: st)) : JJ G C k n sz S Ln M R pc lv (.int (iI x) :: st) := by
  obtain ⟨p, l, e, Rm, s, m, args, below, meth, c, Q⟩ := C
  obtain ⟨hx, hb, hml, hown, hts, hE, hlk, hrt, hst, hRm, hQ, htab, hz⟩ := hC
  intro H locs ls hR hS hl
  exact lv_i2l hx hb hd (iI_l hrx) (kk H locs ls hR hS hl)

theorem jj_i2cS (hC : OKC G C own cc nL ret fr mc ms P X) {x : Int32} {v : Int} (hd : decode cc pc = .ok (.i2c, 1)) (hv : (x.toUInt32 % 65536).toInt32 = iI v) (kk : JJ G C k n sz S Ln M R (pc + 1) lv (.int (iI v) :: st)) : JJ G C k n sz S Ln M R pc lv (.int x :: st) := by
  obtain ⟨p, l, e, Rm, s, m, args, below, meth, c, Q⟩ := C
  obtain ⟨hx, hb, hml, hown, hts, hE, hlk, hrt, hst, hRm, hQ, htab, hz⟩ := hC
  intro H locs ls hR hS hl
  exact lv_i2c hx hb hd hv (kk H locs ls hR hS hl)

theorem jj_i2c (hC : OKC G C own cc nL ret fr mc ms P X) {x : Int} (hd : decode cc pc = .ok (.i2c, 1)) (hrx : 0 ≤ x ∧ x < 65536) (kk : JJ G C k n sz S Ln M R (pc + 1) lv (.int (iI x) :: st)) : JJ G C k n sz S Ln M R pc lv (.int (iI x) :: st) := by
  obtain ⟨p, l, e, Rm, s, m, args, below, meth, c, Q⟩ := C
  obtain ⟨hx, hb, hml, hown, hts, hE, hlk, hrt, hst, hRm, hQ, htab, hz⟩ := hC
  intro H locs ls hR hS hl
  exact lv_i2c hx hb hd (j8_i2c hrx) (kk H locs ls hR hS hl)

theorem jj_i2b (hC : OKC G C own cc nL ret fr mc ms P X) {x : Int} (hd : decode cc pc = .ok (.i2b, 1)) (hrx : -128 ≤ x ∧ x < 128) (kk : JJ G C k n sz S Ln M R (pc + 1) lv (.int (iI x) :: st)) : JJ G C k n sz S Ln M R pc lv (.int (iI x) :: st) := by
  obtain ⟨p, l, e, Rm, s, m, args, below, meth, c, Q⟩ := C
  obtain ⟨hx, hb, hml, hown, hts, hE, hlk, hrt, hst, hRm, hQ, htab, hz⟩ := hC
  intro H locs ls hR hS hl
  exact lv_i2b hx hb hd (j8_i2b hrx) (kk H locs ls hR hS hl)

theorem jj_ladd (hC : OKC G C own cc nL ret fr mc ms P X) {x y : Int} (hd : decode cc pc = .ok (.ladd, 1))  (kk : JJ G C k n sz S Ln M R (pc + 1) lv (.long (lI (x + y)) :: st)) : JJ G C k n sz S Ln M R pc lv (.long (lI y) :: .long (lI x) :: st) := by
  obtain ⟨p, l, e, Rm, s, m, args, below, meth, c, Q⟩ := C
  obtain ⟨hx, hb, hml, hown, hts, hE, hlk, hrt, hst, hRm, hQ, htab, hz⟩ := hC
  intro H locs ls hR hS hl
  exact lv_ladd hx hb hd (by rw [lI_add]; exact (kk H locs ls hR hS hl))

theorem jj_lcmp (hC : OKC G C own cc nL ret fr mc ms P X) {x y : Int} (hd : decode cc pc = .ok (.lcmp, 1)) (hrx : (-9223372036854775808 ≤ x ∧ x < 9223372036854775808)) (hry : (-9223372036854775808 ≤ y ∧ y < 9223372036854775808)) (kk : JJ G C k n sz S Ln M R (pc + 1) lv (.int (iI (if x < y then -1 else if x = y then 0 else 1)) :: st)) : JJ G C k n sz S Ln M R pc lv (.long (lI y) :: .long (lI x) :: st) := by
  obtain ⟨p, l, e, Rm, s, m, args, below, meth, c, Q⟩ := C
  obtain ⟨hx, hb, hml, hown, hts, hE, hlk, hrt, hst, hRm, hQ, htab, hz⟩ := hC
  intro H locs ls hR hS hl
  exact W.lcmp hx hb hd (by rw [j8_lcmp hrx hry]; exact (kk H locs ls hR hS hl))

theorem jj_dup (hC : OKC G C own cc nL ret fr mc ms P X) {v : Value} (hd : decode cc pc = .ok (.dup, 1)) (hv : v.category = 1) (kk : JJ G C k n sz S Ln M R (pc + 1) lv (v :: v :: st)) : JJ G C k n sz S Ln M R pc lv (v :: st) := by
  obtain ⟨p, l, e, Rm, s, m, args, below, meth, c, Q⟩ := C
  obtain ⟨hx, hb, hml, hown, hts, hE, hlk, hrt, hst, hRm, hQ, htab, hz⟩ := hC
  intro H locs ls hR hS hl
  exact lv_dup hx hb hd hv (kk H locs ls hR hS hl)

theorem jj_pop (hC : OKC G C own cc nL ret fr mc ms P X) {v : Value} (hd : decode cc pc = .ok (.pop, 1)) (hv : v.category = 1) (kk : JJ G C k n sz S Ln M R (pc + 1) lv (st)) : JJ G C k n sz S Ln M R pc lv (v :: st) := by
  obtain ⟨p, l, e, Rm, s, m, args, below, meth, c, Q⟩ := C
  obtain ⟨hx, hb, hml, hown, hts, hE, hlk, hrt, hst, hRm, hQ, htab, hz⟩ := hC
  intro H locs ls hR hS hl
  exact lv_pop hx hb hd hv (kk H locs ls hR hS hl)

theorem jj_dup_x1 (hC : OKC G C own cc nL ret fr mc ms P X) {v w : Value} (hd : decode cc pc = .ok (.dup_x1, 1)) (hv : v.category = 1) (hw : w.category = 1) (kk : JJ G C k n sz S Ln M R (pc + 1) lv (v :: w :: v :: st)) : JJ G C k n sz S Ln M R pc lv (v :: w :: st) := by
  obtain ⟨p, l, e, Rm, s, m, args, below, meth, c, Q⟩ := C
  obtain ⟨hx, hb, hml, hown, hts, hE, hlk, hrt, hst, hRm, hQ, htab, hz⟩ := hC
  intro H locs ls hR hS hl
  exact lv_dup_x1 hx hb hd hv hw (kk H locs ls hR hS hl)

theorem jj_dup2 (hC : OKC G C own cc nL ret fr mc ms P X) {v w : Value} (hd : decode cc pc = .ok (.dup2, 1)) (hv : v.category = 1) (hw : w.category = 1) (kk : JJ G C k n sz S Ln M R (pc + 1) lv (v :: w :: v :: w :: st)) : JJ G C k n sz S Ln M R pc lv (v :: w :: st) := by
  obtain ⟨p, l, e, Rm, s, m, args, below, meth, c, Q⟩ := C
  obtain ⟨hx, hb, hml, hown, hts, hE, hlk, hrt, hst, hRm, hQ, htab, hz⟩ := hC
  intro H locs ls hR hS hl
  exact lv_dup2_11 hx hb hd hv hw (kk H locs ls hR hS hl)

theorem jj_goto (hC : OKC G C own cc nL ret fr mc ms P X) {off : Int} {tgt : Nat} (hd : decode cc pc = .ok (.goto off, 3)) (ht : (pc : Int) + off = (tgt : Int)) (kk : JJ G C k n sz S Ln M R tgt lv (st)) : JJ G C k n sz S Ln M R pc lv (st) := by
  obtain ⟨p, l, e, Rm, s, m, args, below, meth, c, Q⟩ := C
  obtain ⟨hx, hb, hml, hown, hts, hE, hlk, hrt, hst, hRm, hQ, htab, hz⟩ := hC
  intro H locs ls hR hS hl
  exact lv_goto hx hb hd ht (kk H locs ls hR hS hl)

theorem jj_if_eq (hC : OKC G C own cc nL ret fr mc ms P X) {x off : Int} {tgt : Nat} (hd : decode cc pc = .ok (.ifCond .eq off, 3)) (ht : (pc : Int) + off = (tgt : Int)) (hrx : (-2147483648 ≤ x ∧ x < 2147483648)) (kt : x = 0 → JJ G C k n sz S Ln M R tgt lv (st)) (kf : ¬ x = 0 → JJ G C k n sz S Ln M R (pc + 3) lv (st)) : JJ G C k n sz S Ln M R pc lv (.int (iI x) :: st) := by
  obtain ⟨p, l, e, Rm, s, m, args, below, meth, c, Q⟩ := C
  obtain ⟨hx, hb, hml, hown, hts, hE, hlk, hrt, hst, hRm, hQ, htab, hz⟩ := hC
  intro H locs ls hR hS hl
  refine lv_if_eq hx hb hd ht (fun h => kt ?_ H locs ls hR hS hl) (fun h => kf ?_ H locs ls hR hS hl)
  all_goals
    simp only [iI_0, gt_iff_lt, ge_iff_le, ne_eq, iI_lt hrx jj_r0, iI_lt jj_r0 hrx, iI_le hrx jj_r0, iI_le jj_r0 hrx, iI_eq hrx jj_r0] at h
    omega

theorem jj_icmp_eq (hC : OKC G C own cc nL ret fr mc ms P X) {x y off : Int} {tgt : Nat} (hd : decode cc pc = .ok (.if_icmp .eq off, 3)) (ht : (pc : Int) + off = (tgt : Int)) (hrx : (-2147483648 ≤ x ∧ x < 2147483648)) (hry : (-2147483648 ≤ y ∧ y < 2147483648)) (kt : x = y → JJ G C k n sz S Ln M R tgt lv (st)) (kf : ¬ x = y → JJ G C k n sz S Ln M R (pc + 3) lv (st)) : JJ G C k n sz S Ln M R pc lv (.int (iI y) :: .int (iI x) :: st) := by
  obtain ⟨p, l, e, Rm, s, m, args, below, meth, c, Q⟩ := C
  obtain ⟨hx, hb, hml, hown, hts, hE, hlk, hrt, hst, hRm, hQ, htab, hz⟩ := hC
  intro H locs ls hR hS hl
  refine lv_icmp_eq hx hb hd ht (fun h => kt ?_ H locs ls hR hS hl) (fun h => kf ?_ H locs ls hR hS hl)
  all_goals
    simp only [gt_iff_lt, ge_iff_le, ne_eq, iI_lt hrx hry, iI_lt hry hrx, iI_le hrx hry, iI_le hry hrx, iI_eq hrx hry] at h
    omega

theorem jj_if_ne (hC : OKC G C own cc nL ret fr mc ms P X) {x off : Int} {tgt : Nat} (hd : decode cc pc = .ok (.ifCond .ne off, 3)) (ht : (pc : Int) + off = (tgt : Int)) (hrx : (-2147483648 ≤ x ∧ x < 2147483648)) (kt : ¬ x = 0 → JJ G C k n sz S Ln M R tgt lv (st)) (kf : x = 0 → JJ G C k n sz S Ln M R (pc + 3) lv (st)) : JJ G C k n sz S Ln M R pc lv (.int (iI x) :: st) := by
  obtain ⟨p, l, e, Rm, s, m, args, below, meth, c, Q⟩ := C
  obtain ⟨hx, hb, hml, hown, hts, hE, hlk, hrt, hst, hRm, hQ, htab, hz⟩ := hC
  intro H locs ls hR hS hl
  refine lv_if_ne hx hb hd ht (fun h => kt ?_ H locs ls hR hS hl) (fun h => kf ?_ H locs ls hR hS hl)
  all_goals
    simp only [iI_0, gt_iff_lt, ge_iff_le, ne_eq, iI_lt hrx jj_r0, iI_lt jj_r0 hrx, iI_le hrx jj_r0, iI_le jj_r0 hrx, iI_eq hrx jj_r0] at h
    omega

theorem jj_icmp_ne (hC : OKC G C own cc nL ret fr mc ms P X) {x y off : Int} {tgt : Nat} (hd : decode cc pc = .ok (.if_icmp .ne off, 3)) (ht : (pc : Int) + off = (tgt : Int)) (hrx : (-2147483648 ≤ x ∧ x < 2147483648)) (hry : (-2147483648 ≤ y ∧ y < 2147483648)) (kt : ¬ x = y → JJ G C k n sz S Ln M R tgt lv (st)) (kf : x = y → JJ G C k n sz S Ln M R (pc + 3) lv (st)) : JJ G C k n sz S Ln M R pc lv (.int (iI y) :: .int (iI x) :: st) := by
  obtain ⟨p, l, e, Rm, s, m, args, below, meth, c, Q⟩ := C
  obtain ⟨hx, hb, hml, hown, hts, hE, hlk, hrt, hst, hRm, hQ, htab, hz⟩ := hC
  intro H locs ls hR hS hl
  refine lv_icmp_ne hx hb hd ht (fun h => kt ?_ H locs ls hR hS hl) (fun h => kf ?_ H locs ls hR hS hl)
  all_goals
    simp only [gt_iff_lt, ge_iff_le, ne_eq, iI_lt hrx hry, iI_lt hry hrx, iI_le hrx hry, iI_le hry hrx, iI_eq hrx hry] at h
    omega

theorem jj_if_lt (hC : OKC G C own cc nL ret fr mc ms P X) {x off : Int} {tgt : Nat} (hd : decode cc pc = .ok (.ifCond .lt off, 3)) (ht : (pc : Int) + off = (tgt : Int)) (hrx : (-2147483648 ≤ x ∧ x < 2147483648)) (kt : x < 0 → JJ G C k n sz S Ln M R tgt lv (st)) (kf : 0 ≤ x → JJ G C k n sz S Ln M R (pc + 3) lv (st)) : JJ G C k n sz S Ln M R pc lv (.int (iI x) :: st) := by
  obtain ⟨p, l, e, Rm, s, m, args, below, meth, c, Q⟩ := C
  obtain ⟨hx, hb, hml, hown, hts, hE, hlk, hrt, hst, hRm, hQ, htab, hz⟩ := hC
  intro H locs ls hR hS hl
  refine lv_if_lt hx hb hd ht (fun h => kt ?_ H locs ls hR hS hl) (fun h => kf ?_ H locs ls hR hS hl)
  all_goals
    simp only [iI_0, gt_iff_lt, ge_iff_le, ne_eq, iI_lt hrx jj_r0, iI_lt jj_r0 hrx, iI_le hrx jj_r0, iI_le jj_r0 hrx, iI_eq hrx jj_r0] at h
    omega

theorem jj_icmp_lt (hC : OKC G C own cc nL ret fr mc ms P X) {x y off : Int} {tgt : Nat} (hd : decode cc pc = .ok (.if_icmp .lt off, 3)) (ht : (pc : Int) + off = (tgt : Int)) (hrx : (-2147483648 ≤ x ∧ x < 2147483648)) (hry : (-2147483648 ≤ y ∧ y < 2147483648)) (kt : x < y → JJ G C k n sz S Ln M R tgt lv (st)) (kf : y ≤ x → JJ G C k n sz S Ln M R (pc + 3) lv (st)) : JJ G C k n sz S Ln M R pc lv (.int (iI y) :: .int (iI x) :: st) := by
  obtain ⟨p, l, e, Rm, s, m, args, below, meth, c, Q⟩ := C
  obtain ⟨hx, hb, hml, hown, hts, hE, hlk, hrt, hst, hRm, hQ, htab, hz⟩ := hC
  intro H locs ls hR hS hl
  refine lv_icmp_lt hx hb hd ht (fun h => kt ?_ H locs ls hR hS hl) (fun h => kf ?_ H locs ls hR hS hl)
  all_goals
    simp only [gt_iff_lt, ge_iff_le, ne_eq, iI_lt hrx hry, iI_lt hry hrx, iI_le hrx hry, iI_le hry hrx, iI_eq hrx hry] at h
    omega

theorem jj_if_ge (hC : OKC G C own cc nL ret fr mc ms P X) {x off : Int} {tgt : Nat} (hd : decode cc pc = .ok (.ifCond .ge off, 3)) (ht : (pc : Int) + off = (tgt : Int)) (hrx : (-2147483648 ≤ x ∧ x < 2147483648)) (kt : 0 ≤ x → JJ G C k n sz S Ln M R tgt lv (st)) (kf : x < 0 → JJ G C k n sz S Ln M R (pc + 3) lv (st)) : JJ G C k n sz S Ln M R pc lv (.int (iI x) :: st) := by
  obtain ⟨p, l, e, Rm, s, m, args, below, meth, c, Q⟩ := C
  obtain ⟨hx, hb, hml, hown, hts, hE, hlk, hrt, hst, hRm, hQ, htab, hz⟩ := hC
  intro H locs ls hR hS hl
  refine lv_if_ge hx hb hd ht (fun h => kt ?_ H locs ls hR hS hl) (fun h => kf ?_ H locs ls hR hS hl)
  all_goals
    simp only [iI_0, gt_iff_lt, ge_iff_le, ne_eq, iI_lt hrx jj_r0, iI_lt jj_r0 hrx, iI_le hrx jj_r0, iI_le jj_r0 hrx, iI_eq hrx jj_r0] at h
    omega

theorem jj_icmp_ge (hC : OKC G C own cc nL ret fr mc ms P X) {x y off : Int} {tgt : Nat} (hd : decode cc pc = .ok (.if_icmp .ge off, 3)) (ht : (pc : Int) + off = (tgt : Int)) (hrx : (-2147483648 ≤ x ∧ x < 2147483648)) (hry : (-2147483648 ≤ y ∧ y < 2147483648)) (kt : y ≤ x → JJ G C k n sz S Ln M R tgt lv (st)) (kf : x < y → JJ G C k n sz S Ln M R (pc + 3) lv (st)) : JJ G C k n sz S Ln M R pc lv (.int (iI y) :: .int (iI x) :: st) := by
  obtain ⟨p, l, e, Rm, s, m, args, below, meth, c, Q⟩ := C
  obtain ⟨hx, hb, hml, hown, hts, hE, hlk, hrt, hst, hRm, hQ, htab, hz⟩ := hC
  intro H locs ls hR hS hl
  refine lv_icmp_ge hx hb hd ht (fun h => kt ?_ H locs ls hR hS hl) (fun h => kf ?_ H locs ls hR hS hl)
  all_goals
    simp only [gt_iff_lt, ge_iff_le, ne_eq, iI_lt hrx hry, iI_lt hry hrx, iI_le hrx hry, iI_le hry hrx, iI_eq hrx hry] at h
    omega

theorem jj_if_gt (hC : OKC G C own cc nL ret fr mc ms P X) {x off : Int} {tgt : Nat} (hd : decode cc pc = .ok (.ifCond .gt off, 3)) (ht : (pc : Int) + off = (tgt : Int)) (hrx : (-2147483648 ≤ x ∧ x < 2147483648)) (kt : 0 < x → JJ G C k n sz S Ln M R tgt lv (st)) (kf : x ≤ 0 → JJ G C k n sz S Ln M R (pc + 3) lv (st)) : JJ G C k n sz S Ln M R pc lv (.int (iI x) :: st) := by
  obtain ⟨p, l, e, Rm, s, m, args, below, meth, c, Q⟩ := C
  obtain ⟨hx, hb, hml, hown, hts, hE, hlk, hrt, hst, hRm, hQ, htab, hz⟩ := hC
  intro H locs ls hR hS hl
  refine lv_if_gt hx hb hd ht (fun h => kt ?_ H locs ls hR hS hl) (fun h => kf ?_ H locs ls hR hS hl)
  all_goals
    simp only [iI_0, gt_iff_lt, ge_iff_le, ne_eq, iI_lt hrx jj_r0, iI_lt jj_r0 hrx, iI_le hrx jj_r0, iI_le jj_r0 hrx, iI_eq hrx jj_r0] at h
    omega

theorem jj_icmp_gt (hC : OKC G C own cc nL ret fr mc ms P X) {x y off : Int} {tgt : Nat} (hd : decode cc pc = .ok (.if_icmp .gt off, 3)) (ht : (pc : Int) + off = (tgt : Int)) (hrx : (-2147483648 ≤ x ∧ x < 2147483648)) (hry : (-2147483648 ≤ y ∧ y < 2147483648)) (kt : y < x → JJ G C k n sz S Ln M R tgt lv (st)) (kf : x ≤ y → JJ G C k n sz S Ln M R (pc + 3) lv (st)) : JJ G C k n sz S Ln M R pc lv (.int (iI y) :: .int (iI x) :: st) := by
  obtain ⟨p, l, e, Rm, s, m, args, below, meth, c, Q⟩ := C
  obtain ⟨hx, hb, hml, hown, hts, hE, hlk, hrt, hst, hRm, hQ, htab, hz⟩ := hC
  intro H locs ls hR hS hl
  refine lv_icmp_gt hx hb hd ht (fun h => kt ?_ H locs ls hR hS hl) (fun h => kf ?_ H locs ls hR hS hl)
  all_goals
    simp only [gt_iff_lt, ge_iff_le, ne_eq, iI_lt hrx hry, iI_lt hry hrx, iI_le hrx hry, iI_le hry hrx, iI_eq hrx hry] at h
    omega

theorem jj_if_le (hC : OKC G C own cc nL ret fr mc ms P X) {x off : Int} {tgt : Nat} (hd : decode cc pc = .ok (.ifCond .le off, 3)) (ht : (pc : Int) + off = (tgt : Int)) (hrx : (-2147483648 ≤ x ∧ x < 2147483648)) (kt : x ≤ 0 → JJ G C k n sz S Ln M R tgt lv (st)) (kf : 0 < x → JJ G C k n sz S Ln M R (pc + 3) lv (st)) : JJ G C k n sz S Ln M R pc lv (.int (iI x) :: st) := by
  obtain ⟨p, l, e, Rm, s, m, args, below, meth, c, Q⟩ := C
  obtain ⟨hx, hb, hml, hown, hts, hE, hlk, hrt, hst, hRm, hQ, htab, hz⟩ := hC
  intro H locs ls hR hS hl
  refine lv_if_le hx hb hd ht (fun h => kt ?_ H locs ls hR hS hl) (fun h => kf ?_ H locs ls hR hS hl)
  all_goals
    simp only [iI_0, gt_iff_lt, ge_iff_le, ne_eq, iI_lt hrx jj_r0, iI_lt jj_r0 hrx, iI_le hrx jj_r0, iI_le jj_r0 hrx, iI_eq hrx jj_r0] at h
    omega

theorem jj_icmp_le (hC : OKC G C own cc nL ret fr mc ms P X) {x y off : Int} {tgt : Nat} (hd : decode cc pc = .ok (.if_icmp .le off, 3)) (ht : (pc : Int) + off = (tgt : Int)) (hrx : (-2147483648 ≤ x ∧ x < 2147483648)) (hry : (-2147483648 ≤ y ∧ y < 2147483648)) (kt : x ≤ y → JJ G C k n sz S Ln M R tgt lv (st)) (kf : y < x → JJ G C k n sz S Ln M R (pc + 3) lv (st)) : JJ G C k n sz S Ln M R pc lv (.int (iI y) :: .int (iI x) :: st) := by
  obtain ⟨p, l, e, Rm, s, m, args, below, meth, c, Q⟩ := C
  obtain ⟨hx, hb, hml, hown, hts, hE, hlk, hrt, hst, hRm, hQ, htab, hz⟩ := hC
  intro H locs ls hR hS hl
  refine lv_icmp_le hx hb hd ht (fun h => kt ?_ H locs ls hR hS hl) (fun h => kf ?_ H locs ls hR hS hl)
  all_goals
    simp only [gt_iff_lt, ge_iff_le, ne_eq, iI_lt hrx hry, iI_lt hry hrx, iI_le hrx hry, iI_le hry hrx, iI_eq hrx hry] at h
    omega

theorem jj_acmp_eq (hC : OKC G C own cc nL ret fr mc ms P X) {rx ry : Nat} {off : Int} {tgt : Nat} (hd : decode cc pc = .ok (.if_acmp .eq off, 3)) (ht : (pc : Int) + off = (tgt : Int)) (kt : rx = ry → JJ G C k n sz S Ln M R tgt lv (st)) (kf : ¬ rx = ry → JJ G C k n sz S Ln M R (pc + 3) lv (st)) : JJ G C k n sz S Ln M R pc lv (.ref ry :: .ref rx :: st) := by
  obtain ⟨p, l, e, Rm, s, m, args, below, meth, c, Q⟩ := C
  obtain ⟨hx, hb, hml, hown, hts, hE, hlk, hrt, hst, hRm, hQ, htab, hz⟩ := hC
  intro H locs ls hR hS hl
  exact lv_acmp_eq (rx := some rx) (ry := some ry) hx hb hd ht (fun h => kt (by simpa using h) H locs ls hR hS hl) (fun h => kf (by simpa using h) H locs ls hR hS hl)

theorem jj_acmp_ne (hC : OKC G C own cc nL ret fr mc ms P X) {rx ry : Nat} {off : Int} {tgt : Nat} (hd : decode cc pc = .ok (.if_acmp .ne off, 3)) (ht : (pc : Int) + off = (tgt : Int)) (kt : ¬ rx = ry → JJ G C k n sz S Ln M R tgt lv (st)) (kf : rx = ry → JJ G C k n sz S Ln M R (pc + 3) lv (st)) : JJ G C k n sz S Ln M R pc lv (.ref ry :: .ref rx :: st) := by
  obtain ⟨p, l, e, Rm, s, m, args, below, meth, c, Q⟩ := C
  obtain ⟨hx, hb, hml, hown, hts, hE, hlk, hrt, hst, hRm, hQ, htab, hz⟩ := hC
  intro H locs ls hR hS hl
  exact lv_acmp_ne (rx := some rx) (ry := some ry) hx hb hd ht (fun h => kt (by simpa using h) H locs ls hR hS hl) (fun h => kf (by simpa using h) H locs ls hR hS hl)

theorem jj_tblIn (hC : OKC G C own cc nL ret fr mc ms P X) {dflt lo hi x off : Int} {offs : Array Int} {len tgt : Nat} (hd : decode cc pc = .ok (.tableswitch dflt lo hi offs, len)) (hrx : (-2147483648 ≤ x ∧ x < 2147483648)) (h1 : lo ≤ x) (h2 : x ≤ hi) (ho : offs[(x - lo).toNat]? = some off) (ht : (pc : Int) + off = (tgt : Int)) (kk : JJ G C k n sz S Ln M R tgt lv (st)) : JJ G C k n sz S Ln M R pc lv (.int (iI x) :: st) := by
  obtain ⟨p, l, e, Rm, s, m, args, below, meth, c, Q⟩ := C
  obtain ⟨hx, hb, hml, hown, hts, hE, hlk, hrt, hst, hRm, hQ, htab, hz⟩ := hC
  intro H locs ls hR hS hl
  exact lv_tableIn hx hb hd (by rw [iI_toInt hrx]; omega) (by rw [iI_toInt hrx]; omega) (by rw [iI_toInt hrx]; exact ho) ht (kk H locs ls hR hS hl)

theorem jj_tblOut (hC : OKC G C own cc nL ret fr mc ms P X) {dflt lo hi x : Int} {offs : Array Int} {len tgt : Nat} (hd : decode cc pc = .ok (.tableswitch dflt lo hi offs, len)) (hrx : (-2147483648 ≤ x ∧ x < 2147483648)) (h1 : x < lo ∨ hi < x) (ht : (pc : Int) + dflt = (tgt : Int)) (kk : JJ G C k n sz S Ln M R tgt lv (st)) : JJ G C k n sz S Ln M R pc lv (.int (iI x) :: st) := by
  obtain ⟨p, l, e, Rm, s, m, args, below, meth, c, Q⟩ := C
  obtain ⟨hx, hb, hml, hown, hts, hE, hlk, hrt, hst, hRm, hQ, htab, hz⟩ := hC
  intro H locs ls hR hS hl
  exact lv_tableOut hx hb hd (by rw [iI_toInt hrx]; exact h1) ht (kk H locs ls hR hS hl)

end JJI
