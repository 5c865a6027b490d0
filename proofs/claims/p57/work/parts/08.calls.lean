theorem j8_fitB {z : Int} (h : -128 ≤ z ∧ z < 128) : fits .byte (.int (iI z)) = true := by
  have a : (-128 : Int32) ≤ iI z := (iI_le (x := -128) ⟨by omega, by omega⟩ ⟨by omega, by omega⟩).mpr h.1
  have b : iI z ≤ (127 : Int32) := (iI_le (y := 127) ⟨by omega, by omega⟩ ⟨by omega, by omega⟩).mpr (by omega)
  show (decide ((-128 : Int32) ≤ iI z) && decide (iI z ≤ (127 : Int32))) = true
  rw [decide_eq_true a, decide_eq_true b]; rfl
theorem Rep.arr {G : gE} {sz : Nat} {S Ln : Nat → Nat} {M : gM} {R : gR} {H : Heap} (h : Rep G sz S Ln M R H) {a kd : Nat} (hs : S a = kd) (hk : 20 ≤ kd) (hro : gm_ro kd = false := by rfl) : H[a]? = some (arrV (G.2.2.1 kd) (Ln a) (gm_f G S M R a)) ∧ (gm_ro kd = false → G.2.2.2.1 ≤ a) ∧ (∀ j : Nat, gm_rng (gm_fty kd j) (M a (j : Int))) ∧ Ln a < 2147483648 := by
  obtain ⟨g1, g2, g3, g5, g4⟩ := h.2 a (by omega)
  unfold gm_cell at g4
  rw [hs, if_neg (by omega)] at g4
  rw [hs] at g2 g3
  rcases g4 with g4 | ⟨g4, -⟩
  · exact ⟨g4, g2, g3, g5⟩
  · rw [hro] at g4; cases g4
/-- a row that may be one that is read alone -/
theorem Rep.arq {G : gE} {sz : Nat} {S Ln : Nat → Nat} {M : gM} {R : gR} {H : Heap} (h : Rep G sz S Ln M R H) {a kd : Nat} (hs : S a = kd) (hk : 20 ≤ kd) : (∃ cell : Cell, H[a]? = some cell ∧ cell.cls = G.2.2.1 kd ∧ (Ln a ≤ cell.slots.size ∧ cell.slots.size.toInt32 = Int32.ofNat (Ln a) ∧ ∀ j : Nat, j < Ln a → cell.slots[j]? = some (gm_f G S M R a j)) ∧ cell.vm ≠ .unknown ∧ cell.vm.isStatics = false) ∧ (∀ j : Nat, gm_rng (gm_fty kd j) (M a (j : Int))) ∧ Ln a < 2147483648 := by
  obtain ⟨g1, g2, g3, g5, g4⟩ := h.2 a (by omega)
  unfold gm_cell at g4
  rw [hs, if_neg (by omega)] at g4
  rw [hs] at g3
  rcases g4 with g4 | ⟨-, g4⟩
  · exact ⟨⟨_, g4, rfl, ⟨by rw [arrV_size]; exact Nat.le_refl _, congrArg Nat.toInt32 (arrV_size _ _ _), fun j hj => arrV_read _ _ hj⟩, (fun q => nomatch q), rfl⟩, g3, g5⟩
  · exact ⟨g4, g3, g5⟩
theorem arq_of {s : State} {cA : ClassId} {ty : FieldType} (h : ArrOfT s cA ty) {cell : Cell} (hc : cell.cls = cA) (hv : cell.vm.isStatics = false) : s.isArrayOf cell ty :=
  ⟨fun k q => by rw [q] at hv; exact absurd (show true = false from hv) (by decide), by rw [hc]; exact (h 0 (fun _ => .null)).2⟩
theorem Rep.over {G : gE} {sz : Nat} {S Ln : Nat → Nat} {M : gM} {R : gR} {H H1 : Heap} (h : Rep G sz S Ln M R H) {b : Nat} {z : Int → Int} {r : Int → Option Nat} (ha : S b ≠ 0) (e : H1.size = H.size) (o : ∀ q : Nat, q ≠ b → H1[q]? = H[q]?) (hz : ∀ k : Nat, gm_rng (gm_fty (S b) k) (z k))
    (hc : gm_cell G (S b) (Ln b) (fun k => gm_val G.2.2.2.2 (gm_fty (S b) k) (z k) (r k)) b H1) : Rep G sz S Ln (ua M b z) (ua R b r) H1 := by
  refine ⟨e.trans h.1, fun c hb => ?_⟩
  obtain ⟨h1, h2, h3, h5, h4⟩ := h.2 c hb
  by_cases hba : c = b
  · subst hba
    refine ⟨h1, h2, fun j => by rw [ua_s]; exact hz j, h5, ?_⟩
    have hf : gm_f G S (ua M c z) (ua R c r) c = fun k : Nat => gm_val G.2.2.2.2 (gm_fty (S c) k) (z k) (r k) := by
      funext j
      unfold gm_f
      rw [ua_s, ua_s]
    rw [hf]; exact hc
  · refine ⟨h1, h2, fun j => by rw [ua_n hba]; exact h3 j, h5, ?_⟩
    have hf : gm_f G S (ua M b z) (ua R b r) c = gm_f G S M R c := by
      funext j
      unfold gm_f
      rw [ua_n hba, ua_n hba]
    rw [hf]
    exact gm_cell.kept h4 (o c hba)
section JJA
variable {G : gE} {C : gC} {own : String} {cc : ByteArray} {nL : Nat} {ret : Option FieldType} {fr mc ms : Nat} {P : gP} {X : gX} {k n sz : Nat} {S Ln : Nat → Nat} {M : gM} {R : gR} {pc : Nat} {lv lv' : List (Nat × Value)} {st : List Value}
theorem jj_iald (hC : OKC G C own cc nL ret fr mc ms P X) {a : Nat} {i : Int} (hs : S a = 20) (h0 : 0 ≤ i) (h1 : i < Ln a) (hd : decode cc pc = .ok (.iaload, 1)) (kk : (-2147483648 ≤ M a i ∧ M a i < 2147483648) → JJ G C k n sz S Ln M R (pc + 1) lv (.int (iI (M a i)) :: st)) : JJ G C k n sz S Ln M R pc lv (.int (iI i) :: .ref a :: st) := by
  obtain ⟨p, l, e, Rm, s, m, args, below, meth, c, Q⟩ := C
  obtain ⟨hx, hb, hml, hown, hts, hE, hlk, hrt, hst, hRm, hQ, htab, hz⟩ := hC
  intro H locs ls hR hS hl
  obtain ⟨j, rfl⟩ : ∃ j : Nat, i = j := ⟨i.toNat, by omega⟩
  obtain ⟨hc, hA, hr3, hln⟩ := hR.arr hs (by omega)
  have hcl : (iI (j : Int)).toNatClampNeg = j := by rw [iI_clamp (by omega) (by omega)]; rfl
  refine W.iald hx hb (v := .int (iI (M a (j : Int)))) hc ((hE.1.2 0 _ rfl).1 _ _) (fun q => by cases q) (by rw [arrV_size]; exact iI_in h0 h1 hln) ?_ rfl rfl hd (kk (hr3 j) H locs ls hR hS hl)
  rw [hcl, arrV_read _ _ (by omega)]
  unfold gm_f
  rw [hs]
  rfl

theorem jj_lald (hC : OKC G C own cc nL ret fr mc ms P X) {a : Nat} {i : Int} (hs : S a = 21) (h0 : 0 ≤ i) (h1 : i < Ln a) (hd : decode cc pc = .ok (.laload, 1)) (kk : (-9223372036854775808 ≤ M a i ∧ M a i < 9223372036854775808) → JJ G C k n sz S Ln M R (pc + 1) lv (.long (lI (M a i)) :: st)) : JJ G C k n sz S Ln M R pc lv (.int (iI i) :: .ref a :: st) := by
  obtain ⟨p, l, e, Rm, s, m, args, below, meth, c, Q⟩ := C
  obtain ⟨hx, hb, hml, hown, hts, hE, hlk, hrt, hst, hRm, hQ, htab, hz⟩ := hC
  intro H locs ls hR hS hl
  obtain ⟨j, rfl⟩ : ∃ j : Nat, i = j := ⟨i.toNat, by omega⟩
  obtain ⟨hc, hA, hr3, hln⟩ := hR.arr hs (by omega)
  have hcl : (iI (j : Int)).toNatClampNeg = j := by rw [iI_clamp (by omega) (by omega)]; rfl
  refine W.lald hx hb (v := .long (lI (M a (j : Int)))) hc ((hE.1.2 1 _ rfl).1 _ _) (fun q => by cases q) (by rw [arrV_size]; exact iI_in h0 h1 hln) ?_ rfl rfl hd (kk (hr3 j) H locs ls hR hS hl)
  rw [hcl, arrV_read _ _ (by omega)]
  unfold gm_f
  rw [hs]
  rfl

theorem jj_bald (hC : OKC G C own cc nL ret fr mc ms P X) {a : Nat} {i : Int} (hs : S a = 23) (h0 : 0 ≤ i) (h1 : i < Ln a) (hd : decode cc pc = .ok (.baload, 1)) (kk : (-128 ≤ M a i ∧ M a i < 128) → JJ G C k n sz S Ln M R (pc + 1) lv (.int (iI (M a i)) :: st)) : JJ G C k n sz S Ln M R pc lv (.int (iI i) :: .ref a :: st) := by
  obtain ⟨p, l, e, Rm, s, m, args, below, meth, c, Q⟩ := C
  obtain ⟨hx, hb, hml, hown, hts, hE, hlk, hrt, hst, hRm, hQ, htab, hz⟩ := hC
  intro H locs ls hR hS hl
  obtain ⟨j, rfl⟩ : ∃ j : Nat, i = j := ⟨i.toNat, by omega⟩
  obtain ⟨hc, hA, hr3, hln⟩ := hR.arr hs (by omega)
  have hcl : (iI (j : Int)).toNatClampNeg = j := by rw [iI_clamp (by omega) (by omega)]; rfl
  refine W.bald hx hb (v := .int (iI (M a (j : Int)))) hc ((hE.1.2 3 _ rfl).1 _ _) (fun q => by cases q) (by rw [arrV_size]; exact iI_in h0 h1 hln) ?_ rfl rfl hd (kk (hr3 j) H locs ls hR hS hl)
  rw [hcl, arrV_read _ _ (by omega)]
  unfold gm_f
  rw [hs]
  rfl

theorem jj_bald28 (hC : OKC G C own cc nL ret fr mc ms P X) {a : Nat} {i : Int} (hs : S a = 28) (h0 : 0 ≤ i) (h1 : i < Ln a) (hd : decode cc pc = .ok (.baload, 1)) (kk : (-128 ≤ M a i ∧ M a i < 128) → JJ G C k n sz S Ln M R (pc + 1) lv (.int (iI (M a i)) :: st)) : JJ G C k n sz S Ln M R pc lv (.int (iI i) :: .ref a :: st) := by
  obtain ⟨p, l, e, Rm, s, m, args, below, meth, c, Q⟩ := C
  obtain ⟨hx, hb, hml, hown, hts, hE, hlk, hrt, hst, hRm, hQ, htab, hz⟩ := hC
  intro H locs ls hR hS hl
  obtain ⟨j, rfl⟩ : ∃ j : Nat, i = j := ⟨i.toNat, by omega⟩
  obtain ⟨⟨cl, hc, hcc, ⟨hl1, hl2, hl3⟩, hv1, hv2⟩, hr3, hln⟩ := hR.arq hs (by omega)
  have hcl : (iI (j : Int)).toNatClampNeg = j := by rw [iI_clamp (by omega) (by omega)]; rfl
  refine W.bald hx hb (v := .int (iI (M a (j : Int)))) hc (arq_of (hE.1.2 8 _ rfl).1 hcc hv2) hv1 (fun q => iI_in h0 h1 hln (q.imp id (fun z => Nat.le_trans hl1 z))) ?_ rfl rfl hd (kk (hr3 j) H locs ls hR hS hl)
  rw [hcl, hl3 _ (by omega)]
  unfold gm_f
  rw [hs]
  rfl

theorem jj_cald (hC : OKC G C own cc nL ret fr mc ms P X) {a : Nat} {i : Int} (hs : S a = 24) (h0 : 0 ≤ i) (h1 : i < Ln a) (hd : decode cc pc = .ok (.caload, 1)) (kk : (0 ≤ M a i ∧ M a i < 65536) → JJ G C k n sz S Ln M R (pc + 1) lv (.int (iI (M a i)) :: st)) : JJ G C k n sz S Ln M R pc lv (.int (iI i) :: .ref a :: st) := by
  obtain ⟨p, l, e, Rm, s, m, args, below, meth, c, Q⟩ := C
  obtain ⟨hx, hb, hml, hown, hts, hE, hlk, hrt, hst, hRm, hQ, htab, hz⟩ := hC
  intro H locs ls hR hS hl
  obtain ⟨j, rfl⟩ : ∃ j : Nat, i = j := ⟨i.toNat, by omega⟩
  obtain ⟨hc, hA, hr3, hln⟩ := hR.arr hs (by omega)
  have hcl : (iI (j : Int)).toNatClampNeg = j := by rw [iI_clamp (by omega) (by omega)]; rfl
  refine W.cald hx hb (v := .int (iI (M a (j : Int)))) hc ((hE.1.2 4 _ rfl).1 _ _) (fun q => by cases q) (by rw [arrV_size]; exact iI_in h0 h1 hln) ?_ rfl rfl hd (kk (hr3 j) H locs ls hR hS hl)
  rw [hcl, arrV_read _ _ (by omega)]
  unfold gm_f
  rw [hs]
  rfl

theorem jj_iast (hC : OKC G C own cc nL ret fr mc ms P X) {a : Nat} {i z : Int} (hs : S a = 20) (h0 : 0 ≤ i) (h1 : i < Ln a) (hrz : (-2147483648 ≤ z ∧ z < 2147483648)) (hd : decode cc pc = .ok (.iastore, 1)) (kk : JJ G C k n sz S Ln (ua M a (us (M a) i z)) R (pc + 1) lv st) : JJ G C k n sz S Ln M R pc lv (.int (iI (z)) :: .int (iI i) :: .ref a :: st) := by
  obtain ⟨p, l, e, Rm, s, m, args, below, meth, c, Q⟩ := C
  obtain ⟨hx, hb, hml, hown, hts, hE, hlk, hrt, hst, hRm, hQ, htab, hz⟩ := hC
  intro H locs ls hR hS hl
  obtain ⟨j, rfl⟩ : ∃ j : Nat, i = j := ⟨i.toNat, by omega⟩
  obtain ⟨hc, hA, hr3, hln⟩ := hR.arr hs (by omega)
  have hcl : (iI (j : Int)).toNatClampNeg = j := by rw [iI_clamp (by omega) (by omega)]; rfl
  refine W.iast hx hb hc ((hE.1.2 0 _ rfl).1 _ _) (fun q => by cases q) (by rw [arrV_size]; exact iI_in h0 h1 hln) rfl rfl hd fun H' e1 e2 e3 => ?_
  rw [hcl, arrV_store] at e1
  have h9 := hR.put (k := j) (z := z) (r := R a (j : Int)) (by omega : S a ≠ 0) e2 e3 (by rw [hs]; exact hrz) (by
    unfold gm_cell
    rw [hs, if_neg (by omega), e1]; exact Or.inl rfl)
  rw [ua_selfs] at h9
  exact kk H' _ ls h9 (hS.put e2 e3 (hA rfl)) hl

theorem jj_last (hC : OKC G C own cc nL ret fr mc ms P X) {a : Nat} {i z : Int} (hs : S a = 21) (h0 : 0 ≤ i) (h1 : i < Ln a) (hrz : (-9223372036854775808 ≤ z ∧ z < 9223372036854775808)) (hd : decode cc pc = .ok (.lastore, 1)) (kk : JJ G C k n sz S Ln (ua M a (us (M a) i z)) R (pc + 1) lv st) : JJ G C k n sz S Ln M R pc lv (.long (lI (z)) :: .int (iI i) :: .ref a :: st) := by
  obtain ⟨p, l, e, Rm, s, m, args, below, meth, c, Q⟩ := C
  obtain ⟨hx, hb, hml, hown, hts, hE, hlk, hrt, hst, hRm, hQ, htab, hz⟩ := hC
  intro H locs ls hR hS hl
  obtain ⟨j, rfl⟩ : ∃ j : Nat, i = j := ⟨i.toNat, by omega⟩
  obtain ⟨hc, hA, hr3, hln⟩ := hR.arr hs (by omega)
  have hcl : (iI (j : Int)).toNatClampNeg = j := by rw [iI_clamp (by omega) (by omega)]; rfl
  refine W.last hx hb hc ((hE.1.2 1 _ rfl).1 _ _) (fun q => by cases q) (by rw [arrV_size]; exact iI_in h0 h1 hln) rfl rfl hd fun H' e1 e2 e3 => ?_
  rw [hcl, arrV_store] at e1
  have h9 := hR.put (k := j) (z := z) (r := R a (j : Int)) (by omega : S a ≠ 0) e2 e3 (by rw [hs]; exact hrz) (by
    unfold gm_cell
    rw [hs, if_neg (by omega), e1]; exact Or.inl rfl)
  rw [ua_selfs] at h9
  exact kk H' _ ls h9 (hS.put e2 e3 (hA rfl)) hl

theorem jj_bast (hC : OKC G C own cc nL ret fr mc ms P X) {a : Nat} {i z : Int} (hs : S a = 23) (h0 : 0 ≤ i) (h1 : i < Ln a) (hrz : (-128 ≤ z ∧ z < 128)) (hd : decode cc pc = .ok (.bastore, 1)) (kk : JJ G C k n sz S Ln (ua M a (us (M a) i z)) R (pc + 1) lv st) : JJ G C k n sz S Ln M R pc lv (.int (iI (z)) :: .int (iI i) :: .ref a :: st) := by
  obtain ⟨p, l, e, Rm, s, m, args, below, meth, c, Q⟩ := C
  obtain ⟨hx, hb, hml, hown, hts, hE, hlk, hrt, hst, hRm, hQ, htab, hz⟩ := hC
  intro H locs ls hR hS hl
  obtain ⟨j, rfl⟩ : ∃ j : Nat, i = j := ⟨i.toNat, by omega⟩
  obtain ⟨hc, hA, hr3, hln⟩ := hR.arr hs (by omega)
  have hcl : (iI (j : Int)).toNatClampNeg = j := by rw [iI_clamp (by omega) (by omega)]; rfl
  have hnz : narrow .byte (.int (iI z)) = .int (iI z) := by show Value.int ((iI z).toInt8.toInt32) = _; rw [j8_i2b hrz]
  refine W.bast hx hb hc ((hE.1.2 3 _ rfl).1 _ _) (fun q => by cases q) (by rw [arrV_size]; exact iI_in h0 h1 hln) rfl rfl hd fun H' e1 e2 e3 => ?_
  rw [hcl, arrV_store] at e1
  rw [hnz] at e1
  have h9 := hR.put (k := j) (z := z) (r := R a (j : Int)) (by omega : S a ≠ 0) e2 e3 (by rw [hs]; exact hrz) (by
    unfold gm_cell
    rw [hs, if_neg (by omega), e1]; exact Or.inl rfl)
  rw [ua_selfs] at h9
  exact kk H' _ ls h9 (hS.put e2 e3 (hA rfl)) hl

theorem jj_cast (hC : OKC G C own cc nL ret fr mc ms P X) {a : Nat} {i z : Int} (hs : S a = 24) (h0 : 0 ≤ i) (h1 : i < Ln a) (hrz : (0 ≤ z ∧ z < 65536)) (hd : decode cc pc = .ok (.castore, 1)) (kk : JJ G C k n sz S Ln (ua M a (us (M a) i z)) R (pc + 1) lv st) : JJ G C k n sz S Ln M R pc lv (.int (iI (z)) :: .int (iI i) :: .ref a :: st) := by
  obtain ⟨p, l, e, Rm, s, m, args, below, meth, c, Q⟩ := C
  obtain ⟨hx, hb, hml, hown, hts, hE, hlk, hrt, hst, hRm, hQ, htab, hz⟩ := hC
  intro H locs ls hR hS hl
  obtain ⟨j, rfl⟩ : ∃ j : Nat, i = j := ⟨i.toNat, by omega⟩
  obtain ⟨hc, hA, hr3, hln⟩ := hR.arr hs (by omega)
  have hcl : (iI (j : Int)).toNatClampNeg = j := by rw [iI_clamp (by omega) (by omega)]; rfl
  have hnz : narrow .char (.int (iI z)) = .int (iI z) := by rw [jj_nI hrz.1]; exact (pk_charN (by omega)).1
  refine W.cast hx hb hc ((hE.1.2 4 _ rfl).1 _ _) (fun q => by cases q) (by rw [arrV_size]; exact iI_in h0 h1 hln) rfl rfl hd fun H' e1 e2 e3 => ?_
  rw [hcl, arrV_store] at e1
  rw [hnz] at e1
  have h9 := hR.put (k := j) (z := z) (r := R a (j : Int)) (by omega : S a ≠ 0) e2 e3 (by rw [hs]; exact hrz) (by
    unfold gm_cell
    rw [hs, if_neg (by omega), e1]; exact Or.inl rfl)
  rw [ua_selfs] at h9
  exact kk H' _ ls h9 (hS.put e2 e3 (hA rfl)) hl
/-- a place of a row of references -/
theorem jj_aald (hC : OKC G C own cc nL ret fr mc ms P X) {a b kd : Nat} {i : Int} (hs : S a = kd) (hk : kd = 25 ∨ kd = 26 ∨ kd = 27) (h0 : 0 ≤ i) (h1 : i < Ln a) (hr : R a i = some b) (hd : decode cc pc = .ok (.aaload, 1)) (kk : JJ G C k n sz S Ln M R (pc + 1) lv (.ref b :: st)) : JJ G C k n sz S Ln M R pc lv (.int (iI i) :: .ref a :: st) := by
  obtain ⟨p, l, e, Rm, s, m, args, below, meth, c, Q⟩ := C
  obtain ⟨hx, hb, hml, hown, hts, hE, hlk, hrt, hst, hRm, hQ, htab, hz⟩ := hC
  intro H locs ls hR hS hl
  obtain ⟨j, rfl⟩ : ∃ j : Nat, i = j := ⟨i.toNat, by omega⟩
  obtain ⟨hc, hA, hr3, hln⟩ := hR.arr hs (by omega) (by rcases hk with rfl | rfl | rfl <;> rfl)
  have hcl : (iI (j : Int)).toNatClampNeg = j := by rw [iI_clamp (by omega) (by omega)]; rfl
  have harr : ∃ ty : FieldType, ty.isReference = true ∧ s.isArrayOf (arrV (G.2.2.1 kd) (Ln a) (gm_f G S M R a)) ty := by
    rcases hk with rfl | rfl | rfl
    · exact ⟨_, rfl, (hE.1.2 5 _ rfl).1 _ _⟩
    · exact ⟨_, rfl, (hE.1.2 6 _ rfl).1 _ _⟩
    · exact ⟨_, rfl, (hE.1.2 7 _ rfl).1 _ _⟩
  obtain ⟨ty, hty, har⟩ := harr
  refine W.aald hx hb (v := .ref b) hc har hty (fun q => by cases q) (by rw [arrV_size]; exact iI_in h0 h1 hln) ?_ rfl rfl hd (kk H locs ls hR hS hl)
  rw [hcl, arrV_read _ _ (by omega)]
  unfold gm_f
  rw [hs]
  have : gm_fty kd j = 1 := by rcases hk with rfl | rfl | rfl <;> rfl
  rw [this, hr]
  rfl
theorem jj_alen (hC : OKC G C own cc nL ret fr mc ms P X) {a kd : Nat} (hs : S a = kd) (t : Nat) {ty : FieldType} (hk : 20 ≤ kd) (ht : (gTys G.2.2.1)[t]? = some (G.2.2.1 kd, ty)) (hd : decode cc pc = .ok (.arraylength, 1)) (kk : (Ln a : Int) < 2147483648 → JJ G C k n sz S Ln M R (pc + 1) lv (.int (iI (Ln a : Int)) :: st)) : JJ G C k n sz S Ln M R pc lv (.ref a :: st) := by
  obtain ⟨p, l, e, Rm, s, m, args, below, meth, c, Q⟩ := C
  obtain ⟨hx, hb, hml, hown, hts, hE, hlk, hrt, hst, hRm, hQ, htab, hz⟩ := hC
  intro H locs ls hR hS hl
  obtain ⟨⟨cl, hc, hcc, ⟨hl1, hl2, hl3⟩, hv1, hv2⟩, hr3, hln⟩ := hR.arq hs hk
  refine W.alen (n := iI (Ln a : Int)) hx hb hc (arq_of (hE.1.2 t _ ht).1 hcc hv2) ?_ rfl rfl hd (kk (by omega) H locs ls hR hS hl)
  exact hl2
theorem jj_aast (hC : OKC G C own cc nL ret fr mc ms P X) {a b kd kv t : Nat} {i : Int} {r : vw_C} (hs : S a = kd) (hk : 20 ≤ kd) (hro : gm_ro kd = false) (hf1 : ∀ j, gm_fty kd j = 1) (ht : (gTys G.2.2.1)[t]? = some (G.2.2.1 kd, .object r.1)) (hsv : S b = kv) (hkv : 1 ≤ kv) (hkv2 : kv < 20) (hrv : vwCl[kv - 1]? = some r) (h0 : 0 ≤ i) (h1 : i < Ln a) (hd : decode cc pc = .ok (.aastore, 1)) (kk : JJ G C k n sz S Ln M (ua R a (us (R a) i (some b))) (pc + 1) lv st) : JJ G C k n sz S Ln M R pc lv (.ref b :: .int (iI i) :: .ref a :: st) := by
  obtain ⟨p, l, e, Rm, s, m, args, below, meth, c, Q⟩ := C
  obtain ⟨hx, hb, hml, hown, hts, hE, hlk, hrt, hst, hRm, hQ, htab, hz⟩ := hC
  intro H locs ls hR hS hl
  obtain ⟨j, rfl⟩ : ∃ j : Nat, i = j := ⟨i.toNat, by omega⟩
  obtain ⟨hc, hA, hr3, hln⟩ := hR.arr hs hk hro
  have hcl : (iI (j : Int)).toNatClampNeg = j := by rw [iI_clamp (by omega) (by omega)]; rfl
  obtain ⟨v1, v2, v3, v5, v4⟩ := hR.2 b (by omega)
  unfold gm_cell at v4
  rw [hsv, if_pos hkv2] at v4
  obtain ⟨r1, hr1, cellV, g1, g2, g3, -⟩ := v4
  have hrr : r1 = r := Option.some.inj (hr1.symm.trans hrv)
  subst hrr
  have hcls := (hE.1.1 (kv - 1) _ hrv).2
  obtain ⟨kA, comp, k1, k2, k3, -⟩ := (hE.1.2 t _ ht).2
  have hcomp : comp = G.1 (kv - 1) := Option.some.inj (k3.symm.trans hcls.1)
  subst hcomp
  obtain ⟨kC, hkC, -⟩ := hcls.2
  have hin := iI_in h0 h1 hln
  refine W.aast hx hb hc (fun q h => by cases h) (fun h => by cases h) k1 k2 rfl hkC ⟨fun q => hin (Or.inl q), by rw [arrV_size, hcl]; omega⟩ g1 (fun q h => by have h9 := g3.2.1; rw [h] at h9; exact absurd (show true = false from h9) (by decide)) (by rw [g2]; exact hkC) (by rw [g2]; exact va_assign hcls) rfl rfl hd fun H' e1 e2 e3 => ?_
  rw [hcl, arrV_store] at e1
  have h9 := hR.put (k := j) (z := M a (j : Int)) (r := some b) (by omega : S a ≠ 0) e2 e3 (by rw [hs, hf1]; trivial) (by
    unfold gm_cell
    rw [hs, if_neg (by omega), e1, hf1]; exact Or.inl rfl)
  rw [ua_selfs] at h9
  exact kk H' _ ls h9 (hS.put e2 e3 (hA hro)) hl
/-- a new object -/
theorem jj_new (hC : OKC G C own cc nL ret fr mc ms P X) {kd N index : Nat} {CN : String} {T : u_T} {ty0 : Nat → FieldType} (hk : KF kd CN T N ty0) (hdef : ∀ j, j < N → gm_val G.2.2.2.2 (gm_fty kd j) (if gm_fty kd j = 3 then -1 else 0) none = defaultValue (ty0 j)) (hcl : Cond.classLink own index CN ∈ gW) (hins : Cond.instantiable CN N ∈ gW) (hini : Cond.initialized CN ∈ gW) (hsz : G.2.2.2.1 ≤ sz) (hk1 : k + 1 ≤ mc) (hn1 : n + N ≤ ms) (hd : decode cc pc = .ok (.new index, 3))
    (kk : JJ G C (k + 1) (n + N) (sz + 1) (ua S sz kd) (ua Ln sz 0) (ua M sz (fun j => if gm_fty kd j.toNat = 3 then -1 else 0)) (ua R sz (fun _ => none)) (pc + 3) lv (.ref sz :: st)) : JJ G C k n sz S Ln M R pc lv st := by
  obtain ⟨p, l, e, Rm, s, m, args, below, meth, c, Q⟩ := C
  obtain ⟨hx, hb, hml, hown, hts, hE, hlk, hrt, hst, hRm, hQ, htab, hz⟩ := hC
  intro H locs ls hR hS hl
  obtain ⟨rm1, rm2, rm3, rm4⟩ := hRm
  obtain ⟨k1, k2, k3, k4, k5, k6⟩ := hk
  have hKn := hE.1.1 (kd - 1) _ k3
  refine W.newcK hx hb hown (hts _ hcl) (hts _ hins) (hts _ hini) (g := F0 m pc ls st) rfl hd (Nat.le_trans hk1 rm2) (Nat.le_trans hn1 rm3) hKn.2.1 hR.1 fun H' kC e1 e2 e3 e4 => ?_
  refine kk H' _ ls (hR.new hsz e3 e4 ?_ (by omega) ?_) ⟨?_, ?_, hS.2.2⟩ hl
  · intro j
    rw [Int.toNat_natCast]
    unfold gm_rng
    split <;> simp_all
  · unfold gm_cell
    rw [if_pos k2]
    exact ⟨_, k3, gm_ob.of (t_OB.to (u_born (args := args) ty0 hts k4 hKn e1 e2 k5) (fun j hj => by rw [← hdef j hj, Int.toNat_natCast]))⟩
  · rw [e3]; have := hS.1; rw [hR.1] at this; omega
  · intro q h1 h2
    have := hS.1
    rw [hR.1] at this
    rw [e4 q (by omega)]
    exact hS.2.1 q h1 h2
/-- a new row of numbers -/
theorem jj_newa (hC : OKC G C own cc nL ret fr mc ms P X) {kd t : Nat} {at' : ArrayType} {i : Int} (hk : 20 ≤ kd) (ht : (gTys G.2.2.1)[t]? = some (G.2.2.1 kd, newarray.typeOf at')) (hnob : ∀ C, newarray.typeOf at' ≠ .object C) (hdef : ∀ j, gm_val G.2.2.2.2 (gm_fty kd j) 0 none = defaultValue (newarray.typeOf at')) (hr0 : ∀ j, gm_rng (gm_fty kd j) 0) (hac : Cond.arrayClass (newarray.typeOf at') ∈ gW) (h0 : 0 ≤ i) (h1 : i ≤ 65536) (hb8 : componentBytes (newarray.typeOf at') ≤ 8) (hsz : G.2.2.2.1 ≤ sz) (hk1 : k + 1 ≤ mc) (hn1 : n + i.toNat ≤ ms) (hd : decode cc pc = .ok (.newarray at', 2))
    (kk : JJ G C (k + 1) (n + i.toNat) (sz + 1) (ua S sz kd) (ua Ln sz i.toNat) (ua M sz (fun _ => 0)) (ua R sz (fun _ => none)) (pc + 2) lv (.ref sz :: st)) : JJ G C k n sz S Ln M R pc lv (.int (iI i) :: st) := by
  obtain ⟨p, l, e, Rm, s, m, args, below, meth, c, Q⟩ := C
  obtain ⟨hx, hb, hml, hown, hts, hE, hlk, hrt, hst, hRm, hQ, htab, hz⟩ := hC
  intro H locs ls hR hS hl
  obtain ⟨rm1, rm2, rm3, rm4⟩ := hRm
  obtain ⟨j, rfl⟩ : ∃ j : Nat, i = j := ⟨i.toNat, by omega⟩
  rw [Int.toNat_natCast] at kk hn1
  have hcl : (iI (j : Int)).toNatClampNeg = j := by rw [iI_clamp (by omega) (by omega)]; rfl
  have hfA := (hE.1.2 t _ ht).2
  refine va_newaK hx hb (hts _ hac) (g := F0 m pc ls (.int (iI (j : Int)) :: st)) rfl hd rfl ?_ hcl ?_ (Nat.le_trans hk1 rm2) (Nat.le_trans hn1 rm3) hR.1 fun H' cA e1 e3 e4 e5 e6 => ?_
  · rw [iI_0, iI_lt ⟨by omega, by omega⟩ jj_r0]; omega
  · have := Nat.mul_le_mul (show j ≤ 65536 by omega) hb8
    omega
  have hcA : cA = G.2.2.1 kd := by
    have : s.vm.findClass ("[" ++ (newarray.typeOf at').toString) = some (G.2.2.1 kd) := by
      unfold va_RA at hfA
      split at hfA
      · rename_i C' heq; exact absurd heq (hnob C')
      · exact hfA
    exact Option.some.inj (e6.symm.trans this)
  subst hcA
  refine kk H' _ ls (hR.new hsz e3 e4 (fun j => hr0 j) (by omega) ?_) ⟨?_, ?_, hS.2.2⟩ hl
  · unfold gm_cell
    rw [if_neg (by omega), e1]
    refine Or.inl ?_
    congr 2
    funext q
    exact (hdef q).symm
  · rw [e3]; have := hS.1; rw [hR.1] at this; omega
  · intro q h1 h2
    have := hS.1
    rw [hR.1] at this
    rw [e4 q (by omega)]
    exact hS.2.1 q h1 h2
/-! calls -/
theorem jj_run {p : Program} {l : Launch} {e : Env} {Rm : Room} {s : State} {m : MethodId} {args : Array Value} {below : List Frame} {meth : Method} {c : Code} {Q : State → Prop} {H : Heap} {locs : List Loc} {ls : Array Slot} {mc2 ms2 : Nat} {P2 : gP} {X2 : gX} {a2 : Array Value} {st0 : List Value}
    (hr : vx_Run p l e Rm s m args below meth c H locs k n mc2 ms2 (F0 m pc ls st0) st (gQc G P2 a2) (gXc G X2) (fun q => G.2.2.2.1 ≤ q)) (hS : va_S (fun q => G.2.2.2.1 ≤ q) s.heap H locs) (hl : lv_has ls c.maxLocals lv)
    (kx : ∀ E sz S Ln M R, X2 E sz S Ln M R → JX G (p, l, e, Rm, s, m, args, below, meth, c, Q) (k + mc2) (n + ms2) E sz S Ln M R pc lv st)
    (kk : ∀ v sz S Ln M R, P2 v sz S Ln M R → JJ G (p, l, e, Rm, s, m, args, below, meth, c, Q) (k + mc2) (n + ms2) sz S Ln M R (pc + 3) lv (v.toList ++ st)) : W p l e Rm s m args below meth c H locs k n Q (F0 m pc ls st0) := by
  intro T hT X
  rcases hr T hT X with ⟨v, st₀, t, T', L, h0, X', hL, e1, e2, ⟨⟨v1, sz', S', Ln', M', R', hv, hp, hRp⟩, hF⟩, st⟩ | ⟨q, st₀, t, T', L, E, ce, h0, X', hL, e1, e2, ⟨⟨sz', S', Ln', M', R', hp, hRp⟩, hF⟩, hce, hcv, hcl, st⟩
  · cases hv
    obtain ⟨k1, k2, k3⟩ := vx_keep h0 e1 hS (fun q _ h => h) (fun q h => h) hL hF
    obtain ⟨t2, a1, b1⟩ := kk v sz' S' Ln' M' R' hp T'.heap (locs ++ L) ls (by rw [e1]; exact hRp) k3 hl T' rfl X'
    exact ⟨t2, st t2 a1, b1⟩
  · obtain ⟨k1, k2, k3⟩ := vx_keep h0 e1 hS (fun q _ h => h) (fun q h => h) hL hF
    obtain ⟨t2, a1, b1⟩ := kx E sz' S' Ln' M' R' hp T'.heap (locs ++ L) ls q ce (by rw [e1]; exact hRp) k3 hl (by rw [e1]; exact hce) hcv hcl T' rfl X'
    exact ⟨t2, st.trans a1, b1⟩
/-- what a method is, as far as a call looks -/
def MV (y : MethodName) (cc2 : ByteArray) (nL2 : Nat) (ret2 : Option FieldType) (np : Nat) : Prop := Cond.code y cc2 nL2 ret2 ∈ gW ∧ Cond.initialized y.cls ∈ gW ∧ y.cls ≠ "java/lang/invoke/MethodHandle" ∧ y.cls ≠ "java/lang/invoke/VarHandle" ∧ (parseMethodDescriptor y.desc).map (fun d => d.parameters.length) = some np ∧ nL2 ≤ 45
theorem jj_pre {s : State} {H : Heap} {av : List Value} (hE : EV G s) (hR : Rep G sz S Ln M R H) {locs : List Loc} (hS : va_S (fun q => G.2.2.2.1 ≤ q) s.heap H locs) (hz : G.2.2.2.1 ≤ s.heap.size) {U : State} (hU : U.heap = H) (hW : s.WarmedH U.vm) : gPc G av sz S Ln M R av.toArray U :=
  ⟨rfl, by rw [hU]; exact hR, hE.to hS hU hW, by rw [hU]; exact Nat.le_trans hz hS.1⟩
theorem jj_invV (hC : OKC G C own cc nL ret fr mc ms P X) {y : MethodName} {cc2 : ByteArray} {nL2 : Nat} {ret2 : Option FieldType} {np fr2 mc2 ms2 index b kd : Nat} {As st0 : List Value} {P2 : gP} {X2 : gX} {T : u_T} {N : Nat}
    (hm : MV y cc2 nL2 ret2 np) (hin : Cond.instanceMethod y ∈ gW) (hse : Cond.selects y.cls y y ∈ gW) (hlk : Cond.methodLink own index y ∈ gW) (hs : S b = kd) (hkd : 1 ≤ kd ∧ kd < 20) (hcl : vwCl[kd - 1]? = some (y.cls, T, N)) (hct : Ct (LV C) G y cc2 nL2 ret2 fr2 mc2 ms2 (.ref b :: As) sz S Ln M R P2 X2) (hn : As.length = np) (hst0 : st0 = As.reverse ++ .ref b :: st) (hW : (st.map fun v => v.category).sum ≤ 8) (hfr : fr2 + 1 ≤ fr) (hk : k + mc2 ≤ mc) (hns : n + ms2 ≤ ms) (hdg : decode cc pc = .ok (.invokevirtual index, 3))
    (kx : ∀ E sz S Ln M R, X2 E sz S Ln M R → JX G C (k + mc2) (n + ms2) E sz S Ln M R pc lv st)
    (kk : ∀ v sz S Ln M R, P2 v sz S Ln M R → JJ G C (k + mc2) (n + ms2) sz S Ln M R (pc + 3) lv (v.toList ++ st)) : JJ G C k n sz S Ln M R pc lv st0 := by
  obtain ⟨p, l, e, Rm, s, m, args, below, meth, c, Q⟩ := C
  obtain ⟨hx, hb, hml, hown, hts, hE, hlk2, hrt, hst, hRm, hQ, htab, hz⟩ := hC
  intro H locs ls hR hS hl
  obtain ⟨m1, m2, m3, m4, m5, m6⟩ := hm
  obtain ⟨rm1, rm2, rm3, rm4⟩ := hRm
  subst hst0
  obtain ⟨g1, g2, g3, g5, g4⟩ := hR.2 b (by omega)
  unfold gm_cell at g4
  rw [hs, if_pos hkd.2] at g4
  obtain ⟨r1, hr1, cellV, c1, c2, c3, -⟩ := g4
  have hrr : r1 = (y.cls, T, N) := Option.some.inj (hr1.symm.trans hcl)
  subst hrr
  have hcls := (hE.1.1 (kd - 1) _ hcl).2
  exact jj_run (vx_runV (Ts := gW) (own := own) (C := y.cls) ⟨hx, hb, hml, hown, hts⟩ hct (cwV (ws' := gW) np hts (gW_cons hlk (gW_cons hin (gW_cons hse (gW_cons m2 (gW_cons m1 gW_good))))) rfl rfl rfl ⟨rfl, m3, m4, m5⟩ ⟨Nat.le_trans hfr rm1, by show 8 + (nL2 + 11) + 64 * fr2 ≤ Rm.locals; omega⟩)
    ⟨gPc_blind, ⟨cellV, c1, c3.2.1, by rw [c2]; exact hcls.1⟩, fun U hU hW2 => jj_pre hE hR hS hz hU hW2⟩ rfl hn (by rw [← hml]; exact hl.1) rfl (lv_room hW) hdg ⟨Nat.le_trans hk rm2, Nat.le_trans hns rm3⟩) hS hl kx kk
theorem jj_invS (hC : OKC G C own cc nL ret fr mc ms P X) {y : MethodName} {cc2 : ByteArray} {nL2 : Nat} {ret2 : Option FieldType} {np fr2 mc2 ms2 index : Nat} {As st0 : List Value} {P2 : gP} {X2 : gX}
    (hm : MV y cc2 nL2 ret2 np) (hin : Cond.static y ∈ gW) (hlk : Cond.methodLink own index y ∈ gW) (hct : Ct (LV C) G y cc2 nL2 ret2 fr2 mc2 ms2 As sz S Ln M R P2 X2) (hn : As.length = np) (hst0 : st0 = As.reverse ++ st) (hW : (st.map fun v => v.category).sum ≤ 8) (hfr : fr2 + 1 ≤ fr) (hk : k + mc2 ≤ mc) (hns : n + ms2 ≤ ms) (hdg : decode cc pc = .ok (.invokestatic index, 3))
    (kx : ∀ E sz S Ln M R, X2 E sz S Ln M R → JX G C (k + mc2) (n + ms2) E sz S Ln M R pc lv st)
    (kk : ∀ v sz S Ln M R, P2 v sz S Ln M R → JJ G C (k + mc2) (n + ms2) sz S Ln M R (pc + 3) lv (v.toList ++ st)) : JJ G C k n sz S Ln M R pc lv st0 := by
  obtain ⟨p, l, e, Rm, s, m, args, below, meth, c, Q⟩ := C
  obtain ⟨hx, hb, hml, hown, hts, hE, hlk2, hrt, hst, hRm, hQ, htab, hz⟩ := hC
  intro H locs ls hR hS hl
  obtain ⟨m1, m2, m3, m4, m5, m6⟩ := hm
  obtain ⟨rm1, rm2, rm3, rm4⟩ := hRm
  subst hst0
  have hB : CallB Rm s args own index y cc2 nL2 ret2 (.code y cc2 nL2 ret2 :: gW) (gRm fr2 mc2 ms2) mc2 ms2 np := callB_of np hts (gW_cons m1 gW_good) rfl rfl rfl (hts _ m2) (hts _ hlk) ⟨m3, m4, m5⟩ ⟨Nat.le_trans hfr rm1, by show 8 + (nL2 + 11) + 64 * fr2 ≤ Rm.locals; omega⟩
  exact jj_run (vx_runS (Ts := gW) (own := own) ⟨hx, hb, hml, hown, hts⟩ hct ⟨hB, hts _ hin⟩
    ⟨gPc_blind, fun U hU hW2 => jj_pre hE hR hS hz hU hW2⟩ rfl hn (by rw [← hml]; exact hl.1) rfl (lv_room hW) hdg ⟨Nat.le_trans hk rm2, Nat.le_trans hns rm3⟩) hS hl kx kk
/-- a call that throws nothing, as such a run -/
theorem jj_va {p : Program} {l : Launch} {e : Env} {Rm : Room} {s : State} {m : MethodId} {args : Array Value} {below : List Frame} {meth : Method} {c : Code} {H : Heap} {locs : List Loc} {mc2 ms2 : Nat} {g : JFrame} {Qa : State → Outcome → State → Prop} {XC : String → State → State → Prop} {free : Addr → Prop} (h : va_Run p l e Rm s m args below meth c H locs k n mc2 ms2 g st Qa free) : vx_Run p l e Rm s m args below meth c H locs k n mc2 ms2 g st Qa XC free := fun T hT X => Or.inl (h T hT X)
theorem jj_invI (hC : OKC G C own cc nL ret fr mc ms P X) {y : MethodName} {cc2 : ByteArray} {nL2 : Nat} {np fr2 mc2 ms2 index b : Nat} {As st0 : List Value} {P2 : gP}
    (hm : MV y cc2 nL2 none np) (hy1 : y.name = "<init>") (hin : Cond.instanceMethod y ∈ gW) (hlk : Cond.methodLink own index y ∈ gW) (hct : Ct (LV C) G y cc2 nL2 none fr2 mc2 ms2 (.ref b :: As) sz S Ln M R P2 noX) (hn : As.length = np) (hst0 : st0 = As.reverse ++ .ref b :: st) (hW : (st.map fun v => v.category).sum ≤ 8) (hfr : fr2 + 1 ≤ fr) (hk : k + mc2 ≤ mc) (hns : n + ms2 ≤ ms) (hdg : decode cc pc = .ok (.invokespecial index, 3))
    (kk : ∀ v sz S Ln M R, P2 v sz S Ln M R → JJ G C (k + mc2) (n + ms2) sz S Ln M R (pc + 3) lv (v.toList ++ st)) : JJ G C k n sz S Ln M R pc lv st0 := by
  obtain ⟨p, l, e, Rm, s, m, args, below, meth, c, Q⟩ := C
  obtain ⟨hx, hb, hml, hown, hts, hE, hlk2, hrt, hst, hRm, hQ, htab, hz⟩ := hC
  intro H locs ls hR hS hl
  obtain ⟨m1, m2, m3, m4, m5, m6⟩ := hm
  obtain ⟨rm1, rm2, rm3, rm4⟩ := hRm
  subst hst0
  exact jj_run (X2 := noX) (jj_va (va_runI (Ts := gW) (own := own) ⟨hx, hb, hml, hown, hts⟩ hct.met (cwI (ws' := gW) np hts (gW_cons m1 gW_good) rfl rfl rfl (hts _ m2) (hts _ hlk) (hts _ hin) hy1 ⟨m3, m4, m5⟩ ⟨Nat.le_trans hfr rm1, by show 8 + (nL2 + 11) + 64 * fr2 ≤ Rm.locals; omega⟩)
    ⟨gPc_blind, fun U hU hW2 => jj_pre hE hR hS hz hU hW2⟩ rfl hn (by rw [← hml]; exact hl.1) rfl (lv_room hW) hdg ⟨Nat.le_trans hk rm2, Nat.le_trans hns rm3⟩)) hS hl (fun _ _ _ _ _ _ h => h.elim) kk
theorem jj_invVN (hC : OKC G C own cc nL ret fr mc ms P X) {y : MethodName} {host : String} {cc2 : ByteArray} {nL2 : Nat} {ret2 : Option FieldType} {np fr2 mc2 ms2 index b kd : Nat} {As st0 : List Value} {P2 : gP} {T : u_T} {N : Nat}
    (hm : MV y cc2 nL2 ret2 np) (hin : Cond.instanceMethod y ∈ gW) (hse : Cond.selects y.cls y y ∈ gW) (hlk : Cond.methodLinkNest own index y host ∈ gNW) (hs : S b = kd) (hkd : 1 ≤ kd ∧ kd < 20) (hcl : vwCl[kd - 1]? = some (y.cls, T, N)) (hct : Ct (LV C) G y cc2 nL2 ret2 fr2 mc2 ms2 (.ref b :: As) sz S Ln M R P2 noX) (hn : As.length = np) (hst0 : st0 = As.reverse ++ .ref b :: st) (hW : (st.map fun v => v.category).sum ≤ 8) (hfr : fr2 + 1 ≤ fr) (hk : k + mc2 ≤ mc) (hns : n + ms2 ≤ ms) (hdg : decode cc pc = .ok (.invokevirtual index, 3))
    (kk : ∀ v sz S Ln M R, P2 v sz S Ln M R → JJ G C (k + mc2) (n + ms2) sz S Ln M R (pc + 3) lv (v.toList ++ st)) : JJ G C k n sz S Ln M R pc lv st0 := by
  obtain ⟨p, l, e, Rm, s, m, args, below, meth, c, Q⟩ := C
  obtain ⟨hx, hb, hml, hown, hts, hE, hlk2, hrt, hst, hRm, hQ, htab, hz⟩ := hC
  intro H locs ls hR hS hl
  obtain ⟨m1, m2, m3, m4, m5, m6⟩ := hm
  obtain ⟨rm1, rm2, rm3, rm4⟩ := hRm
  subst hst0
  obtain ⟨g1, g2, g3, g5, g4⟩ := hR.2 b (by omega)
  unfold gm_cell at g4
  rw [hs, if_pos hkd.2] at g4
  obtain ⟨r1, hr1, cellV, c1, c2, c3, -⟩ := g4
  have hrr : r1 = (y.cls, T, N) := Option.some.inj (hr1.symm.trans hcl)
  subst hrr
  have hcls := (hE.1.1 (kd - 1) _ hcl).2
  exact jj_run (X2 := noX) (jj_va (va_runVN (Ts := gW) (own := own) (C := y.cls) ⟨hx, hb, hml, hown, hts⟩ hct.met ⟨va_cnB (ws' := gW) np hts (gW_cons m1 gW_good) rfl rfl rfl (hE.2.1.1 _ hlk) (hts _ m2) ⟨m3, m4, m5⟩ ⟨Nat.le_trans hfr rm1, by show 8 + (nL2 + 11) + 64 * fr2 ≤ Rm.locals; omega⟩, hts _ hin, hts _ hse⟩
    ⟨gPc_blind, ⟨cellV, c1, c3.2.1, by rw [c2]; exact hcls.1⟩, fun U hU hW2 => jj_pre hE hR hS hz hU hW2⟩ rfl hn (by rw [← hml]; exact hl.1) rfl (lv_room hW) hdg ⟨Nat.le_trans hk rm2, Nat.le_trans hns rm3⟩)) hS hl (fun _ _ _ _ _ _ h => h.elim) kk
theorem jj_invSN (hC : OKC G C own cc nL ret fr mc ms P X) {y : MethodName} {host : String} {cc2 : ByteArray} {nL2 : Nat} {ret2 : Option FieldType} {np fr2 mc2 ms2 index : Nat} {As st0 : List Value} {P2 : gP}
    (hm : MV y cc2 nL2 ret2 np) (hin : Cond.static y ∈ gW) (hlk : Cond.methodLinkNest own index y host ∈ gNW) (hct : Ct (LV C) G y cc2 nL2 ret2 fr2 mc2 ms2 As sz S Ln M R P2 noX) (hn : As.length = np) (hst0 : st0 = As.reverse ++ st) (hW : (st.map fun v => v.category).sum ≤ 8) (hfr : fr2 + 1 ≤ fr) (hk : k + mc2 ≤ mc) (hns : n + ms2 ≤ ms) (hdg : decode cc pc = .ok (.invokestatic index, 3))
    (kk : ∀ v sz S Ln M R, P2 v sz S Ln M R → JJ G C (k + mc2) (n + ms2) sz S Ln M R (pc + 3) lv (v.toList ++ st)) : JJ G C k n sz S Ln M R pc lv st0 := by
  obtain ⟨p, l, e, Rm, s, m, args, below, meth, c, Q⟩ := C
  obtain ⟨hx, hb, hml, hown, hts, hE, hlk2, hrt, hst, hRm, hQ, htab, hz⟩ := hC
  intro H locs ls hR hS hl
  obtain ⟨m1, m2, m3, m4, m5, m6⟩ := hm
  obtain ⟨rm1, rm2, rm3, rm4⟩ := hRm
  subst hst0
  exact jj_run (X2 := noX) (jj_va (va_runSN (Ts := gW) (own := own) ⟨hx, hb, hml, hown, hts⟩ hct.met ⟨va_cnB (ws' := gW) np hts (gW_cons m1 gW_good) rfl rfl rfl (hE.2.1.1 _ hlk) (hts _ m2) ⟨m3, m4, m5⟩ ⟨Nat.le_trans hfr rm1, by show 8 + (nL2 + 11) + 64 * fr2 ≤ Rm.locals; omega⟩, hts _ hin, trivial⟩
    ⟨gPc_blind, fun U hU hW2 => jj_pre hE hR hS hz hU hW2⟩ rfl hn (by rw [← hml]; exact hl.1) rfl (lv_room hW) hdg ⟨Nat.le_trans hk rm2, Nat.le_trans hns rm3⟩)) hS hl (fun _ _ _ _ _ _ h => h.elim) kk
theorem jj_invIN (hC : OKC G C own cc nL ret fr mc ms P X) {y : MethodName} {host : String} {cc2 : ByteArray} {nL2 : Nat} {np fr2 mc2 ms2 index b : Nat} {As st0 : List Value} {P2 : gP}
    (hm : MV y cc2 nL2 none np) (hy1 : y.name = "<init>") (hin : Cond.instanceMethod y ∈ gW) (hlk : Cond.methodLinkNest own index y host ∈ gNW) (hct : Ct (LV C) G y cc2 nL2 none fr2 mc2 ms2 (.ref b :: As) sz S Ln M R P2 noX) (hn : As.length = np) (hst0 : st0 = As.reverse ++ .ref b :: st) (hW : (st.map fun v => v.category).sum ≤ 8) (hfr : fr2 + 1 ≤ fr) (hk : k + mc2 ≤ mc) (hns : n + ms2 ≤ ms) (hdg : decode cc pc = .ok (.invokespecial index, 3))
    (kk : ∀ v sz S Ln M R, P2 v sz S Ln M R → JJ G C (k + mc2) (n + ms2) sz S Ln M R (pc + 3) lv (v.toList ++ st)) : JJ G C k n sz S Ln M R pc lv st0 := by
  obtain ⟨p, l, e, Rm, s, m, args, below, meth, c, Q⟩ := C
  obtain ⟨hx, hb, hml, hown, hts, hE, hlk2, hrt, hst, hRm, hQ, htab, hz⟩ := hC
  intro H locs ls hR hS hl
  obtain ⟨m1, m2, m3, m4, m5, m6⟩ := hm
  obtain ⟨rm1, rm2, rm3, rm4⟩ := hRm
  subst hst0
  exact jj_run (X2 := noX) (jj_va (va_runIN (Ts := gW) (own := own) ⟨hx, hb, hml, hown, hts⟩ hct.met ⟨va_cnB (ws' := gW) np hts (gW_cons m1 gW_good) rfl rfl rfl (hE.2.1.1 _ hlk) (hts _ m2) ⟨m3, m4, m5⟩ ⟨Nat.le_trans hfr rm1, by show 8 + (nL2 + 11) + 64 * fr2 ≤ Rm.locals; omega⟩, hy1, hts _ hin⟩
    ⟨gPc_blind, fun U hU hW2 => jj_pre hE hR hS hz hU hW2⟩ rfl hn (by rw [← hml]; exact hl.1) rfl (lv_room hW) hdg ⟨Nat.le_trans hk rm2, Nat.le_trans hns rm3⟩)) hS hl (fun _ _ _ _ _ _ h => h.elim) kk
theorem jj_objInit (hC : OKC G C own cc nL ret fr mc ms P X) {index a : Nat} (hlk : Cond.methodLink own index Lib.objectInit ∈ gW) (hin : Cond.instanceMethod Lib.objectInit ∈ gW) (hco : Cond.code Lib.objectInit ⟨#[0xb1]⟩ 1 none ∈ gW) (hfr : 1 ≤ fr) (hW : (st.map fun v => v.category).sum ≤ 8) (hd : decode cc pc = .ok (.invokespecial index, 3)) (kk : JJ G C k n sz S Ln M R (pc + 3) lv st) : JJ G C k n sz S Ln M R pc lv (.ref a :: st) := by
  obtain ⟨p, l, e, Rm, s, m, args, below, meth, c, Q⟩ := C
  obtain ⟨hx, hb, hml, hown, hts, hE, hlk2, hrt, hst, hRm, hQ, htab, hz⟩ := hC
  intro H locs ls hR hS hl
  obtain ⟨rm1, rm2, rm3, rm4⟩ := hRm
  exact W.objInit hx hb hown (hts _ hlk) (hts _ hin) (hts _ hco) (g := F0 m pc ls (.ref a :: st)) rfl hl.1 rfl hd (Nat.le_trans hfr rm1) (by show 2 * 0 + _ + 12 ≤ Rm.locals; omega) (kk H locs ls hR hS hl)
theorem jj_mmax (hC : OKC G C own cc nL ret fr mc ms P X) {index : Nat} {x y : Int} (hrx : (-2147483648 ≤ x ∧ x < 2147483648)) (hry : (-2147483648 ≤ y ∧ y < 2147483648)) (hlk : Cond.methodLink own index Lib.Math.max.name ∈ gW) (hstt : Cond.static Lib.Math.max.name ∈ gW) (hini : Cond.initialized "java/lang/Math" ∈ gW) (hco : Cond.code Lib.Math.max.name Lib.Math.max.code 2 (some .int) ∈ gW) (hfr : 1 ≤ fr) (hW : (st.map fun v => v.category).sum ≤ 8) (hk : k ≤ mc) (hn : n ≤ ms) (hd : decode cc pc = .ok (.invokestatic index, 3)) (kk : JJ G C k n sz S Ln M R (pc + 3) lv (.int (iI (if x < y then y else x)) :: st)) : JJ G C k n sz S Ln M R pc lv (.int (iI y) :: .int (iI x) :: st) := by
  obtain ⟨p, l, e, Rm, s, m, args, below, meth, c, Q⟩ := C
  obtain ⟨hx, hb, hml, hown, hts, hE, hlk2, hrt, hst, hRm, hQ, htab, hz⟩ := hC
  intro H locs ls hR hS hl
  obtain ⟨rm1, rm2, rm3, rm4⟩ := hRm
  refine va_mmax hx hb hl.1.symm hown (hts _ hlk) (hts _ hstt) (hts _ hini) (hts _ hco) (Nat.le_trans hfr rm1) (by show _ ≤ Rm.locals; omega) (Nat.le_trans hk rm2) (Nat.le_trans hn rm3) hd ?_
  have e9 : (if iI x < iI y then iI y else iI x) = iI (if x < y then y else x) := by
    by_cases h9 : x < y
    · rw [if_pos h9, if_pos (show iI x < iI y from (iI_lt hrx hry).mpr h9)]
    · rw [if_neg h9, if_neg (fun q : iI x < iI y => h9 ((iI_lt hrx hry).mp q))]
  rw [e9]
  exact kk H locs ls hR hS hl

theorem jj_mmin (hC : OKC G C own cc nL ret fr mc ms P X) {index : Nat} {x y : Int} (hrx : (-2147483648 ≤ x ∧ x < 2147483648)) (hry : (-2147483648 ≤ y ∧ y < 2147483648)) (hlk : Cond.methodLink own index Lib.Math.min.name ∈ gW) (hstt : Cond.static Lib.Math.min.name ∈ gW) (hini : Cond.initialized "java/lang/Math" ∈ gW) (hco : Cond.code Lib.Math.min.name Lib.Math.min.code 2 (some .int) ∈ gW) (hfr : 1 ≤ fr) (hW : (st.map fun v => v.category).sum ≤ 8) (hk : k ≤ mc) (hn : n ≤ ms) (hd : decode cc pc = .ok (.invokestatic index, 3)) (kk : JJ G C k n sz S Ln M R (pc + 3) lv (.int (iI (if y < x then y else x)) :: st)) : JJ G C k n sz S Ln M R pc lv (.int (iI y) :: .int (iI x) :: st) := by
  obtain ⟨p, l, e, Rm, s, m, args, below, meth, c, Q⟩ := C
  obtain ⟨hx, hb, hml, hown, hts, hE, hlk2, hrt, hst, hRm, hQ, htab, hz⟩ := hC
  intro H locs ls hR hS hl
  obtain ⟨rm1, rm2, rm3, rm4⟩ := hRm
  refine va_mmin hx hb hl.1.symm hown (hts _ hlk) (hts _ hstt) (hts _ hini) (hts _ hco) (Nat.le_trans hfr rm1) (by show _ ≤ Rm.locals; omega) (Nat.le_trans hk rm2) (Nat.le_trans hn rm3) hd ?_
  have e9 : (if iI y < iI x then iI y else iI x) = iI (if y < x then y else x) := by
    by_cases h9 : y < x
    · rw [if_pos h9, if_pos (show iI y < iI x from (iI_lt hry hrx).mpr h9)]
    · rw [if_neg h9, if_neg (fun q : iI y < iI x => h9 ((iI_lt hry hrx).mp q))]
  rw [e9]
  exact kk H locs ls hR hS hl

theorem jj_mabs (hC : OKC G C own cc nL ret fr mc ms P X) {index : Nat} {x : Int} (hrx : (-2147483648 ≤ x ∧ x < 2147483648)) (hlk : Cond.methodLink own index Lib.Math.abs.name ∈ gW) (hstt : Cond.static Lib.Math.abs.name ∈ gW) (hini : Cond.initialized "java/lang/Math" ∈ gW) (hco : Cond.code Lib.Math.abs.name Lib.Math.abs.code 1 (some .int) ∈ gW) (hfr : 1 ≤ fr) (hW : (st.map fun v => v.category).sum ≤ 8) (hk : k ≤ mc) (hn : n ≤ ms) (hd : decode cc pc = .ok (.invokestatic index, 3)) (kk : JJ G C k n sz S Ln M R (pc + 3) lv (.int (iI (if 0 ≤ x then x else 0 - x)) :: st)) : JJ G C k n sz S Ln M R pc lv (.int (iI x) :: st) := by
  obtain ⟨p, l, e, Rm, s, m, args, below, meth, c, Q⟩ := C
  obtain ⟨hx, hb, hml, hown, hts, hE, hlk2, hrt, hst, hRm, hQ, htab, hz⟩ := hC
  intro H locs ls hR hS hl
  obtain ⟨rm1, rm2, rm3, rm4⟩ := hRm
  refine va_mabs hx hb hl.1.symm hown (hts _ hlk) (hts _ hstt) (hts _ hini) (hts _ hco) (Nat.le_trans hfr rm1) (by show _ ≤ Rm.locals; omega) (Nat.le_trans hk rm2) (Nat.le_trans hn rm3) hd ?_
  have e9 : (if 0 ≤ iI x then iI x else 0 - iI x) = iI (if 0 ≤ x then x else 0 - x) := by
    by_cases h9 : 0 ≤ x
    · rw [if_pos h9, if_pos (show 0 ≤ iI x from (iI_le jj_r0 hrx).mpr h9)]
    · rw [if_neg h9, if_neg (fun q : 0 ≤ iI x => h9 ((iI_le jj_r0 hrx).mp q))]; exact iI_sub 0 x
  rw [e9]
  exact kk H locs ls hR hS hl

theorem jj_copyI (hC : OKC G C own cc nL ret fr mc ms P X) {index a b : Nat} {i0 i1 i2 : Int} (hs0 : S a = 20) (hs1 : S b = 20) (q0 : 0 ≤ i0) (q1 : 0 ≤ i1) (q2 : 0 ≤ i2) (q4 : i0 + i2 ≤ Ln a) (q5 : i1 + i2 ≤ Ln b) (hlk : Cond.methodLink own index arraycopyName ∈ gW) (hnat : Cond.native arraycopyName ∈ gW) (hstt : Cond.static arraycopyName ∈ gW) (hini : Cond.initialized "java/lang/System" ∈ gW) (hfr : 1 ≤ fr) (hW : (st.map fun v => v.category).sum ≤ 8) (hd : decode cc pc = .ok (.invokestatic index, 3))
    (kk : JJ G C k n sz S Ln (ua M b (fun j => if i1 ≤ j ∧ j < i1 + i2 then M a (i0 + (j - i1)) else M b j)) R (pc + 3) lv st) : JJ G C k n sz S Ln M R pc lv (.int (iI i2) :: .int (iI i1) :: .ref b :: .int (iI i0) :: .ref a :: st) := by
  obtain ⟨p, l, e, Rm, s, m, args, below, meth, c, Q⟩ := C
  obtain ⟨hx, hb, hml, hown, hts, hE, hlk2, hrt, hst, hRm, hQ, htab, hz⟩ := hC
  intro H locs ls hR hS hl
  obtain ⟨sp, rfl⟩ : ∃ j : Nat, i0 = j := ⟨i0.toNat, by omega⟩
  obtain ⟨dp, rfl⟩ : ∃ j : Nat, i1 = j := ⟨i1.toNat, by omega⟩
  obtain ⟨nn, rfl⟩ : ∃ j : Nat, i2 = j := ⟨i2.toNat, by omega⟩
  obtain ⟨rm1, rm2, rm3, rm4⟩ := hRm
  obtain ⟨hc0, hA0, hr0, hln0⟩ := hR.arr hs0 (by omega)
  obtain ⟨hc1, hA1, hr1, hln1⟩ := hR.arr hs1 (by omega)
  have cs : (iI (sp : Int)).toNatClampNeg = sp := by rw [iI_clamp (by omega) (by omega)]; rfl
  have cd : (iI (dp : Int)).toNatClampNeg = dp := by rw [iI_clamp (by omega) (by omega)]; rfl
  have cn : (iI (nn : Int)).toNatClampNeg = nn := by rw [iI_clamp (by omega) (by omega)]; rfl
  have is : (iI (sp : Int)).toInt = sp := iI_toInt ⟨by omega, by omega⟩
  have id : (iI (dp : Int)).toInt = dp := iI_toInt ⟨by omega, by omega⟩
  have inn : (iI (nn : Int)).toInt = nn := iI_toInt ⟨by omega, by omega⟩
  intro T hT X9
  obtain ⟨-, k0, hk0, cm0, hkk0⟩ := (hE.1.2 0 _ rfl).1 (Ln a) (gm_f G S M R a)
  obtain ⟨-, k1, hk1, cm1, hkk1⟩ := (hE.1.2 0 _ rfl).1 (Ln b) (gm_f G S M R b)
  have hf0 : ∀ j : Nat, gm_f G S M R a j = .int (iI (M a (j : Int))) := fun j => by unfold gm_f; rw [hs0]; rfl
  have hf1 : ∀ j : Nat, gm_f G S M R b j = .int (iI (M b (j : Int))) := fun j => by unfold gm_f; rw [hs1]; rfl
  obtain ⟨vm', X', step⟩ := X9.arraycopy hx hown (hts _ hlk) (hts _ hnat) (hts _ hstt) (hts _ hini) (src := a) (dst := b) (cs := arrV (G.2.2.1 20) (Ln a) (gm_f G S M R a)) (cd := arrV (G.2.2.1 20) (Ln b) (gm_f G S M R b)) (srcPos := iI sp) (destPos := iI dp) (n := iI nn) (by rw [hT]; exact hc0) (by rw [hT]; exact hc1)
    (fun _ h => by cases h) (fun _ h => by cases h) (fun h => by cases h) (fun h => by cases h) hk0 hk1 hkk0 hkk1 (by rfl) (by rw [iI_0, iI_lt ⟨by omega, by omega⟩ jj_r0]; omega) (by rw [iI_0, iI_lt ⟨by omega, by omega⟩ jj_r0]; omega) (by rw [iI_0, iI_lt ⟨by omega, by omega⟩ jj_r0]; omega)
    (by rw [is, inn, arrV_size]; omega)
    (by rw [id, inn, arrV_size]; omega)
    (fun vm₁ _ i hi => by
      rw [cn] at hi
      rw [cs]
      have e : (arrV (G.2.2.1 20) (Ln a) (gm_f G S M R a)).slots.getD (sp + i) .null = .int (iI (M a ((sp + i : Nat) : Int))) := by
        rw [Array.getD_eq_getD_getElem?, arrV_read _ _ (by omega), hf0]
        rfl
      refine ⟨?_, ?_⟩
      · rw [e]
        have := hr0 (sp + i)
        rfl
      · rw [e]
        exact trivial)
    (g := F0 m pc ls (.int (iI nn) :: .int (iI dp) :: .ref b :: .int (iI sp) :: .ref a :: st)) rfl (by rw [hl.1]) (rest := st) rfl (by rw [hb]; exact hd) (Nat.le_trans hfr rm1) (by
      have e9 : nativeFrameWords "java/lang/System" "arraycopy" 5 + 11 ≤ 56 := by decide
      show 2 * 0 + _ + _ ≤ Rm.locals; omega)
  have e1 : copied (arrV (G.2.2.1 20) (Ln a) (gm_f G S M R a)) (arrV (G.2.2.1 20) (Ln b) (gm_f G S M R b)) (iI sp) (iI dp) (iI nn) = arrV (G.2.2.1 20) (Ln b) (va_cpy (gm_f G S M R a) (gm_f G S M R b) sp dp nn) := by
    have := va_copied (fun z : Value => z) (G.2.2.1 20) (G.2.2.1 20) (n0 := Ln a) (n1 := Ln b) (sp := sp) (dp := dp) (n := nn) (gm_f G S M R a) (gm_f G S M R b) (by omega)
    unfold copied
    rw [cs, cd, cn]
    exact this
  rw [e1] at X' step
  have hlt : b < H.size := (Array.getElem?_eq_some_iff.mp hc1).1
  have hheap : ((T.setVm vm').setCell b (arrV (G.2.2.1 20) (Ln b) (va_cpy (gm_f G S M R a) (gm_f G S M R b) sp dp nn))).heap = H.setIfInBounds b (arrV (G.2.2.1 20) (Ln b) (va_cpy (gm_f G S M R a) (gm_f G S M R b) sp dp nn)) := by rw [← hT]; rfl
  have oq : ∀ q : Nat, q ≠ b → (H.setIfInBounds b (arrV (G.2.2.1 20) (Ln b) (va_cpy (gm_f G S M R a) (gm_f G S M R b) sp dp nn)))[q]? = H[q]? := fun q hq => by simp [Array.getElem?_setIfInBounds, Ne.symm hq]
  have hR2 : Rep G sz S Ln (ua M b (fun j => if (dp : Int) ≤ j ∧ j < dp + nn then M a (sp + (j - dp)) else M b j)) (ua R b (R b)) (H.setIfInBounds b (arrV (G.2.2.1 20) (Ln b) (va_cpy (gm_f G S M R a) (gm_f G S M R b) sp dp nn))) := by
    refine hR.over (by omega) (by simp) oq (fun k => ?_) ?_
    · rw [hs1]
      by_cases hq : (dp : Int) ≤ k ∧ (k : Int) < dp + nn
      · rw [if_pos hq]
        have := hr0 (sp + (k - dp))
        rw [show (((sp + (k - dp) : Nat)) : Int) = sp + ((k : Int) - dp) by omega] at this
        exact this
      · rw [if_neg hq]; exact hr1 k
    · unfold gm_cell
      rw [hs1, if_neg (by omega)]
      refine Or.inl ?_
      rw [show (H.setIfInBounds b (arrV (G.2.2.1 20) (Ln b) (va_cpy (gm_f G S M R a) (gm_f G S M R b) sp dp nn)))[b]? = some (arrV (G.2.2.1 20) (Ln b) (va_cpy (gm_f G S M R a) (gm_f G S M R b) sp dp nn)) by simp [Array.getElem?_setIfInBounds, hlt]]
      congr 2
      funext q
      unfold va_cpy
      by_cases hq : dp ≤ q ∧ q < dp + nn
      · rw [if_pos hq, hf0, if_pos (by omega)]
        rw [show (((sp + (q - dp) : Nat)) : Int) = sp + ((q : Int) - dp) by omega]
        rfl
      · rw [if_neg hq, hf1, if_neg (by omega)]
        rfl
  rw [ua_self] at hR2
  obtain ⟨t, a1, b1⟩ := kk _ _ ls hR2 ⟨by simp; exact hS.1, fun q g1 g2 => by
      rw [oq q (fun e => g2 (by rw [e]; exact hA1 rfl))]
      exact hS.2.1 q g1 g2, fun q hq => by
      rcases List.mem_append.mp hq with h | h
      · exact hS.2.2 q h
      · obtain ⟨z, -, hz⟩ := List.mem_map.mp h
        rw [← hz]
        exact hA1 rfl⟩ hl _ hheap X'
  exact ⟨t, step t a1, b1⟩

theorem jj_copyB (hC : OKC G C own cc nL ret fr mc ms P X) {index a b : Nat} {i0 i1 i2 : Int} (hs0 : S a = 23) (hs1 : S b = 23) (q0 : 0 ≤ i0) (q1 : 0 ≤ i1) (q2 : 0 ≤ i2) (q4 : i0 + i2 ≤ Ln a) (q5 : i1 + i2 ≤ Ln b) (hlk : Cond.methodLink own index arraycopyName ∈ gW) (hnat : Cond.native arraycopyName ∈ gW) (hstt : Cond.static arraycopyName ∈ gW) (hini : Cond.initialized "java/lang/System" ∈ gW) (hfr : 1 ≤ fr) (hW : (st.map fun v => v.category).sum ≤ 8) (hd : decode cc pc = .ok (.invokestatic index, 3))
    (kk : JJ G C k n sz S Ln (ua M b (fun j => if i1 ≤ j ∧ j < i1 + i2 then M a (i0 + (j - i1)) else M b j)) R (pc + 3) lv st) : JJ G C k n sz S Ln M R pc lv (.int (iI i2) :: .int (iI i1) :: .ref b :: .int (iI i0) :: .ref a :: st) := by
  obtain ⟨p, l, e, Rm, s, m, args, below, meth, c, Q⟩ := C
  obtain ⟨hx, hb, hml, hown, hts, hE, hlk2, hrt, hst, hRm, hQ, htab, hz⟩ := hC
  intro H locs ls hR hS hl
  obtain ⟨sp, rfl⟩ : ∃ j : Nat, i0 = j := ⟨i0.toNat, by omega⟩
  obtain ⟨dp, rfl⟩ : ∃ j : Nat, i1 = j := ⟨i1.toNat, by omega⟩
  obtain ⟨nn, rfl⟩ : ∃ j : Nat, i2 = j := ⟨i2.toNat, by omega⟩
  obtain ⟨rm1, rm2, rm3, rm4⟩ := hRm
  obtain ⟨hc0, hA0, hr0, hln0⟩ := hR.arr hs0 (by omega)
  obtain ⟨hc1, hA1, hr1, hln1⟩ := hR.arr hs1 (by omega)
  have cs : (iI (sp : Int)).toNatClampNeg = sp := by rw [iI_clamp (by omega) (by omega)]; rfl
  have cd : (iI (dp : Int)).toNatClampNeg = dp := by rw [iI_clamp (by omega) (by omega)]; rfl
  have cn : (iI (nn : Int)).toNatClampNeg = nn := by rw [iI_clamp (by omega) (by omega)]; rfl
  have is : (iI (sp : Int)).toInt = sp := iI_toInt ⟨by omega, by omega⟩
  have id : (iI (dp : Int)).toInt = dp := iI_toInt ⟨by omega, by omega⟩
  have inn : (iI (nn : Int)).toInt = nn := iI_toInt ⟨by omega, by omega⟩
  intro T hT X9
  obtain ⟨-, k0, hk0, cm0, hkk0⟩ := (hE.1.2 3 _ rfl).1 (Ln a) (gm_f G S M R a)
  obtain ⟨-, k1, hk1, cm1, hkk1⟩ := (hE.1.2 3 _ rfl).1 (Ln b) (gm_f G S M R b)
  have hf0 : ∀ j : Nat, gm_f G S M R a j = .int (iI (M a (j : Int))) := fun j => by unfold gm_f; rw [hs0]; rfl
  have hf1 : ∀ j : Nat, gm_f G S M R b j = .int (iI (M b (j : Int))) := fun j => by unfold gm_f; rw [hs1]; rfl
  obtain ⟨vm', X', step⟩ := X9.arraycopy hx hown (hts _ hlk) (hts _ hnat) (hts _ hstt) (hts _ hini) (src := a) (dst := b) (cs := arrV (G.2.2.1 23) (Ln a) (gm_f G S M R a)) (cd := arrV (G.2.2.1 23) (Ln b) (gm_f G S M R b)) (srcPos := iI sp) (destPos := iI dp) (n := iI nn) (by rw [hT]; exact hc0) (by rw [hT]; exact hc1)
    (fun _ h => by cases h) (fun _ h => by cases h) (fun h => by cases h) (fun h => by cases h) hk0 hk1 hkk0 hkk1 (by rfl) (by rw [iI_0, iI_lt ⟨by omega, by omega⟩ jj_r0]; omega) (by rw [iI_0, iI_lt ⟨by omega, by omega⟩ jj_r0]; omega) (by rw [iI_0, iI_lt ⟨by omega, by omega⟩ jj_r0]; omega)
    (by rw [is, inn, arrV_size]; omega)
    (by rw [id, inn, arrV_size]; omega)
    (fun vm₁ _ i hi => by
      rw [cn] at hi
      rw [cs]
      have e : (arrV (G.2.2.1 23) (Ln a) (gm_f G S M R a)).slots.getD (sp + i) .null = .int (iI (M a ((sp + i : Nat) : Int))) := by
        rw [Array.getD_eq_getD_getElem?, arrV_read _ _ (by omega), hf0]
        rfl
      refine ⟨?_, ?_⟩
      · rw [e]
        have := hr0 (sp + i)
        exact j8_fitB this
      · rw [e]
        exact trivial)
    (g := F0 m pc ls (.int (iI nn) :: .int (iI dp) :: .ref b :: .int (iI sp) :: .ref a :: st)) rfl (by rw [hl.1]) (rest := st) rfl (by rw [hb]; exact hd) (Nat.le_trans hfr rm1) (by
      have e9 : nativeFrameWords "java/lang/System" "arraycopy" 5 + 11 ≤ 56 := by decide
      show 2 * 0 + _ + _ ≤ Rm.locals; omega)
  have e1 : copied (arrV (G.2.2.1 23) (Ln a) (gm_f G S M R a)) (arrV (G.2.2.1 23) (Ln b) (gm_f G S M R b)) (iI sp) (iI dp) (iI nn) = arrV (G.2.2.1 23) (Ln b) (va_cpy (gm_f G S M R a) (gm_f G S M R b) sp dp nn) := by
    have := va_copied (fun z : Value => z) (G.2.2.1 23) (G.2.2.1 23) (n0 := Ln a) (n1 := Ln b) (sp := sp) (dp := dp) (n := nn) (gm_f G S M R a) (gm_f G S M R b) (by omega)
    unfold copied
    rw [cs, cd, cn]
    exact this
  rw [e1] at X' step
  have hlt : b < H.size := (Array.getElem?_eq_some_iff.mp hc1).1
  have hheap : ((T.setVm vm').setCell b (arrV (G.2.2.1 23) (Ln b) (va_cpy (gm_f G S M R a) (gm_f G S M R b) sp dp nn))).heap = H.setIfInBounds b (arrV (G.2.2.1 23) (Ln b) (va_cpy (gm_f G S M R a) (gm_f G S M R b) sp dp nn)) := by rw [← hT]; rfl
  have oq : ∀ q : Nat, q ≠ b → (H.setIfInBounds b (arrV (G.2.2.1 23) (Ln b) (va_cpy (gm_f G S M R a) (gm_f G S M R b) sp dp nn)))[q]? = H[q]? := fun q hq => by simp [Array.getElem?_setIfInBounds, Ne.symm hq]
  have hR2 : Rep G sz S Ln (ua M b (fun j => if (dp : Int) ≤ j ∧ j < dp + nn then M a (sp + (j - dp)) else M b j)) (ua R b (R b)) (H.setIfInBounds b (arrV (G.2.2.1 23) (Ln b) (va_cpy (gm_f G S M R a) (gm_f G S M R b) sp dp nn))) := by
    refine hR.over (by omega) (by simp) oq (fun k => ?_) ?_
    · rw [hs1]
      by_cases hq : (dp : Int) ≤ k ∧ (k : Int) < dp + nn
      · rw [if_pos hq]
        have := hr0 (sp + (k - dp))
        rw [show (((sp + (k - dp) : Nat)) : Int) = sp + ((k : Int) - dp) by omega] at this
        exact this
      · rw [if_neg hq]; exact hr1 k
    · unfold gm_cell
      rw [hs1, if_neg (by omega)]
      refine Or.inl ?_
      rw [show (H.setIfInBounds b (arrV (G.2.2.1 23) (Ln b) (va_cpy (gm_f G S M R a) (gm_f G S M R b) sp dp nn)))[b]? = some (arrV (G.2.2.1 23) (Ln b) (va_cpy (gm_f G S M R a) (gm_f G S M R b) sp dp nn)) by simp [Array.getElem?_setIfInBounds, hlt]]
      congr 2
      funext q
      unfold va_cpy
      by_cases hq : dp ≤ q ∧ q < dp + nn
      · rw [if_pos hq, hf0, if_pos (by omega)]
        rw [show (((sp + (q - dp) : Nat)) : Int) = sp + ((q : Int) - dp) by omega]
        rfl
      · rw [if_neg hq, hf1, if_neg (by omega)]
        rfl
  rw [ua_self] at hR2
  obtain ⟨t, a1, b1⟩ := kk _ _ ls hR2 ⟨by simp; exact hS.1, fun q g1 g2 => by
      rw [oq q (fun e => g2 (by rw [e]; exact hA1 rfl))]
      exact hS.2.1 q g1 g2, fun q hq => by
      rcases List.mem_append.mp hq with h | h
      · exact hS.2.2 q h
      · obtain ⟨z, -, hz⟩ := List.mem_map.mp h
        rw [← hz]
        exact hA1 rfl⟩ hl _ hheap X'
  exact ⟨t, step t a1, b1⟩

theorem jj_copyB28 (hC : OKC G C own cc nL ret fr mc ms P X) {index a b : Nat} {i0 i1 i2 : Int} (hs0 : S a = 28) (hs1 : S b = 23) (q0 : 0 ≤ i0) (q1 : 0 ≤ i1) (q2 : 0 ≤ i2) (q4 : i0 + i2 ≤ Ln a) (q5 : i1 + i2 ≤ Ln b) (hlk : Cond.methodLink own index arraycopyName ∈ gW) (hnat : Cond.native arraycopyName ∈ gW) (hstt : Cond.static arraycopyName ∈ gW) (hini : Cond.initialized "java/lang/System" ∈ gW) (hfr : 1 ≤ fr) (hW : (st.map fun v => v.category).sum ≤ 8) (hd : decode cc pc = .ok (.invokestatic index, 3))
    (kk : JJ G C k n sz S Ln (ua M b (fun j => if i1 ≤ j ∧ j < i1 + i2 then M a (i0 + (j - i1)) else M b j)) R (pc + 3) lv st) : JJ G C k n sz S Ln M R pc lv (.int (iI i2) :: .int (iI i1) :: .ref b :: .int (iI i0) :: .ref a :: st) := by
  obtain ⟨p, l, e, Rm, s, m, args, below, meth, c, Q⟩ := C
  obtain ⟨hx, hb, hml, hown, hts, hE, hlk2, hrt, hst, hRm, hQ, htab, hz⟩ := hC
  intro H locs ls hR hS hl
  obtain ⟨sp, rfl⟩ : ∃ j : Nat, i0 = j := ⟨i0.toNat, by omega⟩
  obtain ⟨dp, rfl⟩ : ∃ j : Nat, i1 = j := ⟨i1.toNat, by omega⟩
  obtain ⟨nn, rfl⟩ : ∃ j : Nat, i2 = j := ⟨i2.toNat, by omega⟩
  obtain ⟨rm1, rm2, rm3, rm4⟩ := hRm
  obtain ⟨⟨cl0, hc0, hcc0, ⟨hl1, hl2, hl3⟩, hv1, hv2⟩, hr0, hln0⟩ := hR.arq hs0 (by omega)
  obtain ⟨hc1, hA1, hr1, hln1⟩ := hR.arr hs1 (by omega)
  have cs : (iI (sp : Int)).toNatClampNeg = sp := by rw [iI_clamp (by omega) (by omega)]; rfl
  have cd : (iI (dp : Int)).toNatClampNeg = dp := by rw [iI_clamp (by omega) (by omega)]; rfl
  have cn : (iI (nn : Int)).toNatClampNeg = nn := by rw [iI_clamp (by omega) (by omega)]; rfl
  have is : (iI (sp : Int)).toInt = sp := iI_toInt ⟨by omega, by omega⟩
  have id : (iI (dp : Int)).toInt = dp := iI_toInt ⟨by omega, by omega⟩
  have inn : (iI (nn : Int)).toInt = nn := iI_toInt ⟨by omega, by omega⟩
  intro T hT X9
  obtain ⟨hst0, k0, hk0, cm0, hkk0⟩ := arq_of (hE.1.2 8 _ rfl).1 hcc0 hv2
  obtain ⟨-, k1, hk1, cm1, hkk1⟩ := (hE.1.2 3 _ rfl).1 (Ln b) (gm_f G S M R b)
  have hf0 : ∀ j : Nat, gm_f G S M R a j = .int (iI (M a (j : Int))) := fun j => by unfold gm_f; rw [hs0]; rfl
  have hf1 : ∀ j : Nat, gm_f G S M R b j = .int (iI (M b (j : Int))) := fun j => by unfold gm_f; rw [hs1]; rfl
  obtain ⟨vm', X', step⟩ := X9.arraycopy hx hown (hts _ hlk) (hts _ hnat) (hts _ hstt) (hts _ hini) (src := a) (dst := b) (cs := cl0) (cd := arrV (G.2.2.1 23) (Ln b) (gm_f G S M R b)) (srcPos := iI sp) (destPos := iI dp) (n := iI nn) (by rw [hT]; exact hc0) (by rw [hT]; exact hc1)
    hst0 (fun _ h => by cases h) hv1 (fun h => by cases h) hk0 hk1 hkk0 hkk1 (by rfl) (by rw [iI_0, iI_lt ⟨by omega, by omega⟩ jj_r0]; omega) (by rw [iI_0, iI_lt ⟨by omega, by omega⟩ jj_r0]; omega) (by rw [iI_0, iI_lt ⟨by omega, by omega⟩ jj_r0]; omega)
    (by rw [is, inn]; omega)
    (by rw [id, inn, arrV_size]; omega)
    (fun vm₁ _ i hi => by
      rw [cn] at hi
      rw [cs]
      have e : cl0.slots.getD (sp + i) .null = .int (iI (M a ((sp + i : Nat) : Int))) := by
        rw [Array.getD_eq_getD_getElem?, hl3 _ (by omega), hf0]
        rfl
      refine ⟨?_, ?_⟩
      · rw [e]
        have := hr0 (sp + i)
        exact j8_fitB this
      · rw [e]
        exact trivial)
    (g := F0 m pc ls (.int (iI nn) :: .int (iI dp) :: .ref b :: .int (iI sp) :: .ref a :: st)) rfl (by rw [hl.1]) (rest := st) rfl (by rw [hb]; exact hd) (Nat.le_trans hfr rm1) (by
      have e9 : nativeFrameWords "java/lang/System" "arraycopy" 5 + 11 ≤ 56 := by decide
      show 2 * 0 + _ + _ ≤ Rm.locals; omega)
  have e1 : copied cl0 (arrV (G.2.2.1 23) (Ln b) (gm_f G S M R b)) (iI sp) (iI dp) (iI nn) = arrV (G.2.2.1 23) (Ln b) (va_cpy (gm_f G S M R a) (gm_f G S M R b) sp dp nn) := by
    have := va_copied (fun z : Value => z) (G.2.2.1 28) (G.2.2.1 23) (n0 := Ln a) (n1 := Ln b) (sp := sp) (dp := dp) (n := nn) (gm_f G S M R a) (gm_f G S M R b) (by omega)
    have hstr : cl0.stretch sp nn = (arrV (G.2.2.1 28) (Ln a) (gm_f G S M R a)).stretch sp nn := by
      unfold Cell.stretch
      refine List.map_congr_left (fun i hi => ?_)
      rw [List.mem_range] at hi
      rw [Array.getD_eq_getD_getElem?, Array.getD_eq_getD_getElem?, hl3 _ (by omega), arrV_read _ _ (by omega)]
    unfold copied
    rw [cs, cd, cn, hstr]
    exact this
  rw [e1] at X' step
  have hlt : b < H.size := (Array.getElem?_eq_some_iff.mp hc1).1
  have hheap : ((T.setVm vm').setCell b (arrV (G.2.2.1 23) (Ln b) (va_cpy (gm_f G S M R a) (gm_f G S M R b) sp dp nn))).heap = H.setIfInBounds b (arrV (G.2.2.1 23) (Ln b) (va_cpy (gm_f G S M R a) (gm_f G S M R b) sp dp nn)) := by rw [← hT]; rfl
  have oq : ∀ q : Nat, q ≠ b → (H.setIfInBounds b (arrV (G.2.2.1 23) (Ln b) (va_cpy (gm_f G S M R a) (gm_f G S M R b) sp dp nn)))[q]? = H[q]? := fun q hq => by simp [Array.getElem?_setIfInBounds, Ne.symm hq]
  have hR2 : Rep G sz S Ln (ua M b (fun j => if (dp : Int) ≤ j ∧ j < dp + nn then M a (sp + (j - dp)) else M b j)) (ua R b (R b)) (H.setIfInBounds b (arrV (G.2.2.1 23) (Ln b) (va_cpy (gm_f G S M R a) (gm_f G S M R b) sp dp nn))) := by
    refine hR.over (by omega) (by simp) oq (fun k => ?_) ?_
    · rw [hs1]
      by_cases hq : (dp : Int) ≤ k ∧ (k : Int) < dp + nn
      · rw [if_pos hq]
        have := hr0 (sp + (k - dp))
        rw [show (((sp + (k - dp) : Nat)) : Int) = sp + ((k : Int) - dp) by omega] at this
        exact this
      · rw [if_neg hq]; exact hr1 k
    · unfold gm_cell
      rw [hs1, if_neg (by omega)]
      refine Or.inl ?_
      rw [show (H.setIfInBounds b (arrV (G.2.2.1 23) (Ln b) (va_cpy (gm_f G S M R a) (gm_f G S M R b) sp dp nn)))[b]? = some (arrV (G.2.2.1 23) (Ln b) (va_cpy (gm_f G S M R a) (gm_f G S M R b) sp dp nn)) by simp [Array.getElem?_setIfInBounds, hlt]]
      congr 2
      funext q
      unfold va_cpy
      by_cases hq : dp ≤ q ∧ q < dp + nn
      · rw [if_pos hq, hf0, if_pos (by omega)]
        rw [show (((sp + (q - dp) : Nat)) : Int) = sp + ((q : Int) - dp) by omega]
        rfl
      · rw [if_neg hq, hf1, if_neg (by omega)]
        rfl
  rw [ua_self] at hR2
  obtain ⟨t, a1, b1⟩ := kk _ _ ls hR2 ⟨by simp; exact hS.1, fun q g1 g2 => by
      rw [oq q (fun e => g2 (by rw [e]; exact hA1 rfl))]
      exact hS.2.1 q g1 g2, fun q hq => by
      rcases List.mem_append.mp hq with h | h
      · exact hS.2.2 q h
      · obtain ⟨z, -, hz⟩ := List.mem_map.mp h
        rw [← hz]
        exact hA1 rfl⟩ hl _ hheap X'
  exact ⟨t, step t a1, b1⟩
/-- an exception goes out -/
theorem jj_out (hC : OKC G C own cc nL ret fr mc ms P X) {E : String} (h1 : k ≤ mc) (h2 : n ≤ ms) (hX : X E sz S Ln M R) (ho : own ≠ "GlidingContestLaw" := by decide) : JX G C k n E sz S Ln M R pc lv st := by
  obtain ⟨p, l, e, Rm, s, m, args, below, meth, c, Q⟩ := C
  obtain ⟨hx, hb, hml, hown, hts, hE, hlk2, hrt, hst, hRm, hQ, htab, hz⟩ := hC
  intro H locs ls q ce hR hS hl hc hv hcl
  subst hQ
  exact vx_out (fun x hx => (htab ho x hx).elim) hlk2 hc hv hcl (fun t ht _ => ⟨⟨sz, S, Ln, M, R, hX, by rw [ht]; exact hR⟩, by unfold va_F; rw [ht]; exact ⟨hS.1, hS.2.1⟩⟩) hS.2.2 h1 h2
/-- throw new E(text) -/
theorem jj_throw (hC : OKC G C own cc nL ret fr mc ms P X) {cls text : String} {names : List String} {ik is ic : Nat} (i : Nat) (hi : gTx[i]? = some (own, is, text)) (hcls : Bundle.fit cls = true) (hnames : ∀ n ∈ names, Bundle.fit n = true) (hlen : names.length ≤ 4)
    (hk : Cond.classLink own ik cls ∈ gW) (hini : Cond.initialized cls ∈ gW) (hat : ∀ w ∈ vx_atS own ic cls names, w ∈ gW ∨ ∃ E, w = Cond.declares E ∧ w ∈ gNW) (hgood : ∀ w ∈ Cond.classLink own ik cls :: Cond.initialized cls :: vx_atS own ic cls names, vx_ot w = true)
    (d0 : decode cc pc = .ok (.new ik, 3)) (d3 : decode cc (pc + 3) = .ok (.dup, 1)) (d4 : decode cc (pc + 4) = .ok (.ldc_w is, 3)) (d7 : decode cc (pc + 7) = .ok (.invokespecial ic, 3)) (d10 : decode cc (pc + 10) = .ok (.athrow, 1))
    (hfr : 8 ≤ fr) (hW : (st.map fun v => v.category).sum ≤ 8) (h1 : k + 1 ≤ mc) (h2 : n + 6 ≤ ms) (hX : ∀ sz', sz ≤ sz' → X cls sz' S Ln M R) (ho : own ≠ "GlidingContestLaw" := by decide) : JJ G C k n sz S Ln M R pc lv st := by
  obtain ⟨p, l, e, Rm, s, m, args, below, meth, c, Q⟩ := C
  obtain ⟨hx, hb, hml, hown, hts, hE, hlk2, hrt, hst, hRm, hQ, htab, hz⟩ := hC
  intro H locs ls hR hS hl
  subst hQ
  obtain ⟨rm1, rm2, rm3, rm4⟩ := hRm
  obtain ⟨h9, ⟨h10, h10n⟩, z1, z2, z3, z45, z6, z7, z8, z9, z10⟩ := hE
  obtain ⟨sa, hsa⟩ := z7 _ (List.mem_of_getElem? hi)
  refine vx_throwSW (sa := sa) (names := names) hx hb hst hown hcls hnames (hts _ hk) (hts _ hini) hsa ?_ hgood z8 z9 hS hl.1 d0 d3 d4 d7 d10 (fun x hx => (htab ho x hx).elim) (by show names.length + 3 < Rm.frames; omega) (by show _ ≤ Rm.locals; omega) (by show k + 1 ≤ Rm.cells; omega) (by show n + 6 ≤ Rm.slots; omega) hlk2 ?_ hS.2.2 h1 h2
  · intro w hw
    rcases hat w hw with h | ⟨E, rfl, h⟩
    · exact hts _ h
    · exact va_Nw.use rfl (h10 _ h)
  · intro t _ ht1 ht2
    refine ⟨⟨t.heap.size, S, Ln, M, R, hX _ (by rw [← hR.1]; exact ht1), rfl, fun a ha => ?_⟩, ?_, ?_⟩
    · obtain ⟨r1, r2, r3, r5, r4⟩ := hR.2 a ha
      have hH := hR.1
      exact ⟨by omega, r2, r3, r5, gm_cell.kept r4 (ht2 a (by omega))⟩
    · exact Nat.le_trans hS.1 ht1
    · intro q h3 h4
      rw [ht2 q (Nat.lt_of_lt_of_le h3 hS.1)]
      exact hS.2.1 q h3 h4
end JJA
