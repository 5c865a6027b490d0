section JJR
variable {G : gE} {C : gC} {own : String} {cc : ByteArray} {nL : Nat} {ret : Option FieldType} {fr mc ms : Nat} {P : gP} {X : gX} {k n sz : Nat} {S Ln : Nat → Nat} {M : gM} {R : gR} {pc : Nat} {lv lv' : List (Nat × Value)} {st : List Value}
/-- a method's start -/
theorem jj_start {l : Launch} {y : MethodName} {av : List Value} {lv0 : List (Nat × Value)} (hfl : l.stackTraces = false) (hy : plainName own = true) (hyo : y.cls = own) (hlv : lv_args 0 av = lv0) (hn : (lg_sl av).length ≤ nL)
    (body : ∀ C : gC, LV C = l → OKC G C own cc nL ret fr mc ms P X → JJ G C 0 0 sz S Ln M R 0 lv0 []) : Ct l G y cc nL ret fr mc ms av sz S Ln M R P X := by
  subst hyo
  refine vx_ofW (cc := cc) (maxL := nL) (ret := ret) hy rfl ?_
  intro p e s m args below meth c s₁ B hml htab hv
  obtain ⟨rfl, hR, hE, hz⟩ := hv
  have hok : OKC G (p, l, e, gRm fr mc ms, s, m, av.toArray, below, meth, c, vx_MQ below (gQc G P) (gXc G X) av.toArray s mc ms (fun q => G.2.2.2.1 ≤ q)) y.cls cc nL ret fr mc ms P X :=
    ⟨B.exec, B.bytes, hml, findClass_of_methodNamed B.named, fun w hw => atoms_spec (ws := .code y cc nL ret :: gW) B.pre w (List.mem_cons_of_mem _ hw), hE, B.notSynchronized, B.returns, hfl, ⟨Nat.le_refl _, Nat.le_refl _, Nat.le_refl _, Nat.le_refl _⟩, rfl, fun _ => htab, hz⟩
  have h := body _ rfl hok s.heap [] _ hR va_S.rf (by rw [hml, ← hlv]; exact lv_entry av (n := nL) hn)
  rw [lg_entry_eq]
  exact h
theorem jj_widen {k' n' : Nat} (h1 : k ≤ k') (h2 : n ≤ n') (kk : JJ G C k' n' sz S Ln M R pc lv st) : JJ G C k n sz S Ln M R pc lv st := by
  obtain ⟨p, l, e, Rm, s, m, args, below, meth, c, Q⟩ := C
  intro H locs ls hR hS hl
  exact W.widen h1 h2 (kk H locs ls hR hS hl)
theorem jj_lv (ks : List Nat) (h : lv_pick lv ks = lv') (kk : JJ G C k n sz S Ln M R pc lv' st) : JJ G C k n sz S Ln M R pc lv st := by
  obtain ⟨p, l, e, Rm, s, m, args, below, meth, c, Q⟩ := C
  intro H locs ls hR hS hl
  exact kk H locs ls hR hS (lv_sub hl ks h)
/-- what the ranges of the memory are: at hand -/
theorem jj_rng (kk : (∀ a, S a ≠ 0 → (∀ j : Nat, gm_rng (gm_fty (S a) j) (M a (j : Int))) ∧ a < sz ∧ Ln a < 2147483648) → JJ G C k n sz S Ln M R pc lv st) : JJ G C k n sz S Ln M R pc lv st := by
  obtain ⟨p, l, e, Rm, s, m, args, below, meth, c, Q⟩ := C
  intro H locs ls hR hS hl
  exact kk (fun a h => ⟨(hR.2 a h).2.2.1, (hR.2 a h).1, (hR.2 a h).2.2.2.1⟩) H locs ls hR hS hl
/-! fields -/
/-- the facts of a class that its objects' rows need, by its kind -/
def KF (kd : Nat) (CN : String) (T : u_T) (N : Nat) (ty0 : Nat → FieldType) : Prop := 1 ≤ kd ∧ kd < 20 ∧ vwCl[kd - 1]? = some (CN, T, N) ∧ (∀ w ∈ u_ws CN T N, w ∈ gW) ∧ (∀ k, k < N → parseFieldDescriptor (T k).2.2.1 = some (ty0 k)) ∧ (∀ a, a < N → ∀ b, b < N → a ≠ b → (T a).2.1 ≠ (T b).2.1)
theorem jj_get (hC : OKC G C own cc nL ret fr mc ms P X) {kd N index a : Nat} {CN : String} {T : u_T} {ty0 : Nat → FieldType} (hk : KF kd CN T N ty0) (i : Nat) {v : Value} (hs : S a = kd) (hi : i < N) (hlk : Cond.fieldLink own index (T i).1 (T i).2.1 (T i).2.2.1 ∈ gW) (hv : gm_val G.2.2.2.2 (gm_fty kd i) (M a (i : Int)) (R a (i : Int)) = v) (hdg : decode cc pc = .ok (.getfield index, 3))
    (kk : gm_rng (gm_fty kd i) (M a (i : Int)) → JJ G C k n sz S Ln M R (pc + 3) lv (v :: st)) : JJ G C k n sz S Ln M R pc lv (.ref a :: st) := by
  obtain ⟨p, l, e, Rm, s, m, args, below, meth, c, Q⟩ := C
  obtain ⟨hx, hb, hml, hown, hts, hE, hlk2, hrt, hst, hRm, hQ, htab, hz⟩ := hC
  intro H locs ls hR hS hl
  obtain ⟨k1, k2, k3, k4, k5, k6⟩ := hk
  obtain ⟨g1, g2, g3, g5, g4⟩ := hR.2 a (by omega)
  unfold gm_cell at g4
  rw [hs, if_pos k2] at g4
  rw [hs] at g3
  obtain ⟨r, h1, cell, q1, q2, q3, q4⟩ := g4
  have hr : r = (CN, T, N) := Option.some.inj (h1.symm.trans k3)
  subst hr
  obtain ⟨hSl, hfc, kC, hkC, hkind⟩ := hE.1.1 (kd - 1) _ k3
  obtain ⟨cf, kf, fi, f, hfi, hsl⟩ := hSl i hi
  refine W.getf (v := v) hx hb hown (hts _ hlk) hfi (u_facts hfc hkC (u_lays hts k4 hi) hfi).1 q1 q3.1 ?_ rfl rfl hdg (kk (g3 i) H locs ls hR hS hl)
  rw [hsl, q4 i hi]
  show some (gm_f G S M R a i) = some v
  unfold gm_f
  rw [hs, hv]
theorem jj_put (hC : OKC G C own cc nL ret fr mc ms P X) {kd N index a : Nat} {CN : String} {T : u_T} {ty0 : Nat → FieldType} (hk : KF kd CN T N ty0) (i : Nat) {v : Value} {ty : FieldType} (z : Int) (r : Option Nat) (hs : S a = kd) (hro : gm_ro kd = false) (hi : i < N) (hlk : Cond.fieldLink own index (T i).1 (T i).2.1 (T i).2.2.1 ∈ gW) (hfin : (T i).2.2.2 = false) (hd : ty0 i = ty) (hn : narrow ty v = v) (hfit : fits ty v = true)
    (hv : gm_val G.2.2.2.2 (gm_fty kd i) z r = v) (hrz : gm_rng (gm_fty kd i) z) (hdg : decode cc pc = .ok (.putfield index, 3))
    (kk : JJ G C k n sz S Ln (ua M a (us (M a) i z)) (ua R a (us (R a) i r)) (pc + 3) lv st) : JJ G C k n sz S Ln M R pc lv (v :: .ref a :: st) := by
  obtain ⟨p, l, e, Rm, s, m, args, below, meth, c, Q⟩ := C
  obtain ⟨hx, hb, hml, hown, hts, hE, hlk2, hrt, hst, hRm, hQ, htab, hz⟩ := hC
  intro H locs ls hR hS hl
  obtain ⟨k1, k2, k3, k4, k5, k6⟩ := hk
  have ha : S a ≠ 0 := by omega
  obtain ⟨g1, g2, g3, g5, g4⟩ := hR.2 a ha
  unfold gm_cell at g4
  rw [hs, if_pos k2] at g4
  have hA : G.2.2.2.1 ≤ a := g2 (by rw [hs]; exact hro)
  have hap := va_apart (own := own) hts k4 ty0 k5 k6 hE.1 k3
  obtain ⟨r1, h1, cell, q1, q2, q3, q4⟩ := g4
  replace q3 := q3.2.2 hro
  have hr : r1 = (CN, T, N) := Option.some.inj (h1.symm.trans k3)
  subst hr
  obtain ⟨hSl, hfc, kC, hkC, hkind⟩ := hE.1.1 (kd - 1) _ k3
  obtain ⟨cf, kf, fi, f, hfi, hsl⟩ := hSl i hi
  have hlay := hts _ (k4 _ (u_in_lay hi))
  unfold u_lay at hlay
  rw [if_neg (by rw [hfin]; decide)] at hlay
  have hst2 := (u_facts hfc hkC (u_lays hts k4 hi) hfi).1
  have h6 := u_store hfc hkC hkind hlay hfi (by rw [k5 i hi, hd]) hn hfit
  refine W.putK hx hb (f := f) ⟨hown, hts _ hlk, ⟨_, _, _, hfi⟩, hst2⟩ (by rw [q2]; exact h6) q1 q3 (by rw [hsl]; exact k2_hasslot (q4 i hi)) rfl rfl hdg fun H' e1 e2 e3 => ?_
  rw [hsl] at e1 ⊢
  refine kk H' _ ls (hR.put ha e2 e3 (by rw [hs]; exact hrz) ?_) (hS.put e2 e3 hA) hl
  unfold gm_cell
  rw [hs, if_pos k2]
  exact ⟨_, k3, gm_ob.of (t_OB.to (V := updV (gm_f G S M R a) i v) ⟨_, e1, q2, q3, t_set q4 hap hi v⟩ (fun j _ => by rw [← hv]))⟩
theorem jj_putF (hC : OKC G C own cc nL ret fr mc ms P X) {kd N index a : Nat} {CN : String} {T : u_T} {ty0 : Nat → FieldType} (hk : KF kd CN T N ty0) (i : Nat) {v : Value} {ty : FieldType} (z : Int) (r : Option Nat) (hs : S a = kd) (hro : gm_ro kd = false) (hi : i < N) (hlk : Cond.fieldLink own index (T i).1 (T i).2.1 (T i).2.2.1 ∈ gW) (hfin : (T i).2.2.2 = true) (hinm : C.2.2.2.2.2.2.2.2.1.name = "<init>") (hdecl : (T i).1 = own) (hd : ty0 i = ty) (hn : narrow ty v = v) (hfit : fits ty v = true)
    (hv : gm_val G.2.2.2.2 (gm_fty kd i) z r = v) (hrz : gm_rng (gm_fty kd i) z) (hdg : decode cc pc = .ok (.putfield index, 3))
    (kk : JJ G C k n sz S Ln (ua M a (us (M a) i z)) (ua R a (us (R a) i r)) (pc + 3) lv st) : JJ G C k n sz S Ln M R pc lv (v :: .ref a :: st) := by
  obtain ⟨p, l, e, Rm, s, m, args, below, meth, c, Q⟩ := C
  obtain ⟨hx, hb, hml, hown, hts, hE, hlk2, hrt, hst, hRm, hQ, htab, hz⟩ := hC
  intro H locs ls hR hS hl
  obtain ⟨k1, k2, k3, k4, k5, k6⟩ := hk
  have ha : S a ≠ 0 := by omega
  obtain ⟨g1, g2, g3, g5, g4⟩ := hR.2 a ha
  unfold gm_cell at g4
  rw [hs, if_pos k2] at g4
  have hA : G.2.2.2.1 ≤ a := g2 (by rw [hs]; exact hro)
  have hap := va_apart (own := own) hts k4 ty0 k5 k6 hE.1 k3
  obtain ⟨r1, h1, cell, q1, q2, q3, q4⟩ := g4
  replace q3 := q3.2.2 hro
  have hr : r1 = (CN, T, N) := Option.some.inj (h1.symm.trans k3)
  subst hr
  obtain ⟨hSl, hfc, kC, hkC, hkind⟩ := hE.1.1 (kd - 1) _ k3
  obtain ⟨cf, kf, fi, f, hfi, hsl⟩ := hSl i hi
  have hlay := hts _ (k4 _ (u_in_lay hi))
  unfold u_lay at hlay
  rw [if_pos hfin] at hlay
  have hst2 := (u_facts hfc hkC (u_lays hts k4 hi) hfi).1
  have hcf : m.cls = cf := by
    obtain ⟨_, _, c', _, _, _, -, -, hf', -, -, -, hown2, -⟩ := Cond.laysFinal_spec hlay
    have e1 : c' = cf := by have := hfi.symm.trans hf'; simp at this; exact this.1.symm
    rw [hdecl] at hown2
    rw [← e1]; exact Option.some.inj (hown.symm.trans hown2)
  have h6 := u_fits hfc hkC hkind (Or.inr hlay) hfi (by rw [k5 i hi, hd]) hn hfit
  refine W.putFinK hx hb hown (hts _ hlk) hfi hst2 hcf hinm (by rw [q2]; exact h6) q1 q3 (by rw [hsl]; exact k2_hasslot (q4 i hi)) rfl rfl hdg fun H' e1 e2 e3 => ?_
  rw [hsl] at e1 ⊢
  refine kk H' _ ls (hR.put ha e2 e3 (by rw [hs]; exact hrz) ?_) (hS.put e2 e3 hA) hl
  unfold gm_cell
  rw [hs, if_pos k2]
  exact ⟨_, k3, gm_ob.of (t_OB.to (V := updV (gm_f G S M R a) i v) ⟨_, e1, q2, q3, t_set q4 hap hi v⟩ (fun j _ => by rw [← hv]))⟩
/-- a field of a number: written -/
theorem jj_putI (hC : OKC G C own cc nL ret fr mc ms P X) {kd N index a : Nat} {CN : String} {T : u_T} {ty0 : Nat → FieldType} (hk : KF kd CN T N ty0) (i : Nat) {z : Int} (hs : S a = kd) (hro : gm_ro kd = false) (hi : i < N) (hlk : Cond.fieldLink own index (T i).1 (T i).2.1 (T i).2.2.1 ∈ gW) (hfin : (T i).2.2.2 = false) (hd : ty0 i = .int) (hf0 : gm_fty kd i = 0) (hrz : (-2147483648 ≤ z ∧ z < 2147483648)) (hdg : decode cc pc = .ok (.putfield index, 3))
    (kk : JJ G C k n sz S Ln (ua M a (us (M a) i z)) R (pc + 3) lv st) : JJ G C k n sz S Ln M R pc lv (.int (iI z) :: .ref a :: st) := by
  refine jj_put hC hk i z (R a (i : Int)) hs hro hi hlk hfin hd rfl rfl (by rw [hf0]; rfl) (by rw [hf0]; exact hrz) hdg ?_
  rw [ua_selfs]; exact kk
theorem jj_putZ (hC : OKC G C own cc nL ret fr mc ms P X) {kd N index a : Nat} {CN : String} {T : u_T} {ty0 : Nat → FieldType} (hk : KF kd CN T N ty0) (i : Nat) {z : Int} (hs : S a = kd) (hro : gm_ro kd = false) (hi : i < N) (hlk : Cond.fieldLink own index (T i).1 (T i).2.1 (T i).2.2.1 ∈ gW) (hfin : (T i).2.2.2 = false) (hd : ty0 i = .boolean) (hf0 : gm_fty kd i = 7) (hrz : 0 ≤ z ∧ z ≤ 1) (hdg : decode cc pc = .ok (.putfield index, 3))
    (kk : JJ G C k n sz S Ln (ua M a (us (M a) i z)) R (pc + 3) lv st) : JJ G C k n sz S Ln M R pc lv (.int (iI z) :: .ref a :: st) := by
  have h01 : z = 0 ∨ z = 1 := by omega
  refine jj_put hC hk i z (R a (i : Int)) hs hro hi hlk hfin hd (by rcases h01 with rfl | rfl <;> rfl) (by rcases h01 with rfl | rfl <;> rfl) (by rw [hf0]; rfl) (by rw [hf0]; exact hrz) hdg ?_
  rw [ua_selfs]; exact kk
theorem jj_putL (hC : OKC G C own cc nL ret fr mc ms P X) {kd N index a : Nat} {CN : String} {T : u_T} {ty0 : Nat → FieldType} (hk : KF kd CN T N ty0) (i : Nat) {z : Int} (hs : S a = kd) (hro : gm_ro kd = false) (hi : i < N) (hlk : Cond.fieldLink own index (T i).1 (T i).2.1 (T i).2.2.1 ∈ gW) (hfin : (T i).2.2.2 = false) (hd : ty0 i = .long) (hf0 : gm_fty kd i = 2) (hrz : (-9223372036854775808 ≤ z ∧ z < 9223372036854775808)) (hdg : decode cc pc = .ok (.putfield index, 3))
    (kk : JJ G C k n sz S Ln (ua M a (us (M a) i z)) R (pc + 3) lv st) : JJ G C k n sz S Ln M R pc lv (.long (lI z) :: .ref a :: st) := by
  refine jj_put hC hk i z (R a (i : Int)) hs hro hi hlk hfin hd rfl rfl (by rw [hf0]; rfl) (by rw [hf0]; exact hrz) hdg ?_
  rw [ua_selfs]; exact kk
/-- a field of a reference that isn't final -/
theorem jj_putR (hC : OKC G C own cc nL ret fr mc ms P X) {kd N index a b : Nat} {CN : String} {T : u_T} {ty0 : Nat → FieldType} (hk : KF kd CN T N ty0) (i : Nat) (hs : S a = kd) (hro : gm_ro kd = false) (hi : i < N) (hlk : Cond.fieldLink own index (T i).1 (T i).2.1 (T i).2.2.1 ∈ gW) (hfin : (T i).2.2.2 = false) {ty : FieldType} (hd : ty0 i = ty) (hn : narrow ty (.ref b) = .ref b) (hfit : fits ty (.ref b) = true) (hf0 : gm_fty kd i = 1) (hdg : decode cc pc = .ok (.putfield index, 3))
    (kk : JJ G C k n sz S Ln M (ua R a (us (R a) i (some b))) (pc + 3) lv st) : JJ G C k n sz S Ln M R pc lv (.ref b :: .ref a :: st) := by
  refine jj_put hC hk i (M a (i : Int)) (some b) hs hro hi hlk hfin hd hn hfit (by rw [hf0]; rfl) (by rw [hf0]; exact trivial) hdg ?_
  rw [ua_selfs]; exact kk
/-- a final field of a reference, in the constructor -/
theorem jj_putFR (hC : OKC G C own cc nL ret fr mc ms P X) {kd N index a b : Nat} {CN : String} {T : u_T} {ty0 : Nat → FieldType} (hk : KF kd CN T N ty0) (i : Nat) (hs : S a = kd) (hro : gm_ro kd = false) (hi : i < N) (hlk : Cond.fieldLink own index (T i).1 (T i).2.1 (T i).2.2.1 ∈ gW) (hfin : (T i).2.2.2 = true) (hinm : C.2.2.2.2.2.2.2.2.1.name = "<init>") (hdecl : (T i).1 = own) {ty : FieldType} (hd : ty0 i = ty) (hn : narrow ty (.ref b) = .ref b) (hfit : fits ty (.ref b) = true) (hf0 : gm_fty kd i = 1) (hdg : decode cc pc = .ok (.putfield index, 3))
    (kk : JJ G C k n sz S Ln M (ua R a (us (R a) i (some b))) (pc + 3) lv st) : JJ G C k n sz S Ln M R pc lv (.ref b :: .ref a :: st) := by
  refine jj_putF hC hk i (M a (i : Int)) (some b) hs hro hi hlk hfin hinm hdecl hd hn hfit (by rw [hf0]; rfl) (by rw [hf0]; exact trivial) hdg ?_
  rw [ua_selfs]; exact kk
/-- a field of an enum's constant -/
theorem jj_putE (hC : OKC G C own cc nL ret fr mc ms P X) {kd N index a b : Nat} {CN : String} {T : u_T} {ty0 : Nat → FieldType} (hk : KF kd CN T N ty0) (i : Nat) (z : Nat) (hz9 : z < 9) (hs : S a = kd) (hro : gm_ro kd = false) (hi : i < N) (hlk : Cond.fieldLink own index (T i).1 (T i).2.1 (T i).2.2.1 ∈ gW) (hfin : (T i).2.2.2 = false) {ty : FieldType} (hd : ty0 i = ty) (hn : narrow ty (.ref b) = .ref b) (hfit : fits ty (.ref b) = true) (hf0 : gm_fty kd i = 3) (hb9 : G.2.2.2.2 z = b) (hdg : decode cc pc = .ok (.putfield index, 3))
    (kk : JJ G C k n sz S Ln (ua M a (us (M a) i z)) R (pc + 3) lv st) : JJ G C k n sz S Ln M R pc lv (.ref b :: .ref a :: st) := by
  refine jj_put hC hk i (z : Int) (R a (i : Int)) hs hro hi hlk hfin hd hn hfit (by rw [hf0]; show (if (z : Int) < 0 then Value.null else Value.ref (G.2.2.2.2 (z : Int).toNat)) = _; rw [if_neg (by omega), Int.toNat_natCast, hb9]) (by rw [hf0]; exact ⟨by omega, by omega⟩) hdg ?_
  rw [ua_selfs]; exact kk
theorem jj_getI (hC : OKC G C own cc nL ret fr mc ms P X) {kd N index a : Nat} {CN : String} {T : u_T} {ty0 : Nat → FieldType} (hk : KF kd CN T N ty0) (i : Nat) (hs : S a = kd) (hi : i < N) (hlk : Cond.fieldLink own index (T i).1 (T i).2.1 (T i).2.2.1 ∈ gW) (hf0 : gm_fty kd i = 0) (hdg : decode cc pc = .ok (.getfield index, 3))
    (kk : (-2147483648 ≤ M a (i : Int) ∧ M a (i : Int) < 2147483648) → JJ G C k n sz S Ln M R (pc + 3) lv (.int (iI (M a (i : Int))) :: st)) : JJ G C k n sz S Ln M R pc lv (.ref a :: st) :=
  jj_get hC hk i hs hi hlk (by rw [hf0]; rfl) hdg (fun h => kk (by rw [hf0] at h; exact h))
theorem jj_getZ (hC : OKC G C own cc nL ret fr mc ms P X) {kd N index a : Nat} {CN : String} {T : u_T} {ty0 : Nat → FieldType} (hk : KF kd CN T N ty0) (i : Nat) (hs : S a = kd) (hi : i < N) (hlk : Cond.fieldLink own index (T i).1 (T i).2.1 (T i).2.2.1 ∈ gW) (hf0 : gm_fty kd i = 7) (hdg : decode cc pc = .ok (.getfield index, 3))
    (kk : 0 ≤ M a (i : Int) ∧ M a (i : Int) ≤ 1 → JJ G C k n sz S Ln M R (pc + 3) lv (.int (iI (M a (i : Int))) :: st)) : JJ G C k n sz S Ln M R pc lv (.ref a :: st) :=
  jj_get hC hk i hs hi hlk (by rw [hf0]; rfl) hdg (fun h => kk (by rw [hf0] at h; exact h))
theorem jj_getB (hC : OKC G C own cc nL ret fr mc ms P X) {kd N index a : Nat} {CN : String} {T : u_T} {ty0 : Nat → FieldType} (hk : KF kd CN T N ty0) (i : Nat) (hs : S a = kd) (hi : i < N) (hlk : Cond.fieldLink own index (T i).1 (T i).2.1 (T i).2.2.1 ∈ gW) (hf0 : gm_fty kd i = 6) (hdg : decode cc pc = .ok (.getfield index, 3))
    (kk : -128 ≤ M a (i : Int) ∧ M a (i : Int) < 128 → JJ G C k n sz S Ln M R (pc + 3) lv (.int (iI (M a (i : Int))) :: st)) : JJ G C k n sz S Ln M R pc lv (.ref a :: st) :=
  jj_get hC hk i hs hi hlk (by rw [hf0]; rfl) hdg (fun h => kk (by rw [hf0] at h; exact h))
theorem jj_getL (hC : OKC G C own cc nL ret fr mc ms P X) {kd N index a : Nat} {CN : String} {T : u_T} {ty0 : Nat → FieldType} (hk : KF kd CN T N ty0) (i : Nat) (hs : S a = kd) (hi : i < N) (hlk : Cond.fieldLink own index (T i).1 (T i).2.1 (T i).2.2.1 ∈ gW) (hf0 : gm_fty kd i = 2) (hdg : decode cc pc = .ok (.getfield index, 3))
    (kk : (-9223372036854775808 ≤ M a (i : Int) ∧ M a (i : Int) < 9223372036854775808) → JJ G C k n sz S Ln M R (pc + 3) lv (.long (lI (M a (i : Int))) :: st)) : JJ G C k n sz S Ln M R pc lv (.ref a :: st) :=
  jj_get hC hk i hs hi hlk (by rw [hf0]; rfl) hdg (fun h => kk (by rw [hf0] at h; exact h))
theorem jj_getR (hC : OKC G C own cc nL ret fr mc ms P X) {kd N index a b : Nat} {CN : String} {T : u_T} {ty0 : Nat → FieldType} (hk : KF kd CN T N ty0) (i : Nat) (hs : S a = kd) (hi : i < N) (hlk : Cond.fieldLink own index (T i).1 (T i).2.1 (T i).2.2.1 ∈ gW) (hf0 : gm_fty kd i = 1) (hr : R a (i : Int) = some b) (hdg : decode cc pc = .ok (.getfield index, 3))
    (kk : JJ G C k n sz S Ln M R (pc + 3) lv (.ref b :: st)) : JJ G C k n sz S Ln M R pc lv (.ref a :: st) :=
  jj_get hC hk i hs hi hlk (by rw [hf0, hr]; rfl) hdg (fun _ => kk)
theorem jj_getE (hC : OKC G C own cc nL ret fr mc ms P X) {kd N index a : Nat} {CN : String} {T : u_T} {ty0 : Nat → FieldType} (hk : KF kd CN T N ty0) (i : Nat) (hs : S a = kd) (hi : i < N) (hlk : Cond.fieldLink own index (T i).1 (T i).2.1 (T i).2.2.1 ∈ gW) (hf0 : gm_fty kd i = 3) (h0 : 0 ≤ M a (i : Int)) (hdg : decode cc pc = .ok (.getfield index, 3))
    (kk : M a (i : Int) < 9 → JJ G C k n sz S Ln M R (pc + 3) lv (.ref (G.2.2.2.2 (M a (i : Int)).toNat) :: st)) : JJ G C k n sz S Ln M R pc lv (.ref a :: st) :=
  jj_get hC hk i hs hi hlk (by rw [hf0]; show (if M a (i : Int) < 0 then Value.null else _) = _; rw [if_neg (by omega)]) hdg (fun h => kk (by rw [hf0] at h; exact h.2))
/-- an enum's constant -/
theorem jj_gets (hC : OKC G C own cc nL ret fr mc ms P X) {index : Nat} (i : Nat) {E nm d : String} {z : Nat} (hi : gEn[i]? = some (E, nm, d, z)) (hlk : Cond.fieldLink own index E nm d ∈ gW) (hdg : decode cc pc = .ok (.getstatic index, 3))
    (kk : JJ G C k n sz S Ln M R (pc + 3) lv (.ref (G.2.2.2.2 z) :: st)) : JJ G C k n sz S Ln M R pc lv st := by
  obtain ⟨p, l, e, Rm, s, m, args, below, meth, c, Q⟩ := C
  obtain ⟨hx, hb, hml, hown, hts, hE, hlk2, hrt, hst, hRm, hQ, htab, hz⟩ := hC
  intro H locs ls hR hS hl
  exact va_gets hx hb (hE.2.2.1 _ (List.mem_of_getElem? hi)) hS hown (hts _ hlk) (fun _ h => h) hdg (kk H locs ls hR hS hl)
theorem jj_getsV (hC : OKC G C own cc nL ret fr mc ms P X) {index : Nat} (i : Nat) {E nm d : String} {v : Value} (hi : gSv[i]? = some (E, nm, d, v)) (hlk : Cond.fieldLink own index E nm d ∈ gW) (hdg : decode cc pc = .ok (.getstatic index, 3))
    (kk : JJ G C k n sz S Ln M R (pc + 3) lv (v :: st)) : JJ G C k n sz S Ln M R pc lv st := by
  obtain ⟨p, l, e, Rm, s, m, args, below, meth, c, Q⟩ := C
  obtain ⟨hx, hb, hml, hown, hts, hE, hlk2, hrt, hst, hRm, hQ, htab, hz⟩ := hC
  intro H locs ls hR hS hl
  exact va_gets hx hb (hE.2.2.2.2.1 _ (List.mem_of_getElem? hi)) hS hown (hts _ hlk) (fun _ h => h) hdg (kk H locs ls hR hS hl)
/-- a String constant -/
theorem jj_ldcS (hC : OKC G C own cc nL ret fr mc ms P X) {index : Nat} (i : Nat) {tx : String} {z : Nat} (hi : gSt[i]? = some (own, index, tx, z)) (hdg : decode cc pc = .ok (.ldc index, 2))
    (kk : JJ G C k n sz S Ln M R (pc + 2) lv (.ref (G.2.2.2.2 (16 + z)) :: st)) : JJ G C k n sz S Ln M R pc lv st := by
  obtain ⟨p, l, e, Rm, s, m, args, below, meth, c, Q⟩ := C
  obtain ⟨hx, hb, hml, hown, hts, hE, hlk2, hrt, hst, hRm, hQ, htab, hz⟩ := hC
  intro H locs ls hR hS hl
  exact va_ldcS hx hb hown (hE.2.2.2.2.2.2.1 _ (List.mem_of_getElem? hi)) hdg (kk H locs ls hR hS hl)
theorem jj_ad {i j : Nat} (hC : OKC G C own cc nL ret fr mc ms P X) (hi : i < 9) (hj : j < 9) (h : G.2.2.2.2 i = G.2.2.2.2 j) : i = j := by
  obtain ⟨p, l, e, Rm, s, m, args, below, meth, c, Q⟩ := C
  obtain ⟨hx, hb, hml, hown, hts, hE, hlk2, hrt, hst, hRm, hQ, htab, hz⟩ := hC
  exact hE.2.2.2.1 i j hi hj h
/-! returns -/
theorem jj_iret (hC : OKC G C own cc nL (some .int) fr mc ms P X) {v : Int32} (h1 : k ≤ mc) (h2 : n ≤ ms) (hdg : decode cc pc = .ok (.ireturn, 1)) (hP : P (some (.int v)) sz S Ln M R) : JJ G C k n sz S Ln M R pc lv [.int v] := by
  obtain ⟨p, l, e, Rm, s, m, args, below, meth, c, Q⟩ := C
  obtain ⟨hx, hb, hml, hown, hts, hE, hlk, hrt, hst, hRm, hQ, htab, hz⟩ := hC
  intro H locs ls hR hS hl
  subst hQ
  refine W.widen h1 h2 (vx_ret (W.iret hx hb hrt (fun t ht _ => ⟨⟨_, sz, S, Ln, M, R, rfl, hP, by rw [ht]; exact hR⟩, ⟨by rw [ht]; exact hS.1, fun q a b => by rw [ht]; exact hS.2.1 q a b⟩⟩) hS.2.2 hdg hlk))
theorem jj_zret (hC : OKC G C own cc nL (some .boolean) fr mc ms P X) {z : Int} (h01 : 0 ≤ z ∧ z ≤ 1) (h1 : k ≤ mc) (h2 : n ≤ ms) (hdg : decode cc pc = .ok (.ireturn, 1)) (hP : P (some (.int (iI z))) sz S Ln M R) : JJ G C k n sz S Ln M R pc lv [.int (iI z)] := by
  obtain ⟨p, l, e, Rm, s, m, args, below, meth, c, Q⟩ := C
  obtain ⟨hx, hb, hml, hown, hts, hE, hlk, hrt, hst, hRm, hQ, htab, hz⟩ := hC
  intro H locs ls hR hS hl
  subst hQ
  have h3 : z = 0 ∨ z = 1 := by omega
  refine W.widen h1 h2 (vx_ret (W.zret hx hb hrt (by rcases h3 with rfl | rfl <;> rfl) (fun t ht _ => ⟨⟨_, sz, S, Ln, M, R, rfl, hP, by rw [ht]; exact hR⟩, ⟨by rw [ht]; exact hS.1, fun q a b => by rw [ht]; exact hS.2.1 q a b⟩⟩) hS.2.2 hdg hlk))
theorem jj_cret (hC : OKC G C own cc nL (some .char) fr mc ms P X) {z : Int} (h01 : 0 ≤ z ∧ z < 65536) (h1 : k ≤ mc) (h2 : n ≤ ms) (hdg : decode cc pc = .ok (.ireturn, 1)) (hP : P (some (.int (iI z))) sz S Ln M R) : JJ G C k n sz S Ln M R pc lv [.int (iI z)] := by
  obtain ⟨p, l, e, Rm, s, m, args, below, meth, c, Q⟩ := C
  obtain ⟨hx, hb, hml, hown, hts, hE, hlk, hrt, hst, hRm, hQ, htab, hz⟩ := hC
  intro H locs ls hR hS hl
  subst hQ
  refine W.widen h1 h2 (vx_ret (W.zret hx hb hrt (by rw [jj_nI h01.1]; exact (pk_charN (by omega)).1) (fun t ht _ => ⟨⟨_, sz, S, Ln, M, R, rfl, hP, by rw [ht]; exact hR⟩, ⟨by rw [ht]; exact hS.1, fun q a b => by rw [ht]; exact hS.2.1 q a b⟩⟩) hS.2.2 hdg hlk))
theorem jj_lret (hC : OKC G C own cc nL (some .long) fr mc ms P X) {v : Int64} (h1 : k ≤ mc) (h2 : n ≤ ms) (hdg : decode cc pc = .ok (.lreturn, 1)) (hP : P (some (.long v)) sz S Ln M R) : JJ G C k n sz S Ln M R pc lv [.long v] := by
  obtain ⟨p, l, e, Rm, s, m, args, below, meth, c, Q⟩ := C
  obtain ⟨hx, hb, hml, hown, hts, hE, hlk, hrt, hst, hRm, hQ, htab, hz⟩ := hC
  intro H locs ls hR hS hl
  subst hQ
  refine W.widen h1 h2 (vx_ret (W.lret hx hb hrt (fun t ht _ => ⟨⟨_, sz, S, Ln, M, R, rfl, hP, by rw [ht]; exact hR⟩, ⟨by rw [ht]; exact hS.1, fun q a b => by rw [ht]; exact hS.2.1 q a b⟩⟩) hS.2.2 hdg hlk))
theorem jj_fret (hC : OKC G C own cc nL (some .float) fr mc ms P X) {v : UInt32} (h1 : k ≤ mc) (h2 : n ≤ ms) (hdg : decode cc pc = .ok (.freturn, 1)) (hP : P (some (.float v)) sz S Ln M R) : JJ G C k n sz S Ln M R pc lv [.float v] := by
  obtain ⟨p, l, e, Rm, s, m, args, below, meth, c, Q⟩ := C
  obtain ⟨hx, hb, hml, hown, hts, hE, hlk, hrt, hst, hRm, hQ, htab, hz⟩ := hC
  intro H locs ls hR hS hl
  subst hQ
  refine W.widen h1 h2 (vx_ret (W.fret hx hb hrt (fun t ht _ => ⟨⟨_, sz, S, Ln, M, R, rfl, hP, by rw [ht]; exact hR⟩, ⟨by rw [ht]; exact hS.1, fun q a b => by rw [ht]; exact hS.2.1 q a b⟩⟩) hS.2.2 hdg hlk))
theorem jj_dret (hC : OKC G C own cc nL (some .double) fr mc ms P X) {v : UInt64} (h1 : k ≤ mc) (h2 : n ≤ ms) (hdg : decode cc pc = .ok (.dreturn, 1)) (hP : P (some (.double v)) sz S Ln M R) : JJ G C k n sz S Ln M R pc lv [.double v] := by
  obtain ⟨p, l, e, Rm, s, m, args, below, meth, c, Q⟩ := C
  obtain ⟨hx, hb, hml, hown, hts, hE, hlk, hrt, hst, hRm, hQ, htab, hz⟩ := hC
  intro H locs ls hR hS hl
  subst hQ
  refine W.widen h1 h2 (vx_ret (W.dret hx hb hrt (fun t ht _ => ⟨⟨_, sz, S, Ln, M, R, rfl, hP, by rw [ht]; exact hR⟩, ⟨by rw [ht]; exact hS.1, fun q a b => by rw [ht]; exact hS.2.1 q a b⟩⟩) hS.2.2 hdg hlk))
theorem jj_aret (hC : OKC G C own cc nL ret fr mc ms P X) {a : Nat} {rt : FieldType} (hrt0 : ret = some rt) (hrf : (∃ n, rt = .object n) ∨ ∃ t, rt = .array t) (h1 : k ≤ mc) (h2 : n ≤ ms) (hdg : decode cc pc = .ok (.areturn, 1)) (hP : P (some (.ref a)) sz S Ln M R) : JJ G C k n sz S Ln M R pc lv [.ref a] := by
  obtain ⟨p, l, e, Rm, s, m, args, below, meth, c, Q⟩ := C
  obtain ⟨hx, hb, hml, hown, hts, hE, hlk, hrt, hst, hRm, hQ, htab, hz⟩ := hC
  intro H locs ls hR hS hl
  subst hQ
  refine W.widen h1 h2 (vx_ret (W.aret hx hb (hrt.trans hrt0) hrf (Or.inr ⟨a, rfl⟩) (fun t ht _ => ⟨⟨_, sz, S, Ln, M, R, rfl, hP, by rw [ht]; exact hR⟩, ⟨by rw [ht]; exact hS.1, fun q a b => by rw [ht]; exact hS.2.1 q a b⟩⟩) hS.2.2 hdg hlk))
theorem jj_vret (hC : OKC G C own cc nL none fr mc ms P X) (h1 : k ≤ mc) (h2 : n ≤ ms) (hdg : decode cc pc = .ok (.return_, 1)) (hP : P none sz S Ln M R) : JJ G C k n sz S Ln M R pc lv [] := by
  obtain ⟨p, l, e, Rm, s, m, args, below, meth, c, Q⟩ := C
  obtain ⟨hx, hb, hml, hown, hts, hE, hlk, hrt, hst, hRm, hQ, htab, hz⟩ := hC
  intro H locs ls hR hS hl
  subst hQ
  refine W.widen h1 h2 (vx_ret (W.vret hx hb hrt (fun t ht _ => ⟨⟨_, sz, S, Ln, M, R, rfl, hP, by rw [ht]; exact hR⟩, ⟨by rw [ht]; exact hS.1, fun q a b => by rw [ht]; exact hS.2.1 q a b⟩⟩) hS.2.2 hdg hlk))
end JJR
