/-! rows for constructors -/
def gN (kd : Nat) : Int → Int := fun j => if gm_fty kd j.toNat = 3 then -1 else 0
def gNo : Int → Option Nat := fun _ => none
def gNz : Int → Int := fun _ => 0
section JJK
variable {G : gE} {C : gC} {own : String} {cc : ByteArray} {nL : Nat} {ret : Option FieldType} {fr mc ms : Nat} {P : gP} {X : gX} {k n sz : Nat} {S Ln : Nat → Nat} {M : gM} {R : gR} {pc : Nat} {lv lv' : List (Nat × Value)} {st : List Value}
/-- a constructor's start -/
theorem jj_startI {l : Launch} {y : MethodName} {av : List Value} {lv0 : List (Nat × Value)} (hfl : l.stackTraces = false) (hy : plainName own = true) (hyo : y.cls = own) (hyn : y.name = "<init>") (hlv : lv_args 0 av = lv0) (hn : (lg_sl av).length ≤ nL)
    (body : ∀ C : gC, LV C = l → OKC G C own cc nL ret fr mc ms P X → C.2.2.2.2.2.2.2.2.1.name = "<init>" → JJ G C 0 0 sz S Ln M R 0 lv0 []) : Ct l G y cc nL ret fr mc ms av sz S Ln M R P X := by
  subst hyo
  refine vx_ofW (cc := cc) (maxL := nL) (ret := ret) hy rfl ?_
  intro p e s m args below meth c s₁ B hml htab hv
  obtain ⟨rfl, hR, hE, hz⟩ := hv
  have hok : OKC G (p, l, e, gRm fr mc ms, s, m, av.toArray, below, meth, c, vx_MQ below (gQc G P) (gXc G X) av.toArray s mc ms (fun q => G.2.2.2.1 ≤ q)) y.cls cc nL ret fr mc ms P X :=
    ⟨B.exec, B.bytes, hml, findClass_of_methodNamed B.named, fun w hw => atoms_spec (ws := .code y cc nL ret :: gW) B.pre w (List.mem_cons_of_mem _ hw), hE, B.notSynchronized, B.returns, hfl, ⟨Nat.le_refl _, Nat.le_refl _, Nat.le_refl _, Nat.le_refl _⟩, rfl, fun _ => htab, hz⟩
  have h := body _ rfl hok ((name_of_methodNamed B.named B.method).1.trans hyn) s.heap [] _ hR va_S.rf (by rw [hml, ← hlv]; exact lv_entry av (n := nL) hn)
  rw [lg_entry_eq]
  exact h
theorem jj_newO (hC : OKC G C own cc nL ret fr mc ms P X) {kd N index : Nat} {CN : String} {T : u_T} {ty0 : Nat → FieldType} (hk : KF kd CN T N ty0) (hdef : ∀ j, j < N → gm_val G.2.2.2.2 (gm_fty kd j) (if gm_fty kd j = 3 then -1 else 0) none = defaultValue (ty0 j)) (hcl : Cond.classLink own index CN ∈ gW) (hins : Cond.instantiable CN N ∈ gW) (hini : Cond.initialized CN ∈ gW) (hN : N ≤ 256) (hk1 : k + 1 ≤ mc) (hn1 : n + 256 ≤ ms) (hd : decode cc pc = .ok (.new index, 3))
    (kk : Ext sz S Ln (sz + 1) (ua S sz kd) (ua Ln sz 0) → JJ G C (k + 1) (n + 256) (sz + 1) (ua S sz kd) (ua Ln sz 0) (ua M sz (gN kd)) (ua R sz gNo) (pc + 3) lv (.ref sz :: st)) : JJ G C k n sz S Ln M R pc lv st := by
  refine jj_lt (fun hlt => jj_hsz hC (fun hsz => ?_))
  refine jj_new hC hk hdef hcl hins hini hsz hk1 (by omega) hd ?_
  exact jj_widen (Nat.le_refl _) (by omega) (kk (ext_n hlt))
/-- a new row of numbers, w cells' worth -/
theorem jj_newN (hC : OKC G C own cc nL ret fr mc ms P X) {kd t : Nat} {at' : ArrayType} {i : Int} (w : Nat) (hk : 20 ≤ kd) (ht : (gTys G.2.2.1)[t]? = some (G.2.2.1 kd, newarray.typeOf at')) (hnob : ∀ C, newarray.typeOf at' ≠ .object C) (hdef : ∀ j, gm_val G.2.2.2.2 (gm_fty kd j) 0 none = defaultValue (newarray.typeOf at')) (hr0 : ∀ j, gm_rng (gm_fty kd j) 0) (hac : Cond.arrayClass (newarray.typeOf at') ∈ gW) (h0 : 0 ≤ i) (h1 : i ≤ 65536) (hb8 : componentBytes (newarray.typeOf at') ≤ 8) (hw : i.toNat ≤ 256 * w) (hw1 : 1 ≤ w) (hk1 : k + w ≤ mc) (hn1 : n + 256 * w ≤ ms) (hd : decode cc pc = .ok (.newarray at', 2))
    (kk : Ext sz S Ln (sz + 1) (ua S sz kd) (ua Ln sz i.toNat) → JJ G C (k + w) (n + 256 * w) (sz + 1) (ua S sz kd) (ua Ln sz i.toNat) (ua M sz gNz) (ua R sz gNo) (pc + 2) lv (.ref sz :: st)) : JJ G C k n sz S Ln M R pc lv (.int (iI i) :: st) := by
  refine jj_lt (fun hlt => jj_hsz hC (fun hsz => ?_))
  refine jj_newa (t := t) hC hk ht hnob hdef hr0 hac h0 h1 hb8 hsz (by omega) (by omega) hd ?_
  exact jj_widen (by omega) (by omega) (kk (ext_n hlt))
/-- a new row of references -/
theorem jj_newQ (hC : OKC G C own cc nL ret fr mc ms P X) {kd t index : Nat} {CN : String} {i : Int} (hk : 20 ≤ kd) (ht : (gTys G.2.2.1)[t]? = some (G.2.2.1 kd, .object CN)) (hao : ∀ U, gX2 U → va_AO CN U) (hf : ∀ j, gm_fty kd j = 1) (hcl : Cond.classLink own index CN ∈ gW) (h0 : 0 ≤ i) (h1 : i ≤ 256) (hk1 : k + 1 ≤ mc) (hn1 : n + 256 ≤ ms) (hd : decode cc pc = .ok (.anewarray index, 3))
    (kk : Ext sz S Ln (sz + 1) (ua S sz kd) (ua Ln sz i.toNat) → JJ G C (k + 1) (n + 256) (sz + 1) (ua S sz kd) (ua Ln sz i.toNat) (ua M sz gNz) (ua R sz gNo) (pc + 3) lv (.ref sz :: st)) : JJ G C k n sz S Ln M R pc lv (.int (iI i) :: st) := by
  refine jj_lt (fun hlt => jj_hsz hC (fun hsz => ?_))
  obtain ⟨j, rfl⟩ : ∃ j : Nat, i = j := ⟨i.toNat, by omega⟩
  refine jj_widen (k' := k) (n' := n + (256 - j)) (Nat.le_refl _) (by omega) ?_
  replace kk := kk (ext_n hlt)
  revert kk
  obtain ⟨p, l, e, Rm, s, m, args, below, meth, c, Q⟩ := C
  obtain ⟨hx, hb, hml, hown, hts, hE, hlk, hrt, hst, hRm, hQ, htab, hz⟩ := hC
  intro kk H locs ls hR hS hl
  obtain ⟨rm1, rm2, rm3, rm4⟩ := hRm
  have hc9 : (iI (j : Int)).toNatClampNeg = j := by rw [iI_clamp (by omega) (by omega)]; rfl
  rw [Int.toNat_natCast] at kk
  refine W.anew hx hb hown (hts _ hcl) (va_AO.use (hao s hE.2.1.2.1)) (g := F0 m pc ls (.int (iI (j : Int)) :: st)) rfl hd rfl ?_ (by rw [hc9]; omega) (Nat.le_trans hk1 rm2) (by rw [hc9]; omega) fun cA kA comp f1 f2 f3 f4 => ?_
  · rw [iI_0, iI_lt ⟨by omega, by omega⟩ jj_r0]; omega
  rw [hc9, hR.1]
  obtain ⟨kA9, comp9, g1, g2, g3, g4⟩ := (hE.1.2 t _ ht).2
  have hcA : cA = G.2.2.1 kd := Option.some.inj (f1.symm.trans g4)
  subst hcA
  have hsz9 := hR.1
  rw [show n + (256 - j) + j = n + 256 by omega]
  refine kk _ _ ls (hR.new hsz (by rw [Array.size_push, hR.1]) (fun q hq => by rw [Array.getElem?_push, if_neg (by omega)]) (fun j => by rw [hf]; exact trivial) (by omega) ?_) ⟨?_, ?_, hS.2.2⟩ hl
  · unfold gm_cell
    rw [if_neg (by omega)]
    refine Or.inl ?_
    rw [← hsz9, Array.getElem?_push_size, arrV_new]
    congr 2
    funext q
    rw [hf]; rfl
  · rw [Array.size_push]; have := hS.1; omega
  · intro q h1 h2
    have := hS.1
    rw [Array.getElem?_push, if_neg (by omega)]
    exact hS.2.1 q h1 h2
theorem jj_putFRq (hC : OKC G C own cc nL ret fr mc ms P X) {kd N index a b : Nat} {CN : String} {T : u_T} {ty0 : Nat → FieldType} (hk : KF kd CN T N ty0) (i : Nat) {j : Int} (hj : (i : Int) = j) (hs : S a = kd) (hro : gm_ro kd = false) (hi : i < N) (hlk : Cond.fieldLink own index (T i).1 (T i).2.1 (T i).2.2.1 ∈ gW) (hfin : (T i).2.2.2 = true) (hinm : C.2.2.2.2.2.2.2.2.1.name = "<init>") (hdecl : (T i).1 = own) {ty : FieldType} (hd : ty0 i = ty) (hn : narrow ty (.ref b) = .ref b) (hfit : fits ty (.ref b) = true) (hf0 : gm_fty kd i = 1) (hdg : decode cc pc = .ok (.putfield index, 3))
    (kk : JJ G C k n sz S Ln M (ua R a (us (R a) j (some b))) (pc + 3) lv st) : JJ G C k n sz S Ln M R pc lv (.ref b :: .ref a :: st) := by subst hj; exact jj_putFR hC hk i hs hro hi hlk hfin hinm hdecl hd hn hfit hf0 hdg kk
theorem jp_B (hC : OKC G C own cc nL ret fr mc ms P X) {kd N index a : Nat} {CN : String} {T : u_T} {ty0 : Nat → FieldType} (hk : KF kd CN T N ty0) (i : Nat) {j z : Int} (hj : (i : Int) = j) (hs : S a = kd) (hro : gm_ro kd = false) (hi : i < N) (hlk : Cond.fieldLink own index (T i).1 (T i).2.1 (T i).2.2.1 ∈ gW) (hfin : (T i).2.2.2 = false) (hd : ty0 i = .byte) (hf0 : gm_fty kd i = 6) (hrz : -128 ≤ z ∧ z < 128) (hdg : decode cc pc = .ok (.putfield index, 3))
    (kk : JJ G C k n sz S Ln (ua M a (us (M a) j z)) R (pc + 3) lv st) : JJ G C k n sz S Ln M R pc lv (.int (iI z) :: .ref a :: st) := by
  subst hj
  refine jj_put hC hk i z (R a (i : Int)) hs hro hi hlk hfin hd (by show Value.int ((iI z).toInt8.toInt32) = _; rw [j8_i2b hrz]) (j8_fitB hrz) (by rw [hf0]; rfl) (by rw [hf0]; exact hrz) hdg ?_
  rw [ua_selfs]; exact kk
end JJK
/-! rows of rows -/
def m_S (S : Nat → Nat) (sz : Nat) : Nat → Nat := fun a => if a = sz then 25 else if sz < a ∧ a ≤ sz + 15 then 20 else S a
def m_Ln (Ln : Nat → Nat) (sz : Nat) : Nat → Nat := fun a => if a = sz then 15 else if sz < a ∧ a ≤ sz + 15 then 4 else Ln a
def m_M (M : gM) (sz : Nat) : gM := fun a => if sz ≤ a ∧ a ≤ sz + 15 then gNz else M a
def m_R (R : gR) (sz : Nat) : gR := fun a => if a = sz then (fun j => if 0 ≤ j ∧ j < 15 then some (sz + 1 + j.toNat) else none) else if sz < a ∧ a ≤ sz + 15 then gNo else R a
theorem m_S_s {S : Nat → Nat} {sz : Nat} : m_S S sz sz = 25 := if_pos rfl
theorem m_ext {sz : Nat} {S Ln : Nat → Nat} (h : ∀ a, S a ≠ 0 → a < sz) : Ext sz S Ln (sz + 16) (m_S S sz) (m_Ln Ln sz) := ⟨by omega, fun a ha => by
  have := h a ha
  unfold m_S m_Ln
  rw [if_neg (by omega), if_neg (by omega), if_neg (by omega), if_neg (by omega)]
  exact ⟨rfl, rfl⟩⟩
theorem gAI.use {args : Array Value} {U : State} (h : gAI U) : (Cond.arrayOver (.array .int)).before args U = true := by
  obtain ⟨comp, c, k, h1, h2, h3, h4, h5⟩ := h
  unfold Cond.before Cond.holds
  simp only [Cond.value]
  rw [h1, Option.bind_some]
  refine (congrArg (fun o : Option Nat => (o.bind (fun c => (U.vm.classes[c]?).map fun (k : Class) => match k.kind with | .array _ ty => decide (ty = FieldType.array .int) && decide (U.vm.findClass ("[" ++ (FieldType.array .int).toString) = some c) | _ => false) == some true)) h2).trans ?_
  simp [h3, h4, h5]
theorem m_outer (c : ClassId) (N h0 : Nat) : ∀ i, Jvm.Free.Multi.outerC c N h0 i = arrV c N (fun j => if j < i then .ref (h0 + 1 + j) else .null) := by
  intro i
  induction i with
  | zero => exact arrV_new c N .null
  | succ i ih =>
    show (Jvm.Free.Multi.outerC c N h0 i).setSlot i (.ref (h0 + 1 + i)) = _
    rw [ih, arrV_store]
    congr 1
    funext j
    unfold updV
    by_cases e : j = i
    · subst e; rw [if_pos rfl, if_pos (by omega)]
    · rw [if_neg e]
      show (if j < i then Value.ref (h0 + 1 + j) else Value.null) = _
      by_cases e2 : j < i
      · rw [if_pos e2, if_pos (by omega)]
      · rw [if_neg e2, if_neg (by omega)]
theorem arrV_ext {c : ClassId} {N : Nat} {f g : Nat → Value} (h : ∀ j, j < N → f j = g j) : arrV c N f = arrV c N g := by
  unfold arrV
  congr 1
  apply Array.ext
  · simp
  · intro i h1 h2
    simp only [Array.getElem_ofFn]
    exact h i (by simpa using h1)
theorem jj_newM {G : gE} {C : gC} {own : String} {cc : ByteArray} {nL : Nat} {ret : Option FieldType} {fr mc ms : Nat} {P : gP} {X : gX} {k n sz : Nat} {S Ln : Nat → Nat} {M : gM} {R : gR} {pc : Nat} {lv : List (Nat × Value)} {st : List Value} (hC : OKC G C own cc nL ret fr mc ms P X) {index : Nat} (hcl : Cond.classLink own index "[[I" ∈ gW) (hac : Cond.arrayClass .int ∈ gW) (hk1 : k + 16 ≤ mc) (hn1 : n + 256 * 16 ≤ ms) (hd : decode cc pc = .ok (.multianewarray index 2, 4))
    (kk : Ext sz S Ln (sz + 16) (m_S S sz) (m_Ln Ln sz) → JJ G C (k + 16) (n + 256 * 16) (sz + 16) (m_S S sz) (m_Ln Ln sz) (m_M M sz) (m_R R sz) (pc + 4) lv (.ref sz :: st)) : JJ G C k n sz S Ln M R pc lv (.int (iI 4) :: .int (iI 15) :: st) := by
  refine jj_lt (fun hlt => jj_hsz hC (fun hsz => ?_))
  replace kk := kk (m_ext hlt)
  revert kk
  obtain ⟨p, l, e, Rm, s, m, args, below, meth, c, Q⟩ := C
  obtain ⟨hx, hb, hml, hown, hts, hE, hlk, hrt, hst, hRm, hQ, htab, hz⟩ := hC
  intro kk H locs ls hR hS hl
  obtain ⟨rm1, rm2, rm3, rm4⟩ := hRm
  have h15 : (iI 15).toNatClampNeg = 15 := by rw [iI_clamp (by omega) (by omega)]; rfl
  have h4 : (iI 4).toNatClampNeg = 4 := by rw [iI_clamp (by omega) (by omega)]; rfl
  have n15 : ¬ iI 15 < 0 := by rw [iI_0, iI_lt ⟨by omega, by omega⟩ jj_r0]; omega
  have n4 : ¬ iI 4 < 0 := by rw [iI_0, iI_lt ⟨by omega, by omega⟩ jj_r0]; omega
  intro T hT X9
  subst hT
  obtain ⟨vm₁, cA, comp, hW, hfA, hfC, ho, hi, X1, step⟩ := X9.multianewarray2K hx (own := own) (index := index) (ty := .int) hown (hts _ hcl) (gAI.use hE.2.1.2.1.2.2.2) (hts _ hac) (g := F0 m pc ls (.int (iI 4) :: .int (iI 15) :: st)) rfl (by rw [hb]; exact hd) (n := iI 15) (k := iI 4) (rest := st) rfl n15 n4 (by rw [h15]; omega) (by rw [h4]; decide) (by rw [h4]; omega) rfl rfl (by rw [h15]; omega) (by rw [h15, h4]; omega)
  rw [h15, h4] at X1 step
  have e20 : comp = G.2.2.1 20 := Option.some.inj (hfC.symm.trans (hE.1.2 0 _ rfl).2)
  have e25 : cA = G.2.2.1 25 := Option.some.inj (hfA.symm.trans (hE.1.2 5 _ rfl).2)
  subst e20
  subst e25
  have hsz9 : T.heap.size = sz := hR.1
  obtain ⟨f1, f2, -, -⟩ := Jvm.Free.Multi.fill_facts (T.setVm vm₁) (G.2.2.1 25) (G.2.2.1 20) 15 4 (defaultValue .int) 15
  have f3 : ∀ j, j < 15 → _ := fun j hj => Jvm.Free.Multi.fill_inner (T.setVm vm₁) (G.2.2.1 25) (G.2.2.1 20) 15 4 (defaultValue .int) 15 j hj
  have f4 : ∀ a : Nat, a < T.heap.size → _ := fun a ha => Jvm.Free.Multi.fill_old (T.setVm vm₁) (G.2.2.1 25) (G.2.2.1 20) 15 4 (defaultValue .int) (a := a) ha 15
  rw [m_outer] at f2
  generalize hF : Jvm.Free.Multi.fill (T.setVm vm₁) (G.2.2.1 25) (G.2.2.1 20) 15 4 (defaultValue .int) 15 = F at X1 step f1 f2 f3 f4
  have g1 : F.heap.size = sz + 16 := by rw [f1]; show T.heap.size + 1 + 15 = _; omega
  have g2 : F.heap[sz]? = some (arrV (G.2.2.1 25) 15 (fun j => if j < 15 then .ref (sz + 1 + j) else .null)) := by rw [← hsz9]; exact f2
  have g3 : ∀ j, j < 15 → F.heap[sz + 1 + j]? = some (arrV (G.2.2.1 20) 4 (fun _ => defaultValue .int)) := fun j hj => by
    rw [← hsz9, ← arrV_new]; exact f3 j hj
  have g4 : ∀ a : Nat, a < sz → F.heap[a]? = T.heap[a]? := fun a ha => f4 a (by omega)
  have hR2 : Rep G (sz + 16) (m_S S sz) (m_Ln Ln sz) (m_M M sz) (m_R R sz) F.heap := by
    refine ⟨g1, fun a ha => ?_⟩
    by_cases h1 : a = sz
    · subst h1
      have eS : m_S S a a = 25 := m_S_s
      have eL : m_Ln Ln a a = 15 := if_pos rfl
      rw [eS, eL]
      refine ⟨by omega, fun _ => hsz, fun _ => trivial, by omega, ?_⟩
      unfold gm_cell
      rw [if_neg (by omega)]
      refine Or.inl ?_
      rw [g2]
      congr 1
      refine arrV_ext fun j hj => ?_
      unfold gm_f
      rw [eS, if_pos hj]
      show _ = va_rf (m_R R a a j)
      unfold m_R
      rw [if_pos rfl, if_pos ⟨by omega, by omega⟩, Int.toNat_natCast]
      rfl
    · by_cases h2 : sz < a ∧ a ≤ sz + 15
      · obtain ⟨j, rfl⟩ : ∃ j, a = sz + 1 + j := ⟨a - (sz + 1), by omega⟩
        have eS : m_S S sz (sz + 1 + j) = 20 := by unfold m_S; rw [if_neg h1, if_pos h2]
        have eL : m_Ln Ln sz (sz + 1 + j) = 4 := by unfold m_Ln; rw [if_neg h1, if_pos h2]
        have eM : m_M M sz (sz + 1 + j) = gNz := by unfold m_M; rw [if_pos ⟨by omega, by omega⟩]
        rw [eS, eL, eM]
        refine ⟨by omega, fun _ => by omega, fun _ => jj_r0, by omega, ?_⟩
        unfold gm_cell
        rw [if_neg (by omega)]
        refine Or.inl ?_
        rw [g3 j (by omega)]
        congr 2
        funext q
        unfold gm_f
        rw [eS, eM]
        rfl
      · have eS : m_S S sz a = S a := by unfold m_S; rw [if_neg h1, if_neg h2]
        have eL : m_Ln Ln sz a = Ln a := by unfold m_Ln; rw [if_neg h1, if_neg h2]
        rw [eS] at ha
        obtain ⟨r1, r2, r3, r5, r4⟩ := hR.2 a ha
        have eM : m_M M sz a = M a := by unfold m_M; rw [if_neg (by omega)]
        have eR : m_R R sz a = R a := by unfold m_R; rw [if_neg h1, if_neg h2]
        have ef : gm_f G (m_S S sz) (m_M M sz) (m_R R sz) a = gm_f G S M R a := by
          funext q
          unfold gm_f
          rw [eS, eM, eR]
        rw [eS, eL, eM, ef]
        exact ⟨by omega, r2, r3, r5, gm_cell.kept r4 (g4 a r1)⟩
  obtain ⟨t, a1, b1⟩ := kk F.heap _ ls hR2 ⟨by rw [g1]; have := hS.1; omega, fun q q1 q2 => by rw [g4 q (by have := hS.1; omega)]; exact hS.2.1 q q1 q2, fun z hz9 => by
      rcases List.mem_append.mp hz9 with h | h
      · exact hS.2.2 z h
      · obtain ⟨j, -, rfl⟩ := List.mem_map.mp h
        show G.2.2.2.1 ≤ T.heap.size
        omega⟩ hl F rfl (stand_widen X1 (by omega) (by omega))
  rw [hsz9] at step
  exact ⟨t, step t a1, b1⟩
theorem wd95 : Cond.instanceMethod Lib.objectInit ∈ gW := gW_in 95 (by decide +kernel) (by decide +kernel)
theorem wd96 : Cond.code Lib.objectInit ⟨#[0xb1]⟩ 1 none ∈ gW := gW_in 96 (by decide +kernel) (by decide +kernel)
theorem wd935 : Cond.methodLink RX0 3 Lib.objectInit ∈ gW := gW_in 935 (by decide +kernel) (by decide +kernel)
theorem wd929 : Cond.arrayClass .int ∈ gW := gW_in 929 (by decide +kernel) (by decide +kernel)
theorem dX0_init_0 : decode cX0_init 0 = .ok (.aload_n 0, 1) := by decide +kernel
theorem dX0_init_1 : decode cX0_init 1 = .ok (.invokespecial 3, 3) := by decide +kernel
theorem dX0_init_4 : decode cX0_init 4 = .ok (.aload_n 0, 1) := by decide +kernel
theorem dX0_init_5 : decode cX0_init 5 = .ok (.bipush 6, 2) := by decide +kernel
theorem dX0_init_7 : decode cX0_init 7 = .ok (.newarray .int, 2) := by decide +kernel
theorem dX0_init_9 : decode cX0_init 9 = .ok (.putfield 9, 3) := by decide +kernel
theorem dX0_init_12 : decode cX0_init 12 = .ok (.aload_n 0, 1) := by decide +kernel
theorem dX0_init_13 : decode cX0_init 13 = .ok (.bipush 6, 2) := by decide +kernel
theorem dX0_init_15 : decode cX0_init 15 = .ok (.newarray .int, 2) := by decide +kernel
theorem dX0_init_17 : decode cX0_init 17 = .ok (.putfield 15, 3) := by decide +kernel
theorem dX0_init_20 : decode cX0_init 20 = .ok (.aload_n 0, 1) := by decide +kernel
theorem dX0_init_21 : decode cX0_init 21 = .ok (.bipush 6, 2) := by decide +kernel
theorem dX0_init_23 : decode cX0_init 23 = .ok (.newarray .int, 2) := by decide +kernel
theorem dX0_init_25 : decode cX0_init 25 = .ok (.putfield 18, 3) := by decide +kernel
theorem dX0_init_28 : decode cX0_init 28 = .ok (.aload_n 0, 1) := by decide +kernel
theorem dX0_init_29 : decode cX0_init 29 = .ok (.iconst 0, 1) := by decide +kernel
theorem dX0_init_30 : decode cX0_init 30 = .ok (.putfield 21, 3) := by decide +kernel
theorem dX0_init_33 : decode cX0_init 33 = .ok (.aload_n 0, 1) := by decide +kernel
theorem dX0_init_34 : decode cX0_init 34 = .ok (.sipush 1500, 3) := by decide +kernel
theorem dX0_init_37 : decode cX0_init 37 = .ok (.putfield 25, 3) := by decide +kernel
theorem dX0_init_40 : decode cX0_init 40 = .ok (.return_, 1) := by decide +kernel
theorem wd960 : Cond.methodLink RX1 3 Lib.objectInit ∈ gW := gW_in 960 (by decide +kernel) (by decide +kernel)
theorem dX1_init_0 : decode cX1_init 0 = .ok (.aload_n 0, 1) := by decide +kernel
theorem dX1_init_1 : decode cX1_init 1 = .ok (.invokespecial 3, 3) := by decide +kernel
theorem dX1_init_4 : decode cX1_init 4 = .ok (.aload_n 0, 1) := by decide +kernel
theorem dX1_init_5 : decode cX1_init 5 = .ok (.iconst 3, 1) := by decide +kernel
theorem dX1_init_6 : decode cX1_init 6 = .ok (.newarray .int, 2) := by decide +kernel
theorem dX1_init_8 : decode cX1_init 8 = .ok (.putfield 9, 3) := by decide +kernel
theorem dX1_init_11 : decode cX1_init 11 = .ok (.aload_n 0, 1) := by decide +kernel
theorem dX1_init_12 : decode cX1_init 12 = .ok (.iconst 3, 1) := by decide +kernel
theorem dX1_init_13 : decode cX1_init 13 = .ok (.newarray .int, 2) := by decide +kernel
theorem dX1_init_15 : decode cX1_init 15 = .ok (.putfield 15, 3) := by decide +kernel
theorem dX1_init_18 : decode cX1_init 18 = .ok (.aload_n 0, 1) := by decide +kernel
theorem dX1_init_19 : decode cX1_init 19 = .ok (.iconst 3, 1) := by decide +kernel
theorem dX1_init_20 : decode cX1_init 20 = .ok (.newarray .int, 2) := by decide +kernel
theorem dX1_init_22 : decode cX1_init 22 = .ok (.putfield 18, 3) := by decide +kernel
theorem dX1_init_25 : decode cX1_init 25 = .ok (.aload_n 0, 1) := by decide +kernel
theorem dX1_init_26 : decode cX1_init 26 = .ok (.iconst 3, 1) := by decide +kernel
theorem dX1_init_27 : decode cX1_init 27 = .ok (.newarray .int, 2) := by decide +kernel
theorem dX1_init_29 : decode cX1_init 29 = .ok (.putfield 21, 3) := by decide +kernel
theorem dX1_init_32 : decode cX1_init 32 = .ok (.aload_n 0, 1) := by decide +kernel
theorem dX1_init_33 : decode cX1_init 33 = .ok (.iconst 0, 1) := by decide +kernel
theorem dX1_init_34 : decode cX1_init 34 = .ok (.putfield 24, 3) := by decide +kernel
theorem dX1_init_37 : decode cX1_init 37 = .ok (.aload_n 0, 1) := by decide +kernel
theorem dX1_init_38 : decode cX1_init 38 = .ok (.iconst 3, 1) := by decide +kernel
theorem dX1_init_39 : decode cX1_init 39 = .ok (.newarray .int, 2) := by decide +kernel
theorem dX1_init_41 : decode cX1_init 41 = .ok (.putfield 28, 3) := by decide +kernel
theorem dX1_init_44 : decode cX1_init 44 = .ok (.aload_n 0, 1) := by decide +kernel
theorem dX1_init_45 : decode cX1_init 45 = .ok (.iconst 3, 1) := by decide +kernel
theorem dX1_init_46 : decode cX1_init 46 = .ok (.newarray .int, 2) := by decide +kernel
theorem dX1_init_48 : decode cX1_init 48 = .ok (.putfield 31, 3) := by decide +kernel
theorem dX1_init_51 : decode cX1_init 51 = .ok (.return_, 1) := by decide +kernel
theorem wd900 : Cond.methodLink RX2 3 Lib.objectInit ∈ gW := gW_in 900 (by decide +kernel) (by decide +kernel)
theorem dX2_init_0 : decode cX2_init 0 = .ok (.aload_n 0, 1) := by decide +kernel
theorem dX2_init_1 : decode cX2_init 1 = .ok (.invokespecial 3, 3) := by decide +kernel
theorem dX2_init_4 : decode cX2_init 4 = .ok (.aload_n 0, 1) := by decide +kernel
theorem dX2_init_5 : decode cX2_init 5 = .ok (.bipush 8, 2) := by decide +kernel
theorem dX2_init_7 : decode cX2_init 7 = .ok (.newarray .int, 2) := by decide +kernel
theorem dX2_init_9 : decode cX2_init 9 = .ok (.putfield 9, 3) := by decide +kernel
theorem dX2_init_12 : decode cX2_init 12 = .ok (.aload_n 0, 1) := by decide +kernel
theorem dX2_init_13 : decode cX2_init 13 = .ok (.bipush 8, 2) := by decide +kernel
theorem dX2_init_15 : decode cX2_init 15 = .ok (.newarray .int, 2) := by decide +kernel
theorem dX2_init_17 : decode cX2_init 17 = .ok (.putfield 15, 3) := by decide +kernel
theorem dX2_init_20 : decode cX2_init 20 = .ok (.aload_n 0, 1) := by decide +kernel
theorem dX2_init_21 : decode cX2_init 21 = .ok (.iconst 0, 1) := by decide +kernel
theorem dX2_init_22 : decode cX2_init 22 = .ok (.putfield 18, 3) := by decide +kernel
theorem dX2_init_25 : decode cX2_init 25 = .ok (.aload_n 0, 1) := by decide +kernel
theorem dX2_init_26 : decode cX2_init 26 = .ok (.bipush 6, 2) := by decide +kernel
theorem dX2_init_28 : decode cX2_init 28 = .ok (.newarray .int, 2) := by decide +kernel
theorem dX2_init_30 : decode cX2_init 30 = .ok (.putfield 22, 3) := by decide +kernel
theorem dX2_init_33 : decode cX2_init 33 = .ok (.aload_n 0, 1) := by decide +kernel
theorem dX2_init_34 : decode cX2_init 34 = .ok (.bipush 6, 2) := by decide +kernel
theorem dX2_init_36 : decode cX2_init 36 = .ok (.newarray .int, 2) := by decide +kernel
theorem dX2_init_38 : decode cX2_init 38 = .ok (.putfield 25, 3) := by decide +kernel
theorem dX2_init_41 : decode cX2_init 41 = .ok (.aload_n 0, 1) := by decide +kernel
theorem dX2_init_42 : decode cX2_init 42 = .ok (.iconst 0, 1) := by decide +kernel
theorem dX2_init_43 : decode cX2_init 43 = .ok (.putfield 28, 3) := by decide +kernel
theorem dX2_init_46 : decode cX2_init 46 = .ok (.return_, 1) := by decide +kernel
theorem wd990 : Cond.methodLink RX3 3 Lib.objectInit ∈ gW := gW_in 990 (by decide +kernel) (by decide +kernel)
theorem dX3_init_0 : decode cX3_init 0 = .ok (.aload_n 0, 1) := by decide +kernel
theorem dX3_init_1 : decode cX3_init 1 = .ok (.invokespecial 3, 3) := by decide +kernel
theorem dX3_init_4 : decode cX3_init 4 = .ok (.aload_n 0, 1) := by decide +kernel
theorem dX3_init_5 : decode cX3_init 5 = .ok (.iconst 0, 1) := by decide +kernel
theorem dX3_init_6 : decode cX3_init 6 = .ok (.putfield 9, 3) := by decide +kernel
theorem dX3_init_9 : decode cX3_init 9 = .ok (.aload_n 0, 1) := by decide +kernel
theorem dX3_init_10 : decode cX3_init 10 = .ok (.getstatic 15, 3) := by decide +kernel
theorem dX3_init_13 : decode cX3_init 13 = .ok (.putfield 21, 3) := by decide +kernel
theorem dX3_init_16 : decode cX3_init 16 = .ok (.aload_n 0, 1) := by decide +kernel
theorem dX3_init_17 : decode cX3_init 17 = .ok (.iconst 0, 1) := by decide +kernel
theorem dX3_init_18 : decode cX3_init 18 = .ok (.putfield 24, 3) := by decide +kernel
theorem dX3_init_21 : decode cX3_init 21 = .ok (.aload_n 0, 1) := by decide +kernel
theorem dX3_init_22 : decode cX3_init 22 = .ok (.iconst 0, 1) := by decide +kernel
theorem dX3_init_23 : decode cX3_init 23 = .ok (.putfield 27, 3) := by decide +kernel
theorem dX3_init_26 : decode cX3_init 26 = .ok (.aload_n 0, 1) := by decide +kernel
theorem dX3_init_27 : decode cX3_init 27 = .ok (.iconst 0, 1) := by decide +kernel
theorem dX3_init_28 : decode cX3_init 28 = .ok (.putfield 30, 3) := by decide +kernel
theorem dX3_init_31 : decode cX3_init 31 = .ok (.aload_n 0, 1) := by decide +kernel
theorem dX3_init_32 : decode cX3_init 32 = .ok (.iconst 0, 1) := by decide +kernel
theorem dX3_init_33 : decode cX3_init 33 = .ok (.putfield 33, 3) := by decide +kernel
theorem dX3_init_36 : decode cX3_init 36 = .ok (.aload_n 0, 1) := by decide +kernel
theorem dX3_init_37 : decode cX3_init 37 = .ok (.iconst 0, 1) := by decide +kernel
theorem dX3_init_38 : decode cX3_init 38 = .ok (.putfield 36, 3) := by decide +kernel
theorem dX3_init_41 : decode cX3_init 41 = .ok (.aload_n 0, 1) := by decide +kernel
theorem dX3_init_42 : decode cX3_init 42 = .ok (.iconst 0, 1) := by decide +kernel
theorem dX3_init_43 : decode cX3_init 43 = .ok (.putfield 39, 3) := by decide +kernel
theorem dX3_init_46 : decode cX3_init 46 = .ok (.aload_n 0, 1) := by decide +kernel
theorem dX3_init_47 : decode cX3_init 47 = .ok (.lconst 0, 1) := by decide +kernel
theorem dX3_init_48 : decode cX3_init 48 = .ok (.putfield 42, 3) := by decide +kernel
theorem dX3_init_51 : decode cX3_init 51 = .ok (.return_, 1) := by decide +kernel
theorem wd894 : Cond.methodLink RX8 3 Lib.objectInit ∈ gW := gW_in 894 (by decide +kernel) (by decide +kernel)
theorem wd895 : Cond.classLink RX8 9 RX2 ∈ gW := gW_in 895 (by decide +kernel) (by decide +kernel)
theorem wd896 : Cond.instantiable RX2 6 ∈ gW := gW_in 896 (by decide +kernel) (by decide +kernel)
theorem hd7 {ad : Nat → Nat} : ∀ j, j < 6 → gm_val ad (gm_fty 7 j) (if gm_fty 7 j = 3 then -1 else 0) none = defaultValue (tyX2 j)
  | 0, _ => rfl
  | 1, _ => rfl
  | 2, _ => rfl
  | 3, _ => rfl
  | 4, _ => rfl
  | 5, _ => rfl
  | j + 6, h => absurd h (by omega)
theorem wd899 : Cond.code yX2_init cX2_init 1 none ∈ gW := gW_in 899 (by decide +kernel) (by decide +kernel)
theorem mvX2_init : MV yX2_init cX2_init 1 none 0 := ⟨wd899, wd25, by decide +kernel, by decide +kernel, by decide +kernel, by decide⟩
theorem wd898 : Cond.instanceMethod yX2_init ∈ gW := gW_in 898 (by decide +kernel) (by decide +kernel)
theorem wd897 : Cond.methodLinkNest RX8 11 yX2_init "GlidingContest" ∈ gNW := gNW_in 897 (by decide +kernel) (by decide +kernel)
theorem wd930 : Cond.classLink RX8 18 RX0 ∈ gW := gW_in 930 (by decide +kernel) (by decide +kernel)
theorem wd931 : Cond.instantiable RX0 5 ∈ gW := gW_in 931 (by decide +kernel) (by decide +kernel)
theorem hd5 {ad : Nat → Nat} : ∀ j, j < 5 → gm_val ad (gm_fty 5 j) (if gm_fty 5 j = 3 then -1 else 0) none = defaultValue (tyX0 j)
  | 0, _ => rfl
  | 1, _ => rfl
  | 2, _ => rfl
  | 3, _ => rfl
  | 4, _ => rfl
  | j + 5, h => absurd h (by omega)
theorem wd934 : Cond.code yX0_init cX0_init 1 none ∈ gW := gW_in 934 (by decide +kernel) (by decide +kernel)
theorem mvX0_init : MV yX0_init cX0_init 1 none 0 := ⟨wd934, wd26, by decide +kernel, by decide +kernel, by decide +kernel, by decide⟩
theorem wd933 : Cond.instanceMethod yX0_init ∈ gW := gW_in 933 (by decide +kernel) (by decide +kernel)
theorem wd932 : Cond.methodLinkNest RX8 20 yX0_init "GlidingContest" ∈ gNW := gNW_in 932 (by decide +kernel) (by decide +kernel)
theorem wd955 : Cond.classLink RX8 25 RX1 ∈ gW := gW_in 955 (by decide +kernel) (by decide +kernel)
theorem wd956 : Cond.instantiable RX1 7 ∈ gW := gW_in 956 (by decide +kernel) (by decide +kernel)
theorem hd6 {ad : Nat → Nat} : ∀ j, j < 7 → gm_val ad (gm_fty 6 j) (if gm_fty 6 j = 3 then -1 else 0) none = defaultValue (tyX1 j)
  | 0, _ => rfl
  | 1, _ => rfl
  | 2, _ => rfl
  | 3, _ => rfl
  | 4, _ => rfl
  | 5, _ => rfl
  | 6, _ => rfl
  | j + 7, h => absurd h (by omega)
theorem wd959 : Cond.code yX1_init cX1_init 1 none ∈ gW := gW_in 959 (by decide +kernel) (by decide +kernel)
theorem mvX1_init : MV yX1_init cX1_init 1 none 0 := ⟨wd959, wd27, by decide +kernel, by decide +kernel, by decide +kernel, by decide⟩
theorem wd958 : Cond.instanceMethod yX1_init ∈ gW := gW_in 958 (by decide +kernel) (by decide +kernel)
theorem wd957 : Cond.methodLinkNest RX8 27 yX1_init "GlidingContest" ∈ gNW := gNW_in 957 (by decide +kernel) (by decide +kernel)
theorem wd984 : Cond.classLink RX8 32 RX3 ∈ gW := gW_in 984 (by decide +kernel) (by decide +kernel)
theorem wd1035 : Cond.arrayClass .long ∈ gW := gW_in 1035 (by decide +kernel) (by decide +kernel)
theorem wd986 : Cond.instantiable RX3 9 ∈ gW := gW_in 986 (by decide +kernel) (by decide +kernel)
theorem hd8 {ad : Nat → Nat} : ∀ j, j < 9 → gm_val ad (gm_fty 8 j) (if gm_fty 8 j = 3 then -1 else 0) none = defaultValue (tyX3 j)
  | 0, _ => rfl
  | 1, _ => rfl
  | 2, _ => rfl
  | 3, _ => rfl
  | 4, _ => rfl
  | 5, _ => rfl
  | 6, _ => rfl
  | 7, _ => rfl
  | 8, _ => rfl
  | j + 9, h => absurd h (by omega)
theorem wd989 : Cond.code yX3_init cX3_init 1 none ∈ gW := gW_in 989 (by decide +kernel) (by decide +kernel)
theorem mvX3_init : MV yX3_init cX3_init 1 none 0 := ⟨wd989, wd28, by decide +kernel, by decide +kernel, by decide +kernel, by decide⟩
theorem wd988 : Cond.instanceMethod yX3_init ∈ gW := gW_in 988 (by decide +kernel) (by decide +kernel)
theorem wd987 : Cond.methodLinkNest RX8 49 yX3_init "GlidingContest" ∈ gNW := gNW_in 987 (by decide +kernel) (by decide +kernel)
theorem dX8_init_0 : decode cX8_init 0 = .ok (.aload_n 0, 1) := by decide +kernel
theorem dX8_init_1 : decode cX8_init 1 = .ok (.invokespecial 3, 3) := by decide +kernel
theorem dX8_init_4 : decode cX8_init 4 = .ok (.aload_n 0, 1) := by decide +kernel
theorem dX8_init_5 : decode cX8_init 5 = .ok (.new 9, 3) := by decide +kernel
theorem dX8_init_8 : decode cX8_init 8 = .ok (.dup, 1) := by decide +kernel
theorem dX8_init_9 : decode cX8_init 9 = .ok (.invokespecial 11, 3) := by decide +kernel
theorem dX8_init_12 : decode cX8_init 12 = .ok (.putfield 12, 3) := by decide +kernel
theorem dX8_init_15 : decode cX8_init 15 = .ok (.aload_n 0, 1) := by decide +kernel
theorem dX8_init_16 : decode cX8_init 16 = .ok (.new 18, 3) := by decide +kernel
theorem dX8_init_19 : decode cX8_init 19 = .ok (.dup, 1) := by decide +kernel
theorem dX8_init_20 : decode cX8_init 20 = .ok (.invokespecial 20, 3) := by decide +kernel
theorem dX8_init_23 : decode cX8_init 23 = .ok (.putfield 21, 3) := by decide +kernel
theorem dX8_init_26 : decode cX8_init 26 = .ok (.aload_n 0, 1) := by decide +kernel
theorem dX8_init_27 : decode cX8_init 27 = .ok (.new 25, 3) := by decide +kernel
theorem dX8_init_30 : decode cX8_init 30 = .ok (.dup, 1) := by decide +kernel
theorem dX8_init_31 : decode cX8_init 31 = .ok (.invokespecial 27, 3) := by decide +kernel
theorem dX8_init_34 : decode cX8_init 34 = .ok (.putfield 28, 3) := by decide +kernel
theorem dX8_init_37 : decode cX8_init 37 = .ok (.aload_n 0, 1) := by decide +kernel
theorem dX8_init_38 : decode cX8_init 38 = .ok (.bipush 6, 2) := by decide +kernel
theorem dX8_init_40 : decode cX8_init 40 = .ok (.anewarray 32, 3) := by decide +kernel
theorem dX8_init_43 : decode cX8_init 43 = .ok (.putfield 34, 3) := by decide +kernel
theorem dX8_init_46 : decode cX8_init 46 = .ok (.aload_n 0, 1) := by decide +kernel
theorem dX8_init_47 : decode cX8_init 47 = .ok (.iconst 0, 1) := by decide +kernel
theorem dX8_init_48 : decode cX8_init 48 = .ok (.putfield 38, 3) := by decide +kernel
theorem dX8_init_51 : decode cX8_init 51 = .ok (.aload_n 0, 1) := by decide +kernel
theorem dX8_init_52 : decode cX8_init 52 = .ok (.iconst 0, 1) := by decide +kernel
theorem dX8_init_53 : decode cX8_init 53 = .ok (.putfield 42, 3) := by decide +kernel
theorem dX8_init_56 : decode cX8_init 56 = .ok (.aload_n 0, 1) := by decide +kernel
theorem dX8_init_57 : decode cX8_init 57 = .ok (.bipush 6, 2) := by decide +kernel
theorem dX8_init_59 : decode cX8_init 59 = .ok (.newarray .long, 2) := by decide +kernel
theorem dX8_init_61 : decode cX8_init 61 = .ok (.putfield 45, 3) := by decide +kernel
theorem dX8_init_64 : decode cX8_init 64 = .ok (.aload_n 0, 1) := by decide +kernel
theorem dX8_init_65 : decode cX8_init 65 = .ok (.new 32, 3) := by decide +kernel
theorem dX8_init_68 : decode cX8_init 68 = .ok (.dup, 1) := by decide +kernel
theorem dX8_init_69 : decode cX8_init 69 = .ok (.invokespecial 49, 3) := by decide +kernel
theorem dX8_init_72 : decode cX8_init 72 = .ok (.putfield 50, 3) := by decide +kernel
theorem dX8_init_75 : decode cX8_init 75 = .ok (.iconst 0, 1) := by decide +kernel
theorem dX8_init_76 : decode cX8_init 76 = .ok (.istore_n 1, 1) := by decide +kernel
theorem dX8_init_77 : decode cX8_init 77 = .ok (.iload_n 1, 1) := by decide +kernel
theorem dX8_init_78 : decode cX8_init 78 = .ok (.bipush 6, 2) := by decide +kernel
theorem dX8_init_80 : decode cX8_init 80 = .ok (.if_icmp .ge 22, 3) := by decide +kernel
theorem dX8_init_83 : decode cX8_init 83 = .ok (.aload_n 0, 1) := by decide +kernel
theorem dX8_init_84 : decode cX8_init 84 = .ok (.getfield 34, 3) := by decide +kernel
theorem dX8_init_87 : decode cX8_init 87 = .ok (.iload_n 1, 1) := by decide +kernel
theorem dX8_init_88 : decode cX8_init 88 = .ok (.new 32, 3) := by decide +kernel
theorem dX8_init_91 : decode cX8_init 91 = .ok (.dup, 1) := by decide +kernel
theorem dX8_init_92 : decode cX8_init 92 = .ok (.invokespecial 49, 3) := by decide +kernel
theorem dX8_init_95 : decode cX8_init 95 = .ok (.aastore, 1) := by decide +kernel
theorem dX8_init_96 : decode cX8_init 96 = .ok (.iinc 1 1, 3) := by decide +kernel
theorem dX8_init_99 : decode cX8_init 99 = .ok (.goto (-22), 3) := by decide +kernel
theorem dX8_init_102 : decode cX8_init 102 = .ok (.return_, 1) := by decide +kernel
theorem wd1071 : Cond.methodLink RX4 3 Lib.objectInit ∈ gW := gW_in 1071 (by decide +kernel) (by decide +kernel)
theorem wd1072 : Cond.classLink RX4 9 RX8 ∈ gW := gW_in 1072 (by decide +kernel) (by decide +kernel)
theorem wd698 : Cond.instantiable RX8 8 ∈ gW := gW_in 698 (by decide +kernel) (by decide +kernel)
theorem hd11 {ad : Nat → Nat} : ∀ j, j < 8 → gm_val ad (gm_fty 11 j) (if gm_fty 11 j = 3 then -1 else 0) none = defaultValue (tyX8 j)
  | 0, _ => rfl
  | 1, _ => rfl
  | 2, _ => rfl
  | 3, _ => rfl
  | 4, _ => rfl
  | 5, _ => rfl
  | 6, _ => rfl
  | 7, _ => rfl
  | j + 8, h => absurd h (by omega)
theorem wd893 : Cond.code yX8_init cX8_init 2 none ∈ gW := gW_in 893 (by decide +kernel) (by decide +kernel)
theorem mvX8_init : MV yX8_init cX8_init 2 none 0 := ⟨wd893, wd24, by decide +kernel, by decide +kernel, by decide +kernel, by decide⟩
theorem wd892 : Cond.instanceMethod yX8_init ∈ gW := gW_in 892 (by decide +kernel) (by decide +kernel)
theorem wd1074 : Cond.methodLink RX4 21 yX8_init ∈ gW := gW_in 1074 (by decide +kernel) (by decide +kernel)
theorem dX4_init_0 : decode cX4_init 0 = .ok (.aload_n 0, 1) := by decide +kernel
theorem dX4_init_1 : decode cX4_init 1 = .ok (.invokespecial 3, 3) := by decide +kernel
theorem dX4_init_4 : decode cX4_init 4 = .ok (.aload_n 0, 1) := by decide +kernel
theorem dX4_init_5 : decode cX4_init 5 = .ok (.bipush 8, 2) := by decide +kernel
theorem dX4_init_7 : decode cX4_init 7 = .ok (.anewarray 9, 3) := by decide +kernel
theorem dX4_init_10 : decode cX4_init 10 = .ok (.putfield 11, 3) := by decide +kernel
theorem dX4_init_13 : decode cX4_init 13 = .ok (.aload_n 0, 1) := by decide +kernel
theorem dX4_init_14 : decode cX4_init 14 = .ok (.iconst 0, 1) := by decide +kernel
theorem dX4_init_15 : decode cX4_init 15 = .ok (.putfield 17, 3) := by decide +kernel
theorem dX4_init_18 : decode cX4_init 18 = .ok (.iconst 0, 1) := by decide +kernel
theorem dX4_init_19 : decode cX4_init 19 = .ok (.istore_n 1, 1) := by decide +kernel
theorem dX4_init_20 : decode cX4_init 20 = .ok (.iload_n 1, 1) := by decide +kernel
theorem dX4_init_21 : decode cX4_init 21 = .ok (.bipush 8, 2) := by decide +kernel
theorem dX4_init_23 : decode cX4_init 23 = .ok (.if_icmp .ge 22, 3) := by decide +kernel
theorem dX4_init_26 : decode cX4_init 26 = .ok (.aload_n 0, 1) := by decide +kernel
theorem dX4_init_27 : decode cX4_init 27 = .ok (.getfield 11, 3) := by decide +kernel
theorem dX4_init_30 : decode cX4_init 30 = .ok (.iload_n 1, 1) := by decide +kernel
theorem dX4_init_31 : decode cX4_init 31 = .ok (.new 9, 3) := by decide +kernel
theorem dX4_init_34 : decode cX4_init 34 = .ok (.dup, 1) := by decide +kernel
theorem dX4_init_35 : decode cX4_init 35 = .ok (.invokespecial 21, 3) := by decide +kernel
theorem dX4_init_38 : decode cX4_init 38 = .ok (.aastore, 1) := by decide +kernel
theorem dX4_init_39 : decode cX4_init 39 = .ok (.iinc 1 1, 3) := by decide +kernel
theorem dX4_init_42 : decode cX4_init 42 = .ok (.goto (-22), 3) := by decide +kernel
theorem dX4_init_45 : decode cX4_init 45 = .ok (.return_, 1) := by decide +kernel
theorem wd1088 : Cond.methodLink RX7 3 Lib.objectInit ∈ gW := gW_in 1088 (by decide +kernel) (by decide +kernel)
theorem wd1114 : Cond.arrayClass .char ∈ gW := gW_in 1114 (by decide +kernel) (by decide +kernel)
theorem wd1089 : Cond.classLink RX7 23 "[[I" ∈ gW := gW_in 1089 (by decide +kernel) (by decide +kernel)
theorem dX7_init_0 : decode cX7_init 0 = .ok (.aload_n 0, 1) := by decide +kernel
theorem dX7_init_1 : decode cX7_init 1 = .ok (.invokespecial 3, 3) := by decide +kernel
theorem dX7_init_4 : decode cX7_init 4 = .ok (.aload_n 0, 1) := by decide +kernel
theorem dX7_init_5 : decode cX7_init 5 = .ok (.bipush 60, 2) := by decide +kernel
theorem dX7_init_7 : decode cX7_init 7 = .ok (.newarray .char, 2) := by decide +kernel
theorem dX7_init_9 : decode cX7_init 9 = .ok (.putfield 9, 3) := by decide +kernel
theorem dX7_init_12 : decode cX7_init 12 = .ok (.aload_n 0, 1) := by decide +kernel
theorem dX7_init_13 : decode cX7_init 13 = .ok (.iconst 0, 1) := by decide +kernel
theorem dX7_init_14 : decode cX7_init 14 = .ok (.putfield 15, 3) := by decide +kernel
theorem dX7_init_17 : decode cX7_init 17 = .ok (.aload_n 0, 1) := by decide +kernel
theorem dX7_init_18 : decode cX7_init 18 = .ok (.bipush 15, 2) := by decide +kernel
theorem dX7_init_20 : decode cX7_init 20 = .ok (.newarray .int, 2) := by decide +kernel
theorem dX7_init_22 : decode cX7_init 22 = .ok (.putfield 19, 3) := by decide +kernel
theorem dX7_init_25 : decode cX7_init 25 = .ok (.aload_n 0, 1) := by decide +kernel
theorem dX7_init_26 : decode cX7_init 26 = .ok (.bipush 15, 2) := by decide +kernel
theorem dX7_init_28 : decode cX7_init 28 = .ok (.iconst 4, 1) := by decide +kernel
theorem dX7_init_29 : decode cX7_init 29 = .ok (.multianewarray 23 2, 4) := by decide +kernel
theorem dX7_init_33 : decode cX7_init 33 = .ok (.putfield 25, 3) := by decide +kernel
theorem dX7_init_36 : decode cX7_init 36 = .ok (.aload_n 0, 1) := by decide +kernel
theorem dX7_init_37 : decode cX7_init 37 = .ok (.iconst 0, 1) := by decide +kernel
theorem dX7_init_38 : decode cX7_init 38 = .ok (.putfield 28, 3) := by decide +kernel
theorem dX7_init_41 : decode cX7_init 41 = .ok (.aload_n 0, 1) := by decide +kernel
theorem dX7_init_42 : decode cX7_init 42 = .ok (.iconst 0, 1) := by decide +kernel
theorem dX7_init_43 : decode cX7_init 43 = .ok (.putfield 31, 3) := by decide +kernel
theorem dX7_init_46 : decode cX7_init 46 = .ok (.return_, 1) := by decide +kernel
theorem wd164 : Cond.methodLink RJ5 3 Lib.objectInit ∈ gW := gW_in 164 (by decide +kernel) (by decide +kernel)
theorem dJ5_init_d00df_0 : decode cJ5_init_d00df 0 = .ok (.aload_n 0, 1) := by decide +kernel
theorem dJ5_init_d00df_1 : decode cJ5_init_d00df 1 = .ok (.invokespecial 3, 3) := by decide +kernel
theorem dJ5_init_d00df_4 : decode cJ5_init_d00df 4 = .ok (.getstatic 18, 3) := by decide +kernel
theorem dJ5_init_d00df_7 : decode cJ5_init_d00df 7 = .ok (.ifCond .eq 18, 3) := by decide +kernel
theorem dJ5_init_d00df_10 : decode cJ5_init_d00df 10 = .ok (.aload_n 0, 1) := by decide +kernel
theorem dJ5_init_d00df_11 : decode cJ5_init_d00df 11 = .ok (.iload_n 1, 1) := by decide +kernel
theorem dJ5_init_d00df_12 : decode cJ5_init_d00df 12 = .ok (.newarray .byte, 2) := by decide +kernel
theorem dJ5_init_d00df_14 : decode cJ5_init_d00df 14 = .ok (.putfield 15, 3) := by decide +kernel
theorem dJ5_init_d00df_17 : decode cJ5_init_d00df 17 = .ok (.aload_n 0, 1) := by decide +kernel
theorem dJ5_init_d00df_18 : decode cJ5_init_d00df 18 = .ok (.iconst 0, 1) := by decide +kernel
theorem dJ5_init_d00df_19 : decode cJ5_init_d00df 19 = .ok (.putfield 22, 3) := by decide +kernel
theorem dJ5_init_d00df_22 : decode cJ5_init_d00df 22 = .ok (.goto 16, 3) := by decide +kernel
theorem dJ5_init_d00df_25 : decode cJ5_init_d00df 25 = .ok (.aload_n 0, 1) := by decide +kernel
theorem dJ5_init_d00df_26 : decode cJ5_init_d00df 26 = .ok (.iload_n 1, 1) := by decide +kernel
theorem dJ5_init_d00df_27 : decode cJ5_init_d00df 27 = .ok (.invokestatic 26, 3) := by decide +kernel
theorem dJ5_init_d00df_30 : decode cJ5_init_d00df 30 = .ok (.putfield 15, 3) := by decide +kernel
theorem dJ5_init_d00df_33 : decode cJ5_init_d00df 33 = .ok (.aload_n 0, 1) := by decide +kernel
theorem dJ5_init_d00df_34 : decode cJ5_init_d00df 34 = .ok (.iconst 1, 1) := by decide +kernel
theorem dJ5_init_d00df_35 : decode cJ5_init_d00df 35 = .ok (.putfield 22, 3) := by decide +kernel
theorem dJ5_init_d00df_38 : decode cJ5_init_d00df 38 = .ok (.return_, 1) := by decide +kernel
theorem wd163 : Cond.code yJ5_init_d00df cJ5_init_d00df 2 none ∈ gW := gW_in 163 (by decide +kernel) (by decide +kernel)
theorem mvJ5_init_d00df : MV yJ5_init_d00df cJ5_init_d00df 2 none 1 := ⟨wd163, wd33, by decide +kernel, by decide +kernel, by decide +kernel, by decide⟩
theorem wd162 : Cond.instanceMethod yJ5_init_d00df ∈ gW := gW_in 162 (by decide +kernel) (by decide +kernel)
theorem wd161 : Cond.methodLink RJ4 1 yJ5_init_d00df ∈ gW := gW_in 161 (by decide +kernel) (by decide +kernel)
theorem dJ4_init_da8c8_0 : decode cJ4_init_da8c8 0 = .ok (.aload_n 0, 1) := by decide +kernel
theorem dJ4_init_da8c8_1 : decode cJ4_init_da8c8 1 = .ok (.bipush 16, 2) := by decide +kernel
theorem dJ4_init_da8c8_3 : decode cJ4_init_da8c8 3 = .ok (.invokespecial 1, 3) := by decide +kernel
theorem dJ4_init_da8c8_6 : decode cJ4_init_da8c8 6 = .ok (.return_, 1) := by decide +kernel
theorem wd889 : Cond.methodLink RX9 1 Lib.objectInit ∈ gW := gW_in 889 (by decide +kernel) (by decide +kernel)
theorem wd890 : Cond.classLink RX9 7 RX8 ∈ gW := gW_in 890 (by decide +kernel) (by decide +kernel)
theorem wd891 : Cond.methodLink RX9 9 yX8_init ∈ gW := gW_in 891 (by decide +kernel) (by decide +kernel)
theorem wd1067 : Cond.classLink RX9 22 RX4 ∈ gW := gW_in 1067 (by decide +kernel) (by decide +kernel)
theorem wd551 : Cond.instantiable RX4 2 ∈ gW := gW_in 551 (by decide +kernel) (by decide +kernel)
theorem hd9 {ad : Nat → Nat} : ∀ j, j < 2 → gm_val ad (gm_fty 9 j) (if gm_fty 9 j = 3 then -1 else 0) none = defaultValue (tyX4 j)
  | 0, _ => rfl
  | 1, _ => rfl
  | j + 2, h => absurd h (by omega)
theorem wd1070 : Cond.code yX4_init cX4_init 2 none ∈ gW := gW_in 1070 (by decide +kernel) (by decide +kernel)
theorem mvX4_init : MV yX4_init cX4_init 2 none 0 := ⟨wd1070, wd31, by decide +kernel, by decide +kernel, by decide +kernel, by decide⟩
theorem wd1069 : Cond.instanceMethod yX4_init ∈ gW := gW_in 1069 (by decide +kernel) (by decide +kernel)
theorem wd1068 : Cond.methodLink RX9 24 yX4_init ∈ gW := gW_in 1068 (by decide +kernel) (by decide +kernel)
theorem wd1083 : Cond.classLink RX9 29 RX7 ∈ gW := gW_in 1083 (by decide +kernel) (by decide +kernel)
theorem wd1084 : Cond.instantiable RX7 6 ∈ gW := gW_in 1084 (by decide +kernel) (by decide +kernel)
theorem hd10 {ad : Nat → Nat} : ∀ j, j < 6 → gm_val ad (gm_fty 10 j) (if gm_fty 10 j = 3 then -1 else 0) none = defaultValue (tyX7 j)
  | 0, _ => rfl
  | 1, _ => rfl
  | 2, _ => rfl
  | 3, _ => rfl
  | 4, _ => rfl
  | 5, _ => rfl
  | j + 6, h => absurd h (by omega)
theorem wd1087 : Cond.code yX7_init cX7_init 1 none ∈ gW := gW_in 1087 (by decide +kernel) (by decide +kernel)
theorem mvX7_init : MV yX7_init cX7_init 1 none 0 := ⟨wd1087, wd32, by decide +kernel, by decide +kernel, by decide +kernel, by decide⟩
theorem wd1086 : Cond.instanceMethod yX7_init ∈ gW := gW_in 1086 (by decide +kernel) (by decide +kernel)
theorem wd1085 : Cond.methodLinkNest RX9 31 yX7_init "GlidingContest" ∈ gNW := gNW_in 1085 (by decide +kernel) (by decide +kernel)
theorem wd1115 : Cond.classLink RX9 36 RJ4 ∈ gW := gW_in 1115 (by decide +kernel) (by decide +kernel)
theorem wd157 : Cond.instantiable RJ4 4 ∈ gW := gW_in 157 (by decide +kernel) (by decide +kernel)
theorem hd2 {ad : Nat → Nat} : ∀ j, j < 4 → gm_val ad (gm_fty 2 j) (if gm_fty 2 j = 3 then -1 else 0) none = defaultValue (tyJ4 j)
  | 0, _ => rfl
  | 1, _ => rfl
  | 2, _ => rfl
  | 3, _ => rfl
  | j + 4, h => absurd h (by omega)
theorem wd160 : Cond.code yJ4_init_da8c8 cJ4_init_da8c8 1 none ∈ gW := gW_in 160 (by decide +kernel) (by decide +kernel)
theorem mvJ4_init_da8c8 : MV yJ4_init_da8c8 cJ4_init_da8c8 1 none 0 := ⟨wd160, wd34, by decide +kernel, by decide +kernel, by decide +kernel, by decide⟩
theorem wd159 : Cond.instanceMethod yJ4_init_da8c8 ∈ gW := gW_in 159 (by decide +kernel) (by decide +kernel)
theorem wd1116 : Cond.methodLink RX9 38 yJ4_init_da8c8 ∈ gW := gW_in 1116 (by decide +kernel) (by decide +kernel)
theorem dX9_init_0 : decode cX9_init 0 = .ok (.aload_n 0, 1) := by decide +kernel
theorem dX9_init_1 : decode cX9_init 1 = .ok (.invokespecial 1, 3) := by decide +kernel
theorem dX9_init_4 : decode cX9_init 4 = .ok (.aload_n 0, 1) := by decide +kernel
theorem dX9_init_5 : decode cX9_init 5 = .ok (.new 7, 3) := by decide +kernel
theorem dX9_init_8 : decode cX9_init 8 = .ok (.dup, 1) := by decide +kernel
theorem dX9_init_9 : decode cX9_init 9 = .ok (.invokespecial 9, 3) := by decide +kernel
theorem dX9_init_12 : decode cX9_init 12 = .ok (.putfield 10, 3) := by decide +kernel
theorem dX9_init_15 : decode cX9_init 15 = .ok (.aload_n 0, 1) := by decide +kernel
theorem dX9_init_16 : decode cX9_init 16 = .ok (.new 7, 3) := by decide +kernel
theorem dX9_init_19 : decode cX9_init 19 = .ok (.dup, 1) := by decide +kernel
theorem dX9_init_20 : decode cX9_init 20 = .ok (.invokespecial 9, 3) := by decide +kernel
theorem dX9_init_23 : decode cX9_init 23 = .ok (.putfield 16, 3) := by decide +kernel
theorem dX9_init_26 : decode cX9_init 26 = .ok (.aload_n 0, 1) := by decide +kernel
theorem dX9_init_27 : decode cX9_init 27 = .ok (.new 7, 3) := by decide +kernel
theorem dX9_init_30 : decode cX9_init 30 = .ok (.dup, 1) := by decide +kernel
theorem dX9_init_31 : decode cX9_init 31 = .ok (.invokespecial 9, 3) := by decide +kernel
theorem dX9_init_34 : decode cX9_init 34 = .ok (.putfield 19, 3) := by decide +kernel
theorem dX9_init_37 : decode cX9_init 37 = .ok (.aload_n 0, 1) := by decide +kernel
theorem dX9_init_38 : decode cX9_init 38 = .ok (.new 22, 3) := by decide +kernel
theorem dX9_init_41 : decode cX9_init 41 = .ok (.dup, 1) := by decide +kernel
theorem dX9_init_42 : decode cX9_init 42 = .ok (.invokespecial 24, 3) := by decide +kernel
theorem dX9_init_45 : decode cX9_init 45 = .ok (.putfield 25, 3) := by decide +kernel
theorem dX9_init_48 : decode cX9_init 48 = .ok (.aload_n 0, 1) := by decide +kernel
theorem dX9_init_49 : decode cX9_init 49 = .ok (.new 29, 3) := by decide +kernel
theorem dX9_init_52 : decode cX9_init 52 = .ok (.dup, 1) := by decide +kernel
theorem dX9_init_53 : decode cX9_init 53 = .ok (.invokespecial 31, 3) := by decide +kernel
theorem dX9_init_56 : decode cX9_init 56 = .ok (.putfield 32, 3) := by decide +kernel
theorem dX9_init_59 : decode cX9_init 59 = .ok (.aload_n 0, 1) := by decide +kernel
theorem dX9_init_60 : decode cX9_init 60 = .ok (.new 36, 3) := by decide +kernel
theorem dX9_init_63 : decode cX9_init 63 = .ok (.dup, 1) := by decide +kernel
theorem dX9_init_64 : decode cX9_init 64 = .ok (.invokespecial 38, 3) := by decide +kernel
theorem dX9_init_67 : decode cX9_init 67 = .ok (.putfield 39, 3) := by decide +kernel
theorem dX9_init_70 : decode cX9_init 70 = .ok (.aload_n 0, 1) := by decide +kernel
theorem dX9_init_71 : decode cX9_init 71 = .ok (.iconst 0, 1) := by decide +kernel
theorem dX9_init_72 : decode cX9_init 72 = .ok (.putfield 43, 3) := by decide +kernel
theorem dX9_init_75 : decode cX9_init 75 = .ok (.aload_n 0, 1) := by decide +kernel
theorem dX9_init_76 : decode cX9_init 76 = .ok (.iconst (-1), 1) := by decide +kernel
theorem dX9_init_77 : decode cX9_init 77 = .ok (.putfield 47, 3) := by decide +kernel
theorem dX9_init_80 : decode cX9_init 80 = .ok (.aload_n 0, 1) := by decide +kernel
theorem dX9_init_81 : decode cX9_init 81 = .ok (.iconst (-1), 1) := by decide +kernel
theorem dX9_init_82 : decode cX9_init 82 = .ok (.putfield 51, 3) := by decide +kernel
theorem dX9_init_85 : decode cX9_init 85 = .ok (.return_, 1) := by decide +kernel
def fX0_init (ad : Nat → Nat) (sz : Nat) (S Ln : Nat → Nat) (R : gR) (M : gM) (a0 : Nat) : Option (Nat × (Nat → Nat) × (Nat → Nat) × gM × gR) :=
  nam (ua S sz 20) fun S1 => nam (ua Ln sz (6 : Int).toNat) fun Ln1 => nam (ua M sz gNz) fun M1 => nam (ua R sz gNo) fun R1 => nam (wrR R1 a0 0 (some sz)) fun R2 => nam (ua S1 (sz + 1) 20) fun S3 => nam (ua Ln1 (sz + 1) (6 : Int).toNat) fun Ln3 => nam (ua M1 (sz + 1) gNz) fun M3 => nam (ua R2 (sz + 1) gNo) fun R3 => nam (wrR R3 a0 1 (some (sz + 1))) fun R4 => nam (ua S3 (sz + 1 + 1) 20) fun S5 => nam (ua Ln3 (sz + 1 + 1) (6 : Int).toNat) fun Ln5 => nam (ua M3 (sz + 1 + 1) gNz) fun M5 => nam (ua R4 (sz + 1 + 1) gNo) fun R5 => nam (wrR R5 a0 2 (some (sz + 1 + 1))) fun R6 => nam (wr M5 a0 3 0) fun M7 => nam (wr M7 a0 4 1500) fun M8 => some ((sz + 1 + 1 + 1, S5, Ln5, M8, R6))
theorem xX0_init {l : Launch} {G : gE} {sz : Nat} {S Ln : Nat → Nat} {M : gM} {R : gR} (hl : l.stackTraces = false) {a0 : Nat} (hs0 : S a0 = 5) {r : Nat × (Nat → Nat) × (Nat → Nat) × gM × gR} (h : fX0_init G.2.2.2.2 sz S Ln R M a0 = some r) : Ct l G yX0_init cX0_init 1 none 1 3 768 [.ref a0] sz S Ln M R (poX (poV (r.1) (r.2.1) (r.2.2.1) (r.2.2.2.1) (r.2.2.2.2)) (Ext sz S Ln (r.1) (r.2.1) (r.2.2.1))) noX := by
  refine jj_startI (own := RX0) (lv0 := [(0, .ref a0)]) hl (by decide +kernel) rfl rfl rfl (c_le rfl) (fun C hCl hC hInm => ?_)
  unfold fX0_init at h
  refine jj_aload_n hC dX0_init_0 rfl 0 rfl ?_
  refine jj_objInit hC wd935 wd95 wd96 (c_le rfl) (c_le rfl) dX0_init_1 ?_
  refine jj_aload_n hC dX0_init_4 rfl 0 rfl ?_
  refine jj_bipush hC dX0_init_5 (by decide) ?_
  obtain ⟨S1, hS91, h⟩ := nam_e h
  obtain ⟨Ln1, hLn91, h⟩ := nam_e h
  obtain ⟨M1, hM91, h⟩ := nam_e h
  obtain ⟨R1, hR91, h⟩ := nam_e h
  refine jj_newN (t := 0) (at' := .int) hC 1 (by decide) rfl (fun C h => by cases h) (fun j => rfl) (fun j => (show (-2147483648 ≤ (0 : Int) ∧ (0 : Int) < 2147483648) from by decide)) wd929 (by decide) (by decide) (by decide) (by decide) (by decide) (by omega) (by omega) dX0_init_7 (fun hx1 => ?_)
  rw [hS91, hLn91] at hx1
  refine jj_mem hS91 hLn91 hM91 hR91 ?_
  refine jj_widen (k' := 1) (n' := 256) (by omega) (by omega) ?_
  obtain ⟨R2, hR92, h⟩ := nam_e h
  refine jj_putFRq hC kfX0 0 rfl (ext_s hx1 hs0 (by decide)) rfl (by decide) wd936 rfl hInm rfl rfl rfl rfl rfl dX0_init_9 (jj_R hR92 ?_)
  refine jj_aload_n hC dX0_init_12 rfl 0 rfl ?_
  refine jj_bipush hC dX0_init_13 (by decide) ?_
  obtain ⟨S3, hS93, h⟩ := nam_e h
  obtain ⟨Ln3, hLn93, h⟩ := nam_e h
  obtain ⟨M3, hM93, h⟩ := nam_e h
  obtain ⟨R3, hR93, h⟩ := nam_e h
  refine jj_newN (t := 0) (at' := .int) hC 1 (by decide) rfl (fun C h => by cases h) (fun j => rfl) (fun j => (show (-2147483648 ≤ (0 : Int) ∧ (0 : Int) < 2147483648) from by decide)) wd929 (by decide) (by decide) (by decide) (by decide) (by decide) (by omega) (by omega) dX0_init_15 (fun hx3 => ?_)
  rw [hS93, hLn93] at hx3
  refine jj_mem hS93 hLn93 hM93 hR93 ?_
  refine jj_widen (k' := 2) (n' := 512) (by omega) (by omega) ?_
  obtain ⟨R4, hR94, h⟩ := nam_e h
  refine jj_putFRq hC kfX0 1 rfl (ext_s hx3 (ext_s hx1 hs0 (by decide)) (by decide)) rfl (by decide) wd937 rfl hInm rfl rfl rfl rfl rfl dX0_init_17 (jj_R hR94 ?_)
  refine jj_aload_n hC dX0_init_20 rfl 0 rfl ?_
  refine jj_bipush hC dX0_init_21 (by decide) ?_
  obtain ⟨S5, hS95, h⟩ := nam_e h
  obtain ⟨Ln5, hLn95, h⟩ := nam_e h
  obtain ⟨M5, hM95, h⟩ := nam_e h
  obtain ⟨R5, hR95, h⟩ := nam_e h
  refine jj_newN (t := 0) (at' := .int) hC 1 (by decide) rfl (fun C h => by cases h) (fun j => rfl) (fun j => (show (-2147483648 ≤ (0 : Int) ∧ (0 : Int) < 2147483648) from by decide)) wd929 (by decide) (by decide) (by decide) (by decide) (by decide) (by omega) (by omega) dX0_init_23 (fun hx5 => ?_)
  rw [hS95, hLn95] at hx5
  refine jj_mem hS95 hLn95 hM95 hR95 ?_
  refine jj_widen (k' := 3) (n' := 768) (by omega) (by omega) ?_
  obtain ⟨R6, hR96, h⟩ := nam_e h
  refine jj_putFRq hC kfX0 2 rfl (ext_s hx5 (ext_s hx3 (ext_s hx1 hs0 (by decide)) (by decide)) (by decide)) rfl (by decide) wd938 rfl hInm rfl rfl rfl rfl rfl dX0_init_25 (jj_R hR96 ?_)
  refine jj_aload_n hC dX0_init_28 rfl 0 rfl ?_
  refine jj_iconst hC dX0_init_29 ?_
  obtain ⟨M7, hM7, h⟩ := nam_e h
  refine jp_I hC kfX0 3 rfl (ext_s hx5 (ext_s hx3 (ext_s hx1 hs0 (by decide)) (by decide)) (by decide)) rfl (by decide) wd939 rfl rfl rfl (show (-2147483648 ≤ (0 : Int) ∧ (0 : Int) < 2147483648) from by decide) dX0_init_30 (jj_M hM7 ?_)
  refine jj_aload_n hC dX0_init_33 rfl 0 rfl ?_
  refine jj_sipush hC dX0_init_34 (by decide) ?_
  obtain ⟨M8, hM8, h⟩ := nam_e h
  refine jp_I hC kfX0 4 rfl (ext_s hx5 (ext_s hx3 (ext_s hx1 hs0 (by decide)) (by decide)) (by decide)) rfl (by decide) wd941 rfl rfl rfl (show (-2147483648 ≤ (1500 : Int) ∧ (1500 : Int) < 2147483648) from by decide) dX0_init_37 (jj_M hM8 ?_)
  cases h
  exact jj_vret hC (by omega) (by omega) dX0_init_40 ⟨⟨rfl, trivial, rfl, rfl, rfl, rfl, rfl⟩, (ext_t (ext_t hx1 hx3) hx5)⟩
def fX1_init (ad : Nat → Nat) (sz : Nat) (S Ln : Nat → Nat) (R : gR) (M : gM) (a0 : Nat) : Option (Nat × (Nat → Nat) × (Nat → Nat) × gM × gR) :=
  nam (ua S sz 20) fun S1 => nam (ua Ln sz (3 : Int).toNat) fun Ln1 => nam (ua M sz gNz) fun M1 => nam (ua R sz gNo) fun R1 => nam (wrR R1 a0 0 (some sz)) fun R2 => nam (ua S1 (sz + 1) 20) fun S3 => nam (ua Ln1 (sz + 1) (3 : Int).toNat) fun Ln3 => nam (ua M1 (sz + 1) gNz) fun M3 => nam (ua R2 (sz + 1) gNo) fun R3 => nam (wrR R3 a0 1 (some (sz + 1))) fun R4 => nam (ua S3 (sz + 1 + 1) 20) fun S5 => nam (ua Ln3 (sz + 1 + 1) (3 : Int).toNat) fun Ln5 => nam (ua M3 (sz + 1 + 1) gNz) fun M5 => nam (ua R4 (sz + 1 + 1) gNo) fun R5 => nam (wrR R5 a0 2 (some (sz + 1 + 1))) fun R6 => nam (ua S5 (sz + 1 + 1 + 1) 20) fun S7 => nam (ua Ln5 (sz + 1 + 1 + 1) (3 : Int).toNat) fun Ln7 => nam (ua M5 (sz + 1 + 1 + 1) gNz) fun M7 => nam (ua R6 (sz + 1 + 1 + 1) gNo) fun R7 => nam (wrR R7 a0 3 (some (sz + 1 + 1 + 1))) fun R8 => nam (wr M7 a0 4 0) fun M9 => nam (ua S7 (sz + 1 + 1 + 1 + 1) 20) fun S10 => nam (ua Ln7 (sz + 1 + 1 + 1 + 1) (3 : Int).toNat) fun Ln10 => nam (ua M9 (sz + 1 + 1 + 1 + 1) gNz) fun M10 => nam (ua R8 (sz + 1 + 1 + 1 + 1) gNo) fun R10 => nam (wrR R10 a0 5 (some (sz + 1 + 1 + 1 + 1))) fun R11 => nam (ua S10 (sz + 1 + 1 + 1 + 1 + 1) 20) fun S12 => nam (ua Ln10 (sz + 1 + 1 + 1 + 1 + 1) (3 : Int).toNat) fun Ln12 => nam (ua M10 (sz + 1 + 1 + 1 + 1 + 1) gNz) fun M12 => nam (ua R11 (sz + 1 + 1 + 1 + 1 + 1) gNo) fun R12 => nam (wrR R12 a0 6 (some (sz + 1 + 1 + 1 + 1 + 1))) fun R13 => some ((sz + 1 + 1 + 1 + 1 + 1 + 1, S12, Ln12, M12, R13))
theorem xX1_init {l : Launch} {G : gE} {sz : Nat} {S Ln : Nat → Nat} {M : gM} {R : gR} (hl : l.stackTraces = false) {a0 : Nat} (hs0 : S a0 = 6) {r : Nat × (Nat → Nat) × (Nat → Nat) × gM × gR} (h : fX1_init G.2.2.2.2 sz S Ln R M a0 = some r) : Ct l G yX1_init cX1_init 1 none 1 6 1536 [.ref a0] sz S Ln M R (poX (poV (r.1) (r.2.1) (r.2.2.1) (r.2.2.2.1) (r.2.2.2.2)) (Ext sz S Ln (r.1) (r.2.1) (r.2.2.1))) noX := by
  refine jj_startI (own := RX1) (lv0 := [(0, .ref a0)]) hl (by decide +kernel) rfl rfl rfl (c_le rfl) (fun C hCl hC hInm => ?_)
  unfold fX1_init at h
  refine jj_aload_n hC dX1_init_0 rfl 0 rfl ?_
  refine jj_objInit hC wd960 wd95 wd96 (c_le rfl) (c_le rfl) dX1_init_1 ?_
  refine jj_aload_n hC dX1_init_4 rfl 0 rfl ?_
  refine jj_iconst hC dX1_init_5 ?_
  obtain ⟨S1, hS91, h⟩ := nam_e h
  obtain ⟨Ln1, hLn91, h⟩ := nam_e h
  obtain ⟨M1, hM91, h⟩ := nam_e h
  obtain ⟨R1, hR91, h⟩ := nam_e h
  refine jj_newN (t := 0) (at' := .int) hC 1 (by decide) rfl (fun C h => by cases h) (fun j => rfl) (fun j => (show (-2147483648 ≤ (0 : Int) ∧ (0 : Int) < 2147483648) from by decide)) wd929 (by decide) (by decide) (by decide) (by decide) (by decide) (by omega) (by omega) dX1_init_6 (fun hx1 => ?_)
  rw [hS91, hLn91] at hx1
  refine jj_mem hS91 hLn91 hM91 hR91 ?_
  refine jj_widen (k' := 1) (n' := 256) (by omega) (by omega) ?_
  obtain ⟨R2, hR92, h⟩ := nam_e h
  refine jj_putFRq hC kfX1 0 rfl (ext_s hx1 hs0 (by decide)) rfl (by decide) wd961 rfl hInm rfl rfl rfl rfl rfl dX1_init_8 (jj_R hR92 ?_)
  refine jj_aload_n hC dX1_init_11 rfl 0 rfl ?_
  refine jj_iconst hC dX1_init_12 ?_
  obtain ⟨S3, hS93, h⟩ := nam_e h
  obtain ⟨Ln3, hLn93, h⟩ := nam_e h
  obtain ⟨M3, hM93, h⟩ := nam_e h
  obtain ⟨R3, hR93, h⟩ := nam_e h
  refine jj_newN (t := 0) (at' := .int) hC 1 (by decide) rfl (fun C h => by cases h) (fun j => rfl) (fun j => (show (-2147483648 ≤ (0 : Int) ∧ (0 : Int) < 2147483648) from by decide)) wd929 (by decide) (by decide) (by decide) (by decide) (by decide) (by omega) (by omega) dX1_init_13 (fun hx3 => ?_)
  rw [hS93, hLn93] at hx3
  refine jj_mem hS93 hLn93 hM93 hR93 ?_
  refine jj_widen (k' := 2) (n' := 512) (by omega) (by omega) ?_
  obtain ⟨R4, hR94, h⟩ := nam_e h
  refine jj_putFRq hC kfX1 1 rfl (ext_s hx3 (ext_s hx1 hs0 (by decide)) (by decide)) rfl (by decide) wd962 rfl hInm rfl rfl rfl rfl rfl dX1_init_15 (jj_R hR94 ?_)
  refine jj_aload_n hC dX1_init_18 rfl 0 rfl ?_
  refine jj_iconst hC dX1_init_19 ?_
  obtain ⟨S5, hS95, h⟩ := nam_e h
  obtain ⟨Ln5, hLn95, h⟩ := nam_e h
  obtain ⟨M5, hM95, h⟩ := nam_e h
  obtain ⟨R5, hR95, h⟩ := nam_e h
  refine jj_newN (t := 0) (at' := .int) hC 1 (by decide) rfl (fun C h => by cases h) (fun j => rfl) (fun j => (show (-2147483648 ≤ (0 : Int) ∧ (0 : Int) < 2147483648) from by decide)) wd929 (by decide) (by decide) (by decide) (by decide) (by decide) (by omega) (by omega) dX1_init_20 (fun hx5 => ?_)
  rw [hS95, hLn95] at hx5
  refine jj_mem hS95 hLn95 hM95 hR95 ?_
  refine jj_widen (k' := 3) (n' := 768) (by omega) (by omega) ?_
  obtain ⟨R6, hR96, h⟩ := nam_e h
  refine jj_putFRq hC kfX1 2 rfl (ext_s hx5 (ext_s hx3 (ext_s hx1 hs0 (by decide)) (by decide)) (by decide)) rfl (by decide) wd963 rfl hInm rfl rfl rfl rfl rfl dX1_init_22 (jj_R hR96 ?_)
  refine jj_aload_n hC dX1_init_25 rfl 0 rfl ?_
  refine jj_iconst hC dX1_init_26 ?_
  obtain ⟨S7, hS97, h⟩ := nam_e h
  obtain ⟨Ln7, hLn97, h⟩ := nam_e h
  obtain ⟨M7, hM97, h⟩ := nam_e h
  obtain ⟨R7, hR97, h⟩ := nam_e h
  refine jj_newN (t := 0) (at' := .int) hC 1 (by decide) rfl (fun C h => by cases h) (fun j => rfl) (fun j => (show (-2147483648 ≤ (0 : Int) ∧ (0 : Int) < 2147483648) from by decide)) wd929 (by decide) (by decide) (by decide) (by decide) (by decide) (by omega) (by omega) dX1_init_27 (fun hx7 => ?_)
  rw [hS97, hLn97] at hx7
  refine jj_mem hS97 hLn97 hM97 hR97 ?_
  refine jj_widen (k' := 4) (n' := 1024) (by omega) (by omega) ?_
  obtain ⟨R8, hR98, h⟩ := nam_e h
  refine jj_putFRq hC kfX1 3 rfl (ext_s hx7 (ext_s hx5 (ext_s hx3 (ext_s hx1 hs0 (by decide)) (by decide)) (by decide)) (by decide)) rfl (by decide) wd964 rfl hInm rfl rfl rfl rfl rfl dX1_init_29 (jj_R hR98 ?_)
  refine jj_aload_n hC dX1_init_32 rfl 0 rfl ?_
  refine jj_iconst hC dX1_init_33 ?_
  obtain ⟨M9, hM9, h⟩ := nam_e h
  refine jp_I hC kfX1 4 rfl (ext_s hx7 (ext_s hx5 (ext_s hx3 (ext_s hx1 hs0 (by decide)) (by decide)) (by decide)) (by decide)) rfl (by decide) wd965 rfl rfl rfl (show (-2147483648 ≤ (0 : Int) ∧ (0 : Int) < 2147483648) from by decide) dX1_init_34 (jj_M hM9 ?_)
  refine jj_aload_n hC dX1_init_37 rfl 0 rfl ?_
  refine jj_iconst hC dX1_init_38 ?_
  obtain ⟨S10, hS910, h⟩ := nam_e h
  obtain ⟨Ln10, hLn910, h⟩ := nam_e h
  obtain ⟨M10, hM910, h⟩ := nam_e h
  obtain ⟨R10, hR910, h⟩ := nam_e h
  refine jj_newN (t := 0) (at' := .int) hC 1 (by decide) rfl (fun C h => by cases h) (fun j => rfl) (fun j => (show (-2147483648 ≤ (0 : Int) ∧ (0 : Int) < 2147483648) from by decide)) wd929 (by decide) (by decide) (by decide) (by decide) (by decide) (by omega) (by omega) dX1_init_39 (fun hx10 => ?_)
  rw [hS910, hLn910] at hx10
  refine jj_mem hS910 hLn910 hM910 hR910 ?_
  refine jj_widen (k' := 5) (n' := 1280) (by omega) (by omega) ?_
  obtain ⟨R11, hR911, h⟩ := nam_e h
  refine jj_putFRq hC kfX1 5 rfl (ext_s hx10 (ext_s hx7 (ext_s hx5 (ext_s hx3 (ext_s hx1 hs0 (by decide)) (by decide)) (by decide)) (by decide)) (by decide)) rfl (by decide) wd967 rfl hInm rfl rfl rfl rfl rfl dX1_init_41 (jj_R hR911 ?_)
  refine jj_aload_n hC dX1_init_44 rfl 0 rfl ?_
  refine jj_iconst hC dX1_init_45 ?_
  obtain ⟨S12, hS912, h⟩ := nam_e h
  obtain ⟨Ln12, hLn912, h⟩ := nam_e h
  obtain ⟨M12, hM912, h⟩ := nam_e h
  obtain ⟨R12, hR912, h⟩ := nam_e h
  refine jj_newN (t := 0) (at' := .int) hC 1 (by decide) rfl (fun C h => by cases h) (fun j => rfl) (fun j => (show (-2147483648 ≤ (0 : Int) ∧ (0 : Int) < 2147483648) from by decide)) wd929 (by decide) (by decide) (by decide) (by decide) (by decide) (by omega) (by omega) dX1_init_46 (fun hx12 => ?_)
  rw [hS912, hLn912] at hx12
  refine jj_mem hS912 hLn912 hM912 hR912 ?_
  refine jj_widen (k' := 6) (n' := 1536) (by omega) (by omega) ?_
  obtain ⟨R13, hR913, h⟩ := nam_e h
  refine jj_putFRq hC kfX1 6 rfl (ext_s hx12 (ext_s hx10 (ext_s hx7 (ext_s hx5 (ext_s hx3 (ext_s hx1 hs0 (by decide)) (by decide)) (by decide)) (by decide)) (by decide)) (by decide)) rfl (by decide) wd968 rfl hInm rfl rfl rfl rfl rfl dX1_init_48 (jj_R hR913 ?_)
  cases h
  exact jj_vret hC (by omega) (by omega) dX1_init_51 ⟨⟨rfl, trivial, rfl, rfl, rfl, rfl, rfl⟩, (ext_t (ext_t (ext_t (ext_t (ext_t hx1 hx3) hx5) hx7) hx10) hx12)⟩
def fX2_init (ad : Nat → Nat) (sz : Nat) (S Ln : Nat → Nat) (R : gR) (M : gM) (a0 : Nat) : Option (Nat × (Nat → Nat) × (Nat → Nat) × gM × gR) :=
  nam (ua S sz 20) fun S1 => nam (ua Ln sz (8 : Int).toNat) fun Ln1 => nam (ua M sz gNz) fun M1 => nam (ua R sz gNo) fun R1 => nam (wrR R1 a0 0 (some sz)) fun R2 => nam (ua S1 (sz + 1) 20) fun S3 => nam (ua Ln1 (sz + 1) (8 : Int).toNat) fun Ln3 => nam (ua M1 (sz + 1) gNz) fun M3 => nam (ua R2 (sz + 1) gNo) fun R3 => nam (wrR R3 a0 1 (some (sz + 1))) fun R4 => nam (wr M3 a0 2 0) fun M5 => nam (ua S3 (sz + 1 + 1) 20) fun S6 => nam (ua Ln3 (sz + 1 + 1) (6 : Int).toNat) fun Ln6 => nam (ua M5 (sz + 1 + 1) gNz) fun M6 => nam (ua R4 (sz + 1 + 1) gNo) fun R6 => nam (wrR R6 a0 3 (some (sz + 1 + 1))) fun R7 => nam (ua S6 (sz + 1 + 1 + 1) 20) fun S8 => nam (ua Ln6 (sz + 1 + 1 + 1) (6 : Int).toNat) fun Ln8 => nam (ua M6 (sz + 1 + 1 + 1) gNz) fun M8 => nam (ua R7 (sz + 1 + 1 + 1) gNo) fun R8 => nam (wrR R8 a0 4 (some (sz + 1 + 1 + 1))) fun R9 => nam (wr M8 a0 5 0) fun M10 => some ((sz + 1 + 1 + 1 + 1, S8, Ln8, M10, R9))
theorem xX2_init {l : Launch} {G : gE} {sz : Nat} {S Ln : Nat → Nat} {M : gM} {R : gR} (hl : l.stackTraces = false) {a0 : Nat} (hs0 : S a0 = 7) {r : Nat × (Nat → Nat) × (Nat → Nat) × gM × gR} (h : fX2_init G.2.2.2.2 sz S Ln R M a0 = some r) : Ct l G yX2_init cX2_init 1 none 1 4 1024 [.ref a0] sz S Ln M R (poX (poV (r.1) (r.2.1) (r.2.2.1) (r.2.2.2.1) (r.2.2.2.2)) (Ext sz S Ln (r.1) (r.2.1) (r.2.2.1))) noX := by
  refine jj_startI (own := RX2) (lv0 := [(0, .ref a0)]) hl (by decide +kernel) rfl rfl rfl (c_le rfl) (fun C hCl hC hInm => ?_)
  unfold fX2_init at h
  refine jj_aload_n hC dX2_init_0 rfl 0 rfl ?_
  refine jj_objInit hC wd900 wd95 wd96 (c_le rfl) (c_le rfl) dX2_init_1 ?_
  refine jj_aload_n hC dX2_init_4 rfl 0 rfl ?_
  refine jj_bipush hC dX2_init_5 (by decide) ?_
  obtain ⟨S1, hS91, h⟩ := nam_e h
  obtain ⟨Ln1, hLn91, h⟩ := nam_e h
  obtain ⟨M1, hM91, h⟩ := nam_e h
  obtain ⟨R1, hR91, h⟩ := nam_e h
  refine jj_newN (t := 0) (at' := .int) hC 1 (by decide) rfl (fun C h => by cases h) (fun j => rfl) (fun j => (show (-2147483648 ≤ (0 : Int) ∧ (0 : Int) < 2147483648) from by decide)) wd929 (by decide) (by decide) (by decide) (by decide) (by decide) (by omega) (by omega) dX2_init_7 (fun hx1 => ?_)
  rw [hS91, hLn91] at hx1
  refine jj_mem hS91 hLn91 hM91 hR91 ?_
  refine jj_widen (k' := 1) (n' := 256) (by omega) (by omega) ?_
  obtain ⟨R2, hR92, h⟩ := nam_e h
  refine jj_putFRq hC kfX2 0 rfl (ext_s hx1 hs0 (by decide)) rfl (by decide) wd901 rfl hInm rfl rfl rfl rfl rfl dX2_init_9 (jj_R hR92 ?_)
  refine jj_aload_n hC dX2_init_12 rfl 0 rfl ?_
  refine jj_bipush hC dX2_init_13 (by decide) ?_
  obtain ⟨S3, hS93, h⟩ := nam_e h
  obtain ⟨Ln3, hLn93, h⟩ := nam_e h
  obtain ⟨M3, hM93, h⟩ := nam_e h
  obtain ⟨R3, hR93, h⟩ := nam_e h
  refine jj_newN (t := 0) (at' := .int) hC 1 (by decide) rfl (fun C h => by cases h) (fun j => rfl) (fun j => (show (-2147483648 ≤ (0 : Int) ∧ (0 : Int) < 2147483648) from by decide)) wd929 (by decide) (by decide) (by decide) (by decide) (by decide) (by omega) (by omega) dX2_init_15 (fun hx3 => ?_)
  rw [hS93, hLn93] at hx3
  refine jj_mem hS93 hLn93 hM93 hR93 ?_
  refine jj_widen (k' := 2) (n' := 512) (by omega) (by omega) ?_
  obtain ⟨R4, hR94, h⟩ := nam_e h
  refine jj_putFRq hC kfX2 1 rfl (ext_s hx3 (ext_s hx1 hs0 (by decide)) (by decide)) rfl (by decide) wd903 rfl hInm rfl rfl rfl rfl rfl dX2_init_17 (jj_R hR94 ?_)
  refine jj_aload_n hC dX2_init_20 rfl 0 rfl ?_
  refine jj_iconst hC dX2_init_21 ?_
  obtain ⟨M5, hM5, h⟩ := nam_e h
  refine jp_I hC kfX2 2 rfl (ext_s hx3 (ext_s hx1 hs0 (by decide)) (by decide)) rfl (by decide) wd905 rfl rfl rfl (show (-2147483648 ≤ (0 : Int) ∧ (0 : Int) < 2147483648) from by decide) dX2_init_22 (jj_M hM5 ?_)
  refine jj_aload_n hC dX2_init_25 rfl 0 rfl ?_
  refine jj_bipush hC dX2_init_26 (by decide) ?_
  obtain ⟨S6, hS96, h⟩ := nam_e h
  obtain ⟨Ln6, hLn96, h⟩ := nam_e h
  obtain ⟨M6, hM96, h⟩ := nam_e h
  obtain ⟨R6, hR96, h⟩ := nam_e h
  refine jj_newN (t := 0) (at' := .int) hC 1 (by decide) rfl (fun C h => by cases h) (fun j => rfl) (fun j => (show (-2147483648 ≤ (0 : Int) ∧ (0 : Int) < 2147483648) from by decide)) wd929 (by decide) (by decide) (by decide) (by decide) (by decide) (by omega) (by omega) dX2_init_28 (fun hx6 => ?_)
  rw [hS96, hLn96] at hx6
  refine jj_mem hS96 hLn96 hM96 hR96 ?_
  refine jj_widen (k' := 3) (n' := 768) (by omega) (by omega) ?_
  obtain ⟨R7, hR97, h⟩ := nam_e h
  refine jj_putFRq hC kfX2 3 rfl (ext_s hx6 (ext_s hx3 (ext_s hx1 hs0 (by decide)) (by decide)) (by decide)) rfl (by decide) wd908 rfl hInm rfl rfl rfl rfl rfl dX2_init_30 (jj_R hR97 ?_)
  refine jj_aload_n hC dX2_init_33 rfl 0 rfl ?_
  refine jj_bipush hC dX2_init_34 (by decide) ?_
  obtain ⟨S8, hS98, h⟩ := nam_e h
  obtain ⟨Ln8, hLn98, h⟩ := nam_e h
  obtain ⟨M8, hM98, h⟩ := nam_e h
  obtain ⟨R8, hR98, h⟩ := nam_e h
  refine jj_newN (t := 0) (at' := .int) hC 1 (by decide) rfl (fun C h => by cases h) (fun j => rfl) (fun j => (show (-2147483648 ≤ (0 : Int) ∧ (0 : Int) < 2147483648) from by decide)) wd929 (by decide) (by decide) (by decide) (by decide) (by decide) (by omega) (by omega) dX2_init_36 (fun hx8 => ?_)
  rw [hS98, hLn98] at hx8
  refine jj_mem hS98 hLn98 hM98 hR98 ?_
  refine jj_widen (k' := 4) (n' := 1024) (by omega) (by omega) ?_
  obtain ⟨R9, hR99, h⟩ := nam_e h
  refine jj_putFRq hC kfX2 4 rfl (ext_s hx8 (ext_s hx6 (ext_s hx3 (ext_s hx1 hs0 (by decide)) (by decide)) (by decide)) (by decide)) rfl (by decide) wd911 rfl hInm rfl rfl rfl rfl rfl dX2_init_38 (jj_R hR99 ?_)
  refine jj_aload_n hC dX2_init_41 rfl 0 rfl ?_
  refine jj_iconst hC dX2_init_42 ?_
  obtain ⟨M10, hM10, h⟩ := nam_e h
  refine jp_I hC kfX2 5 rfl (ext_s hx8 (ext_s hx6 (ext_s hx3 (ext_s hx1 hs0 (by decide)) (by decide)) (by decide)) (by decide)) rfl (by decide) wd913 rfl rfl rfl (show (-2147483648 ≤ (0 : Int) ∧ (0 : Int) < 2147483648) from by decide) dX2_init_43 (jj_M hM10 ?_)
  cases h
  exact jj_vret hC (by omega) (by omega) dX2_init_46 ⟨⟨rfl, trivial, rfl, rfl, rfl, rfl, rfl⟩, (ext_t (ext_t (ext_t hx1 hx3) hx6) hx8)⟩
def fX3_init (ad S Ln : Nat → Nat) (R : gR) (M : gM) (a0 : Nat) : Option gM :=
  nam (wr M a0 0 0) fun M1 => nam (wr M1 a0 1 0) fun M2 => nam (wr M2 a0 2 0) fun M3 => nam (wr M3 a0 3 0) fun M4 => nam (wr M4 a0 4 0) fun M5 => nam (wr M5 a0 5 0) fun M6 => nam (wr M6 a0 6 0) fun M7 => nam (wr M7 a0 7 0) fun M8 => nam (wr M8 a0 8 0) fun M9 => some (M9)
theorem xX3_init {l : Launch} {G : gE} {sz : Nat} {S Ln : Nat → Nat} {M : gM} {R : gR} (hl : l.stackTraces = false) {a0 : Nat} (hs0 : S a0 = 8) {r : gM} (h : fX3_init G.2.2.2.2 S Ln R M a0 = some r) : Ct l G yX3_init cX3_init 1 none 1 0 0 [.ref a0] sz S Ln M R (poV sz S Ln (r) R) noX := by
  refine jj_startI (own := RX3) (lv0 := [(0, .ref a0)]) hl (by decide +kernel) rfl rfl rfl (c_le rfl) (fun C hCl hC hInm => ?_)
  unfold fX3_init at h
  refine jj_aload_n hC dX3_init_0 rfl 0 rfl ?_
  refine jj_objInit hC wd990 wd95 wd96 (c_le rfl) (c_le rfl) dX3_init_1 ?_
  refine jj_aload_n hC dX3_init_4 rfl 0 rfl ?_
  refine jj_iconst hC dX3_init_5 ?_
  obtain ⟨M1, hM1, h⟩ := nam_e h
  refine jp_I hC kfX3 0 rfl hs0 rfl (by decide) wd991 rfl rfl rfl (show (-2147483648 ≤ (0 : Int) ∧ (0 : Int) < 2147483648) from by decide) dX3_init_6 (jj_M hM1 ?_)
  refine jj_aload_n hC dX3_init_9 rfl 0 rfl ?_
  refine jg_s (j := 0) hC 0 rfl rfl wd628 dX3_init_10 ?_
  obtain ⟨M2, hM2, h⟩ := nam_e h
  refine jp_E hC kfX3 1 rfl (show (0 ≤ (0 : Int) ∧ (0 : Int) < 9) from by decide) hs0 rfl (by decide) wd992 rfl rfl rfl dX3_init_13 (jj_M hM2 ?_)
  refine jj_aload_n hC dX3_init_16 rfl 0 rfl ?_
  refine jj_iconst hC dX3_init_17 ?_
  obtain ⟨M3, hM3, h⟩ := nam_e h
  refine jp_I hC kfX3 2 rfl hs0 rfl (by decide) wd995 rfl rfl rfl (show (-2147483648 ≤ (0 : Int) ∧ (0 : Int) < 2147483648) from by decide) dX3_init_18 (jj_M hM3 ?_)
  refine jj_aload_n hC dX3_init_21 rfl 0 rfl ?_
  refine jj_iconst hC dX3_init_22 ?_
  obtain ⟨M4, hM4, h⟩ := nam_e h
  refine jp_I hC kfX3 3 rfl hs0 rfl (by decide) wd998 rfl rfl rfl (show (-2147483648 ≤ (0 : Int) ∧ (0 : Int) < 2147483648) from by decide) dX3_init_23 (jj_M hM4 ?_)
  refine jj_aload_n hC dX3_init_26 rfl 0 rfl ?_
  refine jj_iconst hC dX3_init_27 ?_
  obtain ⟨M5, hM5, h⟩ := nam_e h
  refine jp_I hC kfX3 4 rfl hs0 rfl (by decide) wd1001 rfl rfl rfl (show (-2147483648 ≤ (0 : Int) ∧ (0 : Int) < 2147483648) from by decide) dX3_init_28 (jj_M hM5 ?_)
  refine jj_aload_n hC dX3_init_31 rfl 0 rfl ?_
  refine jj_iconst hC dX3_init_32 ?_
  obtain ⟨M6, hM6, h⟩ := nam_e h
  refine jp_I hC kfX3 5 rfl hs0 rfl (by decide) wd1004 rfl rfl rfl (show (-2147483648 ≤ (0 : Int) ∧ (0 : Int) < 2147483648) from by decide) dX3_init_33 (jj_M hM6 ?_)
  refine jj_aload_n hC dX3_init_36 rfl 0 rfl ?_
  refine jj_iconst hC dX3_init_37 ?_
  obtain ⟨M7, hM7, h⟩ := nam_e h
  refine jp_I hC kfX3 6 rfl hs0 rfl (by decide) wd1007 rfl rfl rfl (show (-2147483648 ≤ (0 : Int) ∧ (0 : Int) < 2147483648) from by decide) dX3_init_38 (jj_M hM7 ?_)
  refine jj_aload_n hC dX3_init_41 rfl 0 rfl ?_
  refine jj_iconst hC dX3_init_42 ?_
  obtain ⟨M8, hM8, h⟩ := nam_e h
  refine jp_I hC kfX3 7 rfl hs0 rfl (by decide) wd1010 rfl rfl rfl (show (-2147483648 ≤ (0 : Int) ∧ (0 : Int) < 2147483648) from by decide) dX3_init_43 (jj_M hM8 ?_)
  refine jj_aload_n hC dX3_init_46 rfl 0 rfl ?_
  refine jj_lconst (z := 0) hC dX3_init_47 rfl ?_
  obtain ⟨M9, hM9, h⟩ := nam_e h
  refine jp_L hC kfX3 8 rfl hs0 rfl (by decide) wd1013 rfl rfl rfl (show (-9223372036854775808 ≤ (0 : Int) ∧ (0 : Int) < 9223372036854775808) from by decide) dX3_init_48 (jj_M hM9 ?_)
  cases h
  exact jj_vret hC (c_le rfl) (c_le rfl) dX3_init_51 ⟨rfl, trivial, rfl, rfl, rfl, rfl, rfl⟩
def fX8_init_L77 (ad : Nat → Nat) (l0_77 : Nat) (s77 : Int × Nat × (Nat → Nat) × (Nat → Nat) × gM × gR × Nat) : Option ((Int × Nat × (Nat → Nat) × (Nat → Nat) × gM × gR × Nat) ⊕ ((Nat × (Nat → Nat) × (Nat → Nat) × gM × gR) ⊕ (Nat × (Nat → Nat) × (Nat → Nat) × gM × gR))) :=
  gd (s77.2.2.2.2.2.2 ≤ 8) (if 6 ≤ s77.1 then (some (.inr (.inl (s77.2.1, s77.2.2.1, s77.2.2.2.1, s77.2.2.2.2.1, s77.2.2.2.2.2.1)))) else (rf s77.2.2.1 (s77.2.2.2.2.2.1 l0_77 3) 26 fun b19 => nam (ua s77.2.2.1 s77.2.1 8) fun S20 => nam (ua s77.2.2.2.1 s77.2.1 0) fun Ln20 => nam (ua s77.2.2.2.2.1 s77.2.1 (gN 8)) fun M20 => nam (ua s77.2.2.2.2.2.1 s77.2.1 gNo) fun R20 => bd (fX3_init ad S20 Ln20 R20 M20 s77.2.1) fun q21 => gd ((0 : Int) ≤ s77.1 ∧ s77.1 < (Ln20 b19 : Int)) (nam (wrR R20 b19 s77.1 (some s77.2.1)) fun R22 => some (.inl (w32 (s77.1 + 1), s77.2.1 + 1, S20, Ln20, q21, R22, s77.2.2.2.2.2.2 + 1)))))
def fX8_init (ad : Nat → Nat) (sz : Nat) (S Ln : Nat → Nat) (R : gR) (M : gM) (a0 : Nat) : Option (Nat × (Nat → Nat) × (Nat → Nat) × gM × gR) :=
  nam (ua S sz 7) fun S1 => nam (ua Ln sz 0) fun Ln1 => nam (ua M sz (gN 7)) fun M1 => nam (ua R sz gNo) fun R1 => bd (fX2_init ad (sz + 1) S1 Ln1 R1 M1 sz) fun q2 => nam (wrR q2.2.2.2.2 a0 0 (some sz)) fun R3 => nam (ua q2.2.1 q2.1 5) fun S4 => nam (ua q2.2.2.1 q2.1 0) fun Ln4 => nam (ua q2.2.2.2.1 q2.1 (gN 5)) fun M4 => nam (ua R3 q2.1 gNo) fun R4 => bd (fX0_init ad (q2.1 + 1) S4 Ln4 R4 M4 q2.1) fun q5 => nam (wrR q5.2.2.2.2 a0 1 (some q2.1)) fun R6 => nam (ua q5.2.1 q5.1 6) fun S7 => nam (ua q5.2.2.1 q5.1 0) fun Ln7 => nam (ua q5.2.2.2.1 q5.1 (gN 6)) fun M7 => nam (ua R6 q5.1 gNo) fun R7 => bd (fX1_init ad (q5.1 + 1) S7 Ln7 R7 M7 q5.1) fun q8 => nam (wrR q8.2.2.2.2 a0 2 (some q5.1)) fun R9 => nam (ua q8.2.1 q8.1 26) fun S10 => nam (ua q8.2.2.1 q8.1 (6 : Int).toNat) fun Ln10 => nam (ua q8.2.2.2.1 q8.1 gNz) fun M10 => nam (ua R9 q8.1 gNo) fun R10 => nam (wrR R10 a0 3 (some q8.1)) fun R11 => nam (wr M10 a0 4 0) fun M12 => nam (wr M12 a0 5 0) fun M13 => nam (ua S10 (q8.1 + 1) 21) fun S14 => nam (ua Ln10 (q8.1 + 1) (6 : Int).toNat) fun Ln14 => nam (ua M13 (q8.1 + 1) gNz) fun M14 => nam (ua R11 (q8.1 + 1) gNo) fun R14 => nam (wrR R14 a0 6 (some (q8.1 + 1))) fun R15 => nam (ua S14 (q8.1 + 1 + 1) 8) fun S16 => nam (ua Ln14 (q8.1 + 1 + 1) 0) fun Ln16 => nam (ua M14 (q8.1 + 1 + 1) (gN 8)) fun M16 => nam (ua R15 (q8.1 + 1 + 1) gNo) fun R16 => bd (fX3_init ad S16 Ln16 R16 M16 (q8.1 + 1 + 1)) fun q17 => nam (wrR R16 a0 7 (some (q8.1 + 1 + 1))) fun R18 => bd (lp (fX8_init_L77 ad a0) FU (0, q8.1 + 1 + 1 + 1, S16, Ln16, q17, R18, 0)) fun q24 => Sum.elim (fun e77_23 => some ((e77_23.1, e77_23.2.1, e77_23.2.2.1, e77_23.2.2.2.1, e77_23.2.2.2.2))) (fun c24 => some c24) q24
theorem xX8_init {l : Launch} {G : gE} {sz : Nat} {S Ln : Nat → Nat} {M : gM} {R : gR} (hl : l.stackTraces = false) {a0 : Nat} (hs0 : S a0 = 11) {r : Nat × (Nat → Nat) × (Nat → Nat) × gM × gR} (h : fX8_init G.2.2.2.2 sz S Ln R M a0 = some r) : Ct l G yX8_init cX8_init 2 none 2 28 7168 [.ref a0] sz S Ln M R (poX (poV (r.1) (r.2.1) (r.2.2.1) (r.2.2.2.1) (r.2.2.2.2)) (Ext sz S Ln (r.1) (r.2.1) (r.2.2.1))) noX := by
  refine jj_startI (own := RX8) (lv0 := [(0, .ref a0)]) hl (by decide +kernel) rfl rfl rfl (c_le rfl) (fun C hCl hC hInm => ?_)
  have hL77 : ∀ (l0_77 : Nat), ∀ (n : Nat) (s77 : Int × Nat × (Nat → Nat) × (Nat → Nat) × gM × gR × Nat) (q : (Nat × (Nat → Nat) × (Nat → Nat) × gM × gR) ⊕ (Nat × (Nat → Nat) × (Nat → Nat) × gM × gR)), lp (fX8_init_L77 G.2.2.2.2 l0_77) n s77 = some q → (-2147483648 ≤ s77.1 ∧ s77.1 < 2147483648) ∧ s77.2.2.1 l0_77 = 11 ∧ Ext sz S Ln s77.2.1 s77.2.2.1 s77.2.2.2.1 → (∀ e77, q = .inl e77 → Ext sz S Ln e77.1 e77.2.1 e77.2.2.1 → JJ G C 27 6912 e77.1 e77.2.1 e77.2.2.1 e77.2.2.2.1 e77.2.2.2.2 102 [] []) → (∀ c, q = .inr c → c = r) → JJ G C (19 + 1 * s77.2.2.2.2.2.2) (256 * (19 + 1 * s77.2.2.2.2.2.2)) s77.2.1 s77.2.2.1 s77.2.2.2.1 s77.2.2.2.2.1 s77.2.2.2.2.2.1 77 [(0, .ref l0_77), (1, .int (iI s77.1))] [] := by
    intro l0_77
    refine lp_ind ?_
    intro s77 r77 hI77 h hJ77 hE77 hR77
    obtain ⟨hs77_0, hl0_77, hx77⟩ := hI77
    unfold fX8_init_L77 at h
    obtain ⟨hcc77, h⟩ := gd_e h
    refine jj_iload_n hC dX8_init_77 rfl 1 rfl ?_
    refine jj_bipush hC dX8_init_78 (by decide) ?_
    refine jj_icmp_ge (tgt := 102) hC dX8_init_80 rfl hs77_0 (show (-2147483648 ≤ (6 : Int) ∧ (6 : Int) < 2147483648) from by decide) (fun hc => ?_) (fun hc => ?_)
    · replace h := (if_pos hc).symm.trans h
      refine jj_widen (k' := 27) (n' := 6912) (by omega) (by omega) ?_
      refine jj_lv (lv' := []) [] rfl ?_
      exact hE77 _ (Option.some.inj h).symm hx77
    · replace h := (if_neg (Int.not_le.mpr hc)).symm.trans h
      refine jj_aload_n hC dX8_init_83 rfl 0 rfl ?_
      obtain ⟨b19, hb19, hs19, h⟩ := rf_e h
      refine jg_R hC kfX8 3 rfl hl0_77 (by decide) wd1042 rfl hb19 dX8_init_84 ?_
      refine jj_iload_n hC dX8_init_87 rfl 1 rfl ?_
      obtain ⟨S20, hS920, h⟩ := nam_e h
      obtain ⟨Ln20, hLn920, h⟩ := nam_e h
      obtain ⟨M20, hM920, h⟩ := nam_e h
      obtain ⟨R20, hR920, h⟩ := nam_e h
      refine jj_newO hC kfX3 hd8 wd984 wd986 wd28 (by decide) (by omega) (by omega) dX8_init_88 (fun hx20 => ?_)
      rw [hS920, hLn920] at hx20
      refine jj_mem hS920 hLn920 hM920 hR920 ?_
      refine jj_widen (k' := 19 + 1 * s77.2.2.2.2.2.2 + 1) (n' := 256 * (19 + 1 * s77.2.2.2.2.2.2 + 1)) (by omega) (by omega) ?_
      refine jj_dup hC dX8_init_91 rfl ?_
      obtain ⟨q21, hq21, h⟩ := bd_e h
      refine jj_invIN hC mvX3_init rfl wd988 wd987 (xX3_init (OKC.tr hC) (show S20 s77.2.1 = 8 by rw [← hS920]; exact ua_s) hq21) rfl rfl (c_le rfl) (c_le rfl) (by omega) (by omega) dX8_init_92 (po_kV ?_)
      obtain ⟨⟨ha22, hb22⟩, h⟩ := gd_e h
      obtain ⟨R22, hR922, h⟩ := nam_e h
      refine jj_aast (t := 6) hC (ext_s hx20 hs19 (by decide)) (by decide) rfl (fun _ => rfl) rfl (show S20 s77.2.1 = 8 by rw [← hS920]; exact ua_s) (by decide) (by decide) rfl ha22 hb22 dX8_init_95 (jj_R hR922 ?_)
      refine jg_iinc (q := 1) (lv' := [(1, .int (iI (w32 (s77.1 + 1)))), (0, .ref l0_77)]) hC dX8_init_96 rfl (by decide) rfl ?_
      refine jj_goto (tgt := 77) hC dX8_init_99 rfl ?_
      refine jj_widen (k' := 19 + 1 * (s77.2.2.2.2.2.2 + 1)) (n' := 256 * (19 + 1 * (s77.2.2.2.2.2.2 + 1))) (by omega) (by omega) ?_
      refine jj_lv (lv' := [(0, .ref l0_77), (1, .int (iI (w32 (s77.1 + 1))))]) [1, 0] rfl ?_
      exact hJ77 _ (Option.some.inj h).symm ⟨(w32_r _), (ext_s hx20 hl0_77 (by decide)), (ext_t hx77 hx20)⟩
  unfold fX8_init at h
  refine jj_aload_n hC dX8_init_0 rfl 0 rfl ?_
  refine jj_objInit hC wd894 wd95 wd96 (c_le rfl) (c_le rfl) dX8_init_1 ?_
  refine jj_aload_n hC dX8_init_4 rfl 0 rfl ?_
  obtain ⟨S1, hS91, h⟩ := nam_e h
  obtain ⟨Ln1, hLn91, h⟩ := nam_e h
  obtain ⟨M1, hM91, h⟩ := nam_e h
  obtain ⟨R1, hR91, h⟩ := nam_e h
  refine jj_newO hC kfX2 hd7 wd895 wd896 wd25 (by decide) (by omega) (by omega) dX8_init_5 (fun hx1 => ?_)
  rw [hS91, hLn91] at hx1
  refine jj_mem hS91 hLn91 hM91 hR91 ?_
  refine jj_widen (k' := 1) (n' := 256) (by omega) (by omega) ?_
  refine jj_dup hC dX8_init_8 rfl ?_
  obtain ⟨q2, hq2, h⟩ := bd_e h
  refine jj_invIN hC mvX2_init rfl wd898 wd897 (xX2_init (OKC.tr hC) (show S1 sz = 7 by rw [← hS91]; exact ua_s) hq2) rfl rfl (c_le rfl) (c_le rfl) (by omega) (by omega) dX8_init_9 (poX_k (fun hx2 => po_kV ?_))
  refine jj_widen (k' := 5) (n' := 1280) (by omega) (by omega) ?_
  obtain ⟨R3, hR93, h⟩ := nam_e h
  refine jj_putFRq hC kfX8 0 rfl (ext_s hx2 (ext_s hx1 hs0 (by decide)) (by decide)) rfl (by decide) wd1036 rfl hInm rfl rfl rfl rfl rfl dX8_init_12 (jj_R hR93 ?_)
  refine jj_aload_n hC dX8_init_15 rfl 0 rfl ?_
  obtain ⟨S4, hS94, h⟩ := nam_e h
  obtain ⟨Ln4, hLn94, h⟩ := nam_e h
  obtain ⟨M4, hM94, h⟩ := nam_e h
  obtain ⟨R4, hR94, h⟩ := nam_e h
  refine jj_newO hC kfX0 hd5 wd930 wd931 wd26 (by decide) (by omega) (by omega) dX8_init_16 (fun hx4 => ?_)
  rw [hS94, hLn94] at hx4
  refine jj_mem hS94 hLn94 hM94 hR94 ?_
  refine jj_widen (k' := 6) (n' := 1536) (by omega) (by omega) ?_
  refine jj_dup hC dX8_init_19 rfl ?_
  obtain ⟨q5, hq5, h⟩ := bd_e h
  refine jj_invIN hC mvX0_init rfl wd933 wd932 (xX0_init (OKC.tr hC) (show S4 q2.1 = 5 by rw [← hS94]; exact ua_s) hq5) rfl rfl (c_le rfl) (c_le rfl) (by omega) (by omega) dX8_init_20 (poX_k (fun hx5 => po_kV ?_))
  refine jj_widen (k' := 9) (n' := 2304) (by omega) (by omega) ?_
  obtain ⟨R6, hR96, h⟩ := nam_e h
  refine jj_putFRq hC kfX8 1 rfl (ext_s hx5 (ext_s hx4 (ext_s hx2 (ext_s hx1 hs0 (by decide)) (by decide)) (by decide)) (by decide)) rfl (by decide) wd1038 rfl hInm rfl rfl rfl rfl rfl dX8_init_23 (jj_R hR96 ?_)
  refine jj_aload_n hC dX8_init_26 rfl 0 rfl ?_
  obtain ⟨S7, hS97, h⟩ := nam_e h
  obtain ⟨Ln7, hLn97, h⟩ := nam_e h
  obtain ⟨M7, hM97, h⟩ := nam_e h
  obtain ⟨R7, hR97, h⟩ := nam_e h
  refine jj_newO hC kfX1 hd6 wd955 wd956 wd27 (by decide) (by omega) (by omega) dX8_init_27 (fun hx7 => ?_)
  rw [hS97, hLn97] at hx7
  refine jj_mem hS97 hLn97 hM97 hR97 ?_
  refine jj_widen (k' := 10) (n' := 2560) (by omega) (by omega) ?_
  refine jj_dup hC dX8_init_30 rfl ?_
  obtain ⟨q8, hq8, h⟩ := bd_e h
  refine jj_invIN hC mvX1_init rfl wd958 wd957 (xX1_init (OKC.tr hC) (show S7 q5.1 = 6 by rw [← hS97]; exact ua_s) hq8) rfl rfl (c_le rfl) (c_le rfl) (by omega) (by omega) dX8_init_31 (poX_k (fun hx8 => po_kV ?_))
  refine jj_widen (k' := 16) (n' := 4096) (by omega) (by omega) ?_
  obtain ⟨R9, hR99, h⟩ := nam_e h
  refine jj_putFRq hC kfX8 2 rfl (ext_s hx8 (ext_s hx7 (ext_s hx5 (ext_s hx4 (ext_s hx2 (ext_s hx1 hs0 (by decide)) (by decide)) (by decide)) (by decide)) (by decide)) (by decide)) rfl (by decide) wd1040 rfl hInm rfl rfl rfl rfl rfl dX8_init_34 (jj_R hR99 ?_)
  refine jj_aload_n hC dX8_init_37 rfl 0 rfl ?_
  refine jj_bipush hC dX8_init_38 (by decide) ?_
  obtain ⟨S10, hS910, h⟩ := nam_e h
  obtain ⟨Ln10, hLn910, h⟩ := nam_e h
  obtain ⟨M10, hM910, h⟩ := nam_e h
  obtain ⟨R10, hR910, h⟩ := nam_e h
  refine jj_newQ (t := 6) hC (by decide) rfl (fun U h9 => h9.2.1) (fun j => rfl) wd984 (by decide) (by decide) (by omega) (by omega) dX8_init_40 (fun hx10 => ?_)
  rw [hS910, hLn910] at hx10
  refine jj_mem hS910 hLn910 hM910 hR910 ?_
  refine jj_widen (k' := 17) (n' := 4352) (by omega) (by omega) ?_
  obtain ⟨R11, hR911, h⟩ := nam_e h
  refine jj_putFRq hC kfX8 3 rfl (ext_s hx10 (ext_s hx8 (ext_s hx7 (ext_s hx5 (ext_s hx4 (ext_s hx2 (ext_s hx1 hs0 (by decide)) (by decide)) (by decide)) (by decide)) (by decide)) (by decide)) (by decide)) rfl (by decide) wd1042 rfl hInm rfl rfl rfl rfl rfl dX8_init_43 (jj_R hR911 ?_)
  refine jj_aload_n hC dX8_init_46 rfl 0 rfl ?_
  refine jj_iconst hC dX8_init_47 ?_
  obtain ⟨M12, hM12, h⟩ := nam_e h
  refine jp_I hC kfX8 4 rfl (ext_s hx10 (ext_s hx8 (ext_s hx7 (ext_s hx5 (ext_s hx4 (ext_s hx2 (ext_s hx1 hs0 (by decide)) (by decide)) (by decide)) (by decide)) (by decide)) (by decide)) (by decide)) rfl (by decide) wd1044 rfl rfl rfl (show (-2147483648 ≤ (0 : Int) ∧ (0 : Int) < 2147483648) from by decide) dX8_init_48 (jj_M hM12 ?_)
  refine jj_aload_n hC dX8_init_51 rfl 0 rfl ?_
  refine jj_iconst hC dX8_init_52 ?_
  obtain ⟨M13, hM13, h⟩ := nam_e h
  refine jp_I hC kfX8 5 rfl (ext_s hx10 (ext_s hx8 (ext_s hx7 (ext_s hx5 (ext_s hx4 (ext_s hx2 (ext_s hx1 hs0 (by decide)) (by decide)) (by decide)) (by decide)) (by decide)) (by decide)) (by decide)) rfl (by decide) wd1046 rfl rfl rfl (show (-2147483648 ≤ (0 : Int) ∧ (0 : Int) < 2147483648) from by decide) dX8_init_53 (jj_M hM13 ?_)
  refine jj_aload_n hC dX8_init_56 rfl 0 rfl ?_
  refine jj_bipush hC dX8_init_57 (by decide) ?_
  obtain ⟨S14, hS914, h⟩ := nam_e h
  obtain ⟨Ln14, hLn914, h⟩ := nam_e h
  obtain ⟨M14, hM914, h⟩ := nam_e h
  obtain ⟨R14, hR914, h⟩ := nam_e h
  refine jj_newN (t := 1) (at' := .long) hC 1 (by decide) rfl (fun C h => by cases h) (fun j => rfl) (fun j => (show (-9223372036854775808 ≤ (0 : Int) ∧ (0 : Int) < 9223372036854775808) from by decide)) wd1035 (by decide) (by decide) (by decide) (by decide) (by decide) (by omega) (by omega) dX8_init_59 (fun hx14 => ?_)
  rw [hS914, hLn914] at hx14
  refine jj_mem hS914 hLn914 hM914 hR914 ?_
  refine jj_widen (k' := 18) (n' := 4608) (by omega) (by omega) ?_
  obtain ⟨R15, hR915, h⟩ := nam_e h
  refine jj_putFRq hC kfX8 6 rfl (ext_s hx14 (ext_s hx10 (ext_s hx8 (ext_s hx7 (ext_s hx5 (ext_s hx4 (ext_s hx2 (ext_s hx1 hs0 (by decide)) (by decide)) (by decide)) (by decide)) (by decide)) (by decide)) (by decide)) (by decide)) rfl (by decide) wd1048 rfl hInm rfl rfl rfl rfl rfl dX8_init_61 (jj_R hR915 ?_)
  refine jj_aload_n hC dX8_init_64 rfl 0 rfl ?_
  obtain ⟨S16, hS916, h⟩ := nam_e h
  obtain ⟨Ln16, hLn916, h⟩ := nam_e h
  obtain ⟨M16, hM916, h⟩ := nam_e h
  obtain ⟨R16, hR916, h⟩ := nam_e h
  refine jj_newO hC kfX3 hd8 wd984 wd986 wd28 (by decide) (by omega) (by omega) dX8_init_65 (fun hx16 => ?_)
  rw [hS916, hLn916] at hx16
  refine jj_mem hS916 hLn916 hM916 hR916 ?_
  refine jj_widen (k' := 19) (n' := 4864) (by omega) (by omega) ?_
  refine jj_dup hC dX8_init_68 rfl ?_
  obtain ⟨q17, hq17, h⟩ := bd_e h
  refine jj_invIN hC mvX3_init rfl wd988 wd987 (xX3_init (OKC.tr hC) (show S16 (q8.1 + 1 + 1) = 8 by rw [← hS916]; exact ua_s) hq17) rfl rfl (c_le rfl) (c_le rfl) (by omega) (by omega) dX8_init_69 (po_kV ?_)
  obtain ⟨R18, hR918, h⟩ := nam_e h
  refine jj_putFRq hC kfX8 7 rfl (ext_s hx16 (ext_s hx14 (ext_s hx10 (ext_s hx8 (ext_s hx7 (ext_s hx5 (ext_s hx4 (ext_s hx2 (ext_s hx1 hs0 (by decide)) (by decide)) (by decide)) (by decide)) (by decide)) (by decide)) (by decide)) (by decide)) (by decide)) rfl (by decide) wd1049 rfl hInm rfl rfl rfl rfl rfl dX8_init_72 (jj_R hR918 ?_)
  refine jj_iconst hC dX8_init_75 ?_
  refine jj_istore_n (lv' := [(1, .int (iI 0)), (0, .ref a0)]) hC dX8_init_76 rfl (by decide) rfl ?_
  obtain ⟨q24, hq24, h⟩ := bd_e h
  refine jj_widen (k' := 19 + 1 * 0) (n' := 256 * (19 + 1 * 0)) (by omega) (by omega) ?_
  refine jj_lv (lv' := [(0, .ref a0), (1, .int (iI 0))]) [1, 0] rfl ?_
  refine hL77 a0  FU _ q24 hq24 ⟨(show (-2147483648 ≤ (0 : Int) ∧ (0 : Int) < 2147483648) from by decide), (ext_s hx16 (ext_s hx14 (ext_s hx10 (ext_s hx8 (ext_s hx7 (ext_s hx5 (ext_s hx4 (ext_s hx2 (ext_s hx1 hs0 (by decide)) (by decide)) (by decide)) (by decide)) (by decide)) (by decide)) (by decide)) (by decide)) (by decide)), (ext_t (ext_t (ext_t (ext_t (ext_t (ext_t (ext_t (ext_t hx1 hx2) hx4) hx5) hx7) hx8) hx10) hx14) hx16)⟩ (fun e77_23 he24 hIE24 => ?_) (fun c24 hc24 => ?_)
  · subst he24
    replace h := el_l h
    have hxe77_23 := hIE24
    cases h
    exact jj_vret hC (by omega) (by omega) dX8_init_102 ⟨⟨rfl, trivial, rfl, rfl, rfl, rfl, rfl⟩, hxe77_23⟩
  · subst hc24
    replace h := el_r h
    exact Option.some.inj h
def fX4_init_L20 (ad : Nat → Nat) (l0_20 : Nat) (s20 : Int × Nat × (Nat → Nat) × (Nat → Nat) × gM × gR × Nat) : Option ((Int × Nat × (Nat → Nat) × (Nat → Nat) × gM × gR × Nat) ⊕ ((Nat × (Nat → Nat) × (Nat → Nat) × gM × gR) ⊕ (Nat × (Nat → Nat) × (Nat → Nat) × gM × gR))) :=
  gd (s20.2.2.2.2.2.2 ≤ 8) (if 8 ≤ s20.1 then (some (.inr (.inl (s20.2.1, s20.2.2.1, s20.2.2.2.1, s20.2.2.2.2.1, s20.2.2.2.2.2.1)))) else (rf s20.2.2.1 (s20.2.2.2.2.2.1 l0_20 0) 27 fun b4 => nam (ua s20.2.2.1 s20.2.1 11) fun S5 => nam (ua s20.2.2.2.1 s20.2.1 0) fun Ln5 => nam (ua s20.2.2.2.2.1 s20.2.1 (gN 11)) fun M5 => nam (ua s20.2.2.2.2.2.1 s20.2.1 gNo) fun R5 => bd (fX8_init ad (s20.2.1 + 1) S5 Ln5 R5 M5 s20.2.1) fun q6 => gd ((0 : Int) ≤ s20.1 ∧ s20.1 < (q6.2.2.1 b4 : Int)) (nam (wrR q6.2.2.2.2 b4 s20.1 (some s20.2.1)) fun R7 => some (.inl (w32 (s20.1 + 1), q6.1, q6.2.1, q6.2.2.1, q6.2.2.2.1, R7, s20.2.2.2.2.2.2 + 1)))))
def fX4_init (ad : Nat → Nat) (sz : Nat) (S Ln : Nat → Nat) (R : gR) (M : gM) (a0 : Nat) : Option (Nat × (Nat → Nat) × (Nat → Nat) × gM × gR) :=
  nam (ua S sz 27) fun S1 => nam (ua Ln sz (8 : Int).toNat) fun Ln1 => nam (ua M sz gNz) fun M1 => nam (ua R sz gNo) fun R1 => nam (wrR R1 a0 0 (some sz)) fun R2 => nam (wr M1 a0 1 0) fun M3 => bd (lp (fX4_init_L20 ad a0) FU (0, sz + 1, S1, Ln1, M3, R2, 0)) fun q9 => Sum.elim (fun e20_8 => some ((e20_8.1, e20_8.2.1, e20_8.2.2.1, e20_8.2.2.2.1, e20_8.2.2.2.2))) (fun c9 => some c9) q9
theorem xX4_init {l : Launch} {G : gE} {sz : Nat} {S Ln : Nat → Nat} {M : gM} {R : gR} (hl : l.stackTraces = false) {a0 : Nat} (hs0 : S a0 = 9) {r : Nat × (Nat → Nat) × (Nat → Nat) × gM × gR} (h : fX4_init G.2.2.2.2 sz S Ln R M a0 = some r) : Ct l G yX4_init cX4_init 2 none 3 262 67072 [.ref a0] sz S Ln M R (poX (poV (r.1) (r.2.1) (r.2.2.1) (r.2.2.2.1) (r.2.2.2.2)) (Ext sz S Ln (r.1) (r.2.1) (r.2.2.1))) noX := by
  refine jj_startI (own := RX4) (lv0 := [(0, .ref a0)]) hl (by decide +kernel) rfl rfl rfl (c_le rfl) (fun C hCl hC hInm => ?_)
  have hL20 : ∀ (l0_20 : Nat), ∀ (n : Nat) (s20 : Int × Nat × (Nat → Nat) × (Nat → Nat) × gM × gR × Nat) (q : (Nat × (Nat → Nat) × (Nat → Nat) × gM × gR) ⊕ (Nat × (Nat → Nat) × (Nat → Nat) × gM × gR)), lp (fX4_init_L20 G.2.2.2.2 l0_20) n s20 = some q → (-2147483648 ≤ s20.1 ∧ s20.1 < 2147483648) ∧ s20.2.2.1 l0_20 = 9 ∧ Ext sz S Ln s20.2.1 s20.2.2.1 s20.2.2.2.1 → (∀ e20, q = .inl e20 → Ext sz S Ln e20.1 e20.2.1 e20.2.2.1 → JJ G C 233 59648 e20.1 e20.2.1 e20.2.2.1 e20.2.2.2.1 e20.2.2.2.2 45 [] []) → (∀ c, q = .inr c → c = r) → JJ G C (1 + 29 * s20.2.2.2.2.2.2) (256 * (1 + 29 * s20.2.2.2.2.2.2)) s20.2.1 s20.2.2.1 s20.2.2.2.1 s20.2.2.2.2.1 s20.2.2.2.2.2.1 20 [(0, .ref l0_20), (1, .int (iI s20.1))] [] := by
    intro l0_20
    refine lp_ind ?_
    intro s20 r20 hI20 h hJ20 hE20 hR20
    obtain ⟨hs20_0, hl0_20, hx20⟩ := hI20
    unfold fX4_init_L20 at h
    obtain ⟨hcc20, h⟩ := gd_e h
    refine jj_iload_n hC dX4_init_20 rfl 1 rfl ?_
    refine jj_bipush hC dX4_init_21 (by decide) ?_
    refine jj_icmp_ge (tgt := 45) hC dX4_init_23 rfl hs20_0 (show (-2147483648 ≤ (8 : Int) ∧ (8 : Int) < 2147483648) from by decide) (fun hc => ?_) (fun hc => ?_)
    · replace h := (if_pos hc).symm.trans h
      refine jj_widen (k' := 233) (n' := 59648) (by omega) (by omega) ?_
      refine jj_lv (lv' := []) [] rfl ?_
      exact hE20 _ (Option.some.inj h).symm hx20
    · replace h := (if_neg (Int.not_le.mpr hc)).symm.trans h
      refine jj_aload_n hC dX4_init_26 rfl 0 rfl ?_
      obtain ⟨b4, hb4, hs4, h⟩ := rf_e h
      refine jg_R hC kfX4 0 rfl hl0_20 (by decide) wd1075 rfl hb4 dX4_init_27 ?_
      refine jj_iload_n hC dX4_init_30 rfl 1 rfl ?_
      obtain ⟨S5, hS95, h⟩ := nam_e h
      obtain ⟨Ln5, hLn95, h⟩ := nam_e h
      obtain ⟨M5, hM95, h⟩ := nam_e h
      obtain ⟨R5, hR95, h⟩ := nam_e h
      refine jj_newO hC kfX8 hd11 wd1072 wd698 wd24 (by decide) (by omega) (by omega) dX4_init_31 (fun hx5 => ?_)
      rw [hS95, hLn95] at hx5
      refine jj_mem hS95 hLn95 hM95 hR95 ?_
      refine jj_widen (k' := 1 + 29 * s20.2.2.2.2.2.2 + 1) (n' := 256 * (1 + 29 * s20.2.2.2.2.2.2 + 1)) (by omega) (by omega) ?_
      refine jj_dup hC dX4_init_34 rfl ?_
      obtain ⟨q6, hq6, h⟩ := bd_e h
      refine jj_invI hC mvX8_init rfl wd892 wd1074 (xX8_init (OKC.tr hC) (show S5 s20.2.1 = 11 by rw [← hS95]; exact ua_s) hq6) rfl rfl (c_le rfl) (c_le rfl) (by omega) (by omega) dX4_init_35 (poX_k (fun hx6 => po_kV ?_))
      refine jj_widen (k' := 1 + 29 * s20.2.2.2.2.2.2 + 29) (n' := 256 * (1 + 29 * s20.2.2.2.2.2.2 + 29)) (by omega) (by omega) ?_
      obtain ⟨⟨ha7, hb7⟩, h⟩ := gd_e h
      obtain ⟨R7, hR97, h⟩ := nam_e h
      refine jj_aast (t := 7) hC (ext_s hx6 (ext_s hx5 hs4 (by decide)) (by decide)) (by decide) rfl (fun _ => rfl) rfl (ext_s hx6 (show S5 s20.2.1 = 11 by rw [← hS95]; exact ua_s) (by decide)) (by decide) (by decide) rfl ha7 hb7 dX4_init_38 (jj_R hR97 ?_)
      refine jg_iinc (q := 1) (lv' := [(1, .int (iI (w32 (s20.1 + 1)))), (0, .ref l0_20)]) hC dX4_init_39 rfl (by decide) rfl ?_
      refine jj_goto (tgt := 20) hC dX4_init_42 rfl ?_
      refine jj_widen (k' := 1 + 29 * (s20.2.2.2.2.2.2 + 1)) (n' := 256 * (1 + 29 * (s20.2.2.2.2.2.2 + 1))) (by omega) (by omega) ?_
      refine jj_lv (lv' := [(0, .ref l0_20), (1, .int (iI (w32 (s20.1 + 1))))]) [1, 0] rfl ?_
      exact hJ20 _ (Option.some.inj h).symm ⟨(w32_r _), (ext_s hx6 (ext_s hx5 hl0_20 (by decide)) (by decide)), (ext_t (ext_t hx20 hx5) hx6)⟩
  unfold fX4_init at h
  refine jj_aload_n hC dX4_init_0 rfl 0 rfl ?_
  refine jj_objInit hC wd1071 wd95 wd96 (c_le rfl) (c_le rfl) dX4_init_1 ?_
  refine jj_aload_n hC dX4_init_4 rfl 0 rfl ?_
  refine jj_bipush hC dX4_init_5 (by decide) ?_
  obtain ⟨S1, hS91, h⟩ := nam_e h
  obtain ⟨Ln1, hLn91, h⟩ := nam_e h
  obtain ⟨M1, hM91, h⟩ := nam_e h
  obtain ⟨R1, hR91, h⟩ := nam_e h
  refine jj_newQ (t := 7) hC (by decide) rfl (fun U h9 => h9.2.2.1) (fun j => rfl) wd1072 (by decide) (by decide) (by omega) (by omega) dX4_init_7 (fun hx1 => ?_)
  rw [hS91, hLn91] at hx1
  refine jj_mem hS91 hLn91 hM91 hR91 ?_
  refine jj_widen (k' := 1) (n' := 256) (by omega) (by omega) ?_
  obtain ⟨R2, hR92, h⟩ := nam_e h
  refine jj_putFRq hC kfX4 0 rfl (ext_s hx1 hs0 (by decide)) rfl (by decide) wd1075 rfl hInm rfl rfl rfl rfl rfl dX4_init_10 (jj_R hR92 ?_)
  refine jj_aload_n hC dX4_init_13 rfl 0 rfl ?_
  refine jj_iconst hC dX4_init_14 ?_
  obtain ⟨M3, hM3, h⟩ := nam_e h
  refine jp_I hC kfX4 1 rfl (ext_s hx1 hs0 (by decide)) rfl (by decide) wd1076 rfl rfl rfl (show (-2147483648 ≤ (0 : Int) ∧ (0 : Int) < 2147483648) from by decide) dX4_init_15 (jj_M hM3 ?_)
  refine jj_iconst hC dX4_init_18 ?_
  refine jj_istore_n (lv' := [(1, .int (iI 0)), (0, .ref a0)]) hC dX4_init_19 rfl (by decide) rfl ?_
  obtain ⟨q9, hq9, h⟩ := bd_e h
  refine jj_widen (k' := 1 + 29 * 0) (n' := 256 * (1 + 29 * 0)) (by omega) (by omega) ?_
  refine jj_lv (lv' := [(0, .ref a0), (1, .int (iI 0))]) [1, 0] rfl ?_
  refine hL20 a0  FU _ q9 hq9 ⟨(show (-2147483648 ≤ (0 : Int) ∧ (0 : Int) < 2147483648) from by decide), (ext_s hx1 hs0 (by decide)), hx1⟩ (fun e20_8 he9 hIE9 => ?_) (fun c9 hc9 => ?_)
  · subst he9
    replace h := el_l h
    have hxe20_8 := hIE9
    cases h
    exact jj_vret hC (by omega) (by omega) dX4_init_45 ⟨⟨rfl, trivial, rfl, rfl, rfl, rfl, rfl⟩, hxe20_8⟩
  · subst hc9
    replace h := el_r h
    exact Option.some.inj h
def fX7_init (ad : Nat → Nat) (sz : Nat) (S Ln : Nat → Nat) (R : gR) (M : gM) (a0 : Nat) : Option (Nat × (Nat → Nat) × (Nat → Nat) × gM × gR) :=
  nam (ua S sz 24) fun S1 => nam (ua Ln sz (60 : Int).toNat) fun Ln1 => nam (ua M sz gNz) fun M1 => nam (ua R sz gNo) fun R1 => nam (wrR R1 a0 0 (some sz)) fun R2 => nam (wr M1 a0 1 0) fun M3 => nam (ua S1 (sz + 1) 20) fun S4 => nam (ua Ln1 (sz + 1) (15 : Int).toNat) fun Ln4 => nam (ua M3 (sz + 1) gNz) fun M4 => nam (ua R2 (sz + 1) gNo) fun R4 => nam (wrR R4 a0 2 (some (sz + 1))) fun R5 => nam (m_S S4 (sz + 1 + 1)) fun S6 => nam (m_Ln Ln4 (sz + 1 + 1)) fun Ln6 => nam (m_M M4 (sz + 1 + 1)) fun M6 => nam (m_R R5 (sz + 1 + 1)) fun R6 => nam (wrR R6 a0 3 (some (sz + 1 + 1))) fun R7 => nam (wr M6 a0 4 0) fun M8 => nam (wr M8 a0 5 0) fun M9 => some ((sz + 1 + 1 + 16, S6, Ln6, M9, R7))
theorem xX7_init {l : Launch} {G : gE} {sz : Nat} {S Ln : Nat → Nat} {M : gM} {R : gR} (hl : l.stackTraces = false) {a0 : Nat} (hs0 : S a0 = 10) {r : Nat × (Nat → Nat) × (Nat → Nat) × gM × gR} (h : fX7_init G.2.2.2.2 sz S Ln R M a0 = some r) : Ct l G yX7_init cX7_init 1 none 1 18 4608 [.ref a0] sz S Ln M R (poX (poV (r.1) (r.2.1) (r.2.2.1) (r.2.2.2.1) (r.2.2.2.2)) (Ext sz S Ln (r.1) (r.2.1) (r.2.2.1))) noX := by
  refine jj_startI (own := RX7) (lv0 := [(0, .ref a0)]) hl (by decide +kernel) rfl rfl rfl (c_le rfl) (fun C hCl hC hInm => ?_)
  unfold fX7_init at h
  refine jj_aload_n hC dX7_init_0 rfl 0 rfl ?_
  refine jj_objInit hC wd1088 wd95 wd96 (c_le rfl) (c_le rfl) dX7_init_1 ?_
  refine jj_aload_n hC dX7_init_4 rfl 0 rfl ?_
  refine jj_bipush hC dX7_init_5 (by decide) ?_
  obtain ⟨S1, hS91, h⟩ := nam_e h
  obtain ⟨Ln1, hLn91, h⟩ := nam_e h
  obtain ⟨M1, hM91, h⟩ := nam_e h
  obtain ⟨R1, hR91, h⟩ := nam_e h
  refine jj_newN (t := 4) (at' := .char) hC 1 (by decide) rfl (fun C h => by cases h) (fun j => rfl) (fun j => (show (0 ≤ (0 : Int) ∧ (0 : Int) < 65536) from by decide)) wd1114 (by decide) (by decide) (by decide) (by decide) (by decide) (by omega) (by omega) dX7_init_7 (fun hx1 => ?_)
  rw [hS91, hLn91] at hx1
  refine jj_mem hS91 hLn91 hM91 hR91 ?_
  refine jj_widen (k' := 1) (n' := 256) (by omega) (by omega) ?_
  obtain ⟨R2, hR92, h⟩ := nam_e h
  refine jj_putFRq hC kfX7 0 rfl (ext_s hx1 hs0 (by decide)) rfl (by decide) wd1091 rfl hInm rfl rfl rfl rfl rfl dX7_init_9 (jj_R hR92 ?_)
  refine jj_aload_n hC dX7_init_12 rfl 0 rfl ?_
  refine jj_iconst hC dX7_init_13 ?_
  obtain ⟨M3, hM3, h⟩ := nam_e h
  refine jp_I hC kfX7 1 rfl (ext_s hx1 hs0 (by decide)) rfl (by decide) wd1092 rfl rfl rfl (show (-2147483648 ≤ (0 : Int) ∧ (0 : Int) < 2147483648) from by decide) dX7_init_14 (jj_M hM3 ?_)
  refine jj_aload_n hC dX7_init_17 rfl 0 rfl ?_
  refine jj_bipush hC dX7_init_18 (by decide) ?_
  obtain ⟨S4, hS94, h⟩ := nam_e h
  obtain ⟨Ln4, hLn94, h⟩ := nam_e h
  obtain ⟨M4, hM94, h⟩ := nam_e h
  obtain ⟨R4, hR94, h⟩ := nam_e h
  refine jj_newN (t := 0) (at' := .int) hC 1 (by decide) rfl (fun C h => by cases h) (fun j => rfl) (fun j => (show (-2147483648 ≤ (0 : Int) ∧ (0 : Int) < 2147483648) from by decide)) wd929 (by decide) (by decide) (by decide) (by decide) (by decide) (by omega) (by omega) dX7_init_20 (fun hx4 => ?_)
  rw [hS94, hLn94] at hx4
  refine jj_mem hS94 hLn94 hM94 hR94 ?_
  refine jj_widen (k' := 2) (n' := 512) (by omega) (by omega) ?_
  obtain ⟨R5, hR95, h⟩ := nam_e h
  refine jj_putFRq hC kfX7 2 rfl (ext_s hx4 (ext_s hx1 hs0 (by decide)) (by decide)) rfl (by decide) wd1094 rfl hInm rfl rfl rfl rfl rfl dX7_init_22 (jj_R hR95 ?_)
  refine jj_aload_n hC dX7_init_25 rfl 0 rfl ?_
  refine jj_bipush hC dX7_init_26 (by decide) ?_
  refine jj_iconst hC dX7_init_28 ?_
  obtain ⟨S6, hS96, h⟩ := nam_e h
  obtain ⟨Ln6, hLn96, h⟩ := nam_e h
  obtain ⟨M6, hM96, h⟩ := nam_e h
  obtain ⟨R6, hR96, h⟩ := nam_e h
  refine jj_newM hC wd1089 wd929 (by omega) (by omega) dX7_init_29 (fun hx6 => ?_)
  rw [hS96, hLn96] at hx6
  refine jj_mem hS96 hLn96 hM96 hR96 ?_
  refine jj_widen (k' := 18) (n' := 4608) (by omega) (by omega) ?_
  obtain ⟨R7, hR97, h⟩ := nam_e h
  refine jj_putFRq hC kfX7 3 rfl (ext_s hx6 (ext_s hx4 (ext_s hx1 hs0 (by decide)) (by decide)) (by decide)) rfl (by decide) wd1096 rfl hInm rfl rfl rfl rfl rfl dX7_init_33 (jj_R hR97 ?_)
  refine jj_aload_n hC dX7_init_36 rfl 0 rfl ?_
  refine jj_iconst hC dX7_init_37 ?_
  obtain ⟨M8, hM8, h⟩ := nam_e h
  refine jp_I hC kfX7 4 rfl (ext_s hx6 (ext_s hx4 (ext_s hx1 hs0 (by decide)) (by decide)) (by decide)) rfl (by decide) wd1098 rfl rfl rfl (show (-2147483648 ≤ (0 : Int) ∧ (0 : Int) < 2147483648) from by decide) dX7_init_38 (jj_M hM8 ?_)
  refine jj_aload_n hC dX7_init_41 rfl 0 rfl ?_
  refine jj_iconst hC dX7_init_42 ?_
  obtain ⟨M9, hM9, h⟩ := nam_e h
  refine jp_I hC kfX7 5 rfl (ext_s hx6 (ext_s hx4 (ext_s hx1 hs0 (by decide)) (by decide)) (by decide)) rfl (by decide) wd1100 rfl rfl rfl (show (-2147483648 ≤ (0 : Int) ∧ (0 : Int) < 2147483648) from by decide) dX7_init_43 (jj_M hM9 ?_)
  cases h
  exact jj_vret hC (by omega) (by omega) dX7_init_46 ⟨⟨rfl, trivial, rfl, rfl, rfl, rfl, rfl⟩, (ext_t (ext_t hx1 hx4) hx6)⟩
def fJ5_init_d00df (ad : Nat → Nat) (sz : Nat) (S Ln : Nat → Nat) (R : gR) (M : gM) (a0 : Nat) (x1 : Int) : Option (Nat × (Nat → Nat) × (Nat → Nat) × gM × gR) :=
  if (1 : Int) = 0 then (none) else (gd ((0 : Int) ≤ x1 ∧ x1 ≤ 256) (nam (ua S sz 23) fun S2 => nam (ua Ln sz x1.toNat) fun Ln2 => nam (ua M sz (fun _ => 0)) fun M2 => nam (ua R sz (fun _ => none)) fun R2 => nam (wrR R2 a0 0 (some sz)) fun R3 => nam (wr M2 a0 1 0) fun M4 => some ((sz + 1, S2, Ln2, M4, R3))))
theorem xJ5_init_d00df {l : Launch} {G : gE} {sz : Nat} {S Ln : Nat → Nat} {M : gM} {R : gR} (hl : l.stackTraces = false) {a0 : Nat} (hs0 : S a0 = 2) {x1 : Int} (hp1 : (-2147483648 ≤ x1 ∧ x1 < 2147483648)) {r : Nat × (Nat → Nat) × (Nat → Nat) × gM × gR} (h : fJ5_init_d00df G.2.2.2.2 sz S Ln R M a0 x1 = some r) : Ct l G yJ5_init_d00df cJ5_init_d00df 2 none 1 1 256 [.ref a0, .int (iI x1)] sz S Ln M R (poX (poV (r.1) (r.2.1) (r.2.2.1) (r.2.2.2.1) (r.2.2.2.2)) (Ext sz S Ln (r.1) (r.2.1) (r.2.2.1))) noX := by
  refine jj_startI (own := RJ5) (lv0 := [(0, .ref a0), (1, .int (iI x1))]) hl (by decide +kernel) rfl rfl rfl (c_le rfl) (fun C hCl hC hInm => ?_)
  unfold fJ5_init_d00df at h
  refine jj_aload_n hC dJ5_init_d00df_0 rfl 0 rfl ?_
  refine jj_objInit hC wd164 wd95 wd96 (c_le rfl) (c_le rfl) dJ5_init_d00df_1 ?_
  refine jj_getsV (v := .int (iI 1)) hC 0 rfl wd165 dJ5_init_d00df_4 ?_
  refine jj_if_eq (tgt := 25) hC dJ5_init_d00df_7 rfl (show (-2147483648 ≤ (1 : Int) ∧ (1 : Int) < 2147483648) from by decide) (fun hc => ?_) (fun hc => ?_)
  · replace h := (if_pos hc).symm.trans h
    cases h
  · replace h := (if_neg (hc)).symm.trans h
    refine jj_aload_n hC dJ5_init_d00df_10 rfl 0 rfl ?_
    refine jj_iload_n hC dJ5_init_d00df_11 rfl 1 rfl ?_
    obtain ⟨⟨ha2, hb2⟩, h⟩ := gd_e h
    obtain ⟨S2, hS92, h⟩ := nam_e h
    obtain ⟨Ln2, hLn92, h⟩ := nam_e h
    obtain ⟨M2, hM92, h⟩ := nam_e h
    obtain ⟨R2, hR92, h⟩ := nam_e h
    refine jj_newB hC wd142 ha2 hb2 (by omega) (by omega) dJ5_init_d00df_12 (fun hx2 => ?_)
    rw [hS92, hLn92] at hx2
    refine jj_mem hS92 hLn92 hM92 hR92 ?_
    refine jj_widen (k' := 1) (n' := 256) (by omega) (by omega) ?_
    obtain ⟨R3, hR93, h⟩ := nam_e h
    refine jj_putRq hC kfJ4 0 rfl (ext_s hx2 hs0 (by decide)) rfl (by decide) wd174 rfl rfl rfl rfl rfl dJ5_init_d00df_14 (jj_R hR93 ?_)
    refine jj_aload_n hC dJ5_init_d00df_17 rfl 0 rfl ?_
    refine jj_iconst hC dJ5_init_d00df_18 ?_
    obtain ⟨M4, hM4, h⟩ := nam_e h
    refine jp_B hC kfJ4 1 rfl (ext_s hx2 hs0 (by decide)) rfl (by decide) wd175 rfl rfl rfl (show (-128 ≤ (0 : Int) ∧ (0 : Int) < 128) from by decide) dJ5_init_d00df_19 (jj_M hM4 ?_)
    refine jj_goto (tgt := 38) hC dJ5_init_d00df_22 rfl ?_
    cases h
    exact jj_vret hC (by omega) (by omega) dJ5_init_d00df_38 ⟨⟨rfl, trivial, rfl, rfl, rfl, rfl, rfl⟩, hx2⟩
def fJ4_init_da8c8 (ad : Nat → Nat) (sz : Nat) (S Ln : Nat → Nat) (R : gR) (M : gM) (a0 : Nat) : Option (Nat × (Nat → Nat) × (Nat → Nat) × gM × gR) :=
  bd (fJ5_init_d00df ad sz S Ln R M a0 16) fun q1 => some ((q1.1, q1.2.1, q1.2.2.1, q1.2.2.2.1, q1.2.2.2.2))
theorem xJ4_init_da8c8 {l : Launch} {G : gE} {sz : Nat} {S Ln : Nat → Nat} {M : gM} {R : gR} (hl : l.stackTraces = false) {a0 : Nat} (hs0 : S a0 = 2) {r : Nat × (Nat → Nat) × (Nat → Nat) × gM × gR} (h : fJ4_init_da8c8 G.2.2.2.2 sz S Ln R M a0 = some r) : Ct l G yJ4_init_da8c8 cJ4_init_da8c8 1 none 2 1 256 [.ref a0] sz S Ln M R (poX (poV (r.1) (r.2.1) (r.2.2.1) (r.2.2.2.1) (r.2.2.2.2)) (Ext sz S Ln (r.1) (r.2.1) (r.2.2.1))) noX := by
  refine jj_startI (own := RJ4) (lv0 := [(0, .ref a0)]) hl (by decide +kernel) rfl rfl rfl (c_le rfl) (fun C hCl hC hInm => ?_)
  unfold fJ4_init_da8c8 at h
  refine jj_aload_n hC dJ4_init_da8c8_0 rfl 0 rfl ?_
  refine jj_bipush hC dJ4_init_da8c8_1 (by decide) ?_
  obtain ⟨q1, hq1, h⟩ := bd_e h
  refine jj_invI hC mvJ5_init_d00df rfl wd162 wd161 (xJ5_init_d00df (OKC.tr hC) hs0 (show (-2147483648 ≤ (16 : Int) ∧ (16 : Int) < 2147483648) from by decide) hq1) rfl rfl (c_le rfl) (c_le rfl) (by omega) (by omega) dJ4_init_da8c8_3 (poX_k (fun hx1 => po_kV ?_))
  refine jj_widen (k' := 1) (n' := 256) (by omega) (by omega) ?_
  cases h
  exact jj_vret hC (by omega) (by omega) dJ4_init_da8c8_6 ⟨⟨rfl, trivial, rfl, rfl, rfl, rfl, rfl⟩, hx1⟩
def fX9_init (ad : Nat → Nat) (sz : Nat) (S Ln : Nat → Nat) (R : gR) (M : gM) (a0 : Nat) : Option (Nat × (Nat → Nat) × (Nat → Nat) × gM × gR) :=
  nam (ua S sz 11) fun S1 => nam (ua Ln sz 0) fun Ln1 => nam (ua M sz (gN 11)) fun M1 => nam (ua R sz gNo) fun R1 => bd (fX8_init ad (sz + 1) S1 Ln1 R1 M1 sz) fun q2 => nam (wrR q2.2.2.2.2 a0 0 (some sz)) fun R3 => nam (ua q2.2.1 q2.1 11) fun S4 => nam (ua q2.2.2.1 q2.1 0) fun Ln4 => nam (ua q2.2.2.2.1 q2.1 (gN 11)) fun M4 => nam (ua R3 q2.1 gNo) fun R4 => bd (fX8_init ad (q2.1 + 1) S4 Ln4 R4 M4 q2.1) fun q5 => nam (wrR q5.2.2.2.2 a0 1 (some q2.1)) fun R6 => nam (ua q5.2.1 q5.1 11) fun S7 => nam (ua q5.2.2.1 q5.1 0) fun Ln7 => nam (ua q5.2.2.2.1 q5.1 (gN 11)) fun M7 => nam (ua R6 q5.1 gNo) fun R7 => bd (fX8_init ad (q5.1 + 1) S7 Ln7 R7 M7 q5.1) fun q8 => nam (wrR q8.2.2.2.2 a0 2 (some q5.1)) fun R9 => nam (ua q8.2.1 q8.1 9) fun S10 => nam (ua q8.2.2.1 q8.1 0) fun Ln10 => nam (ua q8.2.2.2.1 q8.1 (gN 9)) fun M10 => nam (ua R9 q8.1 gNo) fun R10 => bd (fX4_init ad (q8.1 + 1) S10 Ln10 R10 M10 q8.1) fun q11 => nam (wrR q11.2.2.2.2 a0 3 (some q8.1)) fun R12 => nam (ua q11.2.1 q11.1 10) fun S13 => nam (ua q11.2.2.1 q11.1 0) fun Ln13 => nam (ua q11.2.2.2.1 q11.1 (gN 10)) fun M13 => nam (ua R12 q11.1 gNo) fun R13 => bd (fX7_init ad (q11.1 + 1) S13 Ln13 R13 M13 q11.1) fun q14 => nam (wrR q14.2.2.2.2 a0 4 (some q11.1)) fun R15 => nam (ua q14.2.1 q14.1 2) fun S16 => nam (ua q14.2.2.1 q14.1 0) fun Ln16 => nam (ua q14.2.2.2.1 q14.1 (gN 2)) fun M16 => nam (ua R15 q14.1 gNo) fun R16 => bd (fJ4_init_da8c8 ad (q14.1 + 1) S16 Ln16 R16 M16 q14.1) fun q17 => nam (wrR q17.2.2.2.2 a0 5 (some q14.1)) fun R18 => nam (wr q17.2.2.2.1 a0 6 0) fun M19 => nam (wr M19 a0 7 (-1)) fun M20 => nam (wr M20 a0 8 (-1)) fun M21 => some ((q17.1, q17.2.1, q17.2.2.1, M21, R18))
theorem xX9_init {l : Launch} {G : gE} {sz : Nat} {S Ln : Nat → Nat} {M : gM} {R : gR} (hl : l.stackTraces = false) {a0 : Nat} (hs0 : S a0 = 12) {r : Nat × (Nat → Nat) × (Nat → Nat) × gM × gR} (h : fX9_init G.2.2.2.2 sz S Ln R M a0 = some r) : Ct l G yX9_init cX9_init 1 none 4 371 94976 [.ref a0] sz S Ln M R (poX (poV (r.1) (r.2.1) (r.2.2.1) (r.2.2.2.1) (r.2.2.2.2)) (Ext sz S Ln (r.1) (r.2.1) (r.2.2.1))) noX := by
  refine jj_startI (own := RX9) (lv0 := [(0, .ref a0)]) hl (by decide +kernel) rfl rfl rfl (c_le rfl) (fun C hCl hC hInm => ?_)
  unfold fX9_init at h
  refine jj_aload_n hC dX9_init_0 rfl 0 rfl ?_
  refine jj_objInit hC wd889 wd95 wd96 (c_le rfl) (c_le rfl) dX9_init_1 ?_
  refine jj_aload_n hC dX9_init_4 rfl 0 rfl ?_
  obtain ⟨S1, hS91, h⟩ := nam_e h
  obtain ⟨Ln1, hLn91, h⟩ := nam_e h
  obtain ⟨M1, hM91, h⟩ := nam_e h
  obtain ⟨R1, hR91, h⟩ := nam_e h
  refine jj_newO hC kfX8 hd11 wd890 wd698 wd24 (by decide) (by omega) (by omega) dX9_init_5 (fun hx1 => ?_)
  rw [hS91, hLn91] at hx1
  refine jj_mem hS91 hLn91 hM91 hR91 ?_
  refine jj_widen (k' := 1) (n' := 256) (by omega) (by omega) ?_
  refine jj_dup hC dX9_init_8 rfl ?_
  obtain ⟨q2, hq2, h⟩ := bd_e h
  refine jj_invI hC mvX8_init rfl wd892 wd891 (xX8_init (OKC.tr hC) (show S1 sz = 11 by rw [← hS91]; exact ua_s) hq2) rfl rfl (c_le rfl) (c_le rfl) (by omega) (by omega) dX9_init_9 (poX_k (fun hx2 => po_kV ?_))
  refine jj_widen (k' := 29) (n' := 7424) (by omega) (by omega) ?_
  obtain ⟨R3, hR93, h⟩ := nam_e h
  refine jj_putFRq hC kfX9 0 rfl (ext_s hx2 (ext_s hx1 hs0 (by decide)) (by decide)) rfl (by decide) wd1117 rfl hInm rfl rfl rfl rfl rfl dX9_init_12 (jj_R hR93 ?_)
  refine jj_aload_n hC dX9_init_15 rfl 0 rfl ?_
  obtain ⟨S4, hS94, h⟩ := nam_e h
  obtain ⟨Ln4, hLn94, h⟩ := nam_e h
  obtain ⟨M4, hM94, h⟩ := nam_e h
  obtain ⟨R4, hR94, h⟩ := nam_e h
  refine jj_newO hC kfX8 hd11 wd890 wd698 wd24 (by decide) (by omega) (by omega) dX9_init_16 (fun hx4 => ?_)
  rw [hS94, hLn94] at hx4
  refine jj_mem hS94 hLn94 hM94 hR94 ?_
  refine jj_widen (k' := 30) (n' := 7680) (by omega) (by omega) ?_
  refine jj_dup hC dX9_init_19 rfl ?_
  obtain ⟨q5, hq5, h⟩ := bd_e h
  refine jj_invI hC mvX8_init rfl wd892 wd891 (xX8_init (OKC.tr hC) (show S4 q2.1 = 11 by rw [← hS94]; exact ua_s) hq5) rfl rfl (c_le rfl) (c_le rfl) (by omega) (by omega) dX9_init_20 (poX_k (fun hx5 => po_kV ?_))
  refine jj_widen (k' := 58) (n' := 14848) (by omega) (by omega) ?_
  obtain ⟨R6, hR96, h⟩ := nam_e h
  refine jj_putFRq hC kfX9 1 rfl (ext_s hx5 (ext_s hx4 (ext_s hx2 (ext_s hx1 hs0 (by decide)) (by decide)) (by decide)) (by decide)) rfl (by decide) wd1118 rfl hInm rfl rfl rfl rfl rfl dX9_init_23 (jj_R hR96 ?_)
  refine jj_aload_n hC dX9_init_26 rfl 0 rfl ?_
  obtain ⟨S7, hS97, h⟩ := nam_e h
  obtain ⟨Ln7, hLn97, h⟩ := nam_e h
  obtain ⟨M7, hM97, h⟩ := nam_e h
  obtain ⟨R7, hR97, h⟩ := nam_e h
  refine jj_newO hC kfX8 hd11 wd890 wd698 wd24 (by decide) (by omega) (by omega) dX9_init_27 (fun hx7 => ?_)
  rw [hS97, hLn97] at hx7
  refine jj_mem hS97 hLn97 hM97 hR97 ?_
  refine jj_widen (k' := 59) (n' := 15104) (by omega) (by omega) ?_
  refine jj_dup hC dX9_init_30 rfl ?_
  obtain ⟨q8, hq8, h⟩ := bd_e h
  refine jj_invI hC mvX8_init rfl wd892 wd891 (xX8_init (OKC.tr hC) (show S7 q5.1 = 11 by rw [← hS97]; exact ua_s) hq8) rfl rfl (c_le rfl) (c_le rfl) (by omega) (by omega) dX9_init_31 (poX_k (fun hx8 => po_kV ?_))
  refine jj_widen (k' := 87) (n' := 22272) (by omega) (by omega) ?_
  obtain ⟨R9, hR99, h⟩ := nam_e h
  refine jj_putFRq hC kfX9 2 rfl (ext_s hx8 (ext_s hx7 (ext_s hx5 (ext_s hx4 (ext_s hx2 (ext_s hx1 hs0 (by decide)) (by decide)) (by decide)) (by decide)) (by decide)) (by decide)) rfl (by decide) wd1119 rfl hInm rfl rfl rfl rfl rfl dX9_init_34 (jj_R hR99 ?_)
  refine jj_aload_n hC dX9_init_37 rfl 0 rfl ?_
  obtain ⟨S10, hS910, h⟩ := nam_e h
  obtain ⟨Ln10, hLn910, h⟩ := nam_e h
  obtain ⟨M10, hM910, h⟩ := nam_e h
  obtain ⟨R10, hR910, h⟩ := nam_e h
  refine jj_newO hC kfX4 hd9 wd1067 wd551 wd31 (by decide) (by omega) (by omega) dX9_init_38 (fun hx10 => ?_)
  rw [hS910, hLn910] at hx10
  refine jj_mem hS910 hLn910 hM910 hR910 ?_
  refine jj_widen (k' := 88) (n' := 22528) (by omega) (by omega) ?_
  refine jj_dup hC dX9_init_41 rfl ?_
  obtain ⟨q11, hq11, h⟩ := bd_e h
  refine jj_invI hC mvX4_init rfl wd1069 wd1068 (xX4_init (OKC.tr hC) (show S10 q8.1 = 9 by rw [← hS910]; exact ua_s) hq11) rfl rfl (c_le rfl) (c_le rfl) (by omega) (by omega) dX9_init_42 (poX_k (fun hx11 => po_kV ?_))
  refine jj_widen (k' := 350) (n' := 89600) (by omega) (by omega) ?_
  obtain ⟨R12, hR912, h⟩ := nam_e h
  refine jj_putFRq hC kfX9 3 rfl (ext_s hx11 (ext_s hx10 (ext_s hx8 (ext_s hx7 (ext_s hx5 (ext_s hx4 (ext_s hx2 (ext_s hx1 hs0 (by decide)) (by decide)) (by decide)) (by decide)) (by decide)) (by decide)) (by decide)) (by decide)) rfl (by decide) wd1120 rfl hInm rfl rfl rfl rfl rfl dX9_init_45 (jj_R hR912 ?_)
  refine jj_aload_n hC dX9_init_48 rfl 0 rfl ?_
  obtain ⟨S13, hS913, h⟩ := nam_e h
  obtain ⟨Ln13, hLn913, h⟩ := nam_e h
  obtain ⟨M13, hM913, h⟩ := nam_e h
  obtain ⟨R13, hR913, h⟩ := nam_e h
  refine jj_newO hC kfX7 hd10 wd1083 wd1084 wd32 (by decide) (by omega) (by omega) dX9_init_49 (fun hx13 => ?_)
  rw [hS913, hLn913] at hx13
  refine jj_mem hS913 hLn913 hM913 hR913 ?_
  refine jj_widen (k' := 351) (n' := 89856) (by omega) (by omega) ?_
  refine jj_dup hC dX9_init_52 rfl ?_
  obtain ⟨q14, hq14, h⟩ := bd_e h
  refine jj_invIN hC mvX7_init rfl wd1086 wd1085 (xX7_init (OKC.tr hC) (show S13 q11.1 = 10 by rw [← hS913]; exact ua_s) hq14) rfl rfl (c_le rfl) (c_le rfl) (by omega) (by omega) dX9_init_53 (poX_k (fun hx14 => po_kV ?_))
  refine jj_widen (k' := 369) (n' := 94464) (by omega) (by omega) ?_
  obtain ⟨R15, hR915, h⟩ := nam_e h
  refine jj_putFRq hC kfX9 4 rfl (ext_s hx14 (ext_s hx13 (ext_s hx11 (ext_s hx10 (ext_s hx8 (ext_s hx7 (ext_s hx5 (ext_s hx4 (ext_s hx2 (ext_s hx1 hs0 (by decide)) (by decide)) (by decide)) (by decide)) (by decide)) (by decide)) (by decide)) (by decide)) (by decide)) (by decide)) rfl (by decide) wd1121 rfl hInm rfl rfl rfl rfl rfl dX9_init_56 (jj_R hR915 ?_)
  refine jj_aload_n hC dX9_init_59 rfl 0 rfl ?_
  obtain ⟨S16, hS916, h⟩ := nam_e h
  obtain ⟨Ln16, hLn916, h⟩ := nam_e h
  obtain ⟨M16, hM916, h⟩ := nam_e h
  obtain ⟨R16, hR916, h⟩ := nam_e h
  refine jj_newO hC kfJ4 hd2 wd1115 wd157 wd34 (by decide) (by omega) (by omega) dX9_init_60 (fun hx16 => ?_)
  rw [hS916, hLn916] at hx16
  refine jj_mem hS916 hLn916 hM916 hR916 ?_
  refine jj_widen (k' := 370) (n' := 94720) (by omega) (by omega) ?_
  refine jj_dup hC dX9_init_63 rfl ?_
  obtain ⟨q17, hq17, h⟩ := bd_e h
  refine jj_invI hC mvJ4_init_da8c8 rfl wd159 wd1116 (xJ4_init_da8c8 (OKC.tr hC) (show S16 q14.1 = 2 by rw [← hS916]; exact ua_s) hq17) rfl rfl (c_le rfl) (c_le rfl) (by omega) (by omega) dX9_init_64 (poX_k (fun hx17 => po_kV ?_))
  refine jj_widen (k' := 371) (n' := 94976) (by omega) (by omega) ?_
  obtain ⟨R18, hR918, h⟩ := nam_e h
  refine jj_putFRq hC kfX9 5 rfl (ext_s hx17 (ext_s hx16 (ext_s hx14 (ext_s hx13 (ext_s hx11 (ext_s hx10 (ext_s hx8 (ext_s hx7 (ext_s hx5 (ext_s hx4 (ext_s hx2 (ext_s hx1 hs0 (by decide)) (by decide)) (by decide)) (by decide)) (by decide)) (by decide)) (by decide)) (by decide)) (by decide)) (by decide)) (by decide)) (by decide)) rfl (by decide) wd1122 rfl hInm rfl rfl rfl rfl rfl dX9_init_67 (jj_R hR918 ?_)
  refine jj_aload_n hC dX9_init_70 rfl 0 rfl ?_
  refine jj_iconst hC dX9_init_71 ?_
  obtain ⟨M19, hM19, h⟩ := nam_e h
  refine jp_Z hC kfX9 6 rfl (ext_s hx17 (ext_s hx16 (ext_s hx14 (ext_s hx13 (ext_s hx11 (ext_s hx10 (ext_s hx8 (ext_s hx7 (ext_s hx5 (ext_s hx4 (ext_s hx2 (ext_s hx1 hs0 (by decide)) (by decide)) (by decide)) (by decide)) (by decide)) (by decide)) (by decide)) (by decide)) (by decide)) (by decide)) (by decide)) (by decide)) rfl (by decide) wd1123 rfl rfl rfl (show (0 ≤ (0 : Int) ∧ (0 : Int) ≤ 1) from by decide) dX9_init_72 (jj_M hM19 ?_)
  refine jj_aload_n hC dX9_init_75 rfl 0 rfl ?_
  refine jj_iconst hC dX9_init_76 ?_
  obtain ⟨M20, hM20, h⟩ := nam_e h
  refine jp_I hC kfX9 7 rfl (ext_s hx17 (ext_s hx16 (ext_s hx14 (ext_s hx13 (ext_s hx11 (ext_s hx10 (ext_s hx8 (ext_s hx7 (ext_s hx5 (ext_s hx4 (ext_s hx2 (ext_s hx1 hs0 (by decide)) (by decide)) (by decide)) (by decide)) (by decide)) (by decide)) (by decide)) (by decide)) (by decide)) (by decide)) (by decide)) (by decide)) rfl (by decide) wd1124 rfl rfl rfl (show (-2147483648 ≤ ((-1) : Int) ∧ ((-1) : Int) < 2147483648) from by decide) dX9_init_77 (jj_M hM20 ?_)
  refine jj_aload_n hC dX9_init_80 rfl 0 rfl ?_
  refine jj_iconst hC dX9_init_81 ?_
  obtain ⟨M21, hM21, h⟩ := nam_e h
  refine jp_I hC kfX9 8 rfl (ext_s hx17 (ext_s hx16 (ext_s hx14 (ext_s hx13 (ext_s hx11 (ext_s hx10 (ext_s hx8 (ext_s hx7 (ext_s hx5 (ext_s hx4 (ext_s hx2 (ext_s hx1 hs0 (by decide)) (by decide)) (by decide)) (by decide)) (by decide)) (by decide)) (by decide)) (by decide)) (by decide)) (by decide)) (by decide)) (by decide)) rfl (by decide) wd1125 rfl rfl rfl (show (-2147483648 ≤ ((-1) : Int) ∧ ((-1) : Int) < 2147483648) from by decide) dX9_init_82 (jj_M hM21 ?_)
  cases h
  exact jj_vret hC (by omega) (by omega) dX9_init_85 ⟨⟨rfl, trivial, rfl, rfl, rfl, rfl, rfl⟩, (ext_t (ext_t (ext_t (ext_t (ext_t (ext_t (ext_t (ext_t (ext_t (ext_t (ext_t hx1 hx2) hx4) hx5) hx7) hx8) hx10) hx11) hx13) hx14) hx16) hx17)⟩
