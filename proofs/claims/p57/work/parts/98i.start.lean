/-! The start's memory; what every method may take of it -/
abbrev aS (s : State) : Nat → Prop := fun q => s.heap.size ≤ q
theorem hAs (s : State) : ∀ a : Nat, a < s.heap.size → ¬ aS s a := fun _ h => Nat.not_le.mpr h
/-- a row of bytes of the start -/
def p28 (H : Heap) (cB : ClassId) (q N : Nat) (g : Nat → Int) : Prop := N ≤ 100 ∧ (∀ j, j < N → 0 ≤ g j ∧ g j < 128) ∧ ∃ cell : Cell, H[q]? = some cell ∧ cell.cls = cB ∧ (N ≤ cell.slots.size ∧ cell.slots.size.toInt32 = Int32.ofNat N ∧ ∀ j, j < N → cell.slots[j]? = some (.int (iI (g j)))) ∧ cell.vm ≠ .unknown ∧ cell.vm.isStatics = false
/-- a String of the start -/
def p1 (H : Heap) (cS : ClassId) (i0 i1 q v : Nat) : Prop := ∃ cell : Cell, H[q]? = some cell ∧ cell.cls = cS ∧ (cell.vm ≠ .unknown ∧ cell.vm.isStatics = false) ∧ cell.slots[i0]? = some (.ref v) ∧ cell.slots[i1]? = some (.int 0)
theorem kS_rng : ∀ z, z < 21 → (kS z).length ≤ 100 ∧ ∀ j, j < (kS z).length → 0 ≤ (kS z).getD j 0 ∧ (kS z).getD j 0 < 128 := by decide +kernel
theorem atF_m {args : Array Value} {s : State} (h : (Jvm.Cond.and given_1 narrow_1).before args s = true) : ∀ (i : Nat) (w : Cond), atF[i]? = some w → w.before args s = true := fun i w hi => flat_of_before _ h w (List.mem_of_getElem? hi)
theorem atF_w {args : Array Value} {s : State} (h : (Jvm.Cond.and given_1 narrow_1).before args s = true) : ∀ w ∈ atF, w.before args s = true := fun w hw => flat_of_before _ h w hw
section STA
variable {args : Array Value} {s : State}
theorem row_of {tm : Term} {N : Nat} {g : Nat → Int} {cB : ClassId} (hB : s.vm.findClass "[B" = some cB) (hN : N ≤ 100) (hg : ∀ j, j < N → 0 ≤ g j ∧ g j < 128) (har : (Cond.arrayOf tm .byte).before args s = true) (hle : (Cond.eq (.length tm) (.int (Int32.ofNat N))).before args s = true)
    (hel : ∀ j, j < N → (Cond.eq (.elem tm (.int (Int32.ofNat j))) (.int (iI (g j)))).before args s = true) (hex : (Cond.exactly tm "[B").before args s = true) : ∃ v, tm.eval args s none [] s = some (.ref v) ∧ p28 s.heap cB v N g := by
  obtain ⟨t, ht, cell, h1, h2, h3, h4, h5, h6, -⟩ := va_Tof (f := fun j => .int (iI (g j))) (A := aS s) (by omega) har (va_eqt hle) (fun j hj => va_eqt (hel j hj)) (hAs s)
  obtain ⟨cell', k1, k2, k3, -⟩ := va_Oof (A := aS s) hex ht (hAs s)
  have hc : cell' = cell := Option.some.inj (k1.symm.trans h1)
  subst hc
  exact ⟨t, ht, hN, hg, cell', h1, Option.some.inj (k3.symm.trans hB), ⟨h4, h5, h6⟩, h3, k2⟩
theorem str_of {cS cB : ClassId} {iS : Nat → Nat} (h : (Jvm.Cond.and given_1 narrow_1).before args s = true) (hS : u_Kn s RJ0 TJ0 2 cS iS) (hB : s.vm.findClass "[B" = some cB) {z : Nat} (hz : z < 21) :
    ∃ a v, (tS z).eval args s none [] s = some (.ref a) ∧ p1 s.heap cS (iS 0) (iS 1) a v ∧ p28 s.heap cB v (kS z).length (fun j => (kS z).getD j 0) := by
  obtain ⟨e1, e2, e3, e4, e5⟩ := st_1 z hz
  obtain ⟨r1, r2⟩ := kS_rng z hz
  obtain ⟨v, hv, hp⟩ := row_of hB r1 r2 (atF_m h _ _ e3) (atF_m h _ _ e4) (fun j hj => atF_m h _ _ (st_2 z hz j hj)) (atF_m h _ _ e5)
  obtain ⟨a, c, cA, kA, q1, q2, q3, q4, q5, q6, -⟩ := Cond.exactly_spec (args := args) (first := s) (o := none) (s := s) (idx := []) (t := tS z) (cls := "java/lang/String") (atF_m h _ _ e1)
  have hcc : cA.cls = cS := by rw [q6]; exact Option.some.inj (q2.symm.trans hS.2.1)
  obtain ⟨cf, k, i, f, c1, w1, w2, w3, w4, w5, -⟩ := vk_OFof (A := aS s) q1 (va_eqt (atF_m h _ _ e2)) (hAs s)
  obtain ⟨cf', k', i', f', c2, x1, x2, x3, x4, x5, -⟩ := vk_OFof (A := aS s) q1 hv (hAs s)
  have hc1 : c1 = cA := Option.some.inj (w3.symm.trans q3)
  have hc2 : c2 = cA := Option.some.inj (x3.symm.trans q3)
  subst hc1
  subst hc2
  obtain ⟨_, _, _, fd, y1, y2⟩ := hS.1 1 (by decide)
  obtain ⟨_, _, _, fd', z1, z2⟩ := hS.1 0 (by decide)
  have g1 : f = fd := by
    have := Option.some.inj (w1.symm.trans y1)
    exact congrArg (fun x => x.2.2.2) this
  have g2 : f' = fd' := by
    have := Option.some.inj (x1.symm.trans z1)
    exact congrArg (fun x => x.2.2.2) this
  refine ⟨a, v, q1, ⟨_, q3, hcc, ⟨w4, q5⟩, ?_, ?_⟩, hp⟩
  · rw [← z2, ← g2]; exact x5
  · rw [← y2, ← g1]; exact w5
noncomputable def s0S (H : Heap) (b : Nat) (cB cS : ClassId) (i0 i1 : Nat) : Nat → Nat := fun q => if q = b then 29 else @ite Nat (∃ N g, p28 H cB q N g) (Classical.propDecidable _) 28 (@ite Nat (∃ v, p1 H cS i0 i1 q v) (Classical.propDecidable _) 1 0)
def s0Ln (H : Heap) : Nat → Nat := fun q => match H[q]? with | some c => c.slots.size.toInt32.toInt.toNat | none => 0
def s0V (H : Heap) (q j : Nat) : Int := match H[q]? with | some c => (match c.slots[j]? with | some (.int x) => x.toInt | _ => 0) | none => 0
noncomputable def s0M (H : Heap) (S : Nat → Nat) : gM := fun q j => if S q = 28 ∨ S q = 29 then (if 0 ≤ j ∧ j < (s0Ln H q : Int) then s0V H q j.toNat else 0) else 0
noncomputable def s0R (H : Heap) (S : Nat → Nat) (i0 : Nat) : gR := fun q j => if S q = 1 ∧ j = 0 then (match H[q]? with | some c => (match c.slots[i0]? with | some (.ref r) => some r | _ => none) | none => none) else none
theorem s0Ln_v {H : Heap} {q N : Nat} {cell : Cell} (h : H[q]? = some cell) (hs : cell.slots.size.toInt32 = Int32.ofNat N) (hN : N < 2147483648) : s0Ln H q = N := by
  unfold s0Ln
  rw [h]
  show cell.slots.size.toInt32.toInt.toNat = N
  rw [hs, show Int32.ofNat N = iI (N : Int) from rfl, iI_toInt ⟨by omega, by omega⟩]
  rfl
theorem s0V_v {H : Heap} {q j : Nat} {cell : Cell} {x : Int32} (h : H[q]? = some cell) (hj : cell.slots[j]? = some (.int x)) : s0V H q j = x.toInt := by
  unfold s0V
  rw [h]
  dsimp only
  rw [hj]
theorem s0Ln_b {H : Heap} {q : Nat} : s0Ln H q < 2147483648 := by
  unfold s0Ln
  cases H[q]? with
  | none => exact Nat.zero_lt_succ _
  | some c =>
    have := iI_rng c.slots.size.toInt32
    show c.slots.size.toInt32.toInt.toNat < 2147483648
    omega
theorem st_nz {v : VmData} (h : ∀ k, v ≠ .statics k) : v.isStatics = false := by
  cases v with
  | statics k => exact absurd rfl (h k)
  | _ => rfl
/-- the start's memory is the heap that is there -/
theorem rep0 {G : gE} {b L : Nat} {xs : Nat → Int32} {scr : Cell} {cB cS : ClassId} {i0 i1 : Nat} {S : Nat → Nat} (hS : S = s0S s.heap b cB cS i0 i1) (hGS : G.1 0 = cS) (hG0 : G.2.1 0 0 = i0) (hG1 : G.2.1 0 1 = i1) (hG28 : G.2.2.1 28 = cB) (hG29 : G.2.2.1 29 = scr.cls)
    (hb : s.heap[b]? = some scr) (hu : scr.vm ≠ .unknown) (hst : scr.vm.isStatics = false) (hsz : scr.slots.size = L) (hL : L ≤ 2560) (hxs : ∀ j, j < L → scr.slots[j]? = some (.int (xs j))) : Rep G s.heap.size S (s0Ln s.heap) (s0M s.heap S) (s0R s.heap S i0) s.heap := by
  refine ⟨rfl, fun q hq => ?_⟩
  by_cases hqb : q = b
  · subst hqb
    have eS : S q = 29 := by rw [hS]; exact if_pos rfl
    have eL : s0Ln s.heap q = L := s0Ln_v hb (by rw [hsz]) (by omega)
    have eM : ∀ j : Nat, j < L → s0M s.heap S q (j : Int) = (xs j).toInt := fun j hj => by
      unfold s0M
      rw [if_pos (Or.inr eS), eL, if_pos ⟨by omega, by omega⟩]
      exact s0V_v hb (hxs j hj)
    refine ⟨(Array.getElem?_eq_some_iff.mp hb).1, fun h => absurd h (by rw [eS]; decide), fun k => ?_, s0Ln_b, ?_⟩
    · rw [eS]
      show -2147483648 ≤ s0M s.heap S q (k : Int) ∧ s0M s.heap S q (k : Int) < 2147483648
      by_cases hk : k < L
      · rw [eM k hk]; exact iI_rng _
      · unfold s0M
        rw [if_pos (Or.inr eS), eL, if_neg (by omega)]
        decide
    · unfold gm_cell
      rw [eS, if_neg (by decide), eL]
      refine Or.inr ⟨rfl, scr, hb, hG29.symm, ⟨by omega, by rw [hsz], fun j hj => ?_⟩, hu, hst⟩
      rw [hxs j hj]
      unfold gm_f
      rw [eS]
      show some (Value.int (xs j)) = some (.int (iI (s0M s.heap S q (j : Int))))
      rw [eM j hj, iI_self]
  · by_cases h28 : ∃ N g, p28 s.heap cB q N g
    · have eS : S q = 28 := by
        rw [hS]
        unfold s0S
        rw [if_neg hqb]
        exact @if_pos _ (Classical.propDecidable _) h28 _ _ _
      obtain ⟨N, g, hN, hg, cell, hc, hcl, ⟨l1, l2, l3⟩, v1, v2⟩ := h28
      have eL : s0Ln s.heap q = N := s0Ln_v hc l2 (by omega)
      have eM : ∀ j : Nat, j < N → s0M s.heap S q (j : Int) = g j := fun j hj => by
        have := hg j hj
        unfold s0M
        rw [if_pos (Or.inl eS), eL, if_pos ⟨by omega, by omega⟩]
        exact (s0V_v hc (l3 j hj)).trans (iI_toInt ⟨by omega, by omega⟩)
      refine ⟨(Array.getElem?_eq_some_iff.mp hc).1, fun h => absurd h (by rw [eS]; decide), fun k => ?_, s0Ln_b, ?_⟩
      · rw [eS]
        show -128 ≤ s0M s.heap S q (k : Int) ∧ s0M s.heap S q (k : Int) < 128
        by_cases hk : k < N
        · rw [eM k hk]
          have := hg k hk
          omega
        · unfold s0M
          rw [if_pos (Or.inl eS), eL, if_neg (by omega)]
          decide
      · unfold gm_cell
        rw [eS, if_neg (by decide), eL]
        refine Or.inr ⟨rfl, cell, hc, hcl.trans hG28.symm, ⟨l1, l2, fun j hj => ?_⟩, v1, v2⟩
        rw [l3 j hj]
        unfold gm_f
        rw [eS]
        show some (Value.int (iI (g j))) = some (.int (iI (s0M s.heap S q (j : Int))))
        rw [eM j hj]
    · by_cases h1 : ∃ v, p1 s.heap cS i0 i1 q v
      · have eS : S q = 1 := by
          rw [hS]
          unfold s0S
          rw [if_neg hqb]
          exact (@if_neg _ (Classical.propDecidable _) h28 _ _ _).trans (@if_pos _ (Classical.propDecidable _) h1 _ _ _)
        obtain ⟨v, cell, hc, hcl, ⟨v1, v2⟩, w0, w1⟩ := h1
        have eM : ∀ j, s0M s.heap S q j = 0 := fun j => by
          unfold s0M
          rw [if_neg (by rw [eS]; decide)]
        have eR : s0R s.heap S i0 q 0 = some v := by
          unfold s0R
          rw [if_pos ⟨eS, rfl⟩, hc]
          dsimp only
          rw [w0]
        refine ⟨(Array.getElem?_eq_some_iff.mp hc).1, fun h => absurd h (by rw [eS]; decide), fun k => ?_, s0Ln_b, ?_⟩
        · rw [eS, eM]
          unfold gm_rng
          split <;> first | trivial | exact ⟨by decide, by decide⟩
        · unfold gm_cell
          rw [eS, if_pos (by decide)]
          refine ⟨(RJ0, TJ0, 2), rfl, cell, hc, hcl.trans hGS.symm, ⟨v1, v2, fun h => absurd h (by decide)⟩, fun k hk => ?_⟩
          have hk : k < 2 := hk
          unfold gm_f
          rw [eS]
          rcases (show k = 0 ∨ k = 1 by omega) with rfl | rfl
          · show cell.slots[G.2.1 0 0]? = some (va_rf (s0R s.heap S i0 q 0))
            rw [hG0, eR]
            exact w0
          · show cell.slots[G.2.1 0 1]? = some (.int (iI (s0M s.heap S q 1)))
            rw [hG1, eM]
            exact w1
      · refine absurd ?_ hq
        rw [hS]
        unfold s0S
        rw [if_neg hqb]
        exact (@if_neg _ (Classical.propDecidable _) h28 _ _ _).trans (@if_neg _ (Classical.propDecidable _) h1 _ _ _)
theorem s0S_28 {H : Heap} {b : Nat} {cB cS : ClassId} {i0 i1 q N : Nat} {g : Nat → Int} (hq : q ≠ b) (h : p28 H cB q N g) : s0S H b cB cS i0 i1 q = 28 := by
  unfold s0S
  rw [if_neg hq]
  exact @if_pos _ (Classical.propDecidable _) ⟨N, g, h⟩ _ _ _
theorem s0S_1 {H : Heap} {b : Nat} {cB cS : ClassId} {i0 i1 q v : Nat} (hq : q ≠ b) (hne : cB ≠ cS) (h : p1 H cS i0 i1 q v) : s0S H b cB cS i0 i1 q = 1 := by
  unfold s0S
  rw [if_neg hq]
  refine (@if_neg _ (Classical.propDecidable _) (fun h28 => ?_) _ _ _).trans (@if_pos _ (Classical.propDecidable _) ⟨v, h⟩ _ _ _)
  obtain ⟨N, g, -, -, cell, hc, hcl, -⟩ := h28
  obtain ⟨cell', hc', hcl', -⟩ := h
  have : cell = cell' := Option.some.inj (hc.symm.trans hc')
  subst this
  exact hne (hcl.symm.trans hcl')
/-- what a row of bytes holds -/
theorem row_v {H : Heap} {S : Nat → Nat} {cB : ClassId} {q N : Nat} {g : Nat → Int} (hS : S q = 28) (h : p28 H cB q N g) : s0Ln H q = N ∧ ∀ j : Nat, j < N → s0M H S q (j : Int) = g j := by
  obtain ⟨hN, hg, cell, hc, hcl, ⟨l1, l2, l3⟩, v1, v2⟩ := h
  have eL : s0Ln H q = N := s0Ln_v hc l2 (by omega)
  refine ⟨eL, fun j hj => ?_⟩
  have := hg j hj
  unfold s0M
  rw [if_pos (Or.inl hS), eL, if_pos ⟨by omega, by omega⟩]
  exact (s0V_v hc (l3 j hj)).trans (iI_toInt ⟨by omega, by omega⟩)
theorem str_v {H : Heap} {S : Nat → Nat} {cS : ClassId} {i0 i1 q v : Nat} (hS : S q = 1) (h : p1 H cS i0 i1 q v) : s0R H S i0 q 0 = some v ∧ s0M H S q 1 = 0 := by
  obtain ⟨cell, hc, hcl, -, w0, w1⟩ := h
  refine ⟨?_, ?_⟩
  · unfold s0R
    rw [if_pos ⟨hS, rfl⟩, hc]
    dsimp only
    rw [w0]
  · unfold s0M
    rw [if_neg (by rw [hS]; decide)]
end STA
