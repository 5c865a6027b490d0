/-! The start: the classes, the statics, the memory -/
section WST
variable {args : Array Value} {s : State}
theorem arr_prim {ty : FieldType} (h : (Cond.arrayClass ty).before args s = true) : ∃ c : ClassId, ArrOfT s c ty ∧ s.vm.findClass ("[" ++ ty.toString) = some c := by
  obtain ⟨c, k, comp, h1, h2, h3⟩ := Cond.arrayClass_spec (args := args) (first := s) (o := none) (s := s) (idx := []) h
  exact ⟨c, fun n z => ⟨(fun k h => nomatch h), k, h2, comp, h3⟩, h1⟩
theorem arr_obj {C : String} (h : (Cond.arrayOver (.object C)).before args s = true) : ∃ c : ClassId, ArrOfT s c (.object C) ∧ va_RA s c (.object C) := by
  obtain ⟨comp, c, k, h1, h2, h3, h4, h5⟩ := Cond.arrayOver_spec (args := args) (first := s) (s := s) (o := none) (idx := []) h
  exact ⟨c, fun n z => ⟨(fun k h => nomatch h), k, h3, comp, h4⟩, k, comp, h3, h4, h1, h5⟩
theorem gAI.of (h : (Cond.arrayOver (.array .int)).before args s = true) : gAI s := by
  unfold Cond.before Cond.holds at h
  simp only [Cond.value, beq_iff_eq] at h
  cases hc : s.vm.findClass (FieldType.array .int).toString with
  | none => simp [hc] at h
  | some comp =>
    simp only [hc, Option.bind_some, Option.bind_eq_some_iff, Option.map_eq_some_iff] at h
    obtain ⟨c, hi, k, hk, hb⟩ := h
    obtain ⟨hlt, hp, -⟩ := Array.findIdx?_eq_some_iff_getElem.mp hi
    have hkk : s.vm.classes[c] = k := (Array.getElem?_eq_some_iff.mp hk).2
    rw [hkk] at hp
    cases hkind : k.kind with
    | array component ty =>
      rw [hkind] at hb hp
      simp at hb hp
      exact ⟨comp, c, k, hc, hi, hk, by rw [hkind, hp, hb.1], hb.2⟩
    | _ => rw [hkind] at hb; simp at hb
theorem arr_arr (h : gAI s) : ∃ c : ClassId, ArrOfT s c (.array .int) ∧ va_RA s c (.array .int) := by
  obtain ⟨comp, c, k, h1, h2, h3, h4, h5⟩ := h
  exact ⟨c, fun n z => ⟨(fun k h => nomatch h), k, h3, comp, h4⟩, h5⟩
theorem ins_of {C : String} {T : u_T} {N n i : Nat} (l : List Nat) (h : ∀ k, k < N → lw_tbl[l.getD k 0]? = some (u_lay C T k)) (hi : lw_tbl[i]? = some (Cond.instantiable C n)) : (∀ w ∈ u_ws C T N, w ∈ lw_tbl) ∧ ∃ n, Cond.instantiable C n ∈ lw_tbl := by
  refine ⟨fun w hw => ?_, n, List.mem_of_getElem? hi⟩
  obtain ⟨k, hk, rfl⟩ := List.mem_map.mp hw
  exact List.mem_of_getElem? (h k (List.mem_range.mp hk))
theorem ins_0 : (∀ w ∈ u_ws RJ0 TJ0 2, w ∈ lw_tbl) ∧ ∃ n, Cond.instantiable RJ0 n ∈ lw_tbl := ins_of (n := 4) (i := 338) [405, 407] (by decide +kernel) (by decide +kernel)
theorem ins_1 : (∀ w ∈ u_ws RJ4 TJ4 4, w ∈ lw_tbl) ∧ ∃ n, Cond.instantiable RJ4 n ∈ lw_tbl := ins_of (n := 4) (i := 157) [179, 181, 183, 185] (by decide +kernel) (by decide +kernel)
theorem ins_2 : (∀ w ∈ u_ws RJx00060 TJx00060 6, w ∈ lw_tbl) ∧ ∃ n, Cond.instantiable RJx00060 n ∈ lw_tbl := ins_of (n := 6) (i := 435) [440, 441, 442, 443, 444, 455] (by decide +kernel) (by decide +kernel)
theorem ins_3 : (∀ w ∈ u_ws RJx7c733 TJx7c733 6, w ∈ lw_tbl) ∧ ∃ n, Cond.instantiable RJx7c733 n ∈ lw_tbl := ins_of (n := 6) (i := 152) [415, 416, 417, 418, 419, 420] (by decide +kernel) (by decide +kernel)
theorem ins_4 : (∀ w ∈ u_ws RX0 TX0 5, w ∈ lw_tbl) ∧ ∃ n, Cond.instantiable RX0 n ∈ lw_tbl := ins_of (n := 5) (i := 931) [944, 946, 948, 950, 952] (by decide +kernel) (by decide +kernel)
theorem ins_5 : (∀ w ∈ u_ws RX1 TX1 7, w ∈ lw_tbl) ∧ ∃ n, Cond.instantiable RX1 n ∈ lw_tbl := ins_of (n := 7) (i := 956) [969, 971, 973, 975, 977, 979, 981] (by decide +kernel) (by decide +kernel)
theorem ins_6 : (∀ w ∈ u_ws RX2 TX2 6, w ∈ lw_tbl) ∧ ∃ n, Cond.instantiable RX2 n ∈ lw_tbl := ins_of (n := 6) (i := 896) [916, 918, 920, 922, 924, 926] (by decide +kernel) (by decide +kernel)
theorem ins_7 : (∀ w ∈ u_ws RX3 TX3 9, w ∈ lw_tbl) ∧ ∃ n, Cond.instantiable RX3 n ∈ lw_tbl := ins_of (n := 9) (i := 986) [1016, 1018, 1020, 1022, 1024, 1026, 1028, 1030, 1032] (by decide +kernel) (by decide +kernel)
theorem ins_8 : (∀ w ∈ u_ws RX4 TX4 2, w ∈ lw_tbl) ∧ ∃ n, Cond.instantiable RX4 n ∈ lw_tbl := ins_of (n := 2) (i := 551) [1078, 1080] (by decide +kernel) (by decide +kernel)
theorem ins_9 : (∀ w ∈ u_ws RX7 TX7 6, w ∈ lw_tbl) ∧ ∃ n, Cond.instantiable RX7 n ∈ lw_tbl := ins_of (n := 6) (i := 1084) [1101, 1103, 1105, 1107, 1109, 1111] (by decide +kernel) (by decide +kernel)
theorem ins_10 : (∀ w ∈ u_ws RX8 TX8 8, w ∈ lw_tbl) ∧ ∃ n, Cond.instantiable RX8 n ∈ lw_tbl := ins_of (n := 8) (i := 698) [1050, 1052, 1054, 1056, 1058, 1060, 1062, 1064] (by decide +kernel) (by decide +kernel)
theorem ins_11 : (∀ w ∈ u_ws RX9 TX9 9, w ∈ lw_tbl) ∧ ∃ n, Cond.instantiable RX9 n ∈ lw_tbl := ins_of (n := 9) (i := 63) [1126, 1128, 1130, 1132, 1134, 1136, 1138, 1140, 1142] (by decide +kernel) (by decide +kernel)
theorem ins_12 : (∀ w ∈ u_ws RJ0 TJ0 4, w ∈ lw_tbl) ∧ ∃ n, Cond.instantiable RJ0 n ∈ lw_tbl := ins_of (n := 4) (i := 338) [405, 407, 409, 411] (by decide +kernel) (by decide +kernel)
theorem ins_W : ∀ q ∈ vwCl, (∀ w ∈ u_ws q.1 q.2.1 q.2.2, w ∈ lw_tbl) ∧ ∃ n, Cond.instantiable q.1 n ∈ lw_tbl := by
  intro q hq
  simp only [vwCl, List.mem_cons, List.not_mem_nil, or_false] at hq
  rcases hq with rfl | rfl | rfl | rfl | rfl | rfl | rfl | rfl | rfl | rfl | rfl | rfl | rfl
  · exact ins_0
  · exact ins_1
  · exact ins_2
  · exact ins_3
  · exact ins_4
  · exact ins_5
  · exact ins_6
  · exact ins_7
  · exact ins_8
  · exact ins_9
  · exact ins_10
  · exact ins_11
  · exact ins_12
theorem cls_all (hts : ∀ w ∈ lw_tbl, w.before args s = true) : ∃ (cl : Nat → ClassId) (iS : Nat → Nat → Nat), ∀ (c : Nat) (q : vw_C), vwCl[c]? = some q → u_Kn s q.1 q.2.1 q.2.2 (cl c) (iS c) := by
  have h : ∀ c : Nat, ∃ r : ClassId × (Nat → Nat), ∀ q : vw_C, vwCl[c]? = some q → u_Kn s q.1 q.2.1 q.2.2 r.1 r.2 := fun c => by
    cases hc : vwCl[c]? with
    | none => exact ⟨(0, fun _ => 0), fun q hq => nomatch hq⟩
    | some q =>
      obtain ⟨h1, n, h2⟩ := ins_W q (List.mem_of_getElem? hc)
      obtain ⟨cC, iS, hK⟩ := u_known (ws := lw_tbl) hts h1 (hts _ h2)
      exact ⟨(cC, iS), fun q' hq => by
        have := Option.some.inj hq
        subst this
        exact hK⟩
  obtain ⟨r, hr⟩ := Classical.axiomOfChoice h
  exact ⟨fun c => (r c).1, fun c => (r c).2, fun c q hq => hr c q hq⟩
theorem st_7u : ∀ q ∈ gEn, ∀ r ∈ gEn, q.2.2.2 = r.2.2.2 → q = r := by decide +kernel
def adF (en : Nat → Nat) (d1 d2 : Nat) (sv : Nat → Nat × Nat) : Nat → Nat := fun i => if i < 9 then en i else if i = 10 then d1 else if i = 11 then d2 else if i < 48 then (sv (i - 16)).1 else (sv (i - 48)).2
theorem adF_s {en : Nat → Nat} {d1 d2 : Nat} {sv : Nat → Nat × Nat} {z : Nat} (hz : z < 21) : adF en d1 d2 sv (16 + z) = (sv z).1 ∧ adF en d1 d2 sv (48 + z) = (sv z).2 := by
  unfold adF
  rw [if_neg (by omega), if_neg (by omega), if_neg (by omega), if_pos (by omega), if_neg (by omega), if_neg (by omega), if_neg (by omega), if_neg (by omega), show 16 + z - 16 = z by omega, show 48 + z - 48 = z by omega]
  exact ⟨rfl, rfl⟩
theorem adF_e {en : Nat → Nat} {d1 d2 : Nat} {sv : Nat → Nat × Nat} {i : Nat} (hi : i < 9) : adF en d1 d2 sv i = en i := if_pos hi
theorem st_all (hts : ∀ w ∈ lw_tbl, w.before args s = true) (hg : (Jvm.Cond.and given_1 narrow_1).before args s = true) {b L : Nat} {xs : Nat → Int32} (hX : va_X b L xs s s.heap) (hL : L ≤ 2560) :
    ∃ (G : gE) (S Ln : Nat → Nat) (M : gM) (R : gR), G.2.2.2.1 = s.heap.size ∧ EV G s ∧ Rep G s.heap.size S Ln M R s.heap ∧ S b = 29 ∧ Ln b = L ∧ CST G.2.2.2.2 S Ln R M ∧ AD G.2.2.2.2 s.heap.size := by
  obtain ⟨cl, iS, hK⟩ := cls_all hts
  obtain ⟨⟨w1, w2, w3, w4, w5⟩, ⟨w6, w7, w8⟩, ⟨w9, w10, w11⟩, ⟨a1, a2, a4, a5⟩, a6, a7, a8⟩ := st_12
  obtain ⟨cI, fI, nI⟩ := arr_prim (hts _ a1)
  obtain ⟨cJ, fJ, nJ⟩ := arr_prim (hts _ a2)
  obtain ⟨cD, fD, nD⟩ := arr_prim (hts _ a1)
  obtain ⟨cB, fB, nB⟩ := arr_prim (hts _ a4)
  obtain ⟨cC, fC, nC⟩ := arr_prim (hts _ a5)
  obtain ⟨cA, fA, nA⟩ := arr_arr (gAI.of (hts _ a6))
  obtain ⟨cG, fG, nG⟩ := arr_obj (hts _ a7)
  obtain ⟨cT, fT, nT⟩ := arr_obj (hts _ a8)
  have hBn : s.vm.findClass "[B" = some cB := va_nm_byte (cA := cB) nB
  have hS0 : u_Kn s RJ0 TJ0 2 (cl 0) (iS 0) := hK 0 _ rfl
  have hstr : ∀ z : Nat, ∃ q : Nat × Nat, z < 21 → (tS z).eval args s none [] s = some (.ref q.1) ∧ p1 s.heap (cl 0) (iS 0 0) (iS 0 1) q.1 q.2 ∧ p28 s.heap cB q.2 (kS z).length (fun j => (kS z).getD j 0) := fun z => by
    by_cases hz : z < 21
    · obtain ⟨a, v, h⟩ := str_of hg hS0 hBn hz
      exact ⟨(a, v), fun _ => h⟩
    · exact ⟨(0, 0), fun h => absurd h hz⟩
  obtain ⟨sv, hsv⟩ := Classical.axiomOfChoice hstr
  obtain ⟨⟨g1, g2, g3⟩, g4, g5, g6⟩ := st_3
  obtain ⟨d1, e1, r1⟩ := row_of (tm := tD1) (N := 100) (g := fun j => 48 + (j : Int) % 10) hBn (Nat.le_refl _) (fun j hj => by omega) (atF_m hg _ _ g1) (atF_m hg _ _ g2) (fun j hj => atF_m hg _ _ (st_4 j hj)) (atF_m hg _ _ g3)
  obtain ⟨d2, e2, r2⟩ := row_of (tm := tD2) (N := 100) (g := fun j => 48 + (j : Int) / 10) hBn (Nat.le_refl _) (fun j hj => by omega) (atF_m hg _ _ g4) (atF_m hg _ _ g5) (fun j hj => atF_m hg _ _ (st_5 j hj)) (atF_m hg _ _ g6)
  have hen : ∀ i : Nat, ∃ a : Nat, ∀ q ∈ gEn, q.2.2.2 = i → (Term.static q.1 q.2.1 q.2.2.1).eval args s none [] s = some (.ref a) := fun i => by
    by_cases hi : i < 9
    · obtain ⟨q, hq, hqi⟩ := st_7n i hi
      obtain ⟨-, k1, -⟩ := st_6 q hq
      obtain ⟨a, c, cA', kA, q1, -⟩ := Cond.exactly_spec (args := args) (first := s) (o := none) (s := s) (idx := []) (atF_m hg _ _ k1)
      exact ⟨a, fun r hr hri => by rw [st_7u r hr q hq (hri.trans hqi.symm)]; exact q1⟩
    · exact ⟨0, fun q hq hqi => absurd ((st_6 q hq).1) (by omega)⟩
  obtain ⟨en, hen⟩ := Classical.axiomOfChoice hen
  obtain ⟨scr, x1, x2, x3, x4, x5⟩ := hX
  have hkB : ∃ k : Class, s.vm.classes[cB]? = some k ∧ ∃ comp, k.kind = .array comp .byte := (fB 0 (fun _ => .null)).2
  have hkS := hS0.2.2
  have hne : cB ≠ cl 0 := fun h => by
    obtain ⟨k, h1, comp, h2⟩ := hkB
    obtain ⟨k', h3, h4⟩ := hkS
    rw [h, h3] at h1
    have := Option.some.inj h1
    subst this
    rw [h4] at h2
    cases h2
  have hbB : scr.cls ≠ cB := fun h => by
    obtain ⟨k, h1, comp, h2⟩ := hkB
    obtain ⟨-, k', h3, comp', h4⟩ := x2
    rw [h, h1] at h3
    have := Option.some.inj h3
    subst this
    rw [h2] at h4
    cases h4
  have hbS : scr.cls ≠ cl 0 := fun h => by
    obtain ⟨k, h1, h2⟩ := hkS
    obtain ⟨-, k', h3, comp', h4⟩ := x2
    rw [h, h1] at h3
    have := Option.some.inj h3
    subst this
    rw [h2] at h4
    cases h4
  have nb28 : ∀ {q N : Nat} {g : Nat → Int}, p28 s.heap cB q N g → q ≠ b := fun h e => by
    obtain ⟨-, -, cell, hc, hcl, -⟩ := h
    rw [e, x1] at hc
    have := Option.some.inj hc
    subst this
    exact hbB hcl
  have nb1 : ∀ {q v : Nat}, p1 s.heap (cl 0) (iS 0 0) (iS 0 1) q v → q ≠ b := fun h e => by
    obtain ⟨cell, hc, hcl, -⟩ := h
    rw [e, x1] at hc
    have := Option.some.inj hc
    subst this
    exact hbS hcl
  have lt28 : ∀ {q N : Nat} {g : Nat → Int}, p28 s.heap cB q N g → q < s.heap.size := fun h => by
    obtain ⟨-, -, cell, hc, -⟩ := h
    exact (Array.getElem?_eq_some_iff.mp hc).1
  have lt1 : ∀ {q v : Nat}, p1 s.heap (cl 0) (iS 0 0) (iS 0 1) q v → q < s.heap.size := fun h => by
    obtain ⟨cell, hc, -⟩ := h
    exact (Array.getElem?_eq_some_iff.mp hc).1
  have hgSv : ∀ q ∈ gSv, (Term.static q.1 q.2.1 q.2.2.1).eval args s none [] s = some q.2.2.2 := by
    obtain ⟨⟨m1, m2, m3, m4⟩, -⟩ := st_8
    intro q hq
    unfold gSv at hq
    simp only [List.mem_cons, List.not_mem_nil, or_false] at hq
    rcases hq with rfl | rfl | rfl | rfl
    · exact va_eqt (atF_w hg _ m1)
    · exact va_eqt (atF_w hg _ m2)
    · exact va_eqt (atF_w hg _ m3)
    · exact va_eqt (atF_w hg _ m4)
  refine ⟨(cl, iS, fun k => if k = 20 then cI else if k = 21 then cJ else if k = 22 then cD else if k = 23 then cB else if k = 24 then cC else if k = 25 then cA else if k = 26 then cG else if k = 27 then cT else if k = 28 then cB else scr.cls, s.heap.size, adF en d1 d2 sv), s0S s.heap b cB (cl 0) (iS 0 0) (iS 0 1), s0Ln s.heap, s0M s.heap (s0S s.heap b cB (cl 0) (iS 0 0) (iS 0 1)), s0R s.heap (s0S s.heap b cB (cl 0) (iS 0 0) (iS 0 1)) (iS 0 0), rfl, ⟨⟨hK, fun k q hq => ?_⟩, ⟨fun w hw => va_Nw.of (gNW_tab hw) (hts w (List.mem_filter.mp hw).1), ⟨fun q hq => va_Nc.of (atF_w hg _ (st_11 q hq)), va_AO.of (hts _ a7), va_AO.of (hts _ a8), gAI.of (hts _ a6)⟩, fun n z => ⟨(fun k h => nomatch h), x2.2⟩⟩, ?_⟩, rep0 rfl rfl rfl rfl rfl rfl x1 x3 (st_nz x2.1) x4 hL x5, if_pos rfl, s0Ln_v x1 (by rw [x4]) (by omega), ⟨fun z hz => ?_, ?_⟩, ⟨⟨lt28 r1, lt28 r2⟩, fun z hz => ?_⟩⟩
  · match k, hq with
    | 0, hq => cases hq; exact ⟨fI, nI⟩
    | 1, hq => cases hq; exact ⟨fJ, nJ⟩
    | 2, hq => cases hq; exact ⟨fD, nD⟩
    | 3, hq => cases hq; exact ⟨fB, nB⟩
    | 4, hq => cases hq; exact ⟨fC, nC⟩
    | 5, hq => cases hq; exact ⟨fA, nA⟩
    | 6, hq => cases hq; exact ⟨fG, nG⟩
    | 7, hq => cases hq; exact ⟨fT, nT⟩
    | 8, hq => cases hq; exact ⟨fB, nB⟩
    | k + 9, hq => simp [gTys] at hq
  · refine ⟨fun q hq => ?_, fun i j hi hj hij => ?_, fun q hq => ?_, ⟨va_Zref (hts _ w9) (hts _ w11) e1 (hAs s), va_Zref (hts _ w10) (hts _ w11) e2 (hAs s)⟩, fun q hq => ?_, fun q hq => ?_, vx_Zqof (hts _ w1) (hts _ w3) (atF_w hg _ w4) (hAs s), vx_Zqof (hts _ w2) (hts _ w3) (atF_w hg _ w5) (hAs s), va_Zqof (hts _ w6) (hts _ w7) (atF_w hg _ w8) (hAs s)⟩
    · obtain ⟨k0, -, k2, k3⟩ := st_6 q hq
      refine va_Zref (hts _ k2) (hts _ k3) ?_ (hAs s)
      show _ = some (Value.ref (adF en d1 d2 sv q.2.2.2))
      rw [adF_e k0]
      exact hen _ q hq rfl
    · obtain ⟨q, hq, hqi⟩ := st_7n i hi
      obtain ⟨r, hr, hrj⟩ := st_7n j hj
      have hij : adF en d1 d2 sv i = adF en d1 d2 sv j := hij
      rw [adF_e hi, adF_e hj] at hij
      rcases st_7 q hq r hr with h | h | h
      · omega
      · exact absurd hij (va_neR (atF_w hg _ h) (hen i q hq hqi) (hen j r hr hrj))
      · exact absurd hij.symm (va_neR (atF_w hg _ h) (hen j r hr hrj) (hen i q hq hqi))
    · obtain ⟨k1, k2⟩ := st_8.2 q hq
      exact va_Zof (hts _ k1) (hts _ k2) (hgSv q hq) (hAs s)
    · obtain ⟨k1, k2, k3, k4⟩ := st_9 q hq
      refine vk_R.of (hts _ k4) ?_
      show _ = some (Value.ref (adF en d1 d2 sv (16 + q.2.2.2)))
      rw [(adF_s k1).1, k2, k3]
      exact (hsv _ k1).1
    · obtain ⟨k1, k2⟩ := st_10 q hq
      obtain ⟨a, c, cA', kA, q1, -⟩ := Cond.exactly_spec (args := args) (first := s) (o := none) (s := s) (idx := []) (atF_w hg _ k1)
      exact ⟨a, vk_R.of (hts _ k2) q1⟩
  · obtain ⟨-, h1, h2⟩ := hsv z hz
    obtain ⟨k1, k2⟩ := @adF_s en d1 d2 sv z hz
    show STR _ _ _ _ (adF en d1 d2 sv (16 + z)) (adF en d1 d2 sv (48 + z)) (kS z)
    rw [k1, k2]
    have hS1 : s0S s.heap b cB (cl 0) (iS 0 0) (iS 0 1) (sv z).1 = 1 := s0S_1 (nb1 h1) hne h1
    have hS2 : s0S s.heap b cB (cl 0) (iS 0 0) (iS 0 1) (sv z).2 = 28 := s0S_28 (nb28 h2) h2
    obtain ⟨v1, v2⟩ := str_v hS1 h1
    obtain ⟨v3, v4⟩ := row_v hS2 h2
    refine ⟨⟨hS1, v1, hS2, v3, v2⟩, (kS_rng z hz).1, fun i hi => ?_⟩
    have hd : (kS z).getD i 0 = (kS z)[i] := by simp [List.getD, hi]
    have hr := (kS_rng z hz).2 i hi
    rw [v4 i hi]
    rw [hd] at hr
    exact ⟨hd, hr⟩
  · have hS1 : s0S s.heap b cB (cl 0) (iS 0 0) (iS 0 1) d1 = 28 := s0S_28 (nb28 r1) r1
    have hS2 : s0S s.heap b cB (cl 0) (iS 0 0) (iS 0 1) d2 = 28 := s0S_28 (nb28 r2) r2
    obtain ⟨v1, v2⟩ := row_v hS1 r1
    obtain ⟨v3, v4⟩ := row_v hS2 r2
    refine ⟨⟨hS1, hS2, v1, v3⟩, fun r q0 q1 => ?_⟩
    have := v2 r.toNat (by omega)
    have h2 := v4 r.toNat (by omega)
    rw [show ((r.toNat : Nat) : Int) = r by omega] at this h2
    exact ⟨this, h2⟩
  · obtain ⟨-, h1, h2⟩ := hsv z hz
    obtain ⟨k1, k2⟩ := @adF_s en d1 d2 sv z hz
    show adF en d1 d2 sv (16 + z) < _ ∧ adF en d1 d2 sv (48 + z) < _
    rw [k1, k2]
    exact ⟨lt1 h1, lt28 h2⟩
end WST
