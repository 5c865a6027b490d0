/-! PURE: writeTask; the law's cases 48 and 49 -/
def lnT (v : gV) : Nat → List Int
  | 0 => []
  | 1 => dig 11 (v 23)
  | n + 2 => lnT v (n + 1) ++ [45] ++ dig 11 (leg v n) ++ [62] ++ dig 11 (v (23 + ((n + 1 : Nat) : Int)))
section PWT
variable {ad S S' Ln Ln' : Nat → Nat} {R R' : gR} {M M' M1 M2 : gM} {e o m a x y y' sz sz' : Nat} {π : Int → Nat} {v : gV} {l l' : List Int} {b : Int}
theorem lnT_len (hC : IvC v) : ∀ n : Nat, (n : Int) ≤ v 1 → (lnT v n).length ≤ 15 * n - 14 := by
  intro n
  induction n with
  | zero => intro _; exact Nat.le_refl _
  | succ n ih =>
    intro hn
    have h0 := hC.1
    have hs := hC.2.2.2.1 n (by omega) (by omega)
    cases n with
    | zero =>
      show (dig 11 (v 23)).length ≤ _
      have h2 : v (23 + ((0 : Nat) : Int)) = v 23 := rfl
      rw [h2] at hs
      rw [dig_1 (by omega)]
      omega
    | succ n =>
      have h1 := ih (by omega)
      have d1 := @dig_1 (v (23 + ((n + 1 : Nat) : Int))) (by omega)
      have d2 := (@dig_len (leg v n) 11).2
      show (lnT v (n + 1) ++ [45] ++ dig 11 (leg v n) ++ [62] ++ dig 11 (v (23 + ((n + 1 : Nat) : Int)))).length ≤ _
      simp only [List.length_append, List.length_cons, List.length_nil, d1]
      omega
theorem c_tk60 (h : TS ad sz S Ln R M o x y π v l) (hI : IvS b v) {i : Nat} (hi : (i : Int) < v 1) (hl : l.length ≤ 90) (c : Nat) :
    ∃ sz' S' Ln' M' R' y', fX9_writeTask_B60 ad sz S Ln R M o (i : Int) c = some (.inl (((i + 1 : Nat) : Int), sz', S', Ln', M', R', c + 1)) ∧ TS ad sz' S' Ln' R' M' o x y' π v (l ++ dig 11 (v (23 + (i : Int)))) ∧ GR sz sz' x y y' S S' Ln Ln' M M' R R' := by
  have hC := hI.1
  have h0 := hC.1
  have h1 := hC.2.1
  have hs := hC.2.2.2.1 i (by omega) hi
  have hLC := h.O.2.2.1.2.2.1
  unfold fX9_writeTask_B60
  rw [ts_5 h, o_0 h.O, s_c h.O.2.2.1, rf_o hLC.2.2.2.2.1 hLC.1.2.2.2.1, gd_t (by rw [hLC.2.1.2.2.1]; omega), h.P.1.2.2.2.1 i (by omega) hi]
  obtain ⟨sz1, S1, Ln1, M1, R1, y1, e1, t1, g1⟩ := ts_int h (n := v (23 + (i : Int))) hl hs.1 (by omega)
  rw [e1, bd_s]
  dsimp only
  refine ⟨sz1, S1, Ln1, M1, R1, y1, ?_, t1, g1⟩
  rw [w32_i (by omega) (by omega), show (i : Int) + 1 = ((i + 1 : Nat) : Int) by omega]
theorem c_tkstep {i : Nat} (h : TS ad sz S Ln R M o x y π v (lnT v i)) (hI : IvS b v) (hi : (i : Int) < v 1) :
    ∃ sz' S' Ln' M' R' y', fX9_writeTask_L10 ad o ((i : Int), sz, S, Ln, M, R, i) = some (.inl (((i + 1 : Nat) : Int), sz', S', Ln', M', R', i + 1)) ∧ TS ad sz' S' Ln' R' M' o x y' π v (lnT v (i + 1)) ∧ GR sz sz' x y y' S S' Ln Ln' M M' R R' := by
  have hC := hI.1
  have h0 := hC.1
  have h1 := hC.2.1
  have hlen := lnT_len hC i (by omega)
  have hLC := h.O.2.2.1.2.2.1
  unfold fX9_writeTask_L10
  dsimp only
  rw [gd_t (by omega), o_0 h.O, s_c h.O.2.2.1]
  simp only [h.P.1.2.1]
  rw [if_neg (by omega)]
  cases i with
  | zero =>
    rw [if_pos (by omega)]
    obtain ⟨sz1, S1, Ln1, M1, R1, y1, e1, t1, g1⟩ := c_tk60 h hI (i := 0) hi (by omega) 0
    exact ⟨sz1, S1, Ln1, M1, R1, y1, e1, t1, g1⟩
  | succ k =>
    have hlg := leg_120 hC (k := (k : Int)) (by omega) (by omega)
    rw [if_neg (by omega), ts_5 h]
    obtain ⟨sz1, S1, Ln1, M1, R1, y1, e1, t1, g1⟩ := ts_chr h (c := 45) (by omega) (by decide) (by decide)
    rw [e1, bd_s]
    dsimp only
    have hL1 := t1.O.2.2.1.2.2.1
    rw [o_0 t1.O, s_c t1.O.2.2.1, rf_o hL1.2.2.2.2.2 hL1.1.2.2.2.2, w32_i (by omega) (by omega), show ((k + 1 : Nat) : Int) - 1 = (k : Int) by omega, gd_t (by rw [hL1.2.1.2.2.2]; omega), t1.P.1.2.2.2.2 k (by omega) (by omega)]
    obtain ⟨sz2, S2, Ln2, M2, R2, y2, e2, t2, g2⟩ := ts_int t1 (n := leg v k) (by simp only [List.length_append, List.length_cons, List.length_nil]; omega) (by omega) (by omega)
    rw [e2, bd_s]
    dsimp only
    have d2 := (@dig_len (leg v k) 11).2
    obtain ⟨sz3, S3, Ln3, M3, R3, y3, e3, t3, g3⟩ := ts_chr t2 (c := 62) (by simp only [List.length_append, List.length_cons, List.length_nil]; omega) (by decide) (by decide)
    rw [e3, bd_s]
    dsimp only
    obtain ⟨sz4, S4, Ln4, M4, R4, y4, e4, t4, g4⟩ := c_tk60 t3 hI (i := k + 1) hi (by simp only [List.length_append, List.length_cons, List.length_nil]; omega) (k + 1)
    exact ⟨sz4, S4, Ln4, M4, R4, y4, e4, t4, ((g1.tr g2).tr g3).tr g4⟩
theorem c_task (h : TS ad sz S Ln R M o x y π v l) (hI : IvS b v) :
    ∃ sz' S' Ln' M' R' y', fX9_writeTask ad sz S Ln R M o = some (((lnT v (v 1).toNat).length : Int), sz', S', Ln', M', R') ∧ TS ad sz' S' Ln' R' M' o x y' π v (lnT v (v 1).toNat) ∧ GR sz sz' x y y' S S' Ln Ln' M M' R R' := by
  have h1 := hI.1.2.1
  have hn : (((v 1).toNat : Nat) : Int) = v 1 := by omega
  unfold fX9_writeTask
  rw [ts_5 h]
  obtain ⟨M0, e0, t0, g0⟩ := ts_set0 h
  rw [e0, bd_s]
  dsimp only
  have hlp := lp_inv0 (b := fX9_writeTask_L10 ad o) (v 1).toNat (s := (0, sz, S, Ln, M0, R, 0))
    (fun i s => s.1 = (i : Int) ∧ s.2.2.2.2.2.2 = i ∧ ∃ y', TS ad s.2.1 s.2.2.1 s.2.2.2.1 s.2.2.2.2.2.1 s.2.2.2.2.1 o x y' π v (lnT v i) ∧ GR sz s.2.1 x y y' S s.2.2.1 Ln s.2.2.2.1 M s.2.2.2.2.1 R s.2.2.2.2.2.1)
    (fun r => ∃ sz' S' Ln' M' R' y', r = .inl (sz', S', Ln', M', R') ∧ TS ad sz' S' Ln' R' M' o x y' π v (lnT v (v 1).toNat) ∧ GR sz sz' x y y' S S' Ln Ln' M M' R R')
    (by omega) ⟨rfl, rfl, y, t0, g0⟩ (fun i s hi hs => Or.inl ?_) (fun s hs => ?_)
  · obtain ⟨r, e1, sz', S', Ln', M', R', y', e2, t1, g1⟩ := hlp
    rw [e1, bd_s, e2, se_l]
    dsimp only
    rw [ts_5 t1, ts_len t1, bd_s]
    exact ⟨sz', S', Ln', M', R', y', rfl, t1, g1⟩
  · obtain ⟨i', sz1, S1, Ln1, M1, R1, c⟩ := s
    obtain ⟨a1, a2, y1, t1, g1⟩ := hs
    dsimp only at a1 a2 t1 g1
    subst a1 a2
    obtain ⟨sz2, S2, Ln2, M2, R2, y2, e2, t2, g2⟩ := c_tkstep t1 hI (by omega)
    exact ⟨_, e2, rfl, rfl, y2, t2, g1.tr g2⟩
  · obtain ⟨i', sz1, S1, Ln1, M1, R1, c⟩ := s
    obtain ⟨a1, a2, y1, t1, g1⟩ := hs
    dsimp only at a1 a2 t1 g1
    subst a1 a2
    unfold fX9_writeTask_L10
    dsimp only
    rw [gd_t (by omega), o_0 t1.O, s_c t1.O.2.2.1]
    simp only [t1.P.1.2.1]
    rw [if_pos (by omega)]
    exact ⟨_, rfl, sz1, S1, Ln1, M1, R1, y1, rfl, t1, g1⟩
theorem SBL.fr (h : SBL S Ln R M x y l) (h1 : M' x = M x) (h2 : M' y = M y) : SBL S Ln R M' x y l := by
  obtain ⟨a1, ⟨a2, a3⟩, a4, a5⟩ := h
  exact ⟨a1, ⟨by rw [h1]; exact a2, by rw [h1]; exact a3⟩, a4, fun i hi => by rw [h2]; exact a5 i hi⟩
theorem okw (hT : TS ad sz' S' Ln' R' M' o x y' π v l) (hG : GR sz sz' x y y' S S' Ln Ln' M M' R R') (hM1 : ∀ c, c ≠ a → M1 c = M' c) (hMS : MS ad S' Ln' R' M2 o m v l) (hF : MF (wr (wr M1 m 5 0) m 12 0) M2 m)
    (hx : x < m) (hy : y < m ∨ a + 2 ≤ y) (ha : m + 9 ≤ a) (hsz : a + 2 ≤ sz) (hl : l.length ≤ 80) : OKW sz S Ln R M o m a x y S' Ln' R' M2 y' := by
  obtain ⟨g1, g2, g3, g4, g5, g6⟩ := hG
  have hc : ∀ c, c ≠ m → c ≠ m + 6 → c ≠ a → M2 c = M' c := fun c c0 c1 c2 => by rw [hF.1 c c0 c1, wr_a c0, wr_a c0, hM1 c c2]
  refine ⟨g4, fun q q0 q1 q2 q3 q4 q5 => by rw [hc q q3 q4 q5]; exact g5 q q0 q1 q2, g6, fun k k0 k1 => ?_, g2, hT.2.2.1, l, hT.1.fr (hc x (by omega) (by omega) (by omega)) (hc y' (by omega) (by omega) (by omega)), hMS.2.1, hl⟩
  rw [hF.2 k k1, wr_k k1, wr_k k0, hM1 m (by omega), g5 m (by omega) (by omega) (by omega)]
theorem TXL.ts (hY : HY S Ln R M e o m a π b) (hX : TXL S Ln R M o m x y) (hC : CST ad S Ln R M) (hA : AD ad o) (hlt : ∀ q, S q ≠ 0 → q < sz) (hx : o + 308 ≤ x) (hy : o + 308 ≤ y) : ∃ l, TS ad sz S Ln R M o x y π (M (m + 1)) l := by
  obtain ⟨h5, l, hB, -, -⟩ := hX
  obtain ⟨hO, hM, hd, hla, he, hN, hb⟩ := hY
  exact ⟨l, hB, ⟨hx, hy, hlt x (by rw [hB.1.1]; decide), hlt y (by rw [hB.1.2.2.1]; decide)⟩, h5, hC, hA, hO, hN.1, hN.2.1.1.2.2.2.1.2⟩
end PWT
