/-! PURE: writeTask; the law's cases 48 and 49 -/
def lnT (v : gV) : Nat → List Int
  | 0 => []
  | 1 => dig 11 (v 23)
  | n + 2 => lnT v (n + 1) ++ [45] ++ dig 11 (leg v n) ++ [62] ++ dig 11 (v (23 + ((n + 1 : Nat) : Int)))
section PWT
variable {ad S S' Ln Ln' : Nat → Nat} {R R' : gR} {M M' M1 M2 : gM} {e o m a x y y' sz sz' : Nat} {π : Int → Nat} {v : gV} {l l' : List Int} {b : Int}
theorem lnT_len (hC : IvC v) : ∀ n : Nat, (n : Int) ≤ v 1 → (lnT v n).length ≤ 15 * n - 14 := by
  intro n
  induction n with
  | zero => intro _; exact Nat.le_refl _
  | succ n ih =>
    intro hn
    have h0 := hC.1
    have hs := hC.2.2.2.1 n (by omega) (by omega)
    cases n with
    | zero =>
      show (dig 11 (v 23)).length ≤ _
      have h2 : v (23 + ((0 : Nat) : Int)) = v 23 := rfl
      rw [h2] at hs
      rw [dig_1 (by omega)]
      omega
    | succ n =>
      have h1 := ih (by omega)
      have d1 := @dig_1 (v (23 + ((n + 1 : Nat) : Int))) (by omega)
      have d2 := (@dig_len (leg v n) 11).2
      show (lnT v (n + 1) ++ [45] ++ dig 11 (leg v n) ++ [62] ++ dig 11 (v (23 + ((n + 1 : Nat) : Int)))).length ≤ _
      simp only [List.length_append, List.length_cons, List.length_nil, d1]
      omega
theorem c_tk60 (h : TS ad sz S Ln R M o x y π v l) (hI : IvS b v) {i : Nat} (hi : (i : Int) < v 1) (hl : l.length ≤ 90) (c : Nat) :
    ∃ sz' S' Ln' M' R' y', fX9_writeTask_B60 ad sz S Ln R M o (i : Int) c = some (.inl (((i + 1 : Nat) : Int), sz', S', Ln', M', R', c + 1)) ∧ TS ad sz' S' Ln' R' M' o x y' π v (l ++ dig 11 (v (23 + (i : Int)))) ∧ GR sz sz' x y y' S S' Ln Ln' M M' R R' := by
  have hC := hI.1
  have h0 := hC.1
  have h1 := hC.2.1
  have hs := hC.2.2.2.1 i (by omega) hi
  have hLC := h.O.2.2.1.2.2.1
  unfold fX9_writeTask_B60
  rw [ts_5 h, o_0 h.O, s_c h.O.2.2.1, rf_o hLC.2.2.2.2.1 hLC.1.2.2.2.1, gd_t (by rw [hLC.2.1.2.2.1]; omega), h.P.1.2.2.2.1 i (by omega) hi]
  obtain ⟨sz1, S1, Ln1, M1, R1, y1, e1, t1, g1⟩ := ts_int h (n := v (23 + (i : Int))) hl hs.1 (by omega)
  rw [e1, bd_s]
  dsimp only
  refine ⟨sz1, S1, Ln1, M1, R1, y1, ?_, t1, g1⟩
  rw [w32_i (by omega) (by omega), show (i : Int) + 1 = ((i + 1 : Nat) : Int) by omega]
theorem c_tkstep {i : Nat} (h : TS ad sz S Ln R M o x y π v (lnT v i)) (hI : IvS b v) (hi : (i : Int) < v 1) :
    ∃ sz' S' Ln' M' R' y', fX9_writeTask_L10 ad o ((i : Int), sz, S, Ln, M, R, i) = some (.inl (((i + 1 : Nat) : Int), sz', S', Ln', M', R', i + 1)) ∧ TS ad sz' S' Ln' R' M' o x y' π v (lnT v (i + 1)) ∧ GR sz sz' x y y' S S' Ln Ln' M M' R R' := by
  have hC := hI.1
  have h0 := hC.1
  have h1 := hC.2.1
  have hlen := lnT_len hC i (by omega)
  have hLC := h.O.2.2.1.2.2.1
  unfold fX9_writeTask_L10
  dsimp only
  rw [gd_t (by omega), o_0 h.O, s_c h.O.2.2.1]
  simp only [h.P.1.2.1]
  rw [if_neg (by omega)]
  cases i with
  | zero =>
    rw [if_pos (by omega)]
    obtain ⟨sz1, S1, Ln1, M1, R1, y1, e1, t1, g1⟩ := c_tk60 h hI (i := 0) hi (by omega) 0
    exact ⟨sz1, S1, Ln1, M1, R1, y1, e1, t1, g1⟩
  | succ k =>
    have hlg := leg_120 hC (k := (k : Int)) (by omega) (by omega)
    rw [if_neg (by omega), ts_5 h]
    obtain ⟨sz1, S1, Ln1, M1, R1, y1, e1, t1, g1⟩ := ts_chr h (c := 45) (by omega) (by decide) (by decide)
    rw [e1, bd_s]
    dsimp only
    have hL1 := t1.O.2.2.1.2.2.1
    rw [o_0 t1.O, s_c t1.O.2.2.1, rf_o hL1.2.2.2.2.2 hL1.1.2.2.2.2, w32_i (by omega) (by omega), show ((k + 1 : Nat) : Int) - 1 = (k : Int) by omega, gd_t (by rw [hL1.2.1.2.2.2]; omega), t1.P.1.2.2.2.2 k (by omega) (by omega)]
    obtain ⟨sz2, S2, Ln2, M2, R2, y2, e2, t2, g2⟩ := ts_int t1 (n := leg v k) (by simp only [List.length_append, List.length_cons, List.length_nil]; omega) (by omega) (by omega)
    rw [e2, bd_s]
    dsimp only
    have d2 := (@dig_len (leg v k) 11).2
    obtain ⟨sz3, S3, Ln3, M3, R3, y3, e3, t3, g3⟩ := ts_chr t2 (c := 62) (by simp only [List.length_append, List.length_cons, List.length_nil]; omega) (by decide) (by decide)
    rw [e3, bd_s]
    dsimp only
    obtain ⟨sz4, S4, Ln4, M4, R4, y4, e4, t4, g4⟩ := c_tk60 t3 hI (i := k + 1) hi (by simp only [List.length_append, List.length_cons, List.length_nil]; omega) (k + 1)
    exact ⟨sz4, S4, Ln4, M4, R4, y4, e4, t4, ((g1.tr g2).tr g3).tr g4⟩
theorem c_task (h : TS ad sz S Ln R M o x y π v l) (hI : IvS b v) :
    ∃ sz' S' Ln' M' R' y', fX9_writeTask ad sz S Ln R M o = some (((lnT v (v 1).toNat).length : Int), sz', S', Ln', M', R') ∧ TS ad sz' S' Ln' R' M' o x y' π v (lnT v (v 1).toNat) ∧ GR sz sz' x y y' S S' Ln Ln' M M' R R' := by
  have h1 := hI.1.2.1
  have hn : (((v 1).toNat : Nat) : Int) = v 1 := by omega
  unfold fX9_writeTask
  rw [ts_5 h]
  obtain ⟨M0, e0, t0, g0⟩ := ts_set0 h
  rw [e0, bd_s]
  dsimp only
  have hlp := lp_inv0 (b := fX9_writeTask_L10 ad o) (v 1).toNat (s := (0, sz, S, Ln, M0, R, 0))
    (fun i s => s.1 = (i : Int) ∧ s.2.2.2.2.2.2 = i ∧ ∃ y', TS ad s.2.1 s.2.2.1 s.2.2.2.1 s.2.2.2.2.2.1 s.2.2.2.2.1 o x y' π v (lnT v i) ∧ GR sz s.2.1 x y y' S s.2.2.1 Ln s.2.2.2.1 M s.2.2.2.2.1 R s.2.2.2.2.2.1)
    (fun r => ∃ sz' S' Ln' M' R' y', r = .inl (sz', S', Ln', M', R') ∧ TS ad sz' S' Ln' R' M' o x y' π v (lnT v (v 1).toNat) ∧ GR sz sz' x y y' S S' Ln Ln' M M' R R')
    (by omega) ⟨rfl, rfl, y, t0, g0⟩ (fun i s hi hs => Or.inl ?_) (fun s hs => ?_)
  · obtain ⟨r, e1, sz', S', Ln', M', R', y', e2, t1, g1⟩ := hlp
    rw [e1, bd_s, e2, se_l]
    dsimp only
    rw [ts_5 t1, ts_len t1, bd_s]
    exact ⟨sz', S', Ln', M', R', y', rfl, t1, g1⟩
  · obtain ⟨i', sz1, S1, Ln1, M1, R1, c⟩ := s
    obtain ⟨a1, a2, y1, t1, g1⟩ := hs
    dsimp only at a1 a2 t1 g1
    subst a1 a2
    obtain ⟨sz2, S2, Ln2, M2, R2, y2, e2, t2, g2⟩ := c_tkstep t1 hI (by omega)
    exact ⟨_, e2, rfl, rfl, y2, t2, g1.tr g2⟩
  · obtain ⟨i', sz1, S1, Ln1, M1, R1, c⟩ := s
    obtain ⟨a1, a2, y1, t1, g1⟩ := hs
    dsimp only at a1 a2 t1 g1
    subst a1 a2
    unfold fX9_writeTask_L10
    dsimp only
    rw [gd_t (by omega), o_0 t1.O, s_c t1.O.2.2.1]
    simp only [t1.P.1.2.1]
    rw [if_pos (by omega)]
    exact ⟨_, rfl, sz1, S1, Ln1, M1, R1, y1, rfl, t1, g1⟩
theorem m_tk49 (h : MS ad S Ln R M o m v l) (hI : IvS b v) {i : Nat} (hi : (i : Int) < v 1) (hl : l.length + 1 ≤ 80) :
    ∃ M', fX10_writeTask_B49 ad S Ln R M m (i : Int) = some (.inl (((i + 1 : Nat) : Int), M')) ∧ MS ad S Ln R M' o m v (l ++ dig 11 (v (23 + (i : Int)))) ∧ MF M M' m := by
  have h0 := hI.1.1
  have h1 := hI.1.2.1
  have hs := hI.1.2.2.2.1 i (by omega) hi
  have d1 := @dig_1 (v (23 + (i : Int))) (by omega)
  unfold fX10_writeTask_B49
  rw [m_inTask h.1 h.2.2.1 (by omega) (by omega), bd_s]
  obtain ⟨M1, e1, t1, g1⟩ := ms_num h (n := v (23 + (i : Int))) hs.1 (by omega) (by omega)
  rw [e1, bd_s, w32_i (by omega) (by omega), show (i : Int) + 1 = ((i + 1 : Nat) : Int) by omega]
  exact ⟨M1, rfl, t1, g1⟩
theorem m_tkstep {i : Nat} (h : MS ad S Ln R M o m v (lnT v i)) (hI : IvS b v) (hi : (i : Int) < v 1) :
    ∃ M', fX10_writeTask_L12 ad S Ln R m ((i : Int), M) = some (.inl (((i + 1 : Nat) : Int), M')) ∧ MS ad S Ln R M' o m v (lnT v (i + 1)) ∧ MF M M' m := by
  have hC := hI.1
  have h1 := hC.2.1
  have hlen := lnT_len hC i (by omega)
  unfold fX10_writeTask_L12
  dsimp only
  rw [m_0 h.1, m_g1 h.1]
  simp only [h.2.2.1]
  rw [if_neg (by omega)]
  cases i with
  | zero =>
    rw [if_pos (by omega)]
    obtain ⟨M1, e1, t1, g1⟩ := m_tk49 h hI (i := 0) hi (by omega)
    exact ⟨M1, e1, t1, g1⟩
  | succ k =>
    have hlg := leg_120 hC (k := (k : Int)) (by omega) (by omega)
    have d2 := (@dig_len (leg v k) 11).2
    rw [if_neg (by omega)]
    obtain ⟨M1, e1, t1, g1⟩ := ms_put h (by omega) 45
    rw [e1, bd_s, w32_i (by omega) (by omega), show ((k + 1 : Nat) : Int) - 1 = (k : Int) by omega, m_leg t1.1 t1.2.2.1 hC (by omega) (by omega), bd_s]
    obtain ⟨M2, e2, t2, g2⟩ := ms_num t1 (n := leg v k) (by omega) (by omega) (by simp only [List.length_append, List.length_cons, List.length_nil]; omega)
    rw [e2, bd_s]
    obtain ⟨M3, e3, t3, g3⟩ := ms_put t2 (by simp only [List.length_append, List.length_cons, List.length_nil]; omega) 62
    rw [e3, bd_s]
    obtain ⟨M4, e4, t4, g4⟩ := m_tk49 t3 hI (i := k + 1) hi (by simp only [List.length_append, List.length_cons, List.length_nil]; omega)
    exact ⟨M4, e4, t4, ((g1.tr g2).tr g3).tr g4⟩
theorem m_task (hL : LyM S Ln R m) (hv : M (m + 1) = v) (hC : CST ad S Ln R M) (hA : AD ad o) (hm : o + 308 ≤ m) (hI : IvS b v) :
    ∃ M', fX10_writeTask ad S Ln R M m = some (((lnT v (v 1).toNat).length : Int), M') ∧ MS ad S Ln R M' o m v (lnT v (v 1).toNat) ∧ MF (wr (wr M m 5 0) m 12 0) M' m := by
  have h1 := hI.1.2.1
  have h0 := ms_0 hL hv hC hA hm
  unfold fX10_writeTask
  rw [nam_d, nam_d]
  have hlp := lp_inv0 (b := fX10_writeTask_L12 ad S Ln R m) (v 1).toNat (s := (0, wr (wr M m 5 0) m 12 0))
    (fun i s => s.1 = (i : Int) ∧ MS ad S Ln R s.2 o m v (lnT v i) ∧ MF (wr (wr M m 5 0) m 12 0) s.2 m)
    (fun r => ∃ M', r = .inl M' ∧ MS ad S Ln R M' o m v (lnT v (v 1).toNat) ∧ MF (wr (wr M m 5 0) m 12 0) M' m)
    (by omega) ⟨rfl, h0, MF.rf⟩ (fun i s hi hs => Or.inl ?_) (fun s hs => ?_)
  · obtain ⟨r, e1, M', e2, t1, g1⟩ := hlp
    rw [e1, bd_s, e2, se_l, t1.2.1.1]
    exact ⟨M', rfl, t1, g1⟩
  · obtain ⟨i', M1⟩ := s
    obtain ⟨a1, t1, g1⟩ := hs
    dsimp only at a1 t1 g1
    subst a1
    obtain ⟨M2, e2, t2, g2⟩ := m_tkstep t1 hI (by omega)
    exact ⟨_, e2, rfl, t2, g1.tr g2⟩
  · obtain ⟨i', M1⟩ := s
    obtain ⟨a1, t1, g1⟩ := hs
    dsimp only at a1 t1 g1
    subst a1
    unfold fX10_writeTask_L12
    dsimp only
    rw [m_0 hL, m_g1 hL]
    simp only [t1.2.2.1]
    rw [if_pos (by omega)]
    exact ⟨_, rfl, M1, rfl, t1, g1⟩
theorem SBL.fr (h : SBL S Ln R M x y l) (h1 : M' x = M x) (h2 : M' y = M y) : SBL S Ln R M' x y l := by
  obtain ⟨a1, ⟨a2, a3⟩, a4, a5⟩ := h
  exact ⟨a1, ⟨by rw [h1]; exact a2, by rw [h1]; exact a3⟩, a4, fun i hi => by rw [h2]; exact a5 i hi⟩
theorem okw (hT : TS ad sz' S' Ln' R' M' o x y' π v l) (hG : GR sz sz' x y y' S S' Ln Ln' M M' R R') (hM1 : ∀ c, c ≠ a → M1 c = M' c) (hMS : MS ad S' Ln' R' M2 o m v l) (hF : MF (wr (wr M1 m 5 0) m 12 0) M2 m)
    (hx : x < m) (hy : y < m ∨ a + 2 ≤ y) (ha : m + 9 ≤ a) (hsz : a + 2 ≤ sz) (hl : l.length ≤ 80) : OKW sz S Ln R M o m a x y S' Ln' R' M2 y' := by
  obtain ⟨g1, g2, g3, g4, g5, g6⟩ := hG
  have hc : ∀ c, c ≠ m → c ≠ m + 6 → c ≠ a → M2 c = M' c := fun c c0 c1 c2 => by rw [hF.1 c c0 c1, wr_a c0, wr_a c0, hM1 c c2]
  refine ⟨g4, fun q q0 q1 q2 q3 q4 q5 => by rw [hc q q3 q4 q5]; exact g5 q q0 q1 q2, g6, fun k k0 k1 => ?_, g2, hT.2.2.1, l, hT.1.fr (hc x (by omega) (by omega) (by omega)) (hc y' (by omega) (by omega) (by omega)), hMS.2.1, hl⟩
  rw [hF.2 k k1, wr_k k1, wr_k k0, hM1 m (by omega), g5 m (by omega) (by omega) (by omega)]
theorem TXL.ts (hY : HY S Ln R M e o m a π b) (hX : TXL S Ln R M o m x y) (hC : CST ad S Ln R M) (hA : AD ad o) (hlt : ∀ q, S q ≠ 0 → q < sz) (hx : o + 308 ≤ x) (hy : o + 308 ≤ y) : ∃ l, TS ad sz S Ln R M o x y π (M (m + 1)) l := by
  obtain ⟨h5, l, hB, -, -⟩ := hX
  obtain ⟨hO, hM, hd, hla, he, hN, hb⟩ := hY
  exact ⟨l, hB, ⟨hx, hy, hlt x (by rw [hB.1.1]; decide), hlt y (by rw [hB.1.2.2.1]; decide)⟩, h5, hC, hA, hO, hN.1, hN.2.1.1.2.2.2.1.2⟩
theorem k_c48 (hY : HY S Ln R M e o m a π b) (hX : TXL S Ln R M o m x y) (hC : CST ad S Ln R M) (hA : AD ad o) (hlt : ∀ q, S q ≠ 0 → q < sz) (hx : o + 308 ≤ x ∧ x < m) (hy : o + 308 ≤ y ∧ (y < m ∨ a + 2 ≤ y)) (hsz : a + 2 ≤ sz) {i0 : Int} (hi : 0 ≤ i0 ∧ i0 + 5 ≤ (Ln e : Int) ∧ (Ln e : Int) ≤ 1000000) :
    ∃ S' Ln' M' R' y', fL_c48 ad sz S Ln R M e o m a (a + 1) i0 = some (.inl (w32 (i0 + 5), S', Ln', M', R')) ∧ OKW sz S Ln R M o m a x y S' Ln' R' M' y' := by
  obtain ⟨l, hT⟩ := hX.ts hY hC hA hlt hx.1 hy.1
  obtain ⟨hO, hM, hd, hla, he, hN, hb⟩ := hY
  have g1 : (0 : Int) ≤ w32 (i0 + 1) ∧ w32 (i0 + 1) < (Ln e : Int) := by rw [w32_i (by omega) (by omega)]; omega
  have hI := hN.2.1.1
  have h4 := hI.2.2.2.1
  unfold fL_c48
  rw [gd_t g1]
  generalize hz : M e (w32 (i0 + 1)) = z
  by_cases hp : 0 ≤ z ∧ z < M (m + 1) 4
  · obtain ⟨sz1, S1, Ln1, M1, R1, y1, e1, t1, gr⟩ := c_wp hT hI hp.1 hp.2
    have hG := gr
    obtain ⟨r1, r2, r3, r4, r5, r6⟩ := gr
    unfold fL_writePilot
    have hLa : Ln1 a = 1 := by rw [(r4 a (by omega)).2]; exact hla.1
    have hLe : Ln1 e = Ln e := (r4 e (by omega)).2
    rw [e1, bd_s, se_l]
    dsimp only
    rw [gd_t (by rw [hLa]; decide), nam_d, bd_s]
    dsimp only
    rw [gd_t (by rw [hLe]; exact g1)]
    have hMe : wr M1 a 0 ((lnP (M (m + 1)) z).length : Int) e = M e := by rw [wr_a (by omega), r5 e (by omega) (by omega) (by omega)]
    rw [hMe, hz]
    obtain ⟨M2, e2, t2, hF⟩ := m_wp (ad := ad) (o := o) (M := wr M1 a 0 ((lnP (M (m + 1)) z).length : Int)) (hM.f2 (fun q q0 q1 => r4 q (by omega)) (r6 m (by omega) (by omega)))
      (show _ = M (m + 1) by rw [wr_a (by omega), r5 (m + 1) (by omega) (by omega) (by omega)]) (t1.2.2.2.1.fr hA (fun q hq => ⟨rfl, rfl, wr_a (by omega), rfl⟩)) hA (by omega) hI hp.1 hp.2
    rw [e2, bd_s]
    dsimp only
    have h5 : M2 m 5 = 0 := by rw [hF.2 5 (by decide), wr_k (by decide), wr_s]
    rw [show fX10_thrown ad S1 Ln1 R1 M2 m = some (M2 m 5) from rfl, bd_s, h5, if_pos rfl, if_neg (by decide), gd_t (by rw [hLa]; decide)]
    have ha0 : M2 a 0 = ((lnP (M (m + 1)) z).length : Int) := by rw [hF.1 a (by omega) (by omega), wr_a (by omega), wr_a (by omega), wr_s]
    simp only [ha0, i_lcmp_0]
    rw [if_pos trivial]
    have hlen := lnP_len hI hp.1 hp.2
    exact ⟨S1, Ln1, M2, R1, y1, rfl, okw t1 hG (fun c hc => wr_a hc) t2 hF hx.2 hy.2 (by omega) hsz (by omega)⟩
  · unfold fL_writePilot fX9_writePilot
    rw [O_known hO hN.1 hI z, bd_s, if_neg hp, se_r, bd_s, se_r, if_pos rfl, bd_s]
    dsimp only
    rw [gd_t g1, hz]
    unfold fX10_writePilot
    rw [m_isPilot hM rfl h4, bd_s, bI_f hp, if_neg (by decide)]
    unfold fX10_writePilot_B14
    rw [m_isThrown, bd_s, thr_1]
    dsimp only
    rw [if_neg (by decide), bd_s]
    dsimp only
    rw [show fX10_thrown ad S Ln R (wr M m 5 1) m = some (wr M m 5 1 m 5) from rfl, bd_s, wr_s, if_pos rfl, if_pos (by decide)]
    obtain ⟨h5, l, hB, hL, hl⟩ := hX
    exact ⟨S, Ln, wr M m 5 1, R, y, rfl, fun q _ => ⟨rfl, rfl⟩, fun q _ _ _ q3 _ _ => wr_a q3, fun q _ _ => rfl, fun k k0 _ => wr_k k0, Or.inl rfl, h5, l, hB.fr (wr_a (by omega)) (wr_a (by omega)), ⟨by rw [wr_k (by decide)]; exact hL.1, fun i hi => by rw [wr_a (by omega)]; exact hL.2 i hi⟩, hl⟩
theorem k_c49 (hY : HY S Ln R M e o m a π b) (hX : TXL S Ln R M o m x y) (hC : CST ad S Ln R M) (hA : AD ad o) (hlt : ∀ q, S q ≠ 0 → q < sz) (hx : o + 308 ≤ x ∧ x < m) (hy : o + 308 ≤ y ∧ (y < m ∨ a + 2 ≤ y)) (hsz : a + 2 ≤ sz) {i0 : Int} :
    ∃ S' Ln' M' R' y', fL_c49 ad sz S Ln R M e o m a (a + 1) i0 = some (.inl (w32 (i0 + 5), S', Ln', M', R')) ∧ OKW sz S Ln R M o m a x y S' Ln' R' M' y' := by
  obtain ⟨l, hT⟩ := hX.ts hY hC hA hlt hx.1 hy.1
  obtain ⟨hO, hM, hd, hla, he, hN, hb⟩ := hY
  have hI := hN.2.1.1
  have h1 := hI.1.2.1
  obtain ⟨sz1, S1, Ln1, M1, R1, y1, e1, t1, gr⟩ := c_task hT hI
  have hG := gr
  obtain ⟨r1, r2, r3, r4, r5, r6⟩ := gr
  unfold fL_c49
  rw [e1, bd_s]
  dsimp only
  obtain ⟨M2, e2, t2, hF⟩ := m_task (ad := ad) (o := o) (M := M1) (hM.f2 (fun q q0 q1 => r4 q (by omega)) (r6 m (by omega) (by omega))) (show _ = M (m + 1) by rw [r5 (m + 1) (by omega) (by omega) (by omega)]) t1.2.2.2.1 hA (by omega) hI
  rw [e2, bd_s]
  dsimp only
  rw [if_pos rfl]
  have hlen := lnT_len hI.1 (M (m + 1) 1).toNat (by omega)
  exact ⟨S1, Ln1, M2, R1, y1, rfl, okw t1 hG (fun c _ => rfl) t2 hF hx.2 hy.2 (by omega) hsz (by omega)⟩
end PWT
