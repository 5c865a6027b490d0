/-! PURE: rows by ranges; consistency -/
section PCN
variable {ad S Ln : Nat → Nat} {R : gR} {M : gM} {e o m a : Nat} {π : Int → Nat} {b : Int} {v : gV}
theorem L_restrictedInRowByRanges (hla : Ln a = 1) (hO : LyO S Ln R o π) (hR : RpS M (o + 1) v) (hI : IvS b v) (y : Int) : LQ M o a (tRw y) (cnt v y 61) (fL_restrictedInRowByRanges ad S Ln R M o y a) := by
  unfold LQ fL_restrictedInRowByRanges fX9_restrictedInRowByRanges tRw
  rw [O_place, bd_s]
  by_cases h : 0 ≤ y ∧ y ≤ 60
  · obtain ⟨M', e1, e2⟩ := b_byRanges (ad := ad) hO.2.2.1.2.2.2.2.1 hR.2.2.1 hI.2.2.1 y
    refine ⟨M', fun c c0 c1 _ _ => e2 c (by omega) (by omega), ?_⟩
    rw [if_pos (show ((0 : Int) ≤ 0 ∧ (0 : Int) ≤ 60) ∧ 0 ≤ y ∧ y ≤ 60 by omega), se_l, o_0 hO, s_b hO.2.2.1, e1, bd_s, bd_s, se_l]
    dsimp only
    rw [gd_t (by rw [hla]; decide), nam_d, if_pos h, if_pos rfl]
  · refine ⟨M, SC.rf, ?_⟩
    rw [if_neg (show ¬ (((0 : Int) ≤ 0 ∧ (0 : Int) ≤ 60) ∧ 0 ≤ y ∧ y ≤ 60) by omega), se_r, bd_s, se_r, if_neg h]
    rfl
theorem M_restrictedInRowByRanges (hM : LyM S Ln R m) (hv : M (m + 1) = v) (hI : IvS b v) (y : Int) : MZQ M m (tRw y) (cnt v y 61) (fX10_restrictedInRowByRanges ad S Ln R M m y) := by
  unfold MZQ fX10_restrictedInRowByRanges
  rw [show fX10_restrictedInRow ad S Ln R M m y = _ from M_restrictedInRow hM hv hI y, bd_s]
theorem k_c20 (hY : HY S Ln R M e o m a π b) {sz : Nat} {i0 : Int} (hi : 0 ≤ i0 ∧ i0 + 5 ≤ (Ln e : Int) ∧ (Ln e : Int) ≤ 1000000) : ∃ M' R', fL_c20 ad sz S Ln R M e o m a (a + 1) i0 = some (.inl (w32 (i0 + 5), S, Ln, M', R')) ∧ OKS S Ln R M o m a b R' M' := by
  have hY9 := hY
  obtain ⟨hO, hM, hd, hla, he, hN, hb⟩ := hY
  obtain ⟨n1, n2, n3, n4, n5, n6, n7⟩ := hN
  have g1 : (0 : Int) ≤ w32 (i0 + 1) ∧ w32 (i0 + 1) < (Ln e : Int) := by rw [w32_i (by omega) (by omega)]; omega
  unfold fL_c20
  simp only [gd_t g1]
  obtain ⟨M', e1, e2⟩ := q_case (ad := ad) (e := e) (g := fun M1 => fX10_restrictedInRowByRanges ad S Ln R M1 m (M1 e (w32 (i0 + 1)))) (B := fun M4 => fL_c20_B1404 ad S Ln R M4 e o m a (a + 1) i0) hY9
    (L_restrictedInRowByRanges (ad := ad) hla.1 hO n1 n2.1 (M e (w32 (i0 + 1))))
    (fun M1 l2 l3 l4 => by rw [l4]; exact M_restrictedInRowByRanges hM l2 n2.1 (M e (w32 (i0 + 1))))
  exact ⟨M', R, e1, e2⟩
/-- a state's scratch: what may change while it is asked -/
def SX (M M1 : gM) (a : Nat) : Prop := ∀ c, c ≠ a + 15 → c ≠ a + 16 → c ≠ a + 18 → c ≠ a + 19 → M1 c = M c
theorem s_rows (hL : LyS S Ln R a) (hR : RpS M a v) (hI : IvS b v) : ∃ M', fX8_rowCountsAgree ad S Ln R M a = some (1, M') ∧ SX M M' a := by
  unfold fX8_rowCountsAgree
  obtain ⟨r, e1, M1, e2, e3⟩ := lp_inv0 (b := fX8_rowCountsAgree_L2 ad S Ln R a) 61
    (fun i s => s.1 = (i : Int) ∧ SX M s.2 a) (fun r => ∃ M', r = .inl M' ∧ SX M M' a) (s := ((0 : Int), M)) (by omega) ⟨rfl, fun _ _ _ _ _ => rfl⟩
    (fun i s hi hs => by
      obtain ⟨s1, s2⟩ := hs
      left
      have hRs : RpS s.2 a v := hR.sc hI.2.2.2.1.2 (fun q _ _ c1 c2 c3 c4 => s2 q c1 c2 c3 c4)
      obtain ⟨M2, f1, f2⟩ := b_byRanges (ad := ad) hL.2.2.2.2.1 hRs.2.2.1 hI.2.2.1 (i : Int)
      unfold fX8_rowCountsAgree_L2
      rw [s1, if_neg (by omega), s_b hL, b_byPositions hL.2.2.2.2.1 hRs.2.2.1 hI.2.2.1, bd_s, s_b hL, f1, bd_s]
      dsimp only
      rw [if_pos rfl, w32_i (by omega) (by omega)]
      exact ⟨_, rfl, by show (i : Int) + 1 = ((i + 1 : Nat) : Int); omega, fun c c1 c2 c3 c4 => (f2 c (by omega) (by omega)).trans (s2 c c1 c2 c3 c4)⟩)
    (fun s hs => by
      obtain ⟨s1, s2⟩ := hs
      unfold fX8_rowCountsAgree_L2
      rw [s1, if_pos (by decide)]
      exact ⟨_, rfl, s.2, rfl, s2⟩)
  rw [e1, bd_s, e2, se_l]
  exact ⟨M1, rfl, e3⟩
theorem s_forecasts (hL : LyS S Ln R a) (hR : RpS M a v) (hI : IvS b v) : ∃ M', fX8_finishForecastsAgree ad S Ln R M a = some (1, M') ∧ SX M M' a := by
  have hp := hI.2.2.2.1
  unfold fX8_finishForecastsAgree
  obtain ⟨r, e1, M1, e2, e3⟩ := lp_inv0 (b := fX8_finishForecastsAgree_L2 ad S Ln R a) (v 4).toNat
    (fun i s => s.1 = (i : Int) ∧ SX M s.2 a) (fun r => ∃ M', r = .inl M' ∧ SX M M' a) (s := ((0 : Int), M)) (by omega) ⟨rfl, fun _ _ _ _ _ => rfl⟩
    (fun i s hi hs => by
      obtain ⟨s1, s2⟩ := hs
      left
      have hi4 : (i : Int) < v 4 := by omega
      have hRs : RpS s.2 a v := hR.sc hp.2 (fun q _ _ c1 c2 c3 c4 => s2 q c1 c2 c3 c4)
      have hu := hI.2.2.2.2.2.2 i (by omega) hi4
      have hg : RpG s.2 (a + 20 + (i : Int).toNat) (gl v i) := fun k k0 k1 => s_u hRs (by omega) hi4 k0 k1
      have hB : ∀ M2, SX s.2 M2 a → ∃ t, fX8_finishForecastsAgree_B42 ad S Ln R M2 a (i : Int) = some (.inl t) ∧ t.1 = ((i + 1 : Nat) : Int) ∧ SX M t.2 a := fun M2 h2 => by
        unfold fX8_finishForecastsAgree_B42
        rw [w32_i (by omega) (by omega)]
        exact ⟨_, rfl, by show (i : Int) + 1 = ((i + 1 : Nat) : Int); omega, fun c c1 c2 c3 c4 => (h2 c c1 c2 c3 c4).trans (s2 c c1 c2 c3 c4)⟩
      unfold fX8_finishForecastsAgree_L2
      rw [hRs.2.2.2.1, s1, if_neg (by omega), s_g hL (by omega) (by omega), s_u hRs (by omega) hi4 (by decide) (by decide), gd_t hu.2.1.1]
      by_cases h1 : gl v i 1 = 1
      · obtain ⟨M2, f1, f2⟩ := f_inFlight (ad := ad) hL hRs hI (by omega) hg hu h1
        rw [if_neg (fun q => q h1), s_byHeight hL hRs hI hg hu h1, bd_s, f1, bd_s]
        dsimp only
        rw [if_pos rfl]
        exact hB M2 (fun c _ _ _ c4 => f2 c c4)
      · rw [if_pos h1]
        exact hB s.2 (fun _ _ _ _ _ => rfl))
    (fun s hs => by
      obtain ⟨s1, s2⟩ := hs
      have hRs : RpS s.2 a v := hR.sc hp.2 (fun q _ _ c1 c2 c3 c4 => s2 q c1 c2 c3 c4)
      unfold fX8_finishForecastsAgree_L2
      rw [hRs.2.2.2.1, s1, if_pos (by omega)]
      exact ⟨_, rfl, s.2, rfl, s2⟩)
  rw [e1, bd_s, e2, se_l]
  exact ⟨M1, rfl, e3⟩
theorem s_bounded (hL : LyS S Ln R a) (hR : RpS M a v) (hI : IvS b v) : fX8_distancesAreBounded ad S Ln R M a = some 1 := by
  have hp := hI.2.2.2.1
  unfold fX8_distancesAreBounded
  obtain ⟨r, e1, e2⟩ := lp_inv0 (b := fX8_distancesAreBounded_L2 ad S Ln R M a) (v 4).toNat
    (fun i s => s = (i : Int)) (fun r => r = .inl ()) (s := (0 : Int)) (by omega) rfl
    (fun i s hi hs => by
      left
      have hi4 : (i : Int) < v 4 := by omega
      have hu := hI.2.2.2.2.2.2 i (by omega) hi4
      have hg : RpG M (a + 20 + (i : Int).toNat) (gl v i) := fun k k0 k1 => s_u hR (by omega) hi4 k0 k1
      unfold fX8_distancesAreBounded_L2
      rw [hR.2.2.2.1, hs, if_neg (by omega), s_g hL (by omega) (by omega), s_done hL hR hI hg hu, bd_s, s_c hL, c_whole hL.2.2.1 hR.1 hI.1, bd_s, if_pos (acU_b hI.1 hu).2, w32_i (by omega) (by omega)]
      exact ⟨_, rfl, by omega⟩)
    (fun s hs => by
      unfold fX8_distancesAreBounded_L2
      rw [hR.2.2.2.1, hs, if_pos (by omega)]
      exact ⟨_, rfl, rfl⟩)
  rw [e1, bd_s, e2, se_l]
theorem M_consistent (hM : LyM S Ln R m) (hv : M (m + 1) = v) (hI : IvS b v) : fX10_isConsistent ad S Ln R M m = some (1, wr M m 5 0) := by
  have hp := hI.2.2.2.1
  have hv' : (wr M m 5 0) (m + 1) = v := by rw [wr_a (by omega)]; exact hv
  unfold fX10_isConsistent
  rw [nam_d]
  obtain ⟨r, e1, e2⟩ := lp_inv0 (b := fX10_isConsistent_L9 ad S Ln R (wr M m 5 0) m) (v 4).toNat
    (fun i s => s.1 = 1 ∧ s.2 = (i : Int)) (fun r => r = .inl 1) (s := ((1 : Int), (0 : Int))) (by omega) ⟨rfl, rfl⟩
    (fun i s hi hs => by
      obtain ⟨s1, s2⟩ := hs
      left
      have hi4 : (i : Int) < v 4 := by omega
      have hu := hI.2.2.2.2.2.2 i (by omega) hi4
      have hac := acU_b hI.1 hu
      unfold fX10_isConsistent_L9
      rw [m_0 hM, m_g hM (by decide) (by decide), hv', s2, if_neg (by omega), m_achieved hM hv' hI (by omega) hi4, bd_s, m_whole hM hv' hI.1, bd_s, if_neg (by omega)]
      unfold fX10_isConsistent_B37
      rw [s1, w32_i (by omega) (by omega), show i_and 1 1 = 1 by decide]
      exact ⟨_, rfl, rfl, by show (i : Int) + 1 = ((i + 1 : Nat) : Int); omega⟩)
    (fun s hs => by
      obtain ⟨s1, s2⟩ := hs
      unfold fX10_isConsistent_L9
      rw [m_0 hM, m_g hM (by decide) (by decide), hv', s2, if_pos (by omega), s1]
      exact ⟨_, rfl, rfl⟩)
  rw [e1, bd_s, e2, se_l]
theorem k_c43 (hY : HY S Ln R M e o m a π b) {sz : Nat} {i0 : Int} : ∃ M' R', fL_c43 ad sz S Ln R M e o m a (a + 1) i0 = some (.inl (w32 (i0 + 5), S, Ln, M', R')) ∧ OKS S Ln R M o m a b R' M' := by
  have hY9 := hY
  obtain ⟨hO, hM, hd, hla, he, hN, hb⟩ := hY
  obtain ⟨n1, n2, n3, n4, n5, n6, n7⟩ := hN
  obtain ⟨M1, e1, e2⟩ := s_rows (ad := ad) hO.2.2.1 n1 n2.1
  have hR1 : RpS M1 (o + 1) (M (m + 1)) := n1.sc n2.1.2.2.2.1.2 (fun q _ _ c1 c2 c3 c4 => e2 q c1 c2 c3 c4)
  obtain ⟨M2, f1, f2⟩ := s_forecasts (ad := ad) hO.2.2.1 hR1 n2.1
  have hR2 : RpS M2 (o + 1) (M (m + 1)) := hR1.sc n2.1.2.2.2.1.2 (fun q _ _ c1 c2 c3 c4 => f2 q c1 c2 c3 c4)
  have hs : SC M M2 o := fun c c1 c2 c3 c4 => by rw [f2 c (by omega) (by omega) (by omega) (by omega), e2 c (by omega) (by omega) (by omega) (by omega)]
  have hm1 : M2 (m + 1) = M (m + 1) := hs _ (by omega) (by omega) (by omega) (by omega)
  refine ⟨wr M2 m 5 0, R, ?_, q_ok hY9 hs (by rw [wr_r, hs m (by omega) (by omega) (by omega) (by omega)]) (fun c c0 _ _ => wr_a c0)⟩
  unfold fL_c43 fX9_isConsistent
  rw [o_0 hO, e1, bd_s]
  dsimp only
  rw [if_neg (by decide), o_0 hO, f1, bd_s]
  dsimp only
  rw [if_neg (by decide), o_0 hO, s_bounded hO.2.2.1 hR2 n2.1, bd_s, if_neg (by decide), bd_s]
  dsimp only
  rw [M_consistent hM hm1 n2.1, bd_s]
  dsimp only
  rw [if_pos rfl]
end PCN
