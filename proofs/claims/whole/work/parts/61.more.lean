/-! PURE: the law's cases that ask without throwing; undo, save, restore; the marks -/
def OKT (S Ln : Nat → Nat) (R : gR) (M : gM) (o m a : Nat) (b : Int) (R1 : gR) (M1 : gM) : Prop := (∃ π1, LyO S Ln R1 o π1 ∧ INV M1 o m π1 (b + 1)) ∧ (∀ q, q ≠ o + 80 → R1 q = R q) ∧ (∀ c, (c < o ∨ (o + 289 ≤ c ∧ c < m) ∨ m + 6 ≤ c) → c ≠ a → c ≠ a + 1 → M1 c = M c) ∧ (∀ k, k ≠ 6 → M1 o k = M o k) ∧ ∀ k, k ≠ 4 → k ≠ 5 → k ≠ 9 → M1 m k = M m k
theorem OKS.t {S Ln : Nat → Nat} {R R1 : gR} {M M1 : gM} {o m a : Nat} {b : Int} (h : OKS S Ln R M o m a b R1 M1) (hd : o + 289 ≤ m ∧ m + 9 ≤ a) : OKT S Ln R M o m a b R1 M1 :=
  ⟨h.1, h.2.1, fun c hc c1 c2 => h.2.2.1 c (by omega) c1 c2, fun k _ => by rw [h.2.2.1 o (by omega) (by omega) (by omega)], fun k k1 k2 _ => h.2.2.2 k k1 k2⟩
section PLN
variable {ad S Ln : Nat → Nat} {R : gR} {M : gM} {e o m a : Nat} {π : Int → Nat} {b : Int} {v : gV}
theorem n_case {rv : Int} {i0 : Int} {fc : Option Int} {fm : Option (Int × gM)} (hY : HY S Ln R M e o m a π b) (h1 : fc = some rv) (h2 : fm = some (rv, wr M m 5 0)) :
    ∃ M' R', (bd fc fun q1 => bd fm fun q2 => if q1 = q2.1 then (some (Sum.inl (w32 (i0 + 5), S, Ln, q2.2, R))) else (none : Option ((Int × (Nat → Nat) × (Nat → Nat) × gM × gR) ⊕ Unit))) = some (.inl (w32 (i0 + 5), S, Ln, M', R')) ∧ OKS S Ln R M o m a b R' M' := by
  refine ⟨wr M m 5 0, R, ?_, q_ok hY SC.rf wr_r (fun c c0 _ _ => wr_a c0)⟩
  rw [h1, bd_s, h2, bd_s]
  dsimp only
  rw [if_pos rfl]
theorem k_c11 (hY : HY S Ln R M e o m a π b) {sz : Nat} {i0 : Int} : ∃ M' R', fL_c11 ad sz S Ln R M e o m a (a + 1) i0 = some (.inl (w32 (i0 + 5), S, Ln, M', R')) ∧ OKS S Ln R M o m a b R' M' := by
  have hY9 := hY
  obtain ⟨hO, hM, hd, hla, he, hN, hb⟩ := hY
  obtain ⟨hR, ⟨hI, n2⟩, n3, n4, n5, n6, n7⟩ := hN
  generalize hv : M (m + 1) = v at hR hI n2
  have hv' : (wr M m 5 0) (m + 1) = v := by rw [wr_a (by omega)]; exact hv
  unfold fL_c11
  refine n_case (rv := v 0) hY9 ?_ ?_
  · unfold fX9_pointCount
    rw [o_0 hO, s_c hO.2.2.1, hR.1.1]
  · unfold fX10_pointCount
    rw [nam_d, m_0 hM, m_g hM (by decide) (by decide), hv']
theorem k_c13 (hY : HY S Ln R M e o m a π b) {sz : Nat} {i0 : Int} : ∃ M' R', fL_c13 ad sz S Ln R M e o m a (a + 1) i0 = some (.inl (w32 (i0 + 5), S, Ln, M', R')) ∧ OKS S Ln R M o m a b R' M' := by
  have hY9 := hY
  obtain ⟨hO, hM, hd, hla, he, hN, hb⟩ := hY
  obtain ⟨hR, ⟨hI, n2⟩, n3, n4, n5, n6, n7⟩ := hN
  generalize hv : M (m + 1) = v at hR hI n2
  have hv' : (wr M m 5 0) (m + 1) = v := by rw [wr_a (by omega)]; exact hv
  unfold fL_c13
  refine n_case (rv := v 1) hY9 ?_ ?_
  · unfold fX9_taskLength
    rw [o_0 hO, s_c hO.2.2.1, hR.1.2.1]
  · unfold fX10_taskLength
    rw [nam_d, m_0 hM, m_g hM (by decide) (by decide), hv']
theorem k_c15 (hY : HY S Ln R M e o m a π b) {sz : Nat} {i0 : Int} : ∃ M' R', fL_c15 ad sz S Ln R M e o m a (a + 1) i0 = some (.inl (w32 (i0 + 5), S, Ln, M', R')) ∧ OKS S Ln R M o m a b R' M' := by
  have hY9 := hY
  obtain ⟨hO, hM, hd, hla, he, hN, hb⟩ := hY
  obtain ⟨hR, ⟨hI, n2⟩, n3, n4, n5, n6, n7⟩ := hN
  generalize hv : M (m + 1) = v at hR hI n2
  have hv' : (wr M m 5 0) (m + 1) = v := by rw [wr_a (by omega)]; exact hv
  unfold fL_c15
  refine n_case (rv := whl v) hY9 ?_ ?_
  · unfold fX9_taskDistance
    rw [o_0 hO, s_c hO.2.2.1, c_whole hO.2.2.1.2.2.1 hR.1 hI.1, bd_s]
  · unfold fX10_taskDistance
    rw [nam_d, m_whole hM hv' hI.1, bd_s]
theorem k_c17 (hY : HY S Ln R M e o m a π b) {sz : Nat} {i0 : Int} : ∃ M' R', fL_c17 ad sz S Ln R M e o m a (a + 1) i0 = some (.inl (w32 (i0 + 5), S, Ln, M', R')) ∧ OKS S Ln R M o m a b R' M' := by
  have hY9 := hY
  obtain ⟨hO, hM, hd, hla, he, hN, hb⟩ := hY
  obtain ⟨hR, ⟨hI, n2⟩, n3, n4, n5, n6, n7⟩ := hN
  generalize hv : M (m + 1) = v at hR hI n2
  have hv' : (wr M m 5 0) (m + 1) = v := by rw [wr_a (by omega)]; exact hv
  unfold fL_c17
  refine n_case (rv := v 5) hY9 ?_ ?_
  · unfold fX9_cloudBase
    rw [o_0 hO, s_a hO.2.2.1, hR.2.1.2.1]
  · unfold fX10_cloudBase
    rw [nam_d, m_0 hM, m_g hM (by decide) (by decide), hv']
theorem k_c21 (hY : HY S Ln R M e o m a π b) {sz : Nat} {i0 : Int} : ∃ M' R', fL_c21 ad sz S Ln R M e o m a (a + 1) i0 = some (.inl (w32 (i0 + 5), S, Ln, M', R')) ∧ OKS S Ln R M o m a b R' M' := by
  have hY9 := hY
  obtain ⟨hO, hM, hd, hla, he, hN, hb⟩ := hY
  obtain ⟨hR, ⟨hI, n2⟩, n3, n4, n5, n6, n7⟩ := hN
  generalize hv : M (m + 1) = v at hR hI n2
  have hv' : (wr M m 5 0) (m + 1) = v := by rw [wr_a (by omega)]; exact hv
  unfold fL_c21
  refine n_case (rv := v 4) hY9 ?_ ?_
  · unfold fX9_pilotCount
    rw [o_0 hO, hR.2.2.2.1]
  · unfold fX10_pilotCount
    rw [nam_d, m_0 hM, m_g hM (by decide) (by decide), hv']
theorem k_c22 (hY : HY S Ln R M e o m a π b) {sz : Nat} {i0 : Int} : ∃ M' R', fL_c22 ad sz S Ln R M e o m a (a + 1) i0 = some (.inl (w32 (i0 + 5), S, Ln, M', R')) ∧ OKS S Ln R M o m a b R' M' := by
  have hY9 := hY
  obtain ⟨hO, hM, hd, hla, he, hN, hb⟩ := hY
  obtain ⟨hR, ⟨hI, n2⟩, n3, n4, n5, n6, n7⟩ := hN
  generalize hv : M (m + 1) = v at hR hI n2
  have hv' : (wr M m 5 0) (m + 1) = v := by rw [wr_a (by omega)]; exact hv
  unfold fL_c22
  refine n_case (rv := bI (pln v)) hY9 ?_ ?_
  · unfold fX9_isPlanning
    rw [o_0 hO, s_allWaiting hO.2.2.1 hR hI, bd_s]
  · unfold fX10_isPlanning
    rw [nam_d, m_planning hM hv' hI.2.2.2.1, bd_s]
theorem k_c40 (hY : HY S Ln R M e o m a π b) {sz : Nat} {i0 : Int} : ∃ M' R', fL_c40 ad sz S Ln R M e o m a (a + 1) i0 = some (.inl (w32 (i0 + 5), S, Ln, M', R')) ∧ OKS S Ln R M o m a b R' M' := by
  have hY9 := hY
  obtain ⟨hO, hM, hd, hla, he, hN, hb⟩ := hY
  obtain ⟨hR, ⟨hI, n2⟩, n3, n4, n5, n6, n7⟩ := hN
  generalize hv : M (m + 1) = v at hR hI n2
  have hv' : (wr M m 5 0) (m + 1) = v := by rw [wr_a (by omega)]; exact hv
  unfold fL_c40
  refine n_case (rv := v 6) hY9 ?_ ?_
  · unfold fX9_days
    rw [o_0 hO, hR.2.2.2.2.1]
  · unfold fX10_days
    rw [nam_d, m_0 hM, m_g hM (by decide) (by decide), hv']
theorem k_c51 (hY : HY S Ln R M e o m a π b) {sz : Nat} {i0 : Int} : ∃ M' R', fL_c51 ad sz S Ln R M e o m a (a + 1) i0 = some (.inl (w32 (i0 + 5), S, Ln, M', R')) ∧ OKT S Ln R M o m a b R' M' := by
  have hY9 := hY
  obtain ⟨hO, hM, hd, hla, he, hN, hb⟩ := hY
  have hN9 := hN
  obtain ⟨hR, ⟨hI, n2⟩, n3, n4, n5, n6, n7⟩ := hN
  unfold fL_c51 fL_undo fX9_undo fX10_undo
  rw [o_3 hO, n3]
  by_cases h0 : M m 4 = 0
  · refine ⟨wr M m 5 1, R, ?_, (q_ok hY9 SC.rf wr_r (fun c c0 _ _ => wr_a c0)).t hd⟩
    rw [if_neg (show ¬ 0 < M m 4 by omega), bd_s, se_r]
    dsimp only
    rw [if_pos rfl, bd_s]
    dsimp only
    rw [if_neg (fun q => q h0)]
    unfold fX10_undo_B13
    rw [m_isThrown, bd_s, thr_1]
    dsimp only
    rw [if_neg (by decide), bd_s]
    dsimp only
    rw [show fX10_thrown ad S Ln R (wr M m 5 1) m = some (wr M m 5 1 m 5) from rfl, bd_s, wr_s, if_pos rfl, if_pos (by decide)]
    rfl
  · obtain ⟨rn, ln, p0, p1⟩ := hO.2.2.2.2.2.2.2.2.2.1 (M m 4 - 1) (by omega) (by omega)
    obtain ⟨r1, r2, r3⟩ := n5 (M m 4 - 1) (by omega) (by omega)
    obtain ⟨hs, hs1, hl1, hr0, hra, hrd⟩ := hO.2.2.2.2.2
    have hf : ∀ q, q ≠ o + 79 → wr M (o + 79) 1 (M m 4 - 1) q = M q := fun q hq => wr_a hq
    obtain ⟨M1, e1, e2, e3⟩ := f_copy (ad := ad) (M := wr M (o + 79) 1 (M m 4 - 1)) hO.2.2.1 ln (r1.fr (fun x x0 x1 => hf x (by omega)) r2.2.2.2.1.2) r2 (by omega)
    have hclass : fX4_takeBack ad S Ln R M (o + 79) (o + 1) = some M1 := by
      unfold fX4_takeBack
      rw [n3, if_neg (by omega), w32_i (by omega) (by omega), nam_d, rf_o hr0 hs1, wr_s, gd_t (by rw [hl1]; omega), rf_o rn ln.1, e1, bd_s]
    have hM1c : ∀ q, (q < o + 1 ∨ o + 27 ≤ q) → q ≠ o + 79 → M1 q = M q := fun q hq hq' => by rw [e3 q (by omega), hf q hq']
    have hM79 : M1 (o + 79) 1 = M m 4 - 1 := by rw [e3 _ (by omega), wr_s]
    have hwm : wr M1 a 0 (M m 4 - 1) m = M m := by rw [wr_a (by omega), hM1c m (by omega) (by omega)]
    obtain ⟨n1', n2', n3', n4', n5', n6', n7', n8'⟩ := hM.2.1
    obtain ⟨M3, c1, c2, c3, c4⟩ := x_copies (ad := ad) (S := S) (Ln := Ln) (R := R) (M := wr (wr (wr M1 a 0 (M m 4 - 1)) m 5 0) m 4 (M m 4 - 1)) (a := m + 4) (c := m + 1) (i := 113 * (M m 4 - 1)) (j := 0) (by omega) (by omega) (by omega) (Or.inl (by omega))
    have hrow : ∀ j, 0 ≤ j → j < 113 → M3 (m + 1) j = pW M m (M m 4 - 1) j := fun j j0 j1 => by
      have := c2 j j0 j1
      rw [Int.zero_add] at this
      rw [this, wr_a (by omega), wr_a (by omega), wr_a (by omega), hM1c (m + 4) (by omega) (by omega)]
      rfl
    have hfr : ∀ c, c ≠ m → c ≠ m + 1 → c ≠ a → M3 c = M1 c := fun c c0 c1' c2' => by rw [c4 c c1', wr_a c0, wr_a c0, wr_a c2']
    have hm4 : M3 m 4 = M m 4 - 1 := by rw [c4 m (by omega), wr_s]
    have hmk : ∀ k, k ≠ 4 → k ≠ 5 → M3 m k = M m k := fun k k4 k5 => by rw [c4 m (by omega), wr_k k4, wr_k k5, hwm]
    have hm5 : M3 m 5 = 0 := by rw [c4 m (by omega), wr_k (by decide), wr_s]
    refine ⟨M3, R, ?_, ⟨⟨π, hO, INV.mono ⟨?_, ⟨r2.ve hrow, r3.ve r2.2.2.2.1.1 hrow⟩, ?_, ?_, fun q q0 q1 => ?_, ?_, fun h => ?_⟩ (show b ≤ b + 1 by omega) hb⟩, fun _ _ => rfl, fun c hc ha _ => ?_, fun k _ => ?_, fun k k4 k5 _ => hmk k k4 k5⟩⟩
    · rw [if_pos (show 0 < M m 4 by omega), o_3 hO, o_0 hO, hclass, bd_s, o_3 hO, hM79, bd_s, se_l]
      dsimp only
      rw [gd_t (by rw [hla.1]; decide), nam_d, bd_s]
      dsimp only
      simp only [hwm]
      rw [if_pos h0]
      unfold fX10_undo_B13
      rw [m_isThrown, bd_s, thr_0]
      dsimp only
      have q4 : wr (wr M1 a 0 (M m 4 - 1)) m 5 0 m 4 = M m 4 := by rw [wr_k (by decide), hwm]
      have q9 : wr (wr (wr M1 a 0 (M m 4 - 1)) m 5 0) m 4 (M m 4 - 1) m 4 = M m 4 - 1 := wr_s
      rw [if_pos rfl, q4, w32_i (z := M m 4 - 1) (by omega) (by omega), nam_d, m_3 hM, m_0 hM, q9, w32_i (z := 113 * (M m 4 - 1)) (by omega) (by omega), c1, bd_s, hm4, bd_s]
      dsimp only
      rw [show fX10_thrown ad S Ln R M3 m = some (M3 m 5) from rfl, bd_s, hm5, if_pos rfl, if_neg (by decide), gd_t (by rw [hla.1]; decide)]
      have ha : M3 a 0 = M m 4 - 1 := by rw [c4 a (by omega), wr_a (by omega), wr_a (by omega), wr_s]
      simp only [ha, i_lcmp_0]
      exact if_pos trivial
    · exact (e2.ve r2 hrow).fr (fun x x0 x1 => hfr x (by omega) (by omega) (by omega)) (r2.ve hrow).2.2.2.1.2
    · rw [hfr _ (by omega) (by omega) (by omega), hM79, hm4]
    · rw [hm4]; omega
    · rw [hm4] at q1
      have hpw : pW M3 m q = pW M m q := by
        unfold pW
        rw [hfr _ (by omega) (by omega) (by omega), hM1c (m + 4) (by omega) (by omega)]
      obtain ⟨l1, l2, l3, l4⟩ := hra q q0 (by omega)
      obtain ⟨s1, s2, s3⟩ := n5 q q0 (by omega)
      rw [hpw]
      exact ⟨s1.fr (fun x x0 x1 => by rw [hfr x (by omega) (by omega) (by omega), hM1c x (by omega) (by omega)]) s2.2.2.2.1.2, s2, s3⟩
    · rw [hfr o (by omega) (by omega) (by omega), hM1c o (by omega) (by omega), hmk 9 (by decide) (by decide)]; exact n6
    · rw [hmk 9 (by decide) (by decide)] at h
      obtain ⟨s1, s2, s3⟩ := n7 h
      have h3 : M3 (m + 3) = M (m + 3) := by rw [hfr _ (by omega) (by omega) (by omega), hM1c _ (by omega) (by omega)]
      rw [h3]
      exact ⟨s1.fr (fun x x0 x1 => by rw [hfr x (by omega) (by omega) (by omega), hM1c x (by omega) (by omega)]) s2.2.2.2.1.2, s2, s3⟩
    · rw [hfr c (by omega) (by omega) ha, hM1c c (by omega) (by omega)]
    · rw [hfr o (by omega) (by omega) (by omega), hM1c o (by omega) (by omega)]
theorem k_c52 (hY : HY S Ln R M e o m a π b) {sz : Nat} {i0 : Int} : ∃ M' R', fL_c52 ad sz S Ln R M e o m a (a + 1) i0 = some (.inl (w32 (i0 + 5), S, Ln, M', R')) ∧ OKT S Ln R M o m a b R' M' := by
  obtain ⟨hO, hM, hd, hla, he, hN, hb⟩ := hY
  obtain ⟨hR, ⟨hI, n2⟩, n3, n4, n5, n6, n7⟩ := hN
  obtain ⟨M1, e1, e2, e3⟩ := f_copy (ad := ad) hO.2.2.2.1 hO.2.2.1 hR hI (by omega)
  obtain ⟨n1', n2', n3', n4', n5', n6', n7', n8'⟩ := hM.2.1
  obtain ⟨M3, c1, c2, c3, c4⟩ := x_copies (ad := ad) (S := S) (Ln := Ln) (R := R) (M := wr (wr M1 o 6 1) m 5 0) (a := m + 1) (c := m + 3) (i := 0) (j := 0) (by omega) (by omega) (by omega) (Or.inl (by omega))
  have hM1c : ∀ q, (q < o + 27 ∨ o + 53 ≤ q) → M1 q = M q := fun q hq => e3 q hq
  have hrow : ∀ j, 0 ≤ j → j < 113 → M3 (m + 3) j = M (m + 1) j := fun j j0 j1 => by
    have := c2 j j0 j1
    rw [Int.zero_add] at this
    rw [this, wr_a (by omega), wr_a (by omega), hM1c (m + 1) (by omega)]
  have hfr : ∀ c, c ≠ m → c ≠ o → wr M3 m 9 1 c = if c = m + 3 then M3 c else M1 c := fun c c0 c1' => by
    rw [wr_a c0]
    split
    · rfl
    · rename_i h; rw [c4 c h, wr_a c0, wr_a c1']
  have hf : ∀ c, c ≠ m → c ≠ o → c ≠ m + 3 → wr M3 m 9 1 c = M1 c := fun c c0 c1' c2' => by rw [hfr c c0 c1', if_neg c2']
  have hM1m : M1 m = M m := hM1c m (by omega)
  have hmk : ∀ k, k ≠ 5 → k ≠ 9 → wr M3 m 9 1 m k = M m k := fun k k5 k9 => by rw [wr_k k9, c4 m (by omega), wr_k k5, wr_a (by omega), hM1m]
  have hok : ∀ k, k ≠ 6 → wr M3 m 9 1 o k = M o k := fun k k6 => by rw [wr_a (by omega), c4 o (by omega), wr_a (by omega), wr_k k6, hM1c o (by omega)]
  have ho6 : wr M3 m 9 1 o 6 = 1 := by rw [wr_a (by omega), c4 o (by omega), wr_a (by omega), wr_s]
  have hv1 : wr M3 m 9 1 (m + 1) = M (m + 1) := by rw [hf _ (by omega) (by omega) (by omega), hM1c _ (by omega)]
  have hv4 : wr M3 m 9 1 (m + 4) = M (m + 4) := by rw [hf _ (by omega) (by omega) (by omega), hM1c _ (by omega)]
  have hv3 : wr M3 m 9 1 (m + 3) = M3 (m + 3) := wr_a (by omega)
  refine ⟨wr M3 m 9 1, R, ?_, ⟨⟨π, hO, INV.mono ⟨?_, ?_, ?_, ?_, fun q q0 q1 => ?_, ?_, fun h => ?_⟩ (show b ≤ b + 1 by omega) hb⟩, fun _ _ => rfl, fun c hc ha _ => ?_, hok, fun k k4 k5 k9 => hmk k k5 k9⟩⟩
  · unfold fL_c52 fX9_save fX10_save
    rw [o_1 hO, o_0 hO, e1, bd_s, nam_d, bd_s, nam_d, m_0 hM, m_2 hM, c1, bd_s, nam_d, bd_s]
  · rw [hv1]; exact hR.fr (fun x x0 x1 => by rw [hf x (by omega) (by omega) (by omega), hM1c x (by omega)]) hI.2.2.2.1.2
  · rw [hv1]; exact ⟨hI, n2⟩
  · rw [hf _ (by omega) (by omega) (by omega), hM1c _ (by omega), hmk 4 (by decide) (by decide)]; exact n3
  · rw [hmk 4 (by decide) (by decide)]; exact n4
  · rw [hmk 4 (by decide) (by decide)] at q1
    have hpw : pW (wr M3 m 9 1) m q = pW M m q := by unfold pW; rw [hv4]
    obtain ⟨l1, l2, l3, l4⟩ := hO.2.2.2.2.2.2.2.2.2.1 q q0 (by omega)
    obtain ⟨s1, s2, s3⟩ := n5 q q0 q1
    rw [hpw]
    exact ⟨s1.fr (fun x x0 x1 => by rw [hf x (by omega) (by omega) (by omega), hM1c x (by omega)]) s2.2.2.2.1.2, s2, s3⟩
  · rw [ho6, wr_s]
  · rw [hv3]
    exact ⟨(e2.ve hI hrow).fr (fun x x0 x1 => hf x (by omega) (by omega) (by omega)) (hI.ve hrow).2.2.2.1.2, hI.ve hrow, n2.ve hI.2.2.2.1.1 hrow⟩
  · rw [hf c (by omega) (by omega) (by omega), hM1c c (by omega)]
theorem k_c53 (hY : HY S Ln R M e o m a π b) {sz : Nat} {i0 : Int} : ∃ M' R', fL_c53 ad sz S Ln R M e o m a (a + 1) i0 = some (.inl (w32 (i0 + 5), S, Ln, M', R')) ∧ OKT S Ln R M o m a b R' M' := by
  have hY9 := hY
  obtain ⟨hO, hM, hd, hla, he, hN, hb⟩ := hY
  obtain ⟨hR, ⟨hI, n2⟩, n3, n4, n5, n6, n7⟩ := hN
  unfold fL_c53 fL_restore fX9_restore fX10_restore
  rw [n6]
  by_cases h0 : M m 9 = 0
  · refine ⟨wr M m 5 1, R, ?_, (q_ok hY9 SC.rf wr_r (fun c c0 _ _ => wr_a c0)).t hd⟩
    rw [if_neg (fun q => q h0), bd_s, se_r]
    dsimp only
    rw [if_pos rfl, bd_s]
    dsimp only
    rw [if_neg (fun q => q h0)]
    unfold fX10_restore_B13
    rw [m_isThrown, bd_s, thr_1]
    dsimp only
    rw [if_neg (by decide), bd_s, show fX10_thrown ad S Ln R (wr M m 5 1) m = some (wr M m 5 1 m 5) from rfl, bd_s, wr_s, if_pos rfl]
  · obtain ⟨r1, r2, r3⟩ := n7 h0
    obtain ⟨M1, e1, e2, e3⟩ := f_copy (ad := ad) hO.2.2.1 hO.2.2.2.1 r1 r2 (by omega)
    obtain ⟨n1', n2', n3', n4', n5', n6', n7', n8'⟩ := hM.2.1
    have hM1c : ∀ q, (q < o + 1 ∨ o + 27 ≤ q) → M1 q = M q := fun q hq => e3 q (by omega)
    obtain ⟨M3, c1, c2, c3, c4⟩ := x_copies (ad := ad) (S := S) (Ln := Ln) (R := R) (M := wr (wr M1 (o + 79) 1 0) m 5 0) (a := m + 3) (c := m + 1) (i := 0) (j := 0) (by omega) (by omega) (by omega) (Or.inl (by omega))
    have hrow : ∀ j, 0 ≤ j → j < 113 → M3 (m + 1) j = M (m + 3) j := fun j j0 j1 => by
      have := c2 j j0 j1
      rw [Int.zero_add] at this
      rw [this, wr_a (by omega), wr_a (by omega), hM1c (m + 3) (by omega)]
    have hf : ∀ c, c ≠ m → c ≠ o + 79 → c ≠ m + 1 → wr M3 m 4 0 c = M1 c := fun c c0 c1' c2' => by rw [wr_a c0, c4 c c2', wr_a c0, wr_a c1']
    have hwm : wr M1 (o + 79) 1 0 m = M m := by rw [wr_a (by omega), hM1c m (by omega)]
    have hmk : ∀ k, k ≠ 4 → k ≠ 5 → wr M3 m 4 0 m k = M m k := fun k k4 k5 => by rw [wr_k k4, c4 m (by omega), wr_k k5, hwm]
    have hm4 : wr M3 m 4 0 m 4 = 0 := wr_s
    have hv1 : wr M3 m 4 0 (m + 1) = M3 (m + 1) := wr_a (by omega)
    have hv3 : wr M3 m 4 0 (m + 3) = M (m + 3) := by rw [hf _ (by omega) (by omega) (by omega), hM1c _ (by omega)]
    refine ⟨wr M3 m 4 0, R, ?_, ⟨⟨π, hO, INV.mono ⟨?_, ?_, ?_, ?_, fun q q0 q1 => ?_, ?_, fun h => ?_⟩ (show b ≤ b + 1 by omega) hb⟩, fun _ _ => rfl, fun c hc ha _ => ?_, fun k _ => ?_, fun k k4 k5 _ => hmk k k4 k5⟩⟩
    · rw [if_pos h0, o_0 hO, o_1 hO, e1, bd_s, o_3 hO, nam_d, bd_s, se_l, bd_s]
      dsimp only
      simp only [hwm]
      rw [if_pos h0]
      unfold fX10_restore_B13
      rw [m_isThrown, bd_s, thr_0]
      dsimp only
      rw [if_pos rfl, m_2 hM, m_0 hM, c1, bd_s, nam_d, bd_s, show fX10_thrown ad S Ln R (wr M3 m 4 0) m = some (wr M3 m 4 0 m 5) from rfl, bd_s, wr_k (show (5 : Int) ≠ 4 by decide), c4 m (by omega), wr_s, if_pos rfl]
    · rw [hv1]; exact (e2.ve r2 hrow).fr (fun x x0 x1 => hf x (by omega) (by omega) (by omega)) (r2.ve hrow).2.2.2.1.2
    · rw [hv1]; exact ⟨r2.ve hrow, r3.ve r2.2.2.2.1.1 hrow⟩
    · rw [hm4, wr_a (by omega), c4 _ (by omega), wr_a (by omega), wr_s]
    · rw [hm4]; decide
    · rw [hm4] at q1; omega
    · rw [hf o (by omega) (by omega) (by omega), hM1c o (by omega), hmk 9 (by decide) (by decide)]; exact n6
    · rw [hv3]
      exact ⟨r1.fr (fun x x0 x1 => by rw [hf x (by omega) (by omega) (by omega), hM1c x (by omega)]) r2.2.2.2.1.2, r2, r3⟩
    · rw [hf c (by omega) (by omega) (by omega), hM1c c (by omega)]
    · rw [hf o (by omega) (by omega) (by omega), hM1c o (by omega)]
/-- the marks of the last run -/
def EI (M : gM) (o m : Nat) : Prop := (M o 7 = M m 6 ∧ -1 ≤ M m 6) ∧ M o 8 = M m 7 ∧ -1 ≤ M m 7
def tEr (x : Int) : Int := if x = -1 then 1 else 0
theorem k_c46 (hY : HY S Ln R M e o m a π b) (hE : EI M o m) {sz : Nat} {i0 : Int} : ∃ M' R', fL_c46 ad sz S Ln R M e o m a (a + 1) i0 = some (.inl (w32 (i0 + 5), S, Ln, M', R')) ∧ OKS S Ln R M o m a b R' M' := by
  have hla := hY.2.2.2.1
  have he := hE.1
  unfold fL_c46
  obtain ⟨M', e1, e2⟩ := q_case (ad := ad) (t := tEr (M m 6)) (rv := M m 6) (g := fun M1 => fX10_errorPosition ad S Ln R M1 m) (B := fun M4 => fL_c46_B2731 ad S Ln R M4 e o m a (a + 1) i0) (fl := fL_errorPosition ad S Ln R M o a) hY
    (by
      refine ⟨M, SC.rf, ?_⟩
      unfold fL_errorPosition fX9_errorPosition tEr
      rw [he.1]
      by_cases h : M m 6 = -1
      · rw [if_neg (fun q => q h), bd_s, se_r, if_pos h]; rfl
      · rw [if_pos h, bd_s, se_l, gd_t (by rw [hla.1]; decide), nam_d, if_neg h, if_pos rfl])
    (fun M1 l2 l3 l4 => by
      unfold MZQ fX10_errorPosition tEr
      rw [l3]
      unfold fX10_errorPosition_B13
      by_cases h : M m 6 = -1
      · rw [if_neg (by omega), if_pos h, m_isThrown, bd_s, thr_1]
        dsimp only
        rw [if_neg (by decide), if_neg (by decide)]
      · rw [if_pos (by omega), if_neg h, m_isThrown, bd_s, thr_0]
        dsimp only
        rw [if_pos rfl, wr_k (by decide), l3, if_pos rfl])
  exact ⟨M', R, e1, e2⟩
theorem k_c47 (hY : HY S Ln R M e o m a π b) (hE : EI M o m) {sz : Nat} {i0 : Int} : ∃ M' R', fL_c47 ad sz S Ln R M e o m a (a + 1) i0 = some (.inl (w32 (i0 + 5), S, Ln, M', R')) ∧ OKS S Ln R M o m a b R' M' := by
  have hla := hY.2.2.2.1
  have he := hE.2
  unfold fL_c47
  obtain ⟨M', e1, e2⟩ := q_case (ad := ad) (t := tEr (M m 7)) (rv := M m 7) (g := fun M1 => fX10_failedCommand ad S Ln R M1 m) (B := fun M4 => fL_c47_B2775 ad S Ln R M4 e o m a (a + 1) i0) (fl := fL_failedCommand ad S Ln R M o a) hY
    (by
      refine ⟨M, SC.rf, ?_⟩
      unfold fL_failedCommand fX9_failedCommand tEr
      rw [he.1]
      by_cases h : M m 7 = -1
      · rw [if_neg (fun q => q h), bd_s, se_r, if_pos h]; rfl
      · rw [if_pos h, bd_s, se_l, gd_t (by rw [hla.1]; decide), nam_d, if_neg h, if_pos rfl])
    (fun M1 l2 l3 l4 => by
      unfold MZQ fX10_failedCommand tEr
      rw [l3]
      unfold fX10_failedCommand_B13
      by_cases h : M m 7 = -1
      · rw [if_neg (by omega), if_pos h, m_isThrown, bd_s, thr_1]
        dsimp only
        rw [if_neg (by decide), if_neg (by decide)]
      · rw [if_pos (by omega), if_neg h, m_isThrown, bd_s, thr_0]
        dsimp only
        rw [if_pos rfl, wr_k (by decide), l3, if_pos rfl])
  exact ⟨M', R, e1, e2⟩
theorem k_c54 (hY : HY S Ln R M e o m a π b) {sz : Nat} {i0 : Int} : ∃ M' R', fL_c54 ad sz S Ln R M e o m a (a + 1) i0 = some (.inl (w32 (i0 + 5), S, Ln, M', R')) ∧ OKS S Ln R M o m a b R' M' := by
  refine ⟨M, R, rfl, ⟨π, hY.1, hY.2.2.2.2.2.1.mono (by omega) hY.2.2.2.2.2.2⟩, fun _ _ => rfl, fun _ _ _ _ => rfl, fun _ _ _ => rfl⟩
end PLN
