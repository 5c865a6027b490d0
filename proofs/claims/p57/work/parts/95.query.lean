/-! p57: what the contest answers -/
section Q57
variable {ad S Ln : Nat → Nat} {R : gR} {M : gM} {o : Nat} {π : Int → Nat} {b : Int} {v : gV}
theorem Q_G (hR : RpS M (o + 1) v) {p : Int} (h0 : 0 ≤ p) (h1 : p < v 4) : RpG M (o + 1 + 20 + p.toNat) (gl v p) := fun k k0 k1 => s_u hR h0 h1 k0 k1
theorem Q_K (hO : LyO S Ln R o π) (hR : RpS M (o + 1) v) (hI : IvS b v) {p : Int} (h0 : 0 ≤ p) (h1 : p < v 4) : fX9_knownPilot ad S Ln R M o p = some (.inl (o + 1 + 20 + p.toNat)) := by
  rw [O_known hO hR hI, if_pos ⟨h0, h1⟩]
theorem Q_isFlying (hO : LyO S Ln R o π) (hR : RpS M (o + 1) v) (hI : IvS b v) {p : Int} (h0 : 0 ≤ p) (h1 : p < v 4) : fX9_isFlying ad S Ln R M o p = some (.inl (bI (gl v p 1 = 1))) := by
  have hu := hI.2.2.2.2.2.2 p h0 h1
  unfold fX9_isFlying
  rw [Q_K hO hR hI h0 h1, bd_s, se_l, s_u hR h0 h1 (by decide) (by decide), gd_t hu.2.1.1]
  by_cases h : gl v p 1 = 1
  · rw [if_neg (fun q => q h), bI_t h]
  · rw [if_pos h, bI_f h]
theorem Q_isLanded (hO : LyO S Ln R o π) (hR : RpS M (o + 1) v) (hI : IvS b v) {p : Int} (h0 : 0 ≤ p) (h1 : p < v 4) : fX9_isLanded ad S Ln R M o p = some (.inl (bI (gl v p 1 = 2))) := by
  have hu := hI.2.2.2.2.2.2 p h0 h1
  unfold fX9_isLanded
  rw [Q_K hO hR hI h0 h1, bd_s, se_l, s_u hR h0 h1 (by decide) (by decide), gd_t hu.2.1.1]
  by_cases h : gl v p 1 = 2
  · rw [if_neg (fun q => q h), bI_t h]
  · rw [if_pos h, bI_f h]
theorem Q_isFinished (hO : LyO S Ln R o π) (hR : RpS M (o + 1) v) (hI : IvS b v) {p : Int} (h0 : 0 ≤ p) (h1 : p < v 4) : fX9_isFinished ad S Ln R M o p = some (.inl (bI (gl v p 1 = 3))) := by
  have hu := hI.2.2.2.2.2.2 p h0 h1
  unfold fX9_isFinished
  rw [Q_K hO hR hI h0 h1, bd_s, se_l, s_u hR h0 h1 (by decide) (by decide), gd_t hu.2.1.1]
  by_cases h : gl v p 1 = 3
  · rw [if_neg (fun q => q h), bI_t h]
  · rw [if_pos h, bI_f h]
theorem Q_sink (hO : LyO S Ln R o π) (hR : RpS M (o + 1) v) (hI : IvS b v) {p : Int} (h0 : 0 ≤ p) (h1 : p < v 4) : fX9_sink ad S Ln R M o p = some (.inl (snk (gl v p))) := by
  have hu := (hI.2.2.2.2.2.2 p h0 h1).1
  unfold fX9_sink
  rw [Q_K hO hR hI h0 h1, bd_s, se_l, g_sink (u := gl v p) (Q_G hR h0 h1) (by omega), bd_s]
theorem Q_L (hO : LyO S Ln R o π) (hR : RpS M (o + 1) v) (hI : IvS b v) {p : Int} (h0 : 0 ≤ p) (h1 : p < v 4) (h2 : gl v p 1 ≠ 0) : fX9_launchedPilot ad S Ln R M o p = some (.inl (o + 1 + 20 + p.toNat)) := by
  rw [O_launched hO hR hI, if_pos ⟨h0, h1⟩, if_neg h2]
theorem Q_x (hO : LyO S Ln R o π) (hR : RpS M (o + 1) v) (hI : IvS b v) {p : Int} (h0 : 0 ≤ p) (h1 : p < v 4) (h2 : gl v p 1 ≠ 0) : fX9_x ad S Ln R M o p = some (.inl (gl v p 2)) := by
  unfold fX9_x
  rw [Q_L hO hR hI h0 h1 h2, bd_s, se_l, s_u hR h0 h1 (by decide) (by decide)]
theorem Q_y (hO : LyO S Ln R o π) (hR : RpS M (o + 1) v) (hI : IvS b v) {p : Int} (h0 : 0 ≤ p) (h1 : p < v 4) (h2 : gl v p 1 ≠ 0) : fX9_y ad S Ln R M o p = some (.inl (gl v p 3)) := by
  unfold fX9_y
  rw [Q_L hO hR hI h0 h1 h2, bd_s, se_l, s_u hR h0 h1 (by decide) (by decide)]
theorem Q_height (hO : LyO S Ln R o π) (hR : RpS M (o + 1) v) (hI : IvS b v) {p : Int} (h0 : 0 ≤ p) (h1 : p < v 4) (h2 : gl v p 1 ≠ 0) : fX9_height ad S Ln R M o p = some (.inl (gl v p 4)) := by
  unfold fX9_height
  rw [Q_L hO hR hI h0 h1 h2, bd_s, se_l, s_u hR h0 h1 (by decide) (by decide)]
theorem Q_minutes (hO : LyO S Ln R o π) (hR : RpS M (o + 1) v) (hI : IvS b v) {p : Int} (h0 : 0 ≤ p) (h1 : p < v 4) (h2 : gl v p 1 ≠ 0) : fX9_minutes ad S Ln R M o p = some (.inl (gl v p 5)) := by
  unfold fX9_minutes
  rw [Q_L hO hR hI h0 h1 h2, bd_s, se_l, s_u hR h0 h1 (by decide) (by decide)]
theorem Q_penalty (hO : LyO S Ln R o π) (hR : RpS M (o + 1) v) (hI : IvS b v) {p : Int} (h0 : 0 ≤ p) (h1 : p < v 4) (h2 : gl v p 1 ≠ 0) : fX9_penalty ad S Ln R M o p = some (.inl (gl v p 6)) := by
  unfold fX9_penalty
  rw [Q_L hO hR hI h0 h1 h2, bd_s, se_l, s_u hR h0 h1 (by decide) (by decide)]
theorem Q_reached (hO : LyO S Ln R o π) (hR : RpS M (o + 1) v) (hI : IvS b v) {p : Int} (h0 : 0 ≤ p) (h1 : p < v 4) : fX9_reached ad S Ln R M o p = some (.inl (gl v p 7)) := by
  unfold fX9_reached
  rw [Q_K hO hR hI h0 h1, bd_s, se_l, s_u hR h0 h1 (by decide) (by decide)]
theorem Q_total (hO : LyO S Ln R o π) (hR : RpS M (o + 1) v) (hI : IvS b v) {p : Int} (h0 : 0 ≤ p) (h1 : p < v 4) : fX9_total ad S Ln R M o p = some (.inl (gl v p 8)) := by
  unfold fX9_total
  rw [Q_K hO hR hI h0 h1, bd_s, se_l, s_u hR h0 h1 (by decide) (by decide)]
theorem Q_achieved (hO : LyO S Ln R o π) (hR : RpS M (o + 1) v) (hI : IvS b v) {p : Int} (h0 : 0 ≤ p) (h1 : p < v 4) : fX9_achievedDistance ad S Ln R M o p = some (.inl (acU v (gl v p))) := by
  unfold fX9_achievedDistance
  rw [o_0 hO, Q_K hO hR hI h0 h1, bd_s, se_l, s_done hO.2.2.1 hR hI (Q_G hR h0 h1) (hI.2.2.2.2.2.2 p h0 h1), bd_s]
theorem Q_score (hO : LyO S Ln R o π) (hR : RpS M (o + 1) v) (hI : IvS b v) {p : Int} (h0 : 0 ≤ p) (h1 : p < v 4) : fX9_dayScore ad S Ln R M o p = some (.inl (scU v (gl v p))) := by
  unfold fX9_dayScore
  rw [o_0 hO, Q_K hO hR hI h0 h1, bd_s, se_l, s_score hO.2.2.1 hR hI (Q_G hR h0 h1) (hI.2.2.2.2.2.2 p h0 h1), bd_s]
theorem Q_canFinish (hO : LyO S Ln R o π) (hR : RpS M (o + 1) v) (hI : IvS b v) {p : Int} (h0 : 0 ≤ p) (h1 : p < v 4) (h2 : gl v p 1 = 1) : fX9_canFinish ad S Ln R M o p = some (.inl (bI ((lfU v (gl v p) - 1) * snk (gl v p) < gl v p 4))) := by
  unfold fX9_canFinish
  rw [o_0 hO, O_inPhase hO hR hI, if_pos ⟨h0, h1⟩, if_pos h2, bd_s, se_l, s_byHeight hO.2.2.1 hR hI (Q_G hR h0 h1) (hI.2.2.2.2.2.2 p h0 h1) h2, bd_s]
theorem Q_simul (hO : LyO S Ln R o π) (hR : RpS M (o + 1) v) (hI : IvS b v) {p : Int} (h0 : 0 ≤ p) (h1 : p < v 4) (h2 : gl v p 1 = 1) : ∃ M', fX9_canFinishBySimulation ad S Ln R M o p = some (.inl (bI ((lfU v (gl v p) - 1) * snk (gl v p) < gl v p 4), M')) ∧ SC M M' o := by
  obtain ⟨M', e1, e2⟩ := f_inFlight (ad := ad) hO.2.2.1 hR hI (by omega) (Q_G hR h0 h1) (hI.2.2.2.2.2.2 p h0 h1) h2
  refine ⟨M', ?_, fun c _ _ _ c3 => e2 c (by omega)⟩
  unfold fX9_canFinishBySimulation
  rw [o_0 hO, O_inPhase hO hR hI, if_pos ⟨h0, h1⟩, if_pos h2, bd_s, se_l, e1, bd_s]
theorem Q_left (hO : LyO S Ln R o π) (hR : RpS M (o + 1) v) (hI : IvS b v) (p : Int) : fX9_remainingDistance ad S Ln R M o p = some (if 0 ≤ p ∧ p < v 4 then (if gl v p 1 = 1 then .inl (lfU v (gl v p)) else .inr "java/lang/IllegalStateException") else .inr "java/lang/IndexOutOfBoundsException") := by
  unfold fX9_remainingDistance
  rw [o_0 hO, O_inPhase hO hR hI, bd_s]
  by_cases h : 0 ≤ p ∧ p < v 4
  · rw [if_pos h, if_pos h]
    by_cases h1 : gl v p 1 = 1
    · rw [if_pos h1, if_pos h1, se_l, s_left hO.2.2.1 hR hI (Q_G hR h.1 h.2) (hI.2.2.2.2.2.2 p h.1 h.2) h1, bd_s]
    · rw [if_neg h1, if_neg h1, se_r]
  · rw [if_neg h, if_neg h, se_r]
theorem W_left (hO : LyO S Ln R o π) (hR : RpS M (o + 1) v) (hI : IvS b v) (p : Int) : fL_remainingDistance ad S Ln R M o p = some (if 0 ≤ p ∧ p < v 4 then (if gl v p 1 = 1 then lfU v (gl v p) else -900002) else -900001) := by
  unfold fL_remainingDistance
  rw [Q_left hO hR hI, bd_s]
  by_cases h : 0 ≤ p ∧ p < v 4
  · rw [if_pos h, if_pos h]
    by_cases h1 : gl v p 1 = 1
    · rw [if_pos h1, if_pos h1, se_l]
    · rw [if_neg h1, if_neg h1, se_r, if_neg (by decide), if_pos rfl]
  · rw [if_neg h, if_neg h, se_r, if_pos rfl]
theorem Q_taskLength (hO : LyO S Ln R o π) (hR : RpS M (o + 1) v) : fX9_taskLength ad S Ln R M o = some (v 1) := by
  unfold fX9_taskLength
  rw [o_0 hO, s_c hO.2.2.1, hR.1.2.1]
theorem Q_pointCount (hO : LyO S Ln R o π) (hR : RpS M (o + 1) v) : fX9_pointCount ad S Ln R M o = some (v 0) := by
  unfold fX9_pointCount
  rw [o_0 hO, s_c hO.2.2.1, hR.1.1]
theorem Q_pilotCount (hO : LyO S Ln R o π) (hR : RpS M (o + 1) v) : fX9_pilotCount ad S Ln R M o = some (v 4) := by
  unfold fX9_pilotCount
  rw [o_0 hO, hR.2.2.2.1]
theorem Q_cloudBase (hO : LyO S Ln R o π) (hR : RpS M (o + 1) v) : fX9_cloudBase ad S Ln R M o = some (v 5) := by
  unfold fX9_cloudBase
  rw [o_0 hO, s_a hO.2.2.1, hR.2.1.2.1]
theorem Q_days (hO : LyO S Ln R o π) (hR : RpS M (o + 1) v) : fX9_days ad S Ln R M o = some (v 6) := by
  unfold fX9_days
  rw [o_0 hO, hR.2.2.2.2.1]
theorem Q_whole (hO : LyO S Ln R o π) (hR : RpS M (o + 1) v) (hI : IvS b v) : fX9_taskDistance ad S Ln R M o = some (whl v) := by
  unfold fX9_taskDistance
  rw [o_0 hO, s_c hO.2.2.1, c_whole hO.2.2.1.2.2.1 hR.1 hI.1, bd_s]
theorem Q_planning (hO : LyO S Ln R o π) (hR : RpS M (o + 1) v) (hI : IvS b v) : fX9_isPlanning ad S Ln R M o = some (bI (pln v)) := by
  unfold fX9_isPlanning
  rw [o_0 hO, s_allWaiting hO.2.2.1 hR hI, bd_s]
theorem Q_distance (hO : LyO S Ln R o π) (hR : RpS M (o + 1) v) (hI : IvS b v) {p q : Int} (h1 : 0 ≤ p ∧ p < v 0) (h2 : 0 ≤ q ∧ q < v 0) : fX9_distance ad S Ln R M o p q = some (.inl (apt v p q)) := by
  unfold fX9_distance
  rw [o_0 hO, s_c hO.2.2.1, c_hasPoint hR.1, bd_s, bI_t h1, if_neg (by decide), o_0 hO, s_c hO.2.2.1, c_hasPoint hR.1, bd_s, bI_t h2, if_pos (by decide), o_0 hO, s_c hO.2.2.1, c_span hO.2.2.1.2.2.1 hR.1 hI.1 h1.1 h1.2 h2.1 h2.2, bd_s]
theorem Q_taskPoint (hO : LyO S Ln R o π) (hR : RpS M (o + 1) v) (hI : IvS b v) {i : Int} (h1 : 0 ≤ i ∧ i < v 1) : fX9_taskPoint ad S Ln R M o i = some (.inl (v (23 + i))) := by
  have i6 := hI.1.2.1
  obtain ⟨⟨s0, s1, s2, s3, s4⟩, ⟨n1, n2, n3, n4⟩, r0, r1, r3, r4⟩ := hO.2.2.1.2.2.1
  unfold fX9_taskPoint
  rw [o_0 hO, s_c hO.2.2.1, c_hasStop hR.1, bd_s, bI_t h1, if_pos (by decide), o_0 hO, s_c hO.2.2.1, rf_o r3 s3, gd_t (by rw [n3]; omega), hR.1.2.2.2.1 i h1.1 h1.2]
theorem Q_isRestricted (hO : LyO S Ln R o π) (hR : RpS M (o + 1) v) (hI : IvS b v) {x y : Int} (h : (0 ≤ x ∧ x ≤ 60) ∧ 0 ≤ y ∧ y ≤ 60) : fX9_isRestricted ad S Ln R M o x y = some (.inl (bI (rst v x y))) := by
  unfold fX9_isRestricted
  rw [O_place, bd_s, if_pos h, se_l, o_0 hO, s_b hO.2.2.1, b_covers hO.2.2.1.2.2.2.2.1 hR.2.2.1 hI.2.2.1, bd_s]
theorem Q_row (hO : LyO S Ln R o π) (hR : RpS M (o + 1) v) (hI : IvS b v) {y : Int} (h : 0 ≤ y ∧ y ≤ 60) : fX9_restrictedInRow ad S Ln R M o y = some (.inl (cnt v y 61)) := by
  unfold fX9_restrictedInRow
  rw [O_place, bd_s, if_pos (show ((0 : Int) ≤ 0 ∧ (0 : Int) ≤ 60) ∧ 0 ≤ y ∧ y ≤ 60 by omega), se_l, o_0 hO, s_b hO.2.2.1, b_byPositions hO.2.2.1.2.2.2.2.1 hR.2.2.1 hI.2.2.1, bd_s]
theorem Q_ranges (hO : LyO S Ln R o π) (hR : RpS M (o + 1) v) (hI : IvS b v) {y : Int} (h : 0 ≤ y ∧ y ≤ 60) : ∃ M', fX9_restrictedInRowByRanges ad S Ln R M o y = some (.inl (cnt v y 61, M')) ∧ SC M M' o := by
  obtain ⟨M', e1, e2⟩ := b_byRanges (ad := ad) hO.2.2.1.2.2.2.2.1 hR.2.2.1 hI.2.2.1 y
  refine ⟨M', ?_, fun c c0 c1 _ _ => e2 c (by omega) (by omega)⟩
  unfold fX9_restrictedInRowByRanges
  rw [O_place, bd_s, if_pos (show ((0 : Int) ≤ 0 ∧ (0 : Int) ≤ 60) ∧ 0 ≤ y ∧ y ≤ 60 by omega), se_l, o_0 hO, s_b hO.2.2.1, e1, bd_s]
theorem RpS.sc9 {M' : gM} (hR : RpS M (o + 1) v) (hI : IvS b v) (h : SC M M' o) : RpS M' (o + 1) v := hR.sc hI.2.2.2.1.2 (fun q _ _ c1 c2 c3 c4 => h q c1 c2 c3 c4)
theorem SC.tr {M1 M2 : gM} (h : SC M M1 o) (h2 : SC M1 M2 o) : SC M M2 o := fun c c1 c2 c3 c4 => (h2 c c1 c2 c3 c4).trans (h c c1 c2 c3 c4)
theorem Q_consistent (hO : LyO S Ln R o π) (hR : RpS M (o + 1) v) (hI : IvS b v) : ∃ M', fX9_isConsistent ad S Ln R M o = some (1, M') ∧ SC M M' o := by
  obtain ⟨M1, e1, e2⟩ := s_rows (ad := ad) hO.2.2.1 hR hI
  have h1 : SC M M1 o := fun c c1 c2 c3 c4 => e2 c c1 c2 c3 c4
  have hR1 := hR.sc9 hI h1
  obtain ⟨M2, f1, f2⟩ := s_forecasts (ad := ad) hO.2.2.1 hR1 hI
  have h2 : SC M1 M2 o := fun c c1 c2 c3 c4 => f2 c c1 c2 c3 c4
  have hR2 := hR1.sc9 hI h2
  refine ⟨M2, ?_, h1.tr h2⟩
  unfold fX9_isConsistent
  rw [o_0 hO, e1, bd_s]
  dsimp only
  rw [if_neg (by decide), o_0 hO, f1, bd_s]
  dsimp only
  rw [if_neg (by decide), o_0 hO, s_bounded hO.2.2.1 hR2 hI, bd_s, if_neg (by decide)]
/-- the lengths of the first n legs, as the law sums them -/
theorem W_legs (hO : LyO S Ln R o π) (hR : RpS M (o + 1) v) (hI : IvS b v) {n : Nat} (hn : (n : Int) ≤ v 1 - 1) : fL_legs ad S Ln R M o (n : Int) = some (lgs v n) := by
  have i6 := hI.1.2.1
  unfold fL_legs
  rw [lp_up0 n (fun t => (lgs v t, (t : Int))) (r := .inl (lgs v n)) (s := ((0 : Int), (0 : Int))) rfl (by omega) (fun t ht => ?_) ?_, bd_s, se_l]
  · unfold fL_legs_L4
    dsimp only
    rw [if_pos (Int.le_refl _)]
  · have hb := lgs_b hI.1 t (by omega)
    have hl := leg_120 hI.1 (k := t) (by omega) (by omega)
    obtain ⟨a1, a2⟩ := hI.1.2.2.2.1 t (by omega) (by omega)
    obtain ⟨b1, b2⟩ := hI.1.2.2.2.1 (t + 1) (by omega) (by omega)
    have ec : ((t : Int) + 1) = ((t + 1 : Nat) : Int) := by omega
    unfold fL_legs_L4
    dsimp only
    rw [if_neg (by omega), Q_taskPoint hO hR hI ⟨by omega, by omega⟩, bd_s, se_l, w32_i (z := (t : Int) + 1) (by omega) (by omega), Q_taskPoint hO hR hI (i := (t : Int) + 1) ⟨by omega, by omega⟩, bd_s, se_l, Q_distance hO hR hI ⟨a1, a2⟩ ⟨b1, b2⟩, bd_s, se_l]
    have e1 : apt v (v (23 + t)) (v (23 + ((t : Int) + 1))) = leg v t := by
      unfold leg
      rw [show (23 : Int) + ((t : Int) + 1) = 24 + t by omega]
    rw [e1, w32_i (z := lgs v t + leg v t) (by omega) (by omega), ec]
    rfl
end Q57
