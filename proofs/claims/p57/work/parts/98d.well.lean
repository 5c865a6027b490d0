/-! p57: the law finds all well -/
/-- the least minutes of the first n pilots that have finished, as the law finds it; 0 where none has -/
def lsF (v : gV) : Nat → Int
  | 0 => 0
  | n + 1 => if gl v n 1 = 3 ∧ (lsF v n = 0 ∨ gl v n 5 < lsF v n) then gl v n 5 else lsF v n
def fin1 (v : gV) (n : Nat) : Prop := ∃ q : Nat, q < n ∧ gl v q 1 = 3
theorem lsF_s {v : gV} {N : Nat} (hp : ∀ q : Nat, q < N → gl v q 1 = 3 → 0 < gl v q 5) : ∀ n : Nat, n ≤ N → (lsF v n = 0 ∧ (∀ q : Nat, q < n → gl v q 1 ≠ 3)) ∨ (0 < lsF v n ∧ (∃ q : Nat, q < n ∧ gl v q 1 = 3 ∧ gl v q 5 = lsF v n) ∧ ∀ q : Nat, q < n → gl v q 1 = 3 → lsF v n ≤ gl v q 5) := by
  intro n
  induction n with
  | zero => intro _; exact Or.inl ⟨rfl, fun q h => absurd h (Nat.not_lt_zero _)⟩
  | succ n ih =>
    intro hn
    have h1 := ih (by omega)
    unfold lsF
    by_cases h3 : gl v n 1 = 3
    · have h5 := hp n (by omega) h3
      rcases h1 with ⟨a1, a2⟩ | ⟨a1, ⟨q, a2, a3, a4⟩, a5⟩
      · rw [if_pos ⟨h3, Or.inl a1⟩]
        refine Or.inr ⟨h5, ⟨n, Nat.lt_succ_self _, h3, rfl⟩, fun q hq h => ?_⟩
        by_cases e : q = n
        · rw [e]; exact Int.le_refl _
        · exact absurd h (a2 q (by omega))
      · by_cases h6 : gl v n 5 < lsF v n
        · rw [if_pos ⟨h3, Or.inr h6⟩]
          refine Or.inr ⟨h5, ⟨n, Nat.lt_succ_self _, h3, rfl⟩, fun q hq h => ?_⟩
          by_cases e : q = n
          · rw [e]; exact Int.le_refl _
          · have := a5 q (by omega) h; omega
        · rw [if_neg (fun h => h.2.elim (fun h => by omega) (fun h => h6 h))]
          refine Or.inr ⟨a1, ⟨q, by omega, a3, a4⟩, fun q hq h => ?_⟩
          by_cases e : q = n
          · rw [e]; omega
          · exact a5 q (by omega) h
    · rw [if_neg (fun h => h3 h.1)]
      rcases h1 with ⟨a1, a2⟩ | ⟨a1, ⟨q, a2, a3, a4⟩, a5⟩
      · refine Or.inl ⟨a1, fun q hq h => ?_⟩
        by_cases e : q = n
        · rw [e] at h; exact h3 h
        · exact a2 q (by omega) h
      · refine Or.inr ⟨a1, ⟨q, by omega, a3, a4⟩, fun q hq h => ?_⟩
        by_cases e : q = n
        · rw [e] at h; exact absurd h h3
        · exact a5 q (by omega) h
theorem lms_s {v : gV} {m : Int} : ∀ n : Nat, lms v m n ≤ m ∧ (∀ q : Nat, q < n → gl v q 1 = 3 → lms v m n ≤ gl v q 5) ∧ (lms v m n = m ∨ ∃ q : Nat, q < n ∧ gl v q 1 = 3 ∧ gl v q 5 = lms v m n) := by
  intro n
  induction n with
  | zero => exact ⟨Int.le_refl _, fun q h => absurd h (Nat.not_lt_zero _), Or.inl rfl⟩
  | succ n ih =>
    obtain ⟨a1, a2, a3⟩ := ih
    unfold lms
    by_cases h : gl v n 1 = 3 ∧ gl v n 5 < lms v m n
    · rw [if_pos h]
      refine ⟨by omega, fun q hq h3 => ?_, Or.inr ⟨n, Nat.lt_succ_self _, h.1, rfl⟩⟩
      by_cases e : q = n
      · rw [e]; exact Int.le_refl _
      · have := a2 q (by omega) h3; omega
    · rw [if_neg h]
      refine ⟨a1, fun q hq h3 => ?_, a3.imp id (fun ⟨q, h1, h2⟩ => ⟨q, by omega, h2⟩)⟩
      by_cases e : q = n
      · subst e
        exact Int.not_lt.mp (fun h5 => h ⟨h3, h5⟩)
      · exact a2 q (by omega) h3
theorem lsF_lms {v : gV} {N : Nat} (hp : ∀ q : Nat, q < N → gl v q 1 = 3 → 0 < gl v q 5) {p : Nat} (hpN : p < N) (h3 : gl v p 1 = 3) : lsF v N = lms v (gl v p 5) N ∧ 0 < lsF v N := by
  obtain ⟨b1, b2, b3⟩ := @lms_s v (gl v p 5) N
  rcases lsF_s hp N (Nat.le_refl _) with ⟨a1, a2⟩ | ⟨a1, ⟨q, a2, a3, a4⟩, a5⟩
  · exact absurd h3 (a2 p hpN)
  · refine ⟨?_, a1⟩
    have c1 := b2 q a2 a3
    rcases b3 with c2 | ⟨r, c2, c3, c4⟩
    · have := a5 p hpN h3
      omega
    · have := a5 r c2 c3
      omega
theorem bI_n {p : Prop} (h : p) : ¬ bI p = 0 := by rw [bI_t h]; decide
section WE57
variable {ad S Ln : Nat → Nat} {R : gR} {M : gM} {o : Nat} {π : Int → Nat} {b : Int} {v : gV}
theorem we_L30 (hO : LyO S Ln R o π) (hR : RpS M (o + 1) v) (hI : IvS b v) {l1 l2 : Int} : lp (fL_isWell_L30 ad S Ln R M o l1 l2) FU (0, 0) = some (.inl (lsF v (v 4).toNat)) := by
  have i4 := hI.2.2.2.1
  refine lp_up0 (v 4).toNat (fun t => (lsF v t, (t : Int))) rfl (by omega) (fun t ht => ?_) ?_
  · unfold fL_isWell_L30
    dsimp only
    have p0 : (0 : Int) ≤ t := by omega
    have p1 : (t : Int) < v 4 := by omega
    have ec : ((t + 1 : Nat) : Int) = (t : Int) + 1 := by omega
    have en : w32 ((t : Int) + 1) = (t : Int) + 1 := w32_i (by omega) (by omega)
    show _ = some (Sum.inl ((if gl v t 1 = 3 ∧ (lsF v t = 0 ∨ gl v t 5 < lsF v t) then gl v t 5 else lsF v t), ((t + 1 : Nat) : Int)))
    rw [ec, Q_pilotCount hO hR, bd_s, if_neg (by omega), Q_isFinished hO hR hI p0 p1, bd_s, se_l]
    unfold fL_isWell_B71 fL_isWell_B62 fL_isWell_B72
    rw [en]
    by_cases h3 : gl v t 1 = 3
    · rw [bI_t h3, if_neg (by decide), Q_minutes hO hR hI p0 p1 (by omega), bd_s, se_l]
      by_cases h0 : lsF v t = 0
      · rw [if_pos h0, if_pos ⟨h3, Or.inl h0⟩]
      · rw [if_neg h0, bd_s, se_l]
        by_cases h5 : lsF v t ≤ gl v t 5
        · rw [if_pos h5, if_neg (fun h => h.2.elim h0 (fun h => by omega))]
        · rw [if_neg h5, if_pos ⟨h3, Or.inr (by omega)⟩]
    · rw [bI_f h3, if_pos rfl, if_neg (fun h => h3 h.1)]
  · unfold fL_isWell_L30
    dsimp only
    rw [Q_pilotCount hO hR, bd_s, if_pos (by omega)]
/-- a pilot that doesn't wait: the rest of the law's checks -/
theorem we_B317 (hO : LyO S Ln R o π) (hR : RpS M (o + 1) v) (hI : IvS b v) (hX : IvX v) {p : Int} (p0 : 0 ≤ p) (p1 : p < v 4) (h0 : gl v p 1 ≠ 0) {l2 l3 l9 : Int} {cc : Nat} (h9 : scU v (gl v p) = i_max 0 l9) :
    ∃ M', fL_isWell_B317 ad S Ln R M o (whl v) l2 l3 p (bI (gl v p 1 = 1)) (acU v (gl v p)) l9 cc = some (.inl (l2, p + 1, M', cc + 1)) ∧ SC M M' o := by
  have i4 := hI.2.2.2.1
  have hu := hI.2.2.2.2.2.2 p p0 p1
  have hx := (hX p p0 p1).2.2
  have h6 := hu.2.2.2.2.2.1
  have hw := whl_b hI.1
  have i6 := hI.1.2.1
  have ep : w32 (p + 1) = p + 1 := w32_i (by omega) (by omega)
  have et : Int.tmod (gl v p 6) 10 = 0 := by rw [Int.tmod_eq_emod_of_nonneg h6.1]; exact hx
  unfold fL_isWell_B317
  rw [Q_score hO hR hI p0 p1, bd_s, se_l, if_neg (fun q => q h9), Q_penalty hO hR hI p0 p1 h0, bd_s, se_l, gd_t (by decide), if_pos et]
  by_cases h1 : gl v p 1 = 1
  · have hlf := lfU_b hI.1 hu h1
    have hsn := snk_b hu.1.1 hu.1.2
    obtain ⟨f0, f1, ⟨f2, f3⟩, f4, f5, f6, f7, f8, q1, q2, q3, q4⟩ := hu
    have g1 := q1 (by omega)
    have g2 := q2 (Or.inl h1)
    have g3 := q3 h1
    have c1 : (((gl v p 7).toNat : Nat) : Int) = gl v p 7 := by omega
    have c2 : (((gl v p 7 - 1).toNat : Nat) : Int) = gl v p 7 - 1 := by omega
    have hl1 := W_legs (ad := ad) hO hR hI (n := (gl v p 7).toNat) (by omega)
    have hl2 := W_legs (ad := ad) hO hR hI (n := (gl v p 7 - 1).toNat) (by omega)
    rw [c1] at hl1
    rw [c2] at hl2
    have b1 := lgs_b hI.1 (gl v p 7).toNat (by omega)
    have b2 := lgs_b hI.1 (gl v p 7 - 1).toNat (by omega)
    have b3 := leg_120 hI.1 (k := gl v p 7 - 1) (by omega) (by omega)
    obtain ⟨a1, a2⟩ := hI.1.2.2.2.1 (gl v p 7 - 1) (by omega) (by omega)
    obtain ⟨d1, d2⟩ := hI.1.2.2.2.1 (gl v p 7) (by omega) g2
    have hds := dst_120 hI.1 d1 d2 f2.1 f2.2 f3.1 f3.2
    have elg : apt v (v (23 + (gl v p 7 - 1))) (v (23 + gl v p 7)) = leg v (gl v p 7 - 1) := by
      unfold leg
      rw [show (24 : Int) + (gl v p 7 - 1) = 23 + gl v p 7 by omega]
    have elf : lfU v (gl v p) = dst v (v (23 + gl v p 7)) (gl v p 2) (gl v p 3) + (whl v - lgs v (gl v p 7).toNat) := rfl
    have eac : acU v (gl v p) = lgs v (gl v p 7 - 1).toNat + (if 0 < leg v (gl v p 7 - 1) - dst v (v (23 + gl v p 7)) (gl v p 2) (gl v p 3) then leg v (gl v p 7 - 1) - dst v (v (23 + gl v p 7)) (gl v p 2) (gl v p 3) else 0) := by
      unfold acU
      rw [if_neg h0, if_neg (by omega)]
    have emx : i_max 0 (leg v (gl v p 7 - 1) - dst v (v (23 + gl v p 7)) (gl v p 2) (gl v p 3)) = if 0 < leg v (gl v p 7 - 1) - dst v (v (23 + gl v p 7)) (gl v p 2) (gl v p 3) then leg v (gl v p 7 - 1) - dst v (v (23 + gl v p 7)) (gl v p 2) (gl v p 3) else 0 := rfl
    have m1 : 0 ≤ (lfU v (gl v p) - 1) * snk (gl v p) := Int.mul_nonneg (by omega) (by omega)
    have m2 : (lfU v (gl v p) - 1) * snk (gl v p) ≤ 720 * 1000 := Int.mul_le_mul (by omega) hsn.2 (by omega) (by omega)
    obtain ⟨M', e1, e2⟩ := Q_simul (ad := ad) hO hR hI p0 p1 h1
    have hR' := hR.sc9 hI e2
    refine ⟨M', ?_, e2⟩
    rw [if_neg (bI_n h1), W_left hO hR hI, if_pos ⟨p0, p1⟩, if_pos h1, bd_s, Q_reached hO hR hI p0 p1, bd_s, se_l, hl1, bd_s, bd_s, se_l, w32_i (z := gl v p 7 - 1) (by omega) (by omega), Q_taskPoint hO hR hI (i := gl v p 7 - 1) ⟨by omega, by omega⟩, bd_s, se_l, bd_s, se_l, Q_taskPoint hO hR hI (i := gl v p 7) ⟨by omega, by omega⟩, bd_s, se_l, Q_distance hO hR hI ⟨a1, a2⟩ ⟨d1, d2⟩, bd_s, se_l, elg]
    have ew : w32 (whl v - lgs v (gl v p 7).toNat) = whl v - lgs v (gl v p 7).toNat := w32_i (by omega) (by omega)
    have ed : w32 (lfU v (gl v p) - (whl v - lgs v (gl v p 7).toNat)) = dst v (v (23 + gl v p 7)) (gl v p 2) (gl v p 3) := by
      rw [w32_i (by omega) (by omega)]
      omega
    have ee : w32 (leg v (gl v p 7 - 1) - dst v (v (23 + gl v p 7)) (gl v p 2) (gl v p 3)) = leg v (gl v p 7 - 1) - dst v (v (23 + gl v p 7)) (gl v p 2) (gl v p 3) := w32_i (by omega) (by omega)
    have ea : acU v (gl v p) = w32 (lgs v (gl v p 7 - 1).toNat + i_max 0 (leg v (gl v p 7 - 1) - dst v (v (23 + gl v p 7)) (gl v p 2) (gl v p 3))) := by
      rw [eac, emx, w32_i (by split <;> omega) (by split <;> omega)]
    rw [ew, ed, if_neg (by omega), bd_s, se_l, w32_i (z := gl v p 7 - 1) (by omega) (by omega), hl2, bd_s, ee, if_neg (fun q => q ea), Q_canFinish hO hR hI p0 p1 h1, bd_s, se_l, Q_height hO hR hI p0 p1 h0, bd_s, se_l, Q_sink hO hR hI p0 p1, bd_s, se_l, w32_i (z := lfU v (gl v p) - 1) (by omega) (by omega), w32_i (z := (lfU v (gl v p) - 1) * snk (gl v p)) (by omega) (by omega)]
    unfold fL_isWell_B472 fL_isWell_B492
    by_cases hc : (lfU v (gl v p) - 1) * snk (gl v p) < gl v p 4
    · rw [if_neg (by omega), if_neg (fun q => q (bI_t hc)), e1, bd_s, se_l]
      dsimp only
      rw [Q_canFinish hO hR' hI p0 p1 h1, bd_s, se_l, if_pos rfl, ep]
    · rw [if_pos (by omega), if_neg (fun q => q (bI_f hc)), e1, bd_s, se_l]
      dsimp only
      rw [Q_canFinish hO hR' hI p0 p1 h1, bd_s, se_l, if_pos rfl, ep]
  · refine ⟨M, ?_, SC.rf⟩
    rw [if_pos (bI_f h1)]
    unfold fL_isWell_B492
    rw [ep]
theorem we_L82 (hO : LyO S Ln R o π) (hR : RpS M (o + 1) v) (hI : IvS b v) (hX : IvX v) : ∃ M', lp (fL_isWell_L82 ad S Ln R o (whl v) (lsF v (v 4).toNat)) FU (0, 0, M, 0) = some (.inl (inP v 0 (v 4).toNat, M')) ∧ SC M M' o := by
  have i4 := hI.2.2.2.1
  have hw := whl_b hI.1
  have i6 := hI.1.2.1
  have hb0 := hI.2.2.2.2.2.1
  obtain ⟨res, e1, M', e2, e3⟩ := lp_inv0 (b := fL_isWell_L82 ad S Ln R o (whl v) (lsF v (v 4).toNat)) (v 4).toNat
    (fun i z => (z.1 = inP v 0 i ∧ z.2.1 = (i : Int) ∧ z.2.2.2 = i) ∧ SC M z.2.2.1 o)
    (fun res => ∃ M', res = .inl (inP v 0 (v 4).toNat, M') ∧ SC M M' o) (s := ((0 : Int), (0 : Int), M, 0)) (by omega)
    ⟨⟨rfl, rfl, rfl⟩, SC.rf⟩
    (fun i z hi hz => by
      obtain ⟨z1, z2, z3, z4⟩ := z
      obtain ⟨⟨a1, a2, a3⟩, a4⟩ := hz
      dsimp only at a1 a2 a3 a4
      subst a1; subst a2
      replace a3 := a3.symm
      subst a3
      have p0 : (0 : Int) ≤ i := by omega
      have p1 : (i : Int) < v 4 := by omega
      have hR3 := hR.sc9 hI a4
      have hu := hI.2.2.2.2.2.2 i p0 p1
      have hx := hX i p0 p1
      have hip := @inP_b v 0 i
      have hac := acU_b hI.1 hu
      obtain ⟨f0, f1, ⟨f2, f3⟩, f4, f5, f6, f7, f8, q1, q2, q3, q4⟩ := id hu
      have ei : ((i : Int) + 1) = ((i + 1 : Nat) : Int) := by omega
      refine Or.inl ?_
      suffices h : ∃ M', fL_isWell_L82 ad S Ln R o (whl v) (lsF v (v 4).toNat) (inP v 0 i, (i : Int), z3, i) = some (.inl (inP v 0 (i + 1), (i : Int) + 1, M', i + 1)) ∧ SC z3 M' o by
        obtain ⟨M', g1, g2⟩ := h
        exact ⟨_, g1, ⟨rfl, ei, rfl⟩, a4.tr g2⟩
      have eP : inP v 0 (i + 1) = inP v 0 i + (if gl v i 1 = 0 then 1 else 0) := rfl
      unfold fL_isWell_L82
      dsimp only
      rw [gd_t (by omega), Q_pilotCount hO hR3, bd_s, if_neg (by omega), Q_isFlying hO hR3 hI p0 p1, bd_s, se_l, Q_isLanded hO hR3 hI p0 p1, bd_s, se_l, Q_isFinished hO hR3 hI p0 p1, bd_s, se_l, Q_achieved hO hR3 hI p0 p1, bd_s, se_l]
      by_cases h0 : gl v i 1 = 0
      · -- it waits
        have n1 : ¬ gl v i 1 = 1 := by omega
        have n2 : ¬ gl v i 1 = 2 := by omega
        have n3 : ¬ gl v i 1 = 3 := by omega
        have eac : acU v (gl v i) = 0 := by unfold acU; rw [if_pos h0]
        have esc : scU v (gl v i) = 0 := by unfold scU; rw [if_pos h0]
        rw [bI_f n1, bI_f n2, bI_f n3, if_pos rfl]
        unfold fL_isWell_B133
        rw [if_pos rfl]
        unfold fL_isWell_B143
        rw [if_pos rfl]
        unfold fL_isWell_B154
        rw [if_pos (by decide), if_neg (fun q => q rfl), if_neg (fun q => q rfl), if_neg (fun q => q rfl), Q_reached hO hR3 hI p0 p1, bd_s, se_l, if_neg (fun q => q (hx.1 h0)), if_neg (fun q => q eac), Q_score hO hR3 hI p0 p1, bd_s, se_l, if_pos esc]
        unfold fL_isWell_B492
        rw [w32_i (z := inP v 0 i + 1) (by omega) (by omega), w32_i (z := (i : Int) + 1) (by omega) (by omega), eP, if_pos h0]
        exact ⟨z3, rfl, SC.rf⟩
      · have g1 := q1 h0
        have hwp := whl_p hI.1 g1.1
        rw [eP, if_neg h0, Int.add_zero]
        have hs1 := sc1_b hI hu h0
        have ew1 : w32 (1000 * acU v (gl v i)) = 1000 * acU v (gl v i) := w32_i (by omega) (by omega)
        by_cases h3 : gl v i 1 = 3
        · -- it has finished
          have n1 : ¬ gl v i 1 = 1 := by omega
          have n2 : ¬ gl v i 1 = 2 := by omega
          have g4 := q4 h3
          have hfin : ∀ q : Nat, q < (v 4).toNat → gl v q 1 = 3 → 0 < gl v q 5 := fun q hq h => ((hI.2.2.2.2.2.2 q (by omega) (by omega)).2.2.2.2.2.2.2.2.2.2.2 h).2
          obtain ⟨k1, k2⟩ := lsF_lms hfin hi h3
          have hlm := lms_b hI (m := gl v i 5) (by omega) (v 4).toNat (by omega)
          have hs2 := sc2_b hI hu h3
          have ew2 : w32 (500 * lsF v (v 4).toNat) = 500 * lms v (gl v i 5) (v 4).toNat := by rw [k1, w32_i (by omega) (by omega)]
          have eac : acU v (gl v i) = whl v := by unfold acU; rw [if_neg h0, if_pos h3]
          have hB := we_B317 (ad := ad) hO hR3 hI hX p0 p1 h0 (l2 := inP v 0 i) (l3 := lsF v (v 4).toNat) (cc := i) (l9 := Int.tdiv (1000 * acU v (gl v i)) (whl v) + Int.tdiv (500 * lms v (gl v i 5) (v 4).toNat) (gl v i 5) - gl v i 6) (by
            unfold scU i_max
            rw [if_neg h0, if_pos h3]
            split <;> split <;> omega)
          rw [bI_f n1] at hB
          rw [bI_f n1, bI_f n2, bI_t h3, if_pos rfl]
          unfold fL_isWell_B133
          rw [if_pos rfl]
          unfold fL_isWell_B143
          rw [if_neg (by decide)]
          unfold fL_isWell_B154
          rw [if_pos (by decide), if_neg (fun q => q rfl), if_neg (fun q => q rfl), if_pos (by decide)]
          unfold fL_isWell_B204
          rw [gd_t hwp, if_neg (by decide), Q_minutes hO hR3 hI p0 p1 h0, bd_s, se_l, gd_t g4.2, ew1, ew2]
          unfold fL_isWell_B233
          rw [Q_penalty hO hR3 hI p0 p1 h0, bd_s, se_l, if_neg (by omega), if_neg (by omega), Q_reached hO hR3 hI p0 p1, bd_s, se_l, Q_taskLength hO hR3, bd_s, if_neg (fun q => q g4.1), w32_i (z := Int.tdiv (1000 * acU v (gl v i)) (whl v) + Int.tdiv (500 * lms v (gl v i 5) (v 4).toNat) (gl v i 5)) (by omega) (by omega), w32_i (z := Int.tdiv (1000 * acU v (gl v i)) (whl v) + Int.tdiv (500 * lms v (gl v i 5) (v 4).toNat) (gl v i 5) - gl v i 6) (by omega) (by omega)]
          unfold fL_isWell_B274
          rw [if_neg (by decide), if_neg (by decide), if_neg (fun q => q eac)]
          unfold fL_isWell_B288
          rw [if_pos rfl]
          unfold fL_isWell_B302
          rw [if_pos rfl]
          exact hB
        · have hB := we_B317 (ad := ad) hO hR3 hI hX p0 p1 h0 (l2 := inP v 0 i) (l3 := lsF v (v 4).toNat) (cc := i) (l9 := Int.tdiv (1000 * acU v (gl v i)) (whl v) - gl v i 6) (by
            unfold scU i_max
            rw [if_neg h0, if_neg h3]
            split <;> split <;> omega)
          by_cases h1 : gl v i 1 = 1
          · -- it flies
            have n2 : ¬ gl v i 1 = 2 := by omega
            have g2 := q2 (Or.inl h1)
            have g3 := q3 h1
            rw [bI_t h1] at hB
            rw [bI_t h1, bI_f n2, bI_f h3, if_neg (by decide)]
            unfold fL_isWell_B133
            rw [if_pos rfl]
            unfold fL_isWell_B143
            rw [if_pos rfl]
            unfold fL_isWell_B154
            rw [if_pos (by decide), if_pos (by decide)]
            unfold fL_isWell_B204
            rw [gd_t hwp, if_pos rfl, ew1]
            unfold fL_isWell_B233
            rw [Q_penalty hO hR3 hI p0 p1 h0, bd_s, se_l, if_neg (by omega), if_neg (by omega), Q_reached hO hR3 hI p0 p1, bd_s, se_l, Q_taskLength hO hR3, bd_s, if_pos (by omega), Int.add_zero, w32_i (z := Int.tdiv (1000 * acU v (gl v i)) (whl v)) (by omega) (by omega), w32_i (z := Int.tdiv (1000 * acU v (gl v i)) (whl v) - gl v i 6) (by omega) (by omega)]
            unfold fL_isWell_B274
            rw [if_neg (fun q => q rfl), if_pos rfl]
            unfold fL_isWell_B288
            rw [if_pos rfl]
            unfold fL_isWell_B302
            rw [if_neg (by decide), Q_height hO hR3 hI p0 p1 h0, bd_s, se_l, if_neg (by omega)]
            exact hB
          · -- it has landed
            have h2 : gl v i 1 = 2 := by omega
            have g2 := q2 (Or.inr h2)
            rw [bI_f h1] at hB
            rw [bI_f h1, bI_t h2, bI_f h3, if_pos rfl]
            unfold fL_isWell_B133
            rw [if_neg (by decide)]
            unfold fL_isWell_B143
            rw [if_pos rfl]
            unfold fL_isWell_B154
            rw [if_pos (by decide), if_neg (fun q => q rfl), if_pos (by decide)]
            unfold fL_isWell_B204
            rw [gd_t hwp, if_pos rfl, ew1]
            unfold fL_isWell_B233
            rw [Q_penalty hO hR3 hI p0 p1 h0, bd_s, se_l, if_neg (by omega), if_neg (by omega), Q_reached hO hR3 hI p0 p1, bd_s, se_l, Q_taskLength hO hR3, bd_s, if_pos (by omega), Int.add_zero, w32_i (z := Int.tdiv (1000 * acU v (gl v i)) (whl v)) (by omega) (by omega), w32_i (z := Int.tdiv (1000 * acU v (gl v i)) (whl v) - gl v i 6) (by omega) (by omega)]
            unfold fL_isWell_B274
            rw [if_neg (fun q => q rfl), if_pos rfl]
            unfold fL_isWell_B288
            rw [if_neg (by decide), Q_height hO hR3 hI p0 p1 h0, bd_s, se_l, if_neg (fun q => q (hx.2.1 h2))]
            unfold fL_isWell_B302
            rw [if_pos rfl]
            exact hB)
    (fun z hz => by
      obtain ⟨z1, z2, z3, z4⟩ := z
      obtain ⟨⟨a1, a2, a3⟩, a4⟩ := hz
      dsimp only at a1 a2 a3 a4
      have hR3 := hR.sc9 hI a4
      refine ⟨_, ?_, z3, rfl, a4⟩
      unfold fL_isWell_L82
      dsimp only
      rw [gd_t (by omega), Q_pilotCount hO hR3, bd_s, if_pos (by omega), a1])
  exact ⟨M', by rw [e1, e2], e3⟩
theorem we_L514 (hO : LyO S Ln R o π) (hR : RpS M (o + 1) v) (hI : IvS b v) {l1 l2 y : Int} (hy : 0 ≤ y ∧ y ≤ 60) : lp (fL_isWell_L514 ad S Ln R M o l1 l2 y) FU (0, 0) = some (.inl (cnt v y 61)) := by
  refine lp_up0 61 (fun t => (cnt v y t, (t : Int))) rfl (by omega) (fun t ht => ?_) ?_
  · unfold fL_isWell_L514
    dsimp only
    have ec : ((t + 1 : Nat) : Int) = (t : Int) + 1 := by omega
    have hb := @cnt_b v y t
    have hr := bI_r (rst v t y)
    show _ = some (Sum.inl (cnt v y t + bI (rst v t y), ((t + 1 : Nat) : Int)))
    rw [ec, if_neg (by omega), Q_isRestricted hO hR hI ⟨⟨by omega, by omega⟩, hy⟩, bd_s, se_l]
    unfold fL_isWell_B539
    by_cases h : rst v t y
    · rw [bI_t h, if_neg (by decide), w32_i (z := cnt v y t + 1) (by omega) (by omega), w32_i (z := (t : Int) + 1) (by omega) (by omega)]
    · rw [bI_f h, if_pos rfl, w32_i (z := cnt v y t + 0) (by omega) (by omega), w32_i (z := (t : Int) + 1) (by omega) (by omega)]
  · unfold fL_isWell_L514
    dsimp only
    rw [if_pos (by decide)]
theorem we_L501 (hO : LyO S Ln R o π) (hR : RpS M (o + 1) v) (hI : IvS b v) {l1 l2 : Int} : ∃ M', lp (fL_isWell_L501 ad S Ln R o l1 l2) FU (0, M) = some (.inl M') ∧ SC M M' o := by
  obtain ⟨res, e1, M', e2, e3⟩ := lp_inv0 (b := fL_isWell_L501 ad S Ln R o l1 l2) 13
    (fun i z => z.1 = 5 * (i : Int) ∧ SC M z.2 o)
    (fun res => ∃ M', res = .inl M' ∧ SC M M' o) (s := ((0 : Int), M)) (by decide)
    ⟨rfl, SC.rf⟩
    (fun i z hi hz => by
      obtain ⟨z1, z2⟩ := z
      obtain ⟨a1, a2⟩ := hz
      dsimp only at a1 a2
      subst a1
      have hR2 := hR.sc9 hI a2
      obtain ⟨M', g1, g2⟩ := Q_ranges (ad := ad) hO hR2 hI (y := 5 * (i : Int)) ⟨by omega, by omega⟩
      refine Or.inl ⟨(5 * (i : Int) + 5, M'), ?_, ?_, a2.tr g2⟩
      · unfold fL_isWell_L501
        dsimp only
        rw [if_neg (by omega), we_L514 hO hR2 hI ⟨by omega, by omega⟩, bd_s, se_l, Q_row hO hR2 hI ⟨by omega, by omega⟩, bd_s, se_l, if_neg (fun q => q rfl), g1, bd_s, se_l]
        dsimp only
        rw [if_pos rfl, w32_i (by omega) (by omega)]
      · dsimp only
        omega)
    (fun z hz => by
      obtain ⟨z1, z2⟩ := z
      obtain ⟨a1, a2⟩ := hz
      dsimp only at a1 a2
      refine ⟨_, ?_, z2, rfl, a2⟩
      unfold fL_isWell_L501
      dsimp only
      rw [if_pos (by omega)])
  exact ⟨M', by rw [e1, e2], e3⟩
/-- all is well -/
theorem W_isWell {n : Int} {w : Int → gV} (hW : CW S Ln R M o π b v n w) : ∃ M', fL_isWell ad S Ln R M o = some (1, M') ∧ SC M M' o := by
  obtain ⟨hO, hR, ⟨hI, hZ, hX⟩, hH, hHX⟩ := hW
  have i4 := hI.2.2.2.1
  have i6 := hI.1.2.1
  obtain ⟨M1, e1, e2⟩ := we_L82 (ad := ad) hO hR hI hX
  have hR1 := hR.sc9 hI e2
  obtain ⟨M2, e3, e4⟩ := we_L501 (ad := ad) hO hR1 hI (l1 := whl v) (l2 := inP v 0 (v 4).toNat)
  have hR2 := hR1.sc9 hI e4
  obtain ⟨M3, e5, e6⟩ := Q_consistent (ad := ad) hO hR2 hI
  have hB : fL_isWell_B22 ad S Ln R M o (whl v) = some (1, M3) := by
    unfold fL_isWell_B22
    rw [we_L30 hO hR hI, bd_s, se_l, e1, bd_s, se_l]
    dsimp only
    rw [e3, bd_s, se_l, Q_whole hO hR2 hI, bd_s, if_neg (fun q => q rfl), Q_planning hO hR2 hI, bd_s, Q_pilotCount hO hR2, bd_s]
    have ha := @inP_all v 0 (v 4).toNat
    unfold fL_isWell_B603
    by_cases hp : pln v
    · have : inP v 0 (v 4).toNat = v 4 := by rw [ha.mpr (fun p h0 h1 => hp p h0 (by omega))]; omega
      rw [bI_t hp, if_neg (fun q => q this), if_neg (fun q => q rfl), e5, bd_s]
      dsimp only
      rw [if_neg (by decide)]
    · have : ¬ inP v 0 (v 4).toNat = v 4 := fun h => hp (fun p h0 h1 => ha.mp (by omega) p h0 (by omega))
      rw [bI_f hp, if_pos this, if_neg (fun q => q rfl), e5, bd_s]
      dsimp only
      rw [if_neg (by decide)]
  refine ⟨M3, ?_, (e2.tr e4).tr e6⟩
  unfold fL_isWell
  rw [Q_taskLength hO hR, bd_s]
  by_cases h2 : 2 ≤ v 1
  · have c1 : (((v 1 - 1).toNat : Nat) : Int) = v 1 - 1 := by omega
    have hl := W_legs (ad := ad) hO hR hI (n := (v 1 - 1).toNat) (by omega)
    rw [c1] at hl
    rw [if_pos h2, bd_s, w32_i (by omega) (by omega), hl, bd_s]
    exact hB
  · have hz : whl v = 0 := by
      unfold whl
      rw [show (v 1 - 1).toNat = 0 by omega]
      rfl
    rw [if_neg h2]
    rw [hz] at hB
    exact hB
end WE57
