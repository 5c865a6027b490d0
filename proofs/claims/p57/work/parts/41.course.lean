/-! PURE: the turn points and the task, in the class -/
def LyC (S Ln : Nat → Nat) (R : gR) (c : Nat) : Prop := (S c = 7 ∧ S (c + 1) = 20 ∧ S (c + 2) = 20 ∧ S (c + 3) = 20 ∧ S (c + 4) = 20) ∧ (Ln (c + 1) = 8 ∧ Ln (c + 2) = 8 ∧ Ln (c + 3) = 6 ∧ Ln (c + 4) = 6) ∧ R c 0 = some (c + 1) ∧ R c 1 = some (c + 2) ∧ R c 3 = some (c + 3) ∧ R c 4 = some (c + 4)
def RpC (M : gM) (c : Nat) (v : gV) : Prop := M c 2 = v 0 ∧ M c 5 = v 1 ∧ (∀ i, 0 ≤ i → i < v 0 → M (c + 1) i = v (7 + 2 * i) ∧ M (c + 2) i = v (8 + 2 * i)) ∧ (∀ i, 0 ≤ i → i < v 1 → M (c + 3) i = v (23 + i)) ∧ (∀ i, 0 ≤ i → i + 1 < v 1 → M (c + 4) i = leg v i)
section PCO
variable {ad S Ln : Nat → Nat} {R : gR} {M : gM} {c : Nat} {v : gV}
theorem c_hasPoint (hR : RpC M c v) (i : Int) : fX2_hasPoint ad S Ln R M c i = some (bI (0 ≤ i ∧ i < v 0)) := by
  unfold fX2_hasPoint
  rw [hR.1]
  by_cases h : 0 ≤ i ∧ i < v 0
  · rw [bI_t h, if_neg (by omega), if_neg (by omega)]
  · rw [bI_f h]
    by_cases h2 : i < 0
    · rw [if_pos h2]
    · rw [if_neg h2, if_pos (by omega)]
theorem c_hasStop (hR : RpC M c v) (i : Int) : fX2_hasStop ad S Ln R M c i = some (bI (0 ≤ i ∧ i < v 1)) := by
  unfold fX2_hasStop
  rw [hR.2.1]
  by_cases h : 0 ≤ i ∧ i < v 1
  · rw [bI_t h, if_neg (by omega), if_neg (by omega)]
  · rw [bI_f h]
    by_cases h2 : i < 0
    · rw [if_pos h2]
    · rw [if_neg h2, if_pos (by omega)]
theorem c_spanTo (hL : LyC S Ln R c) (hR : RpC M c v) (hI : IvC v) {p x y : Int} (h0 : 0 ≤ p) (h1 : p < v 0) (hx0 : -1000 ≤ x) (hx1 : x ≤ 1000) (hy0 : -1000 ≤ y) (hy1 : y ≤ 1000) : fX2_spanTo ad S Ln R M c p x y = some (dst v p x y) := by
  obtain ⟨⟨s0, s1, s2, s3, s4⟩, ⟨l1, l2, l3, l4⟩, r1, r2, r3, r4⟩ := hL
  obtain ⟨m2, m5, mp, ms, ml⟩ := hR
  obtain ⟨e1, e2⟩ := mp p h0 h1
  obtain ⟨i1, i2, i3, -⟩ := hI
  obtain ⟨⟨a1, a2⟩, a3, a4⟩ := i3 p h0 h1
  have b1 := @ab_0 (v (7 + 2 * p) - x)
  have b2 := @ab_le (v (7 + 2 * p) - x) 2000 (by omega) (by omega)
  have b3 := @ab_0 (v (8 + 2 * p) - y)
  have b4 := @ab_le (v (8 + 2 * p) - y) 2000 (by omega) (by omega)
  unfold fX2_spanTo dst
  rw [m2, if_neg (by omega), if_pos h1, rf_o r1 s1, gd_t (by rw [l1]; omega), rf_o r2 s2, gd_t (by rw [l2]; omega), e1, e2]
  simp (disch := omega) only [w32_i, abs_i]
theorem c_span (hL : LyC S Ln R c) (hR : RpC M c v) (hI : IvC v) {p q : Int} (h0 : 0 ≤ p) (h1 : p < v 0) (g0 : 0 ≤ q) (g1 : q < v 0) : fX2_span ad S Ln R M c p q = some (apt v p q) := by
  unfold fX2_span apt
  rw [c_hasPoint hR, bd_s, bI_t ⟨g0, g1⟩, if_pos (by decide)]
  have hT := @c_spanTo ad S Ln R M c v hL hR hI
  obtain ⟨⟨s0, s1, s2, s3, s4⟩, ⟨l1, l2, l3, l4⟩, r1, r2, r3, r4⟩ := hL
  obtain ⟨m2, m5, mp, ms, ml⟩ := hR
  obtain ⟨e1, e2⟩ := mp q g0 g1
  obtain ⟨i1, i2, i3, -⟩ := hI
  obtain ⟨⟨a1, a2⟩, a3, a4⟩ := i3 q g0 g1
  rw [rf_o r1 s1, gd_t (by rw [l1]; omega), rf_o r2 s2, gd_t (by rw [l2]; omega), e1, e2, hT h0 h1 (by omega) (by omega) (by omega) (by omega), bd_s]
theorem c_spanToStop (hL : LyC S Ln R c) (hR : RpC M c v) (hI : IvC v) {k x y : Int} (h0 : 0 ≤ k) (h1 : k < v 1) (hx0 : -1000 ≤ x) (hx1 : x ≤ 1000) (hy0 : -1000 ≤ y) (hy1 : y ≤ 1000) : fX2_spanToStop ad S Ln R M c k x y = some (dst v (v (23 + k)) x y) := by
  have hT := @c_spanTo ad S Ln R M c v hL hR hI
  obtain ⟨a1, a2⟩ := hI.2.2.2.1 k h0 h1
  have i6 := hI.2.1
  unfold fX2_spanToStop
  rw [c_hasStop hR, bd_s, bI_t ⟨h0, h1⟩, if_pos (by decide), rf_o hL.2.2.2.2.1 hL.1.2.2.2.1, gd_t (by rw [hL.2.1.2.2.1]; omega), hR.2.2.2.1 k h0 h1, hT a1 a2 hx0 hx1 hy0 hy1, bd_s]
theorem c_endsAt (hL : LyC S Ln R c) (hR : RpC M c v) (hI : IvC v) {p : Int} (h0 : 0 ≤ p) (h1 : p < v 0) : fX2_endsAtPositionOf ad S Ln R M c p = some (bI (0 < v 1 ∧ apt v (v (22 + v 1)) p = 0)) := by
  have hT := @c_span ad S Ln R M c v hL hR hI
  have i6 := hI.2.1
  unfold fX2_endsAtPositionOf
  rw [hR.2.1]
  by_cases h : v 1 ≤ 0
  · rw [if_pos h, bI_f (by omega)]
  · obtain ⟨a1, a2⟩ := hI.2.2.2.1 (v 1 - 1) (by omega) (by omega)
    have e1 : (23 : Int) + (v 1 - 1) = 22 + v 1 := by omega
    rw [if_neg h, w32_i (by omega) (by omega), rf_o hL.2.2.2.2.1 hL.1.2.2.2.1, gd_t (by rw [hL.2.1.2.2.1]; omega), hR.2.2.2.1 (v 1 - 1) (by omega) (by omega), hT a1 a2 h0 h1, bd_s, e1]
    by_cases h2 : apt v (v (22 + v 1)) p = 0
    · rw [if_neg (by omega), bI_t ⟨by omega, h2⟩]
    · rw [if_pos h2, bI_f (fun q => h2 q.2)]
theorem c_isStopAt (hL : LyC S Ln R c) (hR : RpC M c v) (hI : IvC v) {k x y : Int} (hx0 : -1000 ≤ x) (hx1 : x ≤ 1000) (hy0 : -1000 ≤ y) (hy1 : y ≤ 1000) : fX2_isStopAt ad S Ln R M c k x y = some (bI ((0 ≤ k ∧ k < v 1) ∧ dst v (v (23 + k)) x y = 0)) := by
  have hT := @c_spanTo ad S Ln R M c v hL hR hI
  have i6 := hI.2.1
  unfold fX2_isStopAt
  rw [c_hasStop hR, bd_s]
  by_cases h : 0 ≤ k ∧ k < v 1
  · obtain ⟨a1, a2⟩ := hI.2.2.2.1 k h.1 h.2
    rw [bI_t h, if_neg (by decide), rf_o hL.2.2.2.2.1 hL.1.2.2.2.1, gd_t (by rw [hL.2.1.2.2.1]; omega), hR.2.2.2.1 k h.1 h.2, hT a1 a2 hx0 hx1 hy0 hy1, bd_s]
    by_cases h2 : dst v (v (23 + k)) x y = 0
    · rw [if_neg (by omega), bI_t ⟨h, h2⟩]
    · rw [if_pos h2, bI_f (fun q => h2 q.2)]
  · rw [bI_f h, if_pos rfl, bI_f (fun q => h q.1)]
/-- the legs from one place to another -/
theorem c_legs (hL : LyC S Ln R c) (hR : RpC M c v) (hI : IvC v) {i j : Int} (h0 : 0 ≤ i) (h1 : j < v 1 ∨ j ≤ 0) : fX2_sumOfLegs ad S Ln R M c i j = some (if i ≤ j then lgs v j.toNat - lgs v i.toNat else 0) := by
  have i6 := hI.2.1
  unfold fX2_sumOfLegs
  rw [if_neg (by omega), if_pos (by omega)]
  by_cases h : i ≤ j
  · rw [if_pos h, lp_up0 (j - i).toNat (fun t => (lgs v (i.toNat + t) - lgs v i.toNat, i + (t : Int))) (r := .inl (lgs v j.toNat - lgs v i.toNat)) (by simp) (by omega) (fun t ht => ?_) ?_, bd_s, se_l]
    · unfold fX2_sumOfLegs_L17
      dsimp only
      rw [if_pos (by omega), show i.toNat + (j - i).toNat = j.toNat by omega]
    · have g1 := lgs_b hI (i.toNat + t) (by omega)
      have g2 := lgs_b hI i.toNat (by omega)
      have g3 := leg_120 hI (k := i + t) (by omega) (by omega)
      have g4 := lgs_m hI (m := i.toNat) (n := i.toNat + t) (by omega) (by omega)
      unfold fX2_sumOfLegs_L17
      dsimp only
      rw [if_neg (by omega), rf_o hL.2.2.2.2.2 hL.1.2.2.2.2, gd_t (by rw [hL.2.1.2.2.2]; omega), hR.2.2.2.2 (i + t) (by omega) (by omega), w32_i (by omega) (by omega), w32_i (by omega) (by omega)]
      have e1 : lgs v (i.toNat + (t + 1)) = lgs v (i.toNat + t) + leg v (i + t) := by
        show lgs v (i.toNat + t) + leg v ((i.toNat + t : Nat) : Int) = _
        rw [show ((i.toNat + t : Nat) : Int) = i + t by omega]
      rw [e1, show lgs v (i.toNat + t) - lgs v i.toNat + leg v (i + t) = lgs v (i.toNat + t) + leg v (i + t) - lgs v i.toNat by omega, show i + (t : Int) + 1 = i + ((t + 1 : Nat) : Int) by omega]
  · rw [if_neg h, lp_up0 0 (fun _ => ((0 : Int), i)) (r := .inl 0) rfl (by omega) (fun t ht => absurd ht (Nat.not_lt_zero _)) ?_, bd_s, se_l]
    unfold fX2_sumOfLegs_L17
    dsimp only
    rw [if_pos (by omega)]
theorem c_whole (hL : LyC S Ln R c) (hR : RpC M c v) (hI : IvC v) : fX2_wholeDistance ad S Ln R M c = some (whl v) := by
  have i6 := hI.2.1
  unfold fX2_wholeDistance whl
  rw [hR.2.1, w32_i (by omega) (by omega), c_legs hL hR hI (Int.le_refl 0) (by omega), bd_s]
  by_cases h : 0 ≤ v 1 - 1
  · rw [if_pos h]; show some (_ - 0) = _; rw [Int.sub_zero]
  · rw [if_neg h, show (v 1 - 1).toNat = 0 by omega]; rfl
theorem c_dir (hL : LyC S Ln R c) (hR : RpC M c v) (hI : IvC v) {k x y : Int} (h0 : 0 ≤ k) (h1 : k < v 1) : fX2_directionTo ad S Ln R M c k x y = some (if v (7 + 2 * v (23 + k)) = x then (if v (8 + 2 * v (23 + k)) ≤ y then 2 else 0) else (if v (7 + 2 * v (23 + k)) ≤ x then 3 else 1)) := by
  obtain ⟨a1, a2⟩ := hI.2.2.2.1 k h0 h1
  have i0 := hI.1
  have i6 := hI.2.1
  obtain ⟨e1, e2⟩ := hR.2.2.1 _ a1 a2
  have hS3 := hR.2.2.2.1 k h0 h1
  have hp := @c_hasPoint ad S Ln R M c v hR
  unfold fX2_directionTo
  rw [c_hasStop hR, bd_s, bI_t ⟨h0, h1⟩, if_neg (by decide), rf_o hL.2.2.2.2.1 hL.1.2.2.2.1, gd_t (by rw [hL.2.1.2.2.1]; omega), hS3, hp, bd_s, bI_t ⟨a1, a2⟩, if_pos (by decide)]
  rw [rf_o hL.2.2.2.2.1 hL.1.2.2.2.1, gd_t (by rw [hL.2.1.2.2.1]; omega)]
  rw [hS3, rf_o hL.2.2.1 hL.1.2.1, gd_t (by rw [hL.2.1.1]; omega), rf_o hL.2.2.2.1 hL.1.2.2.1, gd_t (by rw [hL.2.1.2.1]; omega), rf_o hL.2.2.1 hL.1.2.1, gd_t (by rw [hL.2.1.1]; omega), e1, e2]
  split
  · split <;> rfl
  · split <;> rfl
end PCO
