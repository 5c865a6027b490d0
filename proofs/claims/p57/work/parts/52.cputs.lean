/-! PURE: what is put on the map, in the class -/
theorem RpS.mk {M M' : gM} {a : Nat} {v w : gV} (h : RpS M a v) (hC : RpC M' (a + 1) w) (hA : RpA M' (a + 6) w) (hB : RpB M' (a + 10) w) (ha : M' a 4 = w 4 ∧ M' a 5 = w 6) (h4 : w 4 = v 4) (hg : ∀ p k : Int, 0 ≤ p → 0 ≤ k → k < 9 → gl w p k = gl v p k) (hf : ∀ q : Nat, a + 20 ≤ q → M' q = M q) : RpS M' a w := by
  refine ⟨hC, hA, hB, ha.1, ha.2, fun p p0 p1 k k0 k1 => ?_, fun q hq => ?_⟩
  · rw [h4] at p1
    rw [hf _ (by omega), hg p k p0 k0 k1]
    exact h.2.2.2.2.2.1 p p0 p1 k k0 k1
  · rw [hf _ (by omega)]
    exact h.2.2.2.2.2.2 q hq
section PCP
variable {ad S Ln : Nat → Nat} {R : gR} {M : gM} {a c : Nat} {v : gV} {b : Int}
theorem c_putPoint (hL : LyC S Ln R c) (hR : RpC M c v) (hC : IvC v) (h8 : v 0 < 8) (x y : Int) : ∃ M', fX2_putPoint ad S Ln R M c x y = some (v 0, M') ∧ RpC M' c (ptR v x y) ∧ ∀ q, q < c ∨ c + 5 ≤ q → M' q = M q := by
  obtain ⟨⟨s0, s1, s2, s3, s4⟩, ⟨n1, n2, n3, n4⟩, r0, r1, r3, r4⟩ := hL
  have i8 := hC.1
  have i6 := hC.2.1
  have e : ∀ k, 7 ≤ k → k < 7 + 2 * v 0 → ptR v x y k = v k := fun k k0 k1 => ptR_n (by omega) (by omega) (by omega)
  have g : ∀ k, 23 ≤ k → ptR v x y k = v k := fun k k0 => ptR_n (by omega) (by omega) (by omega)
  have e1 : ptR v x y 1 = v 1 := ptR_n (by decide) (by omega) (by omega)
  unfold fX2_putPoint
  rw [hR.1, if_pos h8, rf_o r0 s1, gd_t (by rw [n1]; omega), nam_d, wr_a (show c ≠ c + 1 by omega), hR.1, rf_o r1 s2, gd_t (by rw [n2]; omega), nam_d, wr_a (show c ≠ c + 2 by omega), wr_a (show c ≠ c + 1 by omega), hR.1, nam_d, wr_s, w32_i (z := v 0 + 1) (by omega) (by omega), w32_i (by omega) (by omega), show v 0 + 1 - 1 = v 0 by omega]
  refine ⟨_, rfl, ⟨?_, ?_, fun i h0 h1 => ?_, fun i h0 h1 => ?_, fun i h0 h1 => ?_⟩, fun q hq => by rw [wr_a (by omega), wr_a (by omega), wr_a (by omega)]⟩
  · rw [wr_s, ptR_0]
  · rw [wr_k (by decide), wr_a (by omega), wr_a (by omega), e1]; exact hR.2.1
  · rw [ptR_0] at h1
    rw [wr_a (by omega), wr_a (by omega), wr_a (show c + 2 ≠ c by omega)]
    by_cases h : i = v 0
    · rw [h, wr_s, wr_s, ptR_x i8.1, ptR_y i8.1]; exact ⟨rfl, rfl⟩
    · rw [wr_k h, wr_k h, wr_a (by omega), e (7 + 2 * i) (by omega) (by omega), e (8 + 2 * i) (by omega) (by omega)]
      exact hR.2.2.1 i h0 (by omega)
  · rw [e1] at h1
    rw [wr_a (by omega), wr_a (by omega), wr_a (by omega), g (23 + i) (by omega)]
    exact hR.2.2.2.1 i h0 h1
  · rw [e1] at h1
    rw [wr_a (by omega), wr_a (by omega), wr_a (by omega), leg_m hC e (fun k k0 _ => g k k0) h0 h1]
    exact hR.2.2.2.2 i h0 h1
theorem s_putPoint (hL : LyS S Ln R a) (hR : RpS M a v) (hI : IvS b v) (h8 : v 0 < 8) (x y : Int) : ∃ M', fX2_putPoint ad S Ln R M (a + 1) x y = some (v 0, M') ∧ RpS M' a (ptR v x y) ∧ ∀ q, q < a ∨ a + 26 ≤ q → M' q = M q := by
  have i8 := hI.1.1
  have j6 := hI.2.1.1
  have j3 := hI.2.2.1.1
  obtain ⟨M', e1, e2, e3⟩ := c_putPoint (ad := ad) hL.2.2.1 hR.1 hI.1 h8 x y
  have g : ∀ k, 23 ≤ k → ptR v x y k = v k := fun k k0 => ptR_n (by omega) (by omega) (by omega)
  have n : ∀ k, 0 ≤ k → k < 7 → k ≠ 0 → ptR v x y k = v k := fun k k0 k1 k2 => ptR_n k2 (by omega) (by omega)
  refine ⟨M', e1, hR.mk e2 ((hR.2.1.fr fun q q0 q1 => e3 q (by omega)).c (n 2 (by decide) (by decide) (by decide)) (n 5 (by decide) (by decide) (by decide)) (fun k k0 _ => g k (by omega))) ((hR.2.2.1.fr fun q q0 q1 => e3 q (by omega)).c (n 3 (by decide) (by decide) (by decide)) (fun k k0 _ => g k (by omega))) ⟨?_, ?_⟩ (n 4 (by decide) (by decide) (by decide)) (fun p k p0 k0 k1 => g _ (by omega)) (fun q hq => e3 q (by omega)), fun q hq => e3 q (by omega)⟩
  · rw [e3 a (by omega), n 4 (by decide) (by decide) (by decide)]; exact hR.2.2.2.1
  · rw [e3 a (by omega), n 6 (by decide) (by decide) (by decide)]; exact hR.2.2.2.2.1
theorem c_putStop (hL : LyC S Ln R c) (hR : RpC M c v) (hC : IvC v) (h6 : v 1 < 6) {i : Int} (hi : 0 ≤ i ∧ i < v 0) : ∃ M', fX2_putStop ad S Ln R M c i = some (v 1 + 1, M') ∧ RpC M' c (stR v i) ∧ ∀ q, q < c ∨ c + 5 ≤ q → M' q = M q := by
  have hL9 := hL
  obtain ⟨⟨s0, s1, s2, s3, s4⟩, ⟨n1, n2, n3, n4⟩, r0, r1, r3, r4⟩ := hL
  have i8 := hC.1
  have i6 := hC.2.1
  have e0 : stR v i 0 = v 0 := stR_n (by decide) (by omega)
  have e : ∀ k, 7 ≤ k → k < 23 + v 1 → stR v i k = v k := fun k k0 k1 => stR_n (by omega) (by omega)
  have hB : ∀ M1 : gM, RpC M1 c v → (0 < v 1 → M1 (c + 4) (v 1 - 1) = apt v (v (22 + v 1)) i) → ∃ M', fX2_putStop_B48 ad S Ln R M1 c i = some (v 1 + 1, M') ∧ RpC M' c (stR v i) ∧ ∀ q, q < c ∨ c + 5 ≤ q → M' q = M1 q := fun M1 h1 hl => by
    unfold fX2_putStop_B48
    rw [rf_o r3 s3, h1.2.1, gd_t (by rw [n3]; omega), nam_d, wr_a (show c ≠ c + 3 by omega), h1.2.1, w32_i (by omega) (by omega), nam_d, wr_s]
    refine ⟨_, rfl, ⟨?_, ?_, fun j h0 h1' => ?_, fun j h0 h1' => ?_, fun j h0 h1' => ?_⟩, fun q hq => by rw [wr_a (by omega), wr_a (by omega)]⟩
    · rw [wr_k (by decide), wr_a (by omega), e0]; exact h1.1
    · rw [wr_s, stR_1]
    · rw [e0] at h1'
      rw [wr_a (by omega), wr_a (by omega), wr_a (show c + 2 ≠ c by omega), wr_a (show c + 2 ≠ c + 3 by omega), e (7 + 2 * j) (by omega) (by omega), e (8 + 2 * j) (by omega) (by omega)]
      exact h1.2.2.1 j h0 h1'
    · rw [stR_1] at h1'
      rw [wr_a (by omega)]
      by_cases h : j = v 1
      · rw [h, wr_s, stR_i i6.1]
      · rw [wr_k h, e (23 + j) (by omega) (by omega)]
        exact h1.2.2.2.1 j h0 (by omega)
    · rw [stR_1] at h1'
      rw [wr_a (by omega), wr_a (by omega)]
      by_cases h : j + 1 = v 1
      · have q1 := hC.2.2.2.1 j h0 (by omega)
        have hl' : leg (stR v i) j = apt v (v (22 + v 1)) i := by
          unfold leg apt dst
          rw [show (24 : Int) + j = 23 + v 1 by omega, stR_i i6.1, e (23 + j) (by omega) (by omega), e (7 + 2 * v (23 + j)) (by omega) (by omega), e (8 + 2 * v (23 + j)) (by omega) (by omega), e (7 + 2 * i) (by omega) (by omega), e (8 + 2 * i) (by omega) (by omega), show (22 : Int) + v 1 = 23 + j by omega]
        rw [hl', show j = v 1 - 1 by omega]
        exact hl (by omega)
      · rw [leg_m hC (fun k k0 k1 => e k k0 (by omega)) (fun k k0 k1 => e k (by omega) k1) h0 (by omega)]
        exact h1.2.2.2.2 j h0 (by omega)
  unfold fX2_putStop
  rw [hR.2.1, if_pos h6]
  by_cases h0 : v 1 ≤ 0
  · rw [if_pos h0]
    exact hB M hR (fun h => by omega)
  · have hst : M (c + 3) (v 1 - 1) = v (22 + v 1) := by
      rw [hR.2.2.2.1 (v 1 - 1) (by omega) (by omega), show (23 : Int) + (v 1 - 1) = 22 + v 1 by omega]
    have hq := hC.2.2.2.1 (v 1 - 1) (by omega) (by omega)
    rw [show (23 : Int) + (v 1 - 1) = 22 + v 1 by omega] at hq
    rw [if_neg h0, rf_o r4 s4, rf_o r3 s3, w32_i (by omega) (by omega), gd_t (by rw [n3]; omega), hst, c_span hL9 hR hC hq.1 hq.2 hi.1 hi.2, bd_s, gd_t (by rw [n4]; omega), nam_d]
    have hf : ∀ q, q ≠ c + 4 → wr M (c + 4) (v 1 - 1) (apt v (v (22 + v 1)) i) q = M q := fun q hq => wr_a hq
    obtain ⟨M', f1, f2, f3⟩ := hB (wr M (c + 4) (v 1 - 1) (apt v (v (22 + v 1)) i)) ⟨by rw [hf c (by omega)]; exact hR.1, by rw [hf c (by omega)]; exact hR.2.1, fun j j0 j1 => by rw [hf _ (by omega), hf _ (by omega)]; exact hR.2.2.1 j j0 j1, fun j j0 j1 => by rw [hf _ (by omega)]; exact hR.2.2.2.1 j j0 j1, fun j j0 j1 => by rw [wr_k (by omega)]; exact hR.2.2.2.2 j j0 j1⟩ (fun _ => wr_s)
    exact ⟨M', f1, f2, fun q hq => by rw [f3 q hq, hf q (by omega)]⟩
theorem s_putStop (hL : LyS S Ln R a) (hR : RpS M a v) (hI : IvS b v) (h6 : v 1 < 6) {i : Int} (hi : 0 ≤ i ∧ i < v 0) : ∃ M', fX2_putStop ad S Ln R M (a + 1) i = some (v 1 + 1, M') ∧ RpS M' a (stR v i) ∧ ∀ q, q < a ∨ a + 26 ≤ q → M' q = M q := by
  have i6 := hI.1.2.1
  have j6 := hI.2.1.1
  have j3 := hI.2.2.1.1
  obtain ⟨M', e1, e2, e3⟩ := c_putStop (ad := ad) hL.2.2.1 hR.1 hI.1 h6 hi
  have g : ∀ k, 29 ≤ k → stR v i k = v k := fun k k0 => stR_n (by omega) (by omega)
  have n : ∀ k, 0 ≤ k → k < 7 → k ≠ 1 → stR v i k = v k := fun k k0 k1 k2 => stR_n k2 (by omega)
  refine ⟨M', e1, hR.mk e2 ((hR.2.1.fr fun q q0 q1 => e3 q (by omega)).c (n 2 (by decide) (by decide) (by decide)) (n 5 (by decide) (by decide) (by decide)) (fun k k0 _ => g k (by omega))) ((hR.2.2.1.fr fun q q0 q1 => e3 q (by omega)).c (n 3 (by decide) (by decide) (by decide)) (fun k k0 _ => g k (by omega))) ⟨?_, ?_⟩ (n 4 (by decide) (by decide) (by decide)) (fun p k p0 k0 k1 => g _ (by omega)) (fun q hq => e3 q (by omega)), fun q hq => e3 q (by omega)⟩
  · rw [e3 a (by omega), n 4 (by decide) (by decide) (by decide)]; exact hR.2.2.2.1
  · rw [e3 a (by omega), n 6 (by decide) (by decide) (by decide)]; exact hR.2.2.2.2.1
theorem s_dropStops (hL : LyS S Ln R a) (hR : RpS M a v) (hI : IvS b v) : ∃ M', fX2_dropStops ad S Ln R M (a + 1) = some (v 1, M') ∧ (∀ q, q < a ∨ a + 26 ≤ q → M' q = M q) ∧ ∀ w : gV, w 1 = 0 → (∀ k, k ≠ 1 → ¬ (23 ≤ k ∧ k < 29) → w k = v k) → RpS M' a w := by
  have i8 := hI.1.1
  unfold fX2_dropStops
  rw [nam_d, hR.1.2.1]
  refine ⟨_, rfl, fun q hq => wr_a (by omega), fun w h1 n => ?_⟩
  have hf : ∀ q, q ≠ a + 1 → wr M (a + 1) 5 0 q = M q := fun q hq => wr_a hq
  refine hR.mk ⟨?_, ?_, fun i h0 h1' => ?_, fun i h0 h1' => ?_, fun i h0 h1' => ?_⟩ ((hR.2.1.fr fun q q0 q1 => hf q (by omega)).c (n 2 (by decide) (by decide)) (n 5 (by decide) (by decide)) (fun k k0 _ => n k (by omega) (by omega))) ((hR.2.2.1.fr fun q q0 q1 => hf q (by omega)).c (n 3 (by decide) (by decide)) (fun k k0 _ => n k (by omega) (by omega))) ⟨?_, ?_⟩ (n 4 (by decide) (by decide)) (fun p k p0 k0 k1 => n _ (by omega) (by omega)) (fun q hq => hf q (by omega))
  · rw [wr_k (by decide), n 0 (by decide) (by decide)]; exact hR.1.1
  · rw [wr_s, h1]
  · rw [n 0 (by decide) (by decide)] at h1'
    rw [hf _ (by omega), hf _ (by omega), n (7 + 2 * i) (by omega) (by omega), n (8 + 2 * i) (by omega) (by omega)]
    exact hR.1.2.2.1 i h0 h1'
  · rw [h1] at h1'; omega
  · rw [h1] at h1'; omega
  · rw [hf a (by omega), n 4 (by decide) (by decide)]; exact hR.2.2.2.1
  · rw [hf a (by omega), n 6 (by decide) (by decide)]; exact hR.2.2.2.2.1
theorem s_putThermal (hL : LyS S Ln R a) (hR : RpS M a v) (hI : IvS b v) (h6 : v 2 < 6) (x y s : Int) : ∃ M', fX0_putThermal ad S Ln R M (a + 6) x y s = some (v 2 + 1, M') ∧ RpS M' a (thR v x y s) ∧ ∀ q, q < a ∨ a + 26 ≤ q → M' q = M q := by
  obtain ⟨⟨s0, s1, s2, s3⟩, ⟨n1, n2, n3⟩, r0, r1, r2⟩ := hL.2.2.2.1
  have i8 := hI.1.1
  have i6 := hI.1.2.1
  have j6 := hI.2.1.1
  have j3 := hI.2.2.1.1
  have hA := hR.2.1
  have e : ∀ k, 7 ≤ k → k < 29 + 3 * v 2 → thR v x y s k = v k := fun k k0 k1 => thR_n (by omega) (by omega) (by omega) (by omega)
  have g : ∀ k, 47 ≤ k → thR v x y s k = v k := fun k k0 => thR_n (by omega) (by omega) (by omega) (by omega)
  have n : ∀ k, 0 ≤ k → k < 7 → k ≠ 2 → thR v x y s k = v k := fun k k0 k1 k2 => thR_n k2 (by omega) (by omega) (by omega)
  unfold fX0_putThermal
  rw [hA.1, if_pos h6, rf_o r0 s1, gd_t (by rw [n1]; omega), nam_d, wr_a (show a + 6 ≠ a + 6 + 1 by omega), hA.1, rf_o r1 s2, gd_t (by rw [n2]; omega), nam_d, wr_a (show a + 6 ≠ a + 6 + 2 by omega), wr_a (show a + 6 ≠ a + 6 + 1 by omega), hA.1, rf_o r2 s3, gd_t (by rw [n3]; omega), nam_d, wr_a (show a + 6 ≠ a + 6 + 3 by omega), wr_a (show a + 6 ≠ a + 6 + 2 by omega), wr_a (show a + 6 ≠ a + 6 + 1 by omega), hA.1, w32_i (by omega) (by omega), nam_d, wr_s]
  have hf : ∀ q, q < a + 6 ∨ a + 10 ≤ q → wr (wr (wr (wr M (a + 6 + 1) (v 2) x) (a + 6 + 2) (v 2) y) (a + 6 + 3) (v 2) s) (a + 6) 3 (v 2 + 1) q = M q := fun q hq => by rw [wr_a (by omega), wr_a (by omega), wr_a (by omega), wr_a (by omega)]
  refine ⟨_, rfl, hR.mk ((hR.1.fr fun q q0 q1 => hf q (by omega)).c hI.1 (n 0 (by decide) (by decide) (by decide)) (n 1 (by decide) (by decide) (by decide)) (fun k k0 k1 => e k k0 (by omega)) (fun k k0 k1 => e k (by omega) (by omega))) ⟨?_, ?_, fun i h0 h1 => ?_⟩ ((hR.2.2.1.fr fun q q0 q1 => hf q (by omega)).c (n 3 (by decide) (by decide) (by decide)) (fun k k0 _ => g k (by omega))) ⟨?_, ?_⟩ (n 4 (by decide) (by decide) (by decide)) (fun p k p0 k0 k1 => g _ (by omega)) (fun q hq => hf q (by omega)), fun q hq => hf q (by omega)⟩
  · rw [wr_s, thR_2]
  · rw [wr_k (by decide), wr_a (by omega), wr_a (by omega), wr_a (by omega), n 5 (by decide) (by decide) (by decide)]; exact hA.2.1
  · rw [thR_2] at h1
    rw [wr_a (by omega), wr_a (by omega), wr_a (by omega), wr_a (show a + 6 + 2 ≠ a + 6 by omega), wr_a (show a + 6 + 2 ≠ a + 6 + 3 by omega), wr_a (show a + 6 + 3 ≠ a + 6 by omega)]
    by_cases h : i = v 2
    · rw [h, wr_s, wr_s, wr_s]
      unfold thR
      rw [us_n (by omega), us_n (by omega), us_n (by omega), us_s, us_n (by omega), us_n (by omega), us_s, us_n (by omega), us_s]
      exact ⟨rfl, rfl, rfl⟩
    · rw [wr_k h, wr_k h, wr_k h, wr_a (show a + 6 + 2 ≠ a + 6 + 1 by omega), wr_a (show a + 6 + 3 ≠ a + 6 + 2 by omega), wr_a (show a + 6 + 3 ≠ a + 6 + 1 by omega), e (29 + 3 * i) (by omega) (by omega), e (30 + 3 * i) (by omega) (by omega), e (31 + 3 * i) (by omega) (by omega)]
      exact hA.2.2 i h0 (by omega)
  · rw [hf a (by omega), n 4 (by decide) (by decide) (by decide)]; exact hR.2.2.2.1
  · rw [hf a (by omega), n 6 (by decide) (by decide) (by decide)]; exact hR.2.2.2.2.1
theorem s_putArea (hL : LyS S Ln R a) (hR : RpS M a v) (hI : IvS b v) (h6 : v 3 < 3) (x y X Y : Int) : ∃ M', fX1_putArea ad S Ln R M (a + 10) x y X Y = some (v 3 + 1, M') ∧ RpS M' a (arR v x y X Y) ∧ ∀ q, q < a ∨ a + 26 ≤ q → M' q = M q := by
  obtain ⟨⟨s0, s1, s2, s3, s4, s5, s6⟩, ⟨n1, n2, n3, n4, n5, n6⟩, r0, r1, r2, r3, r5, r6⟩ := hL.2.2.2.2.1
  have i8 := hI.1.1
  have i6 := hI.1.2.1
  have j6 := hI.2.1.1
  have j3 := hI.2.2.1.1
  have hB := hR.2.2.1
  have e : ∀ k, 7 ≤ k → k < 47 + 4 * v 3 → arR v x y X Y k = v k := fun k k0 k1 => arR_n (by omega) (by omega) (by omega) (by omega) (by omega)
  have g : ∀ k, 59 ≤ k → arR v x y X Y k = v k := fun k k0 => arR_n (by omega) (by omega) (by omega) (by omega) (by omega)
  have n : ∀ k, 0 ≤ k → k < 7 → k ≠ 3 → arR v x y X Y k = v k := fun k k0 k1 k2 => arR_n k2 (by omega) (by omega) (by omega) (by omega)
  unfold fX1_putArea
  rw [hB.1, if_pos h6, rf_o r0 s1, gd_t (by rw [n1]; omega), nam_d, wr_a (show a + 10 ≠ a + 10 + 1 by omega), hB.1, rf_o r1 s2, gd_t (by rw [n2]; omega), nam_d, wr_a (show a + 10 ≠ a + 10 + 2 by omega), wr_a (show a + 10 ≠ a + 10 + 1 by omega), hB.1, rf_o r2 s3, gd_t (by rw [n3]; omega), nam_d, wr_a (show a + 10 ≠ a + 10 + 3 by omega), wr_a (show a + 10 ≠ a + 10 + 2 by omega), wr_a (show a + 10 ≠ a + 10 + 1 by omega), hB.1, rf_o r3 s4, gd_t (by rw [n4]; omega), nam_d, wr_a (show a + 10 ≠ a + 10 + 4 by omega), wr_a (show a + 10 ≠ a + 10 + 3 by omega), wr_a (show a + 10 ≠ a + 10 + 2 by omega), wr_a (show a + 10 ≠ a + 10 + 1 by omega), hB.1, w32_i (by omega) (by omega), nam_d, wr_s]
  have hf : ∀ q, q < a + 10 ∨ a + 15 ≤ q → wr (wr (wr (wr (wr M (a + 10 + 1) (v 3) x) (a + 10 + 2) (v 3) y) (a + 10 + 3) (v 3) X) (a + 10 + 4) (v 3) Y) (a + 10) 4 (v 3 + 1) q = M q := fun q hq => by rw [wr_a (by omega), wr_a (by omega), wr_a (by omega), wr_a (by omega), wr_a (by omega)]
  refine ⟨_, rfl, hR.mk ((hR.1.fr fun q q0 q1 => hf q (by omega)).c hI.1 (n 0 (by decide) (by decide) (by decide)) (n 1 (by decide) (by decide) (by decide)) (fun k k0 k1 => e k k0 (by omega)) (fun k k0 k1 => e k (by omega) (by omega))) ((hR.2.1.fr fun q q0 q1 => hf q (by omega)).c (n 2 (by decide) (by decide) (by decide)) (n 5 (by decide) (by decide) (by decide)) (fun k k0 k1 => e k (by omega) (by omega))) ⟨?_, fun i h0 h1 => ?_⟩ ⟨?_, ?_⟩ (n 4 (by decide) (by decide) (by decide)) (fun p k p0 k0 k1 => g _ (by omega)) (fun q hq => hf q (by omega)), fun q hq => hf q (by omega)⟩
  · rw [wr_s, arR_3]
  · rw [arR_3] at h1
    rw [wr_a (show a + 10 + 1 ≠ a + 10 by omega), wr_a (show a + 10 + 1 ≠ a + 10 + 4 by omega), wr_a (show a + 10 + 1 ≠ a + 10 + 3 by omega), wr_a (show a + 10 + 1 ≠ a + 10 + 2 by omega), wr_a (show a + 10 + 2 ≠ a + 10 by omega), wr_a (show a + 10 + 2 ≠ a + 10 + 4 by omega), wr_a (show a + 10 + 2 ≠ a + 10 + 3 by omega), wr_a (show a + 10 + 3 ≠ a + 10 by omega), wr_a (show a + 10 + 3 ≠ a + 10 + 4 by omega), wr_a (show a + 10 + 4 ≠ a + 10 by omega)]
    by_cases h : i = v 3
    · rw [h, wr_s, wr_s, wr_s, wr_s]
      have x1 : arR v x y X Y (47 + 4 * v 3) = x := by unfold arR; rw [us_n (by omega), us_n (by omega), us_n (by omega), us_n (by omega), us_s]
      have x2 : arR v x y X Y (48 + 4 * v 3) = y := by unfold arR; rw [us_n (by omega), us_n (by omega), us_n (by omega), us_s]
      have x3 : arR v x y X Y (49 + 4 * v 3) = X := by unfold arR; rw [us_n (by omega), us_n (by omega), us_s]
      have x4 : arR v x y X Y (50 + 4 * v 3) = Y := by unfold arR; rw [us_n (by omega), us_s]
      exact ⟨x1.symm, x2.symm, x3.symm, x4.symm⟩
    · rw [wr_k h, wr_k h, wr_k h, wr_k h, wr_a (show a + 10 + 2 ≠ a + 10 + 1 by omega), wr_a (show a + 10 + 3 ≠ a + 10 + 2 by omega), wr_a (show a + 10 + 3 ≠ a + 10 + 1 by omega), wr_a (show a + 10 + 4 ≠ a + 10 + 3 by omega), wr_a (show a + 10 + 4 ≠ a + 10 + 2 by omega), wr_a (show a + 10 + 4 ≠ a + 10 + 1 by omega), e (47 + 4 * i) (by omega) (by omega), e (48 + 4 * i) (by omega) (by omega), e (49 + 4 * i) (by omega) (by omega), e (50 + 4 * i) (by omega) (by omega)]
      exact hB.2 i h0 (by omega)
  · rw [hf a (by omega), n 4 (by decide) (by decide) (by decide)]; exact hR.2.2.2.1
  · rw [hf a (by omega), n 6 (by decide) (by decide) (by decide)]; exact hR.2.2.2.2.1
theorem s_base (hR : RpS M a v) (hI : IvS b v) (z : Int) : RpS (wr M (a + 6) 4 z) a (us v 5 z) := by
  have n : ∀ k, k ≠ 5 → us v 5 z k = v k := fun k h => us_n h
  have hf : ∀ q, q ≠ a + 6 → wr M (a + 6) 4 z q = M q := fun q hq => wr_a hq
  refine hR.mk ((hR.1.fr fun q q0 q1 => hf q (by omega)).c hI.1 (n 0 (by decide)) (n 1 (by decide)) (fun k k0 k1 => n k (by omega)) (fun k k0 k1 => n k (by omega))) ⟨?_, ?_, fun i h0 h1 => ?_⟩ ((hR.2.2.1.fr fun q q0 q1 => hf q (by omega)).c (n 3 (by decide)) (fun k k0 _ => n k (by omega))) ⟨?_, ?_⟩ (n 4 (by decide)) (fun p k p0 k0 k1 => n _ (by omega)) (fun q hq => hf q (by omega))
  · rw [wr_k (by decide), n 2 (by decide)]; exact hR.2.1.1
  · rw [wr_s, us_s]
  · rw [n 2 (by decide)] at h1
    rw [hf _ (by omega), hf _ (by omega), hf _ (by omega), n (29 + 3 * i) (by omega), n (30 + 3 * i) (by omega), n (31 + 3 * i) (by omega)]
    exact hR.2.1.2.2 i h0 h1
  · rw [hf a (by omega), n 4 (by decide)]; exact hR.2.2.2.1
  · rw [hf a (by omega), n 6 (by decide)]; exact hR.2.2.2.2.1
theorem s_putPilot (hL : LyS S Ln R a) (hR : RpS M a v) (hI : IvS b v) (hZ : IvZ v) (h6 : v 4 < 6) {r : Int} (hr : 20 ≤ r ∧ r ≤ 60) : ∃ M', fX8_putPilot ad S Ln R M a r = some (v 4, M') ∧ RpS M' a (plR v r) ∧ ∀ q, q < a ∨ a + 26 ≤ q → M' q = M q := by
  have hp := hI.2.2.2.1
  obtain ⟨M', e1, e2, e3⟩ := f_put (ad := ad) hL hR hI h6 r
  refine ⟨M', e1, ?_, e3⟩
  have hI2 := IvS.pl hI hZ h6 hr
  have e4 : us (sU v (v 4) (enU r)) 4 (v 4 + 1) 4 = v 4 + 1 := us_s
  have eg : ∀ p k : Int, 0 ≤ p → 0 ≤ k → k < 9 → gl (us (sU v (v 4) (enU r)) 4 (v 4 + 1)) p k = gl (sU v (v 4) (enU r)) p k := fun p k p0 k0 k1 => us_n (by omega)
  have hx : ∀ p k : Int, 0 ≤ p → p < v 4 + 1 → 0 ≤ k → k < 9 → gl (plR v r) p k = gl (us (sU v (v 4) (enU r)) 4 (v 4 + 1)) p k := fun p k p0 p1 k0 k1 => by
    rw [plR_g hp.1 p0 k0 k1, eg p k p0 k0 k1]
    by_cases h : p = v 4
    · rw [h, sU_s k0 k1]
      unfold enU
      by_cases e0 : k = 0
      · rw [if_pos ⟨rfl, e0⟩, if_pos e0]
      · rw [if_neg (fun q => e0 q.2), if_neg e0, hZ (v 4) k (Int.le_refl _) h6 k0 k1]
    · rw [sU_n h k0 k1, if_neg (fun q => h q.1)]
  have hm : mE (us (sU v (v 4) (enU r)) 4 (v 4 + 1)) (plR v r) := fun k k0 k1 k2 k3 => by
    rw [plR_n k2 (by omega), us_n k2, sU_lo hp.1 k1]
  refine ⟨RpC_c hm ?_ e2.1, RpA_c hm ?_ e2.2.1, RpB_c hm ?_ e2.2.2.1, ?_, ?_, fun p p0 p1 k k0 k1 => ?_, e2.2.2.2.2.2.2⟩
  · exact IvC_c ((mE_sU hp.1).tr mE_4) hI.1
  · exact IvA_c ((mE_sU hp.1).tr mE_4) hI.2.1
  · exact IvB_c ((mE_sU hp.1).tr mE_4) hI.2.2.1
  · rw [plR_4, ← e4]; exact e2.2.2.2.1
  · rw [plR_n (by decide) (by omega)]
    have := e2.2.2.2.2.1
    rw [us_n (by decide), sU_lo hp.1 (by decide)] at this
    exact this
  · rw [plR_4] at p1
    rw [hx p k p0 p1 k0 k1]
    exact e2.2.2.2.2.2.1 p p0 (by rw [e4]; exact p1) k k0 k1
end PCP
