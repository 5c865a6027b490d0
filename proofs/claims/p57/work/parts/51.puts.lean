/-! PURE: what is put on the map -/
theorem leg_m {v w : gV} (hI : IvC v) (e : ∀ k, 7 ≤ k → k < 7 + 2 * v 0 → w k = v k) (g : ∀ k, 23 ≤ k → k < 23 + v 1 → w k = v k) {k : Int} (h0 : 0 ≤ k) (h1 : k + 1 < v 1) : leg w k = leg v k := by
  have p1 := hI.2.2.2.1 k h0 (by omega)
  have p2 := hI.2.2.2.1 (k + 1) (by omega) h1
  rw [show (23 : Int) + (k + 1) = 24 + k by omega] at p2
  unfold leg apt dst
  rw [g (23 + k) (by omega) (by omega), g (24 + k) (by omega) (by omega), e (7 + 2 * v (23 + k)) (by omega) (by omega), e (8 + 2 * v (23 + k)) (by omega) (by omega), e (7 + 2 * v (24 + k)) (by omega) (by omega), e (8 + 2 * v (24 + k)) (by omega) (by omega)]
theorem RpC.c {M : gM} {c : Nat} {v w : gV} (h : RpC M c v) (hI : IvC v) (e0 : w 0 = v 0) (e1 : w 1 = v 1) (e : ∀ k, 7 ≤ k → k < 7 + 2 * v 0 → w k = v k) (g : ∀ k, 23 ≤ k → k < 23 + v 1 → w k = v k) : RpC M c w := by
  refine ⟨by rw [e0]; exact h.1, by rw [e1]; exact h.2.1, fun i h0 h1 => ?_, fun i h0 h1 => ?_, fun i h0 h1 => ?_⟩
  · rw [e0] at h1
    rw [e (7 + 2 * i) (by omega) (by omega), e (8 + 2 * i) (by omega) (by omega)]
    exact h.2.2.1 i h0 h1
  · rw [e1] at h1
    rw [g (23 + i) (by omega) (by omega)]
    exact h.2.2.2.1 i h0 h1
  · rw [e1] at h1
    rw [leg_m hI e g h0 h1]
    exact h.2.2.2.2 i h0 h1
theorem RpA.c {M : gM} {c : Nat} {v w : gV} (h : RpA M c v) (e2 : w 2 = v 2) (e5 : w 5 = v 5) (e : ∀ k, 29 ≤ k → k < 29 + 3 * v 2 → w k = v k) : RpA M c w := by
  refine ⟨by rw [e2]; exact h.1, by rw [e5]; exact h.2.1, fun i h0 h1 => ?_⟩
  rw [e2] at h1
  rw [e (29 + 3 * i) (by omega) (by omega), e (30 + 3 * i) (by omega) (by omega), e (31 + 3 * i) (by omega) (by omega)]
  exact h.2.2 i h0 h1
theorem RpB.c {M : gM} {c : Nat} {v w : gV} (h : RpB M c v) (e3 : w 3 = v 3) (e : ∀ k, 47 ≤ k → k < 47 + 4 * v 3 → w k = v k) : RpB M c w := by
  refine ⟨by rw [e3]; exact h.1, fun i h0 h1 => ?_⟩
  rw [e3] at h1
  rw [e (47 + 4 * i) (by omega) (by omega), e (48 + 4 * i) (by omega) (by omega), e (49 + 4 * i) (by omega) (by omega), e (50 + 4 * i) (by omega) (by omega)]
  exact h.2 i h0 h1
theorem IvA.c {v w : gV} (h : IvA v) (e2 : w 2 = v 2) (e5 : w 5 = v 5) (e : ∀ k, 29 ≤ k → k < 29 + 3 * v 2 → w k = v k) : IvA w := by
  refine ⟨by rw [e2]; exact h.1, by rw [e5]; exact h.2.1, fun i h0 h1 => ?_⟩
  rw [e2] at h1
  rw [e (29 + 3 * i) (by omega) (by omega), e (30 + 3 * i) (by omega) (by omega), e (31 + 3 * i) (by omega) (by omega)]
  exact h.2.2 i h0 h1
theorem IvB.c {v w : gV} (h : IvB v) (e3 : w 3 = v 3) (e : ∀ k, 47 ≤ k → k < 47 + 4 * v 3 → w k = v k) : IvB w := by
  refine ⟨by rw [e3]; exact h.1, fun i h0 h1 => ?_⟩
  rw [e3] at h1
  rw [e (47 + 4 * i) (by omega) (by omega), e (48 + 4 * i) (by omega) (by omega), e (49 + 4 * i) (by omega) (by omega), e (50 + 4 * i) (by omega) (by omega)]
  exact h.2 i h0 h1
theorem IvC.c {v w : gV} (h : IvC v) (e0 : w 0 = v 0) (e1 : w 1 = v 1) (e : ∀ k, 7 ≤ k → k < 7 + 2 * v 0 → w k = v k) (g : ∀ k, 23 ≤ k → k < 23 + v 1 → w k = v k) : IvC w := by
  refine ⟨by rw [e0]; exact h.1, by rw [e1]; exact h.2.1, fun i h0 h1 => ?_, fun i h0 h1 => ?_, fun i h0 h1 => ?_⟩
  · rw [e0] at h1
    rw [e (7 + 2 * i) (by omega) (by omega), e (8 + 2 * i) (by omega) (by omega)]
    exact h.2.2.1 i h0 h1
  · rw [e1] at h1
    rw [e0, g (23 + i) (by omega) (by omega)]
    exact h.2.2.2.1 i h0 h1
  · rw [e1] at h1
    rw [leg_m h e g h0 h1]
    exact h.2.2.2.2 i h0 h1
/-- the pilots stay as they must be when the map grows -/
theorem IvS.map {b : Int} {v w : gV} (hI : IvS b v) (hC : IvC w) (hA : IvA w) (hB : IvB w) (h4 : w 4 = v 4) (h6 : w 6 = v 6) (hg : ∀ p k : Int, 0 ≤ p → 0 ≤ k → k < 9 → gl w p k = gl v p k)
    (hd : pln v ∨ (w 1 = v 1 ∧ (∀ k, 23 ≤ k → k < 23 + v 1 → w k = v k) ∧ ∀ k, 7 ≤ k → k < 7 + 2 * v 0 → w k = v k)) : IvS b w := by
  refine ⟨hC, hA, hB, by rw [h4]; exact hI.2.2.2.1, by rw [h6]; exact hI.2.2.2.2.1, hI.2.2.2.2.2.1, fun p p0 p1 => ?_⟩
  rw [h4] at p1
  obtain ⟨f0, f1, f2, f4, f5, f6, f7, f8, q1, q2, q3, q4⟩ := hI.2.2.2.2.2.2 p p0 p1
  unfold IvP
  rw [hg p 0 p0 (by decide) (by decide), hg p 1 p0 (by decide) (by decide), hg p 2 p0 (by decide) (by decide), hg p 3 p0 (by decide) (by decide), hg p 4 p0 (by decide) (by decide), hg p 5 p0 (by decide) (by decide), hg p 6 p0 (by decide) (by decide), hg p 7 p0 (by decide) (by decide), hg p 8 p0 (by decide) (by decide)]
  rcases hd with hd | ⟨e1, g, e⟩
  · have hz := hd p p0 p1
    exact ⟨f0, f1, f2, f4, f5, f6, f7, f8, fun h => absurd hz h, fun h => by omega, fun h => by omega, fun h => by omega⟩
  · rw [e1]
    refine ⟨f0, f1, f2, f4, f5, f6, f7, f8, q1, q2, fun h => ?_, q4⟩
    have g2 := q2 (Or.inl h)
    have g1 := q1 (by omega)
    have g3 := hI.1.2.2.2.1 _ f7.1 g2
    unfold dst
    rw [g (23 + gl v p 7) (by omega) (by omega), e (7 + 2 * v (23 + gl v p 7)) (by omega) (by omega), e (8 + 2 * v (23 + gl v p 7)) (by omega) (by omega)]
    exact q3 h
def ptR (v : gV) (x y : Int) : gV := us (us (us v (7 + 2 * v 0) x) (8 + 2 * v 0) y) 0 (v 0 + 1)
def stR (v : gV) (i : Int) : gV := us (us v (23 + v 1) i) 1 (v 1 + 1)
def thR (v : gV) (x y s : Int) : gV := us (us (us (us v (29 + 3 * v 2) x) (30 + 3 * v 2) y) (31 + 3 * v 2) s) 2 (v 2 + 1)
def arR (v : gV) (x y X Y : Int) : gV := us (us (us (us (us v (47 + 4 * v 3) x) (48 + 4 * v 3) y) (49 + 4 * v 3) X) (50 + 4 * v 3) Y) 3 (v 3 + 1)
def plR (v : gV) (r : Int) : gV := us (us v (59 + 9 * v 4) r) 4 (v 4 + 1)
theorem ptR_n {v : gV} {x y k : Int} (h0 : k ≠ 0) (h1 : k ≠ 7 + 2 * v 0) (h2 : k ≠ 8 + 2 * v 0) : ptR v x y k = v k := by
  unfold ptR
  rw [us_n h0, us_n h2, us_n h1]
theorem stR_n {v : gV} {i k : Int} (h0 : k ≠ 1) (h1 : k ≠ 23 + v 1) : stR v i k = v k := by
  unfold stR
  rw [us_n h0, us_n h1]
theorem thR_n {v : gV} {x y s k : Int} (h0 : k ≠ 2) (h1 : k ≠ 29 + 3 * v 2) (h2 : k ≠ 30 + 3 * v 2) (h3 : k ≠ 31 + 3 * v 2) : thR v x y s k = v k := by
  unfold thR
  rw [us_n h0, us_n h3, us_n h2, us_n h1]
theorem arR_n {v : gV} {x y X Y k : Int} (h0 : k ≠ 3) (h1 : k ≠ 47 + 4 * v 3) (h2 : k ≠ 48 + 4 * v 3) (h3 : k ≠ 49 + 4 * v 3) (h4 : k ≠ 50 + 4 * v 3) : arR v x y X Y k = v k := by
  unfold arR
  rw [us_n h0, us_n h4, us_n h3, us_n h2, us_n h1]
theorem ptR_x {v : gV} {x y : Int} (h : 0 ≤ v 0) : ptR v x y (7 + 2 * v 0) = x := by
  unfold ptR
  rw [us_n (by omega), us_n (by omega), us_s]
theorem ptR_y {v : gV} {x y : Int} (h : 0 ≤ v 0) : ptR v x y (8 + 2 * v 0) = y := by
  unfold ptR
  rw [us_n (by omega), us_s]
theorem ptR_0 {v : gV} {x y : Int} : ptR v x y 0 = v 0 + 1 := us_s
theorem stR_i {v : gV} {i : Int} (h : 0 ≤ v 1) : stR v i (23 + v 1) = i := by
  unfold stR
  rw [us_n (by omega), us_s]
theorem stR_1 {v : gV} {i : Int} : stR v i 1 = v 1 + 1 := us_s
theorem thR_2 {v : gV} {x y s : Int} : thR v x y s 2 = v 2 + 1 := us_s
theorem arR_3 {v : gV} {x y X Y : Int} : arR v x y X Y 3 = v 3 + 1 := us_s
/-- the rows stay as they must be -/
theorem IvS.pt {b : Int} {v : gV} (hI : IvS b v) (h8 : v 0 < 8) {x y : Int} (hx : 0 ≤ x ∧ x ≤ 60) (hy : 0 ≤ y ∧ y ≤ 60) : IvS b (ptR v x y) := by
  have i8 := hI.1.1
  have i6 := hI.1.2.1
  have j6 := hI.2.1.1
  have j3 := hI.2.2.1.1
  have e1 : ptR v x y 1 = v 1 := ptR_n (by decide) (by omega) (by omega)
  have e : ∀ k, 7 ≤ k → k < 7 + 2 * v 0 → ptR v x y k = v k := fun k k0 k1 => ptR_n (by omega) (by omega) (by omega)
  have g : ∀ k, 23 ≤ k → ptR v x y k = v k := fun k k0 => ptR_n (by omega) (by omega) (by omega)
  refine hI.map ⟨?_, ?_, fun i h0 h1 => ?_, fun i h0 h1 => ?_, fun i h0 h1 => ?_⟩ (hI.2.1.c (ptR_n (by decide) (by omega) (by omega)) (ptR_n (by decide) (by omega) (by omega)) (fun k k0 _ => g k (by omega))) (hI.2.2.1.c (ptR_n (by decide) (by omega) (by omega)) (fun k k0 _ => g k (by omega))) (ptR_n (by decide) (by omega) (by omega)) (ptR_n (by decide) (by omega) (by omega)) (fun p k p0 k0 k1 => g _ (by omega)) (Or.inr ⟨e1, fun k k0 _ => g k k0, e⟩)
  · rw [ptR_0]; omega
  · rw [e1]; exact i6
  · rw [ptR_0] at h1
    by_cases h : i = v 0
    · rw [h, ptR_x i8.1, ptR_y i8.1]; exact ⟨hx, hy⟩
    · rw [e (7 + 2 * i) (by omega) (by omega), e (8 + 2 * i) (by omega) (by omega)]
      exact hI.1.2.2.1 i h0 (by omega)
  · rw [e1] at h1
    have := hI.1.2.2.2.1 i h0 h1
    rw [ptR_0, g (23 + i) (by omega)]; omega
  · rw [e1] at h1
    rw [leg_m hI.1 e (fun k k0 _ => g k k0) h0 h1]
    exact hI.1.2.2.2.2 i h0 h1
theorem IvS.st {b : Int} {v : gV} (hI : IvS b v) (hp : pln v) (h6 : v 1 < 6) {i : Int} (hi : 0 ≤ i ∧ i < v 0) (hd : ¬ (0 < v 1 ∧ apt v (v (22 + v 1)) i = 0)) : IvS b (stR v i) := by
  have i8 := hI.1.1
  have i6 := hI.1.2.1
  have j6 := hI.2.1.1
  have j3 := hI.2.2.1.1
  have e0 : stR v i 0 = v 0 := stR_n (by decide) (by omega)
  have e : ∀ k, 7 ≤ k → k < 23 + v 1 → stR v i k = v k := fun k k0 k1 => stR_n (by omega) (by omega)
  have g : ∀ k, 29 ≤ k → stR v i k = v k := fun k k0 => stR_n (by omega) (by omega)
  refine hI.map ⟨?_, ?_, fun j h0 h1 => ?_, fun j h0 h1 => ?_, fun j h0 h1 => ?_⟩ (hI.2.1.c (stR_n (by decide) (by omega)) (stR_n (by decide) (by omega)) (fun k k0 _ => g k k0)) (hI.2.2.1.c (stR_n (by decide) (by omega)) (fun k k0 _ => g k (by omega))) (stR_n (by decide) (by omega)) (stR_n (by decide) (by omega)) (fun p k p0 k0 k1 => g _ (by omega)) (Or.inl hp)
  · rw [e0]; exact i8
  · rw [stR_1]; omega
  · rw [e0] at h1
    rw [e (7 + 2 * j) (by omega) (by omega), e (8 + 2 * j) (by omega) (by omega)]
    exact hI.1.2.2.1 j h0 h1
  · rw [stR_1] at h1
    rw [e0]
    by_cases h : j = v 1
    · rw [h, stR_i i6.1]; exact hi
    · rw [e (23 + j) (by omega) (by omega)]
      exact hI.1.2.2.2.1 j h0 (by omega)
  · rw [stR_1] at h1
    by_cases h : j + 1 = v 1
    · have q1 := hI.1.2.2.2.1 j h0 (by omega)
      have hl : leg (stR v i) j = apt v (v (22 + v 1)) i := by
        unfold leg apt dst
        rw [show (24 : Int) + j = 23 + v 1 by omega, stR_i i6.1, e (23 + j) (by omega) (by omega), e (7 + 2 * v (23 + j)) (by omega) (by omega), e (8 + 2 * v (23 + j)) (by omega) (by omega), e (7 + 2 * i) (by omega) (by omega), e (8 + 2 * i) (by omega) (by omega), show (22 : Int) + v 1 = 23 + j by omega]
      rw [hl]
      have : 0 ≤ apt v (v (22 + v 1)) i := dst_0
      have h9 : apt v (v (22 + v 1)) i ≠ 0 := fun q => hd ⟨by omega, q⟩
      omega
    · rw [leg_m hI.1 (fun k k0 k1 => e k k0 (by omega)) (fun k k0 k1 => e k (by omega) k1) h0 (by omega)]
      exact hI.1.2.2.2.2 j h0 (by omega)
theorem IvS.th {b : Int} {v : gV} (hI : IvS b v) (h6 : v 2 < 6) {x y s : Int} (hx : 0 ≤ x ∧ x ≤ 60) (hy : 0 ≤ y ∧ y ≤ 60) (hs : 1 ≤ s ∧ s ≤ 5) : IvS b (thR v x y s) := by
  have i8 := hI.1.1
  have i6 := hI.1.2.1
  have j6 := hI.2.1.1
  have j3 := hI.2.2.1.1
  have e : ∀ k, 7 ≤ k → k < 29 + 3 * v 2 → thR v x y s k = v k := fun k k0 k1 => thR_n (by omega) (by omega) (by omega) (by omega)
  have g : ∀ k, 47 ≤ k → thR v x y s k = v k := fun k k0 => thR_n (by omega) (by omega) (by omega) (by omega)
  have n : ∀ k, 0 ≤ k → k < 7 → k ≠ 2 → thR v x y s k = v k := fun k k0 k1 k2 => thR_n k2 (by omega) (by omega) (by omega)
  refine hI.map (hI.1.c (n 0 (by decide) (by decide) (by decide)) (n 1 (by decide) (by decide) (by decide)) (fun k k0 k1 => e k k0 (by omega)) (fun k k0 k1 => e k (by omega) (by omega))) ⟨?_, ?_, fun i h0 h1 => ?_⟩ (hI.2.2.1.c (n 3 (by decide) (by decide) (by decide)) (fun k k0 _ => g k k0)) (n 4 (by decide) (by decide) (by decide)) (n 6 (by decide) (by decide) (by decide)) (fun p k p0 k0 k1 => g _ (by omega)) (Or.inr ⟨n 1 (by decide) (by decide) (by decide), fun k k0 k1 => e k (by omega) (by omega), fun k k0 k1 => e k k0 (by omega)⟩)
  · rw [thR_2]; omega
  · rw [n 5 (by decide) (by decide) (by decide)]; exact hI.2.1.2.1
  · rw [thR_2] at h1
    by_cases h : i = v 2
    · unfold thR
      rw [h, us_n (by omega), us_n (by omega), us_n (by omega), us_s, us_n (by omega), us_n (by omega), us_s, us_n (by omega), us_s]
      exact ⟨hx, hy, hs⟩
    · rw [e (29 + 3 * i) (by omega) (by omega), e (30 + 3 * i) (by omega) (by omega), e (31 + 3 * i) (by omega) (by omega)]
      exact hI.2.1.2.2 i h0 (by omega)
theorem IvS.ar {b : Int} {v : gV} (hI : IvS b v) (h6 : v 3 < 3) {x y X Y : Int} (hx : 0 ≤ x ∧ x ≤ X ∧ X ≤ 60) (hy : 0 ≤ y ∧ y ≤ Y ∧ Y ≤ 60) : IvS b (arR v x y X Y) := by
  have i8 := hI.1.1
  have i6 := hI.1.2.1
  have j6 := hI.2.1.1
  have j3 := hI.2.2.1.1
  have e : ∀ k, 7 ≤ k → k < 47 + 4 * v 3 → arR v x y X Y k = v k := fun k k0 k1 => arR_n (by omega) (by omega) (by omega) (by omega) (by omega)
  have g : ∀ k, 59 ≤ k → arR v x y X Y k = v k := fun k k0 => arR_n (by omega) (by omega) (by omega) (by omega) (by omega)
  have n : ∀ k, 0 ≤ k → k < 7 → k ≠ 3 → arR v x y X Y k = v k := fun k k0 k1 k2 => arR_n k2 (by omega) (by omega) (by omega) (by omega)
  refine hI.map (hI.1.c (n 0 (by decide) (by decide) (by decide)) (n 1 (by decide) (by decide) (by decide)) (fun k k0 k1 => e k k0 (by omega)) (fun k k0 k1 => e k (by omega) (by omega))) (hI.2.1.c (n 2 (by decide) (by decide) (by decide)) (n 5 (by decide) (by decide) (by decide)) (fun k k0 k1 => e k (by omega) (by omega))) ⟨?_, fun i h0 h1 => ?_⟩ (n 4 (by decide) (by decide) (by decide)) (n 6 (by decide) (by decide) (by decide)) (fun p k p0 k0 k1 => g _ (by omega)) (Or.inr ⟨n 1 (by decide) (by decide) (by decide), fun k k0 k1 => e k (by omega) (by omega), fun k k0 k1 => e k k0 (by omega)⟩)
  · rw [arR_3]; omega
  · rw [arR_3] at h1
    by_cases h : i = v 3
    · unfold arR
      rw [h, us_n (by omega), us_n (by omega), us_n (by omega), us_n (by omega), us_s, us_n (by omega), us_n (by omega), us_s, us_n (by omega), us_n (by omega), us_n (by omega), us_s, us_n (by omega), us_s]
      exact ⟨hx, hy⟩
    · rw [e (47 + 4 * i) (by omega) (by omega), e (48 + 4 * i) (by omega) (by omega), e (49 + 4 * i) (by omega) (by omega), e (50 + 4 * i) (by omega) (by omega)]
      exact hI.2.2.1.2 i h0 (by omega)
theorem IvS.ba {b : Int} {v : gV} (hI : IvS b v) {z : Int} (hz : 500 ≤ z ∧ z ≤ 3000) : IvS b (us v 5 z) := by
  have n : ∀ k, k ≠ 5 → us v 5 z k = v k := fun k h => us_n h
  refine hI.map (hI.1.c (n 0 (by decide)) (n 1 (by decide)) (fun k k0 k1 => n k (by omega)) (fun k k0 k1 => n k (by omega))) ⟨?_, ?_, fun i h0 h1 => ?_⟩ (hI.2.2.1.c (n 3 (by decide)) (fun k k0 _ => n k (by omega))) (n 4 (by decide)) (n 6 (by decide)) (fun p k p0 k0 k1 => n _ (by omega)) (Or.inr ⟨n 1 (by decide), fun k k0 k1 => n k (by omega), fun k k0 k1 => n k (by omega)⟩)
  · rw [n 2 (by decide)]; exact hI.2.1.1
  · rw [us_s]; exact hz
  · rw [n 2 (by decide)] at h1
    rw [n (29 + 3 * i) (by omega), n (30 + 3 * i) (by omega), n (31 + 3 * i) (by omega)]
    exact hI.2.1.2.2 i h0 h1
/-- a row whose task is empty -/
theorem IvS.dr {b : Int} {v w : gV} (hI : IvS b v) (hp : pln v) (h1 : w 1 = 0) (hw : ∀ k, k ≠ 1 → ¬ (23 ≤ k ∧ k < 29) → w k = v k) : IvS b w := by
  have n : ∀ k, k ≠ 1 → ¬ (23 ≤ k ∧ k < 29) → w k = v k := hw
  have i8 := hI.1.1
  refine hI.map ⟨?_, ?_, fun i h0 h1' => ?_, fun i h0 h1' => ?_, fun i h0 h1' => ?_⟩ (hI.2.1.c (n 2 (by decide) (by decide)) (n 5 (by decide) (by decide)) (fun k k0 _ => n k (by omega) (by omega))) (hI.2.2.1.c (n 3 (by decide) (by decide)) (fun k k0 _ => n k (by omega) (by omega))) (n 4 (by decide) (by decide)) (n 6 (by decide) (by decide)) (fun p k p0 k0 k1 => n _ (by omega) (by omega)) (Or.inl hp)
  · rw [n 0 (by decide) (by decide)]; exact i8
  · rw [h1]; decide
  · rw [n 0 (by decide) (by decide)] at h1'
    rw [n (7 + 2 * i) (by omega) (by omega), n (8 + 2 * i) (by omega) (by omega)]
    exact hI.1.2.2.1 i h0 h1'
  · rw [h1] at h1'; omega
  · rw [h1] at h1'; omega
/-- the cells of the pilots that are not there are zero -/
def IvZ (v : gV) : Prop := ∀ p k : Int, v 4 ≤ p → p < 6 → 0 ≤ k → k < 9 → gl v p k = 0
theorem plR_n {v : gV} {r k : Int} (h0 : k ≠ 4) (h1 : k ≠ 59 + 9 * v 4) : plR v r k = v k := by
  unfold plR
  rw [us_n h0, us_n h1]
theorem plR_4 {v : gV} {r : Int} : plR v r 4 = v 4 + 1 := us_s
theorem plR_g {v : gV} {r p k : Int} (h4 : 0 ≤ v 4) (p0 : 0 ≤ p) (k0 : 0 ≤ k) (k1 : k < 9) : gl (plR v r) p k = if p = v 4 ∧ k = 0 then r else gl v p k := by
  unfold gl plR
  rw [us_n (by omega)]
  by_cases h : p = v 4 ∧ k = 0
  · rw [if_pos h, h.1, h.2, show 59 + 9 * v 4 + 0 = 59 + 9 * v 4 by omega, us_s]
  · rw [if_neg h, us_n (by omega)]
theorem IvS.pl {b : Int} {v : gV} (hI : IvS b v) (hZ : IvZ v) (h6 : v 4 < 6) {r : Int} (hr : 20 ≤ r ∧ r ≤ 60) : IvS b (plR v r) := by
  have hp := hI.2.2.2.1
  have hb := hI.2.2.2.2.2.1
  have e : mE v (plR v r) := fun k k0 k1 k2 k3 => plR_n k2 (by omega)
  refine ⟨IvC_c e hI.1, IvA_c e hI.2.1, IvB_c e hI.2.2.1, by rw [plR_4]; omega, by rw [plR_n (by decide) (by omega)]; exact hI.2.2.2.2.1, hb, fun p p0 p1 => ?_⟩
  rw [plR_4] at p1
  by_cases h : p = v 4
  · have z : ∀ k, 0 ≤ k → k < 9 → gl (plR v r) p k = if k = 0 then r else 0 := fun k k0 k1 => by
      rw [plR_g hp.1 p0 k0 k1]
      by_cases e0 : k = 0
      · rw [if_pos ⟨h, e0⟩, if_pos e0]
      · rw [if_neg (fun q => e0 q.2), if_neg e0, hZ p k (by omega) (by omega) k0 k1]
    have z0 := z 0 (by decide) (by decide)
    have z1 := z 1 (by decide) (by decide)
    have z2 := z 2 (by decide) (by decide)
    have z3 := z 3 (by decide) (by decide)
    have z4 := z 4 (by decide) (by decide)
    have z5 := z 5 (by decide) (by decide)
    have z6 := z 6 (by decide) (by decide)
    have z7 := z 7 (by decide) (by decide)
    have z8 := z 8 (by decide) (by decide)
    rw [if_pos rfl] at z0
    rw [if_neg (by decide)] at z1 z2 z3 z4 z5 z6 z7 z8
    unfold IvP
    rw [z0, z1, z2, z3, z4, z5, z6, z7, z8]
    exact ⟨hr, by decide, by decide, by decide, by omega, by omega, by decide, by omega, fun h => absurd rfl h, fun h => by rcases h with h | h <;> exact absurd h (by decide), fun h => absurd h (by decide), fun h => absurd h (by decide)⟩
  · exact (hI.2.2.2.2.2.2 p p0 (by omega)).c e hI.1 (fun k k0 k1 => by rw [plR_g hp.1 p0 k0 k1, if_neg (fun q => h q.1)])
