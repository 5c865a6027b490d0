/-! PURE: the model's questions of its row -/
def LyM (S Ln : Nat → Nat) (R : gR) (m : Nat) : Prop := (S m = 13 ∧ S (m + 1) = 20 ∧ S (m + 2) = 20 ∧ S (m + 3) = 20 ∧ S (m + 4) = 20 ∧ S (m + 5) = 20 ∧ S (m + 6) = 20 ∧ S (m + 7) = 20 ∧ S (m + 8) = 20) ∧ (Ln (m + 1) = 113 ∧ Ln (m + 2) = 113 ∧ Ln (m + 3) = 113 ∧ Ln (m + 4) = 904 ∧ Ln (m + 5) = 6 ∧ Ln (m + 6) = 80 ∧ Ln (m + 7) = 60 ∧ Ln (m + 8) = 155) ∧
  R m 0 = some (m + 1) ∧ R m 1 = some (m + 2) ∧ R m 2 = some (m + 3) ∧ R m 3 = some (m + 4) ∧ R m 10 = some (m + 5) ∧ R m 11 = some (m + 6) ∧ R m 13 = some (m + 7) ∧ R m 14 = some (m + 8)
section PMO
variable {ad S Ln : Nat → Nat} {R : gR} {M : gM} {m : Nat} {b : Int}
theorem m_0 {α : Type} {f : Nat → Option α} (hL : LyM S Ln R m) : rf S (R m 0) 20 f = f (m + 1) := rf_o hL.2.2.1 hL.1.2.1
theorem m_g {α : Type} {x : Option α} (hL : LyM S Ln R m) {k : Int} (h0 : 0 ≤ k) (h1 : k < 113) : gd (0 ≤ k ∧ k < (Ln (m + 1) : Int)) x = x := gd_t (by rw [hL.2.1.1]; exact ⟨h0, h1⟩)
theorem m_of (hL : LyM S Ln R m) {p k : Int} (h0 : 0 ≤ p) (h1 : p < 6) (k0 : 0 ≤ k) (k1 : k < 9) : fX10_of ad S Ln R M m p k = some (gl (M (m + 1)) p k) := by
  unfold fX10_of
  rw [m_0 hL, w32_i (z := 9 * p) (by omega) (by omega), w32_i (z := 59 + 9 * p) (by omega) (by omega), w32_i (by omega) (by omega), m_g hL (by omega) (by omega)]
  rfl
theorem m_ofU (hL : LyM S Ln R m) {v u : gV} {p k : Int} (h : M (m + 1) = sU v p u) (h0 : 0 ≤ p) (h1 : p < 6) (k0 : 0 ≤ k) (k1 : k < 9) : fX10_of ad S Ln R M m p k = some (u k) := by
  rw [m_of hL h0 h1 k0 k1, h, sU_s k0 k1]
theorem m_sets (hL : LyM S Ln R m) {p k : Int} (h0 : 0 ≤ p) (h1 : p < 6) (k0 : 0 ≤ k) (k1 : k < 9) (z : Int) : fX10_sets ad S Ln R M m p k z = some (wr M (m + 1) (59 + 9 * p + k) z) := by
  unfold fX10_sets
  rw [m_0 hL, w32_i (z := 9 * p) (by omega) (by omega), w32_i (z := 59 + 9 * p) (by omega) (by omega), w32_i (by omega) (by omega), m_g hL (by omega) (by omega)]
  rfl
theorem m_setsU (hL : LyM S Ln R m) {v u : gV} {p k : Int} (h : M (m + 1) = sU v p u) (h0 : 0 ≤ p) (h1 : p < 6) (k0 : 0 ≤ k) (k1 : k < 9) (z : Int) : ∃ M', fX10_sets ad S Ln R M m p k z = some M' ∧ M' (m + 1) = sU v p (us u k z) ∧ ∀ c, c ≠ m + 1 → M' c = M c :=
  ⟨_, m_sets hL h0 h1 k0 k1 z, by rw [wr_r, h, sU_us k0 k1], fun c hc => wr_a hc⟩
theorem x_isIn (x l h : Int) : fX10_isIn ad S Ln R M x l h = some (bI (l ≤ x ∧ x ≤ h)) := by
  unfold fX10_isIn
  by_cases a : x < l
  · rw [if_pos a, bI_f (by omega)]
  rw [if_neg a]
  by_cases c : h < x
  · rw [if_pos c, bI_f (by omega)]
  rw [if_neg c, bI_t (by omega)]
theorem x_between {x y : Int} (h0 : -100000 ≤ x) (h1 : x ≤ 100000) (g0 : -100000 ≤ y) (g1 : y ≤ 100000) : fX10_between ad S Ln R M x y = some (ab (x - y)) := by
  unfold fX10_between
  have a := ab_d (x - y)
  split
  · rw [w32_i (by omega) (by omega)]; congr 1; omega
  · rw [w32_i (by omega) (by omega)]; congr 1; omega
theorem x_isPlace (x y : Int) : fX10_isPlace ad S Ln R M x y = some (bI ((0 ≤ x ∧ x ≤ 60) ∧ 0 ≤ y ∧ y ≤ 60)) := by
  unfold fX10_isPlace
  rw [x_isIn, bd_s]
  by_cases a : 0 ≤ x ∧ x ≤ 60
  · rw [bI_t a, if_neg (by decide), x_isIn, bd_s]
    by_cases c : 0 ≤ y ∧ y ≤ 60
    · rw [bI_t c, if_neg (by decide), bI_t ⟨a, c⟩]
    · rw [bI_f c, if_pos rfl, bI_f (fun q => c q.2)]
  · rw [bI_f a, if_pos rfl, bI_f (fun q => a q.1)]
theorem m_isPoint (hL : LyM S Ln R m) {v : gV} (hv : M (m + 1) = v) (hC : IvC v) (i : Int) : fX10_isPoint ad S Ln R M m i = some (bI (0 ≤ i ∧ i < v 0)) := by
  have i8 := hC.1
  unfold fX10_isPoint
  rw [m_0 hL, m_g hL (by decide) (by decide), hv, w32_i (by omega) (by omega), x_isIn, bd_s]
  exact congrArg some (bI_c (by omega))
theorem m_isPilot (hL : LyM S Ln R m) {v : gV} (hv : M (m + 1) = v) (hp : 0 ≤ v 4 ∧ v 4 ≤ 6) (i : Int) : fX10_isPilot ad S Ln R M m i = some (bI (0 ≤ i ∧ i < v 4)) := by
  unfold fX10_isPilot
  rw [m_0 hL, m_g hL (by decide) (by decide), hv, w32_i (by omega) (by omega), x_isIn, bd_s]
  exact congrArg some (bI_c (by omega))
theorem m_pointX (hL : LyM S Ln R m) {v : gV} (hv : M (m + 1) = v) {i : Int} (h0 : 0 ≤ i) (h1 : i < 8) : fX10_pointX ad S Ln R M m i = some (v (7 + 2 * i)) := by
  unfold fX10_pointX
  rw [m_0 hL, w32_i (z := 2 * i) (by omega) (by omega), w32_i (by omega) (by omega), m_g hL (by omega) (by omega), hv]
theorem m_pointY (hL : LyM S Ln R m) {v : gV} (hv : M (m + 1) = v) {i : Int} (h0 : 0 ≤ i) (h1 : i < 8) : fX10_pointY ad S Ln R M m i = some (v (8 + 2 * i)) := by
  unfold fX10_pointY
  rw [m_0 hL, w32_i (z := 2 * i) (by omega) (by omega), w32_i (z := 7 + 2 * i) (by omega) (by omega), w32_i (by omega) (by omega), m_g hL (by omega) (by omega), hv, show 7 + 2 * i + 1 = 8 + 2 * i by omega]
theorem m_apart (hL : LyM S Ln R m) {v : gV} (hv : M (m + 1) = v) (hC : IvC v) {i j : Int} (h0 : 0 ≤ i) (h1 : i < v 0) (g0 : 0 ≤ j) (g1 : j < v 0) : fX10_apart ad S Ln R M m i j = some (apt v i j) := by
  have i8 := hC.1
  have pi := hC.2.2.1 i h0 h1
  have pj := hC.2.2.1 j g0 g1
  have a1 := ab_d (v (7 + 2 * i) - v (7 + 2 * j))
  have a2 := ab_d (v (8 + 2 * i) - v (8 + 2 * j))
  unfold fX10_apart
  rw [m_pointX hL hv h0 (by omega), bd_s, m_pointX hL hv g0 (by omega), bd_s, x_between (by omega) (by omega) (by omega) (by omega), bd_s, m_pointY hL hv h0 (by omega), bd_s, m_pointY hL hv g0 (by omega), bd_s, x_between (by omega) (by omega) (by omega) (by omega), bd_s, w32_i (by omega) (by omega)]
  rfl
theorem m_inTask (hL : LyM S Ln R m) {v : gV} (hv : M (m + 1) = v) {k : Int} (h0 : 0 ≤ k) (h1 : k ≤ 10) : fX10_inTask ad S Ln R M m k = some (v (23 + k)) := by
  unfold fX10_inTask
  rw [m_0 hL, w32_i (by omega) (by omega), m_g hL (by omega) (by omega), hv]
theorem m_leg (hL : LyM S Ln R m) {v : gV} (hv : M (m + 1) = v) (hC : IvC v) {k : Int} (h0 : 0 ≤ k) (h1 : k + 1 < v 1) : fX10_leg ad S Ln R M m k = some (leg v k) := by
  have i6 := hC.2.1
  have p1 := hC.2.2.2.1 k h0 (by omega)
  have p2 := hC.2.2.2.1 (k + 1) (by omega) h1
  unfold fX10_leg
  rw [m_inTask hL hv h0 (by omega), bd_s, w32_i (by omega) (by omega), m_inTask hL hv (by omega) (by omega), bd_s, m_apart hL hv hC p1.1 p1.2 p2.1 p2.2, bd_s]
  unfold leg
  rw [show (24 : Int) + k = 23 + (k + 1) by omega]
theorem m_legs (hL : LyM S Ln R m) {v : gV} (hv : M (m + 1) = v) (hC : IvC v) {n : Int} (h1 : n < v 1 ∨ n ≤ 0) : fX10_legs ad S Ln R M m n = some (lgs v n.toNat) := by
  have i6 := hC.2.1
  unfold fX10_legs
  rw [lp_up0 (b := fX10_legs_L4 ad S Ln R M m n) n.toNat (fun i => (lgs v i, (i : Int))) (r := .inl (lgs v n.toNat)) (s := ((0 : Int), (0 : Int))) rfl (by omega) (fun i hi => by
      have b1 := lgs_b hC i (by omega)
      have b2 := leg_120 hC (k := i) (by omega) (by omega)
      unfold fX10_legs_L4
      rw [if_neg (by show ¬ n ≤ (i : Int); omega), m_leg hL hv hC (by show (0 : Int) ≤ (i : Int); omega) (by show (i : Int) + 1 < v 1; omega), bd_s]
      show some (Sum.inl (w32 (lgs v i + leg v i), w32 ((i : Int) + 1))) = some (Sum.inl (lgs v i + leg v i, ((i + 1 : Nat) : Int)))
      rw [w32_i (by omega) (by omega), w32_i (by omega) (by omega), show ((i + 1 : Nat) : Int) = (i : Int) + 1 by omega]) (by
      unfold fX10_legs_L4
      rw [if_pos (by show n ≤ ((n.toNat : Nat) : Int); omega)]), bd_s, se_l]
theorem m_whole (hL : LyM S Ln R m) {v : gV} (hv : M (m + 1) = v) (hC : IvC v) : fX10_whole ad S Ln R M m = some (whl v) := by
  have i6 := hC.2.1
  unfold fX10_whole
  rw [m_0 hL, m_g hL (by decide) (by decide), hv]
  by_cases h : 2 ≤ v 1
  · rw [if_pos h, m_0 hL, m_g hL (by decide) (by decide), hv, w32_i (by omega) (by omega), m_legs hL hv hC (by omega), bd_s]
    rfl
  · rw [if_neg h]
    unfold whl
    rw [show (v 1 - 1).toNat = 0 by omega]
    rfl
theorem m_planning (hL : LyM S Ln R m) {v : gV} (hv : M (m + 1) = v) (hp : 0 ≤ v 4 ∧ v 4 ≤ 6) : fX10_planning ad S Ln R M m = some (bI (pln v)) := by
  unfold fX10_planning
  obtain ⟨r, e1, e2⟩ := lp_inv0 (b := fX10_planning_L2 ad S Ln R M m) (v 4).toNat (fun i s => s = (i : Int) ∧ ∀ p : Int, 0 ≤ p → p < i → gl v p 1 = 0)
    (fun r => (r = .inl () ∧ pln v) ∨ (r = .inr 0 ∧ ¬ pln v)) (s := (0 : Int)) (by omega) ⟨rfl, fun p p0 p1 => by omega⟩
    (fun i s hi hs => by
      obtain ⟨s1, s2⟩ := hs
      unfold fX10_planning_L2
      rw [m_0 hL, m_g hL (by decide) (by decide), hv, s1, if_neg (by omega), m_of hL (by omega) (by omega) (by decide) (by decide), bd_s, hv]
      by_cases e : gl v i 1 = 0
      · rw [if_pos e]
        refine Or.inl ⟨_, rfl, ?_, fun p p0 p1 => ?_⟩
        · rw [w32_i (by omega) (by omega)]; omega
        · by_cases e' : p = i
          · rw [e']; exact e
          · exact s2 p p0 (by omega)
      · rw [if_neg e]
        exact Or.inr ⟨_, rfl, Or.inr ⟨rfl, fun q => e (q i (by omega) (by omega))⟩⟩)
    (fun s hs => by
      obtain ⟨s1, s2⟩ := hs
      unfold fX10_planning_L2
      rw [m_0 hL, m_g hL (by decide) (by decide), hv, s1, if_pos (by omega)]
      exact ⟨_, rfl, Or.inl ⟨rfl, fun p p0 p1 => s2 p p0 (by omega)⟩⟩)
  rw [e1, bd_s]
  rcases e2 with ⟨e, h⟩ | ⟨e, h⟩
  · rw [e, se_l, bI_t h]
  · rw [e, se_r, bI_f h]
theorem m_restricted (hL : LyM S Ln R m) {v : gV} (hv : M (m + 1) = v) (hB : IvB v) (x y : Int) : fX10_restricted ad S Ln R M m x y = some (bI (rst v x y)) := by
  have i3 := hB.1
  unfold fX10_restricted
  obtain ⟨r, e1, e2⟩ := lp_inv0 (b := fX10_restricted_L2 ad S Ln R M m x y) (v 3).toNat (fun i s => s = (i : Int) ∧ ∀ p : Int, 0 ≤ p → p < i → ¬ cov v x y p)
    (fun r => (r = .inl () ∧ ¬ rst v x y) ∨ (r = .inr 1 ∧ rst v x y)) (s := (0 : Int)) (by omega) ⟨rfl, fun p p0 p1 => by omega⟩
    (fun i s hi hs => by
      obtain ⟨s1, s2⟩ := hs
      have hn : ¬ cov v x y i → (∃ t, fX10_restricted_B70 ad S Ln R M m x y (i : Int) = some (.inl t) ∧ t = ((i + 1 : Nat) : Int) ∧ ∀ p : Int, 0 ≤ p → p < (i + 1 : Nat) → ¬ cov v x y p) := fun h => by
        refine ⟨_, rfl, ?_, fun p p0 p1 => ?_⟩
        · rw [w32_i (by omega) (by omega)]; omega
        · by_cases e' : p = i
          · rw [e']; exact h
          · exact s2 p p0 (by omega)
      unfold fX10_restricted_L2
      rw [m_0 hL, m_g hL (by decide) (by decide), hv, s1, if_neg (by omega), m_0 hL, w32_i (z := 4 * (i : Int)) (by omega) (by omega), w32_i (z := 47 + 4 * (i : Int)) (by omega) (by omega), m_g hL (by omega) (by omega), m_0 hL, w32_i (z := 47 + 4 * (i : Int) + 2) (by omega) (by omega), m_g hL (by omega) (by omega), hv, x_isIn, bd_s]
      by_cases a : v (47 + 4 * (i : Int)) ≤ x ∧ x ≤ v (47 + 4 * (i : Int) + 2)
      · rw [bI_t a, if_neg (by decide), m_0 hL, w32_i (z := 47 + 4 * (i : Int) + 1) (by omega) (by omega), m_g hL (by omega) (by omega), m_0 hL, w32_i (z := 47 + 4 * (i : Int) + 3) (by omega) (by omega), m_g hL (by omega) (by omega), hv, x_isIn, bd_s]
        rw [show 47 + 4 * (i : Int) + 2 = 49 + 4 * (i : Int) by omega] at a
        rw [show 47 + 4 * (i : Int) + 1 = 48 + 4 * (i : Int) by omega, show 47 + 4 * (i : Int) + 3 = 50 + 4 * (i : Int) by omega]
        by_cases c : v (48 + 4 * (i : Int)) ≤ y ∧ y ≤ v (50 + 4 * (i : Int))
        · rw [bI_t c, if_neg (by decide)]
          exact Or.inr ⟨_, rfl, Or.inr ⟨rfl, i, ⟨by omega, by omega⟩, a, c⟩⟩
        · rw [bI_f c, if_pos rfl]
          exact Or.inl (hn fun q => c q.2)
      · rw [bI_f a, if_pos rfl]
        rw [show 47 + 4 * (i : Int) + 2 = 49 + 4 * (i : Int) by omega] at a
        exact Or.inl (hn fun q => a q.1))
    (fun s hs => by
      obtain ⟨s1, s2⟩ := hs
      unfold fX10_restricted_L2
      rw [m_0 hL, m_g hL (by decide) (by decide), hv, s1, if_pos (by omega)]
      exact ⟨_, rfl, Or.inl ⟨rfl, fun ⟨p, ⟨p0, p1⟩, hc⟩ => s2 p p0 (by omega) hc⟩⟩)
  rw [e1, bd_s]
  rcases e2 with ⟨e, h⟩ | ⟨e, h⟩
  · rw [e, se_l, bI_f h]
  · rw [e, se_r, bI_t h]
theorem m_lifted (hL : LyM S Ln R m) {v : gV} (hv : M (m + 1) = v) (hA : IvA v) {x y : Int} (hx0 : -1000 ≤ x) (hx1 : x ≤ 1000) (hy0 : -1000 ≤ y) (hy1 : y ≤ 1000) : fX10_lifted ad S Ln R M m x y = some (str v x y (v 2).toNat) := by
  have i2 := hA.1
  unfold fX10_lifted
  rw [lp_up0 (b := fX10_lifted_L5 ad S Ln R M m x y) (v 2).toNat (fun i => (str v x y i, (i : Int))) (r := .inl (str v x y (v 2).toNat)) (s := ((0 : Int), (0 : Int))) rfl (by omega) (fun i hi => by
      obtain ⟨p1, p2, p3⟩ := hA.2.2 i (by omega) (by omega)
      have a1 := ab_d (v (29 + 3 * (i : Int)) - x)
      have a2 := ab_d (v (30 + 3 * (i : Int)) - y)
      have hs : ((i + 1 : Nat) : Int) = (i : Int) + 1 := by omega
      unfold fX10_lifted_L5
      dsimp only
      rw [m_0 hL, m_g hL (by decide) (by decide), hv, if_neg (by omega), m_0 hL, w32_i (z := 3 * (i : Int)) (by omega) (by omega), w32_i (z := 29 + 3 * (i : Int)) (by omega) (by omega), m_g hL (by omega) (by omega), hv, x_between (by omega) (by omega) (by omega) (by omega), bd_s, m_0 hL, w32_i (z := 29 + 3 * (i : Int) + 1) (by omega) (by omega), m_g hL (by omega) (by omega), hv, show 29 + 3 * (i : Int) + 1 = 30 + 3 * (i : Int) by omega, x_between (by omega) (by omega) (by omega) (by omega), bd_s, ab_n, @ab_n y, w32_i (by omega) (by omega)]
      have hB91 : fX10_lifted_B91 ad S Ln R M m x y (str v x y i) (i : Int) = some (.inl (str v x y i, (i : Int) + 1)) := by
        unfold fX10_lifted_B91 fX10_lifted_B92
        rw [w32_i (by omega) (by omega)]
      have hst : str v x y (i + 1) = if ab (v (29 + 3 * (i : Int)) - x) + ab (v (30 + 3 * (i : Int)) - y) ≤ 2 ∧ str v x y i < v (31 + 3 * (i : Int)) then v (31 + 3 * (i : Int)) else str v x y i := rfl
      by_cases a : 2 < ab (v (29 + 3 * (i : Int)) - x) + ab (v (30 + 3 * (i : Int)) - y)
      · rw [if_pos a]
        unfold fX10_lifted_B59
        rw [if_pos rfl, hB91, hst, if_neg (by omega), hs]
      · rw [if_neg a]
        unfold fX10_lifted_B59
        rw [if_neg (by decide), m_0 hL, w32_i (z := 29 + 3 * (i : Int) + 2) (by omega) (by omega), m_g hL (by omega) (by omega), hv, show 29 + 3 * (i : Int) + 2 = 31 + 3 * (i : Int) by omega]
        by_cases c : v (31 + 3 * (i : Int)) ≤ str v x y i
        · rw [if_pos c, hB91, hst, if_neg (by omega), hs]
        · rw [if_neg c, m_0 hL, m_g hL (by omega) (by omega), hv, hst, if_pos (by omega), hs]
          unfold fX10_lifted_B92
          rw [w32_i (by omega) (by omega)]) (by
      unfold fX10_lifted_L5
      dsimp only
      rw [m_0 hL, m_g hL (by decide) (by decide), hv, if_pos (by omega)]), bd_s, se_l]
theorem m_inState (hL : LyM S Ln R m) {v : gV} (hv : M (m + 1) = v) (hp : 0 ≤ v 4 ∧ v 4 ≤ 6) (z : Int) : fX10_inState ad S Ln R M m z = some (inP v z (v 4).toNat) := by
  unfold fX10_inState
  rw [lp_up0 (b := fX10_inState_L4 ad S Ln R M m z) (v 4).toNat (fun i => (inP v z i, (i : Int))) (r := .inl (inP v z (v 4).toNat)) (s := ((0 : Int), (0 : Int))) rfl (by omega) (fun i hi => by
      have hb := @inP_b v z i
      have hs : ((i + 1 : Nat) : Int) = (i : Int) + 1 := by omega
      have hst : inP v z (i + 1) = inP v z i + (if gl v i 1 = z then 1 else 0) := rfl
      unfold fX10_inState_L4
      dsimp only
      rw [m_0 hL, m_g hL (by decide) (by decide), hv, if_neg (by omega), m_of hL (by omega) (by omega) (by decide) (by decide), bd_s, hv, hst, hs]
      unfold fX10_inState_B30
      by_cases a : gl v i 1 = z
      · rw [if_neg (fun q => q a), if_pos a, w32_i (by omega) (by omega), w32_i (by omega) (by omega)]
      · rw [if_pos a, if_neg a, w32_i (by omega) (by omega), w32_i (by omega) (by omega)]) (by
      unfold fX10_inState_L4
      dsimp only
      rw [m_0 hL, m_g hL (by decide) (by decide), hv, if_pos (by omega)]), bd_s, se_l]
theorem m_isThrown (m : Nat) (x z : Int) : fX10_isThrown ad S Ln R M m x z = some (x, wr M m 5 (if x = 0 then 0 else z)) := by
  unfold fX10_isThrown
  by_cases h : x = 0
  · rw [if_pos h, if_pos h]; rfl
  · rw [if_neg h, if_neg h]; rfl
theorem m_toNext (hL : LyM S Ln R m) {v : gV} (hv : M (m + 1) = v) (hI : IvS b v) {p : Int} (h0 : 0 ≤ p) (h1 : p < v 4) (e1 : gl v p 1 = 1 ∨ gl v p 1 = 2) : fX10_toNext ad S Ln R M m p = some (dst v (v (23 + gl v p 7)) (gl v p 2) (gl v p 3)) := by
  have hp := hI.2.2.2.1
  obtain ⟨f0, f1, ⟨f2, f3⟩, f4, f5, f6, f7, f8, q1, q2, q3, q4⟩ := hI.2.2.2.2.2.2 p h0 h1
  have i8 := hI.1.1
  have g2 := q2 e1
  have g3 := hI.1.2.2.2.1 _ f7.1 g2
  obtain ⟨g4, g5⟩ := hI.1.2.2.1 _ g3.1 g3.2
  have a1 := ab_d (v (7 + 2 * v (23 + gl v p 7)) - gl v p 2)
  have a2 := ab_d (v (8 + 2 * v (23 + gl v p 7)) - gl v p 3)
  unfold fX10_toNext
  rw [m_of hL h0 (by omega) (by decide) (by decide), bd_s, hv, m_inTask hL hv f7.1 (by omega), bd_s, m_of hL h0 (by omega) (by decide) (by decide), bd_s, hv, m_pointX hL hv g3.1 (by omega), bd_s, x_between (by omega) (by omega) (by omega) (by omega), bd_s, m_of hL h0 (by omega) (by decide) (by decide), bd_s, hv, m_pointY hL hv g3.1 (by omega), bd_s, x_between (by omega) (by omega) (by omega) (by omega), bd_s, ab_n, @ab_n (gl v p 3), w32_i (by omega) (by omega)]
  rfl
theorem m_achieved (hL : LyM S Ln R m) {v : gV} (hv : M (m + 1) = v) (hI : IvS b v) {p : Int} (h0 : 0 ≤ p) (h1 : p < v 4) : fX10_achieved ad S Ln R M m p = some (acU v (gl v p)) := by
  have hp := hI.2.2.2.1
  obtain ⟨f0, f1, ⟨f2, f3⟩, f4, f5, f6, f7, f8, q1, q2, q3, q4⟩ := hI.2.2.2.2.2.2 p h0 h1
  have i8 := hI.1.1
  have i6 := hI.1.2.1
  unfold fX10_achieved acU
  rw [m_of hL h0 (by omega) (by decide) (by decide), bd_s, hv]
  by_cases e0 : gl v p 1 = 0
  · rw [if_neg (fun q => q e0), if_pos e0]
  rw [if_pos e0, if_neg e0, m_of hL h0 (by omega) (by decide) (by decide), bd_s, hv]
  by_cases e3 : gl v p 1 = 3
  · rw [if_neg (fun q => q e3), if_pos e3, m_whole hL hv hI.1, bd_s]
  rw [if_pos e3, if_neg e3]
  have g1 := q1 e0
  have g2 := q2 (by omega)
  have g3 := hI.1.2.2.2.1 _ f7.1 g2
  have g4 := leg_120 hI.1 (k := gl v p 7 - 1) (by omega) (by omega)
  have g5 := @dst_0 v (v (23 + gl v p 7)) (gl v p 2) (gl v p 3)
  have g6 := dst_120 hI.1 g3.1 g3.2 f2.1 f2.2 f3.1 f3.2
  have g7 := lgs_b hI.1 (gl v p 7 - 1).toNat (by omega)
  rw [bd_s, w32_i (z := gl v p 7 - 1) (by omega) (by omega), m_leg hL hv hI.1 (by omega) (by omega), bd_s, m_toNext hL hv hI h0 h1 (by omega), bd_s, bd_s, w32_i (z := gl v p 7 - 1) (by omega) (by omega), m_legs hL hv hI.1 (by omega), bd_s, w32_i (z := leg v (gl v p 7 - 1) - _) (by omega) (by omega)]
  by_cases h : 0 < leg v (gl v p 7 - 1) - dst v (v (23 + gl v p 7)) (gl v p 2) (gl v p 3)
  · rw [if_neg (by omega), if_pos h, w32_i (by omega) (by omega)]
  · rw [if_pos (by omega), if_neg h, w32_i (by omega) (by omega)]
theorem m_bonus (hL : LyM S Ln R m) {v : gV} (hv : M (m + 1) = v) (hI : IvS b v) {p : Int} (h0 : 0 ≤ p) (h1 : p < v 4) (e3 : gl v p 1 = 3) : fX10_bonus ad S Ln R M m p = some (Int.tdiv (500 * lms v (gl v p 5) (v 4).toNat) (gl v p 5)) := by
  have hp := hI.2.2.2.1
  have hb := hI.2.2.2.2.2.1
  obtain ⟨f0, f1, f2, f4, f5, f6, f7, f8, q1, q2, q3, q4⟩ := hI.2.2.2.2.2.2 p h0 h1
  have h5 := (q4 e3).2
  have hl := lms_b hI (m := gl v p 5) (by omega) (v 4).toNat (by omega)
  unfold fX10_bonus
  rw [m_of hL h0 (by omega) (by decide) (by decide), bd_s, hv, lp_up0 (b := fX10_bonus_L9 ad S Ln R M m p) (v 4).toNat (fun i => (lms v (gl v p 5) i, (i : Int))) (r := .inl (lms v (gl v p 5) (v 4).toNat)) (s := (gl v p 5, (0 : Int))) rfl (by omega) (fun i hi => by
      have hs : ((i + 1 : Nat) : Int) = (i : Int) + 1 := by omega
      have hst : lms v (gl v p 5) (i + 1) = if gl v i 1 = 3 ∧ gl v i 5 < lms v (gl v p 5) i then gl v i 5 else lms v (gl v p 5) i := rfl
      have hB : ∀ z, fX10_bonus_B49 ad S Ln R M m p (i : Int) z = some (.inl (z, (i : Int) + 1)) := fun z => by
        unfold fX10_bonus_B49
        rw [w32_i (by omega) (by omega)]
      unfold fX10_bonus_L9
      dsimp only
      rw [m_0 hL, m_g hL (by decide) (by decide), hv, if_neg (by omega), m_of hL (by omega) (by omega) (by decide) (by decide), bd_s, hv, hst, hs]
      unfold fX10_bonus_B48
      by_cases a : gl v i 1 = 3
      · rw [if_neg (fun q => q a), m_of hL (by omega) (by omega) (by decide) (by decide), bd_s, hv]
        by_cases c : lms v (gl v p 5) i ≤ gl v i 5
        · rw [if_pos c, hB, if_neg (by omega)]
        · rw [if_neg c, bd_s, hB, if_pos (by omega)]
      · rw [if_pos a, hB, if_neg (fun q => a q.1)]) (by
      unfold fX10_bonus_L9
      dsimp only
      rw [m_0 hL, m_g hL (by decide) (by decide), hv, if_pos (by omega)]), bd_s, se_l, bd_s, gd_t h5, w32_i (by omega) (by omega)]
theorem m_score (hL : LyM S Ln R m) {v : gV} (hv : M (m + 1) = v) (hI : IvS b v) {p : Int} (h0 : 0 ≤ p) (h1 : p < v 4) : fX10_score ad S Ln R M m p = some (scU v (gl v p)) := by
  have hp := hI.2.2.2.1
  have hb := hI.2.2.2.2.2.1
  have hu := hI.2.2.2.2.2.2 p h0 h1
  have ha := acU_b hI.1 hu
  have hw := whl_b hI.1
  obtain ⟨f0, f1, f2, f4, f5, f6, f7, f8, q1, q2, q3, q4⟩ := id hu
  have hB : ∀ x y : Int, 0 ≤ x → x ≤ 1000 → 0 ≤ y → y ≤ 500 → fX10_score_B44 ad S Ln R M m p y x = some (if x + y - gl v p 6 < 0 then 0 else x + y - gl v p 6) := fun x y x0 x1 y0 y1 => by
    unfold fX10_score_B44
    rw [m_of hL h0 (by omega) (by decide) (by decide), bd_s, hv, w32_i (z := x + y) (by omega) (by omega), w32_i (by omega) (by omega)]
    by_cases h : x + y - gl v p 6 < 0
    · rw [if_neg (by omega), if_pos h]
    · rw [if_pos (by omega), if_neg h]
  unfold fX10_score scU
  rw [m_of hL h0 (by omega) (by decide) (by decide), bd_s, hv]
  by_cases e0 : gl v p 1 = 0
  · rw [if_neg (fun q => q e0), if_pos e0]
  have s1 := sc1_b hI hu e0
  have hwp := whl_p hI.1 (q1 e0).1
  rw [if_pos e0, if_neg e0, m_achieved hL hv hI h0 h1, bd_s, m_whole hL hv hI.1, bd_s, gd_t hwp, w32_i (z := 1000 * acU v (gl v p)) (by omega) (by omega), bd_s]
  by_cases e3 : gl v p 1 = 3
  · have s2 := sc2_b hI hu e3
    rw [if_neg (fun q => q e3), m_bonus hL hv hI h0 h1 e3, bd_s, hB _ _ s1.1 s1.2 s2.1 s2.2, if_pos e3]
  · rw [if_pos e3, hB _ _ s1.1 s1.2 (Int.le_refl _) (by decide), if_neg e3]
theorem m_remaining (hL : LyM S Ln R m) {v : gV} (hv : M (m + 1) = v) (hI : IvS b v) {p : Int} (h0 : 0 ≤ p) (h1 : p < v 4) (e1 : gl v p 1 = 1) : fX10_remaining ad S Ln R M m p = some (lfU v (gl v p)) := by
  have hp := hI.2.2.2.1
  have hu := hI.2.2.2.2.2.2 p h0 h1
  have hlf := lfU_b hI.1 hu e1
  have hw := whl_b hI.1
  obtain ⟨f0, f1, ⟨f2, f3⟩, f4, f5, f6, f7, f8, q1, q2, q3, q4⟩ := id hu
  have i6 := hI.1.2.1
  have g2 := q2 (Or.inl e1)
  have g3 := hI.1.2.2.2.1 _ f7.1 g2
  have g5 := @dst_0 v (v (23 + gl v p 7)) (gl v p 2) (gl v p 3)
  have g6 := dst_120 hI.1 g3.1 g3.2 f2.1 f2.2 f3.1 f3.2
  unfold fX10_remaining
  rw [m_toNext hL hv hI h0 h1 (Or.inl e1), bd_s, m_0 hL, m_g hL (by decide) (by decide), hv, w32_i (z := v 1 - 1) (by omega) (by omega), m_legs hL hv hI.1 (by omega), bd_s, m_of hL h0 (by omega) (by decide) (by decide), bd_s, hv, m_legs hL hv hI.1 (Or.inl g2), bd_s]
  unfold lfU at hlf ⊢
  unfold whl at hlf hw ⊢
  rw [w32_i (z := _ + lgs v (v 1 - 1).toNat) (by omega) (by omega), w32_i (by omega) (by omega)]
  congr 1
  omega
theorem m_sink (hL : LyM S Ln R m) {v : gV} (hv : M (m + 1) = v) {p : Int} (h0 : 0 ≤ p) (h1 : p < 6) (hs : 0 < gl v p 0) : fX10_sinkOf ad S Ln R M m p = some (snk (gl v p)) := by
  unfold fX10_sinkOf
  rw [m_of hL h0 h1 (by decide) (by decide), bd_s, hv, gd_t hs]
  rfl
end PMO
