/-! PURE: what is put on the map, in the model -/
section PMP
variable {ad S Ln : Nat → Nat} {R : gR} {M : gM} {m : Nat} {b : Int} {v : gV}
def tPt (v : gV) (x y : Int) : Int := if (0 ≤ x ∧ x ≤ 60) ∧ 0 ≤ y ∧ y ≤ 60 then (if v 0 = 8 then 2 else 0) else 1
theorem m_points (hL : LyM S Ln R m) (hv : M (m + 1) = v) (hI : IvS b v) (x y : Int) :
    ∃ M', fX10_points ad S Ln R M m x y = some (if tPt v x y = 0 then v 0 else 0, M') ∧ M' m = us (M m) 5 (tPt v x y) ∧ M' (m + 1) = (if tPt v x y = 0 then ptR v x y else v) ∧ ∀ c, c ≠ m → c ≠ m + 1 → M' c = M c := by
  have i8 := hI.1.1
  have hv' : ∀ z, (wr M m 5 z) (m + 1) = v := fun z => by rw [wr_a (by omega)]; exact hv
  unfold fX10_points
  rw [x_isPlace, bd_s]
  by_cases hp : (0 ≤ x ∧ x ≤ 60) ∧ 0 ≤ y ∧ y ≤ 60
  · rw [bI_t hp, if_pos (by decide)]
    unfold fX10_points_B14
    rw [m_isThrown, bd_s, thr_0]
    dsimp only
    rw [if_neg (by decide), m_0 hL, m_g hL (by decide) (by decide)]
    simp only [hv']
    by_cases h8 : v 0 = 8
    · have ht : tPt v x y = 2 := by unfold tPt; rw [if_pos hp, if_pos h8]
      rw [if_neg (fun q => q h8), ht, if_neg (by decide), if_neg (by decide)]
      unfold fX10_points_B38
      rw [m_isThrown, bd_s, thr_1, wr_wr]
      dsimp only
      rw [if_neg (by decide)]
      exact ⟨_, rfl, wr_r, hv' 2, fun c c0 c1 => wr_a c0⟩
    · have ht : tPt v x y = 0 := by unfold tPt; rw [if_pos hp, if_neg h8]
      rw [if_pos h8, ht, if_pos rfl, if_pos rfl]
      unfold fX10_points_B38
      rw [m_isThrown, bd_s, thr_0, wr_wr]
      dsimp only
      have r1 : wr (wr M m 5 0) (m + 1) (7 + 2 * v 0) x (m + 1) = us v (7 + 2 * v 0) x := by rw [wr_r, hv']
      have r2 : wr (wr (wr M m 5 0) (m + 1) (7 + 2 * v 0) x) (m + 1) (8 + 2 * v 0) y (m + 1) = us (us v (7 + 2 * v 0) x) (8 + 2 * v 0) y := by rw [wr_r, r1]
      have r3 : wr (wr (wr (wr M m 5 0) (m + 1) (7 + 2 * v 0) x) (m + 1) (8 + 2 * v 0) y) (m + 1) 0 (v 0 + 1) (m + 1) = ptR v x y := by rw [wr_r, r2]; rfl
      have z1 : us v (7 + 2 * v 0) x 0 = v 0 := us_n (by omega)
      have z2 : us (us v (7 + 2 * v 0) x) (8 + 2 * v 0) y 0 = v 0 := by rw [us_n (by omega), z1]
      rw [if_pos rfl, m_0 hL, m_0 hL, m_g hL (by decide) (by decide)]
      simp only [hv']
      rw [w32_i (z := 2 * v 0) (by omega) (by omega), w32_i (z := 7 + 2 * v 0) (by omega) (by omega), m_g hL (by omega) (by omega), nam_d, m_0 hL, m_0 hL, m_g hL (by decide) (by decide)]
      simp only [r1, z1]
      rw [w32_i (z := 2 * v 0) (by omega) (by omega), w32_i (z := 7 + 2 * v 0) (by omega) (by omega), w32_i (z := 7 + 2 * v 0 + 1) (by omega) (by omega), m_g hL (by omega) (by omega), nam_d, show 7 + 2 * v 0 + 1 = 8 + 2 * v 0 by omega, m_0 hL, m_g hL (by decide) (by decide), m_g hL (by decide) (by decide)]
      simp only [r2, z2]
      rw [w32_i (z := v 0 + 1) (by omega) (by omega), nam_d, m_0 hL, m_g hL (by decide) (by decide)]
      simp only [r3, ptR_0]
      rw [w32_i (by omega) (by omega), show v 0 + 1 - 1 = v 0 by omega]
      exact ⟨_, rfl, by rw [wr_a (by omega), wr_a (by omega), wr_a (by omega), wr_r], r3, fun c c0 c1 => by rw [wr_a c1, wr_a c1, wr_a c1, wr_a c0]⟩
  · have ht : tPt v x y = 1 := by unfold tPt; rw [if_neg hp]
    rw [bI_f hp, if_neg (by decide), ht, if_neg (by decide), if_neg (by decide)]
    unfold fX10_points_B14
    rw [m_isThrown, bd_s, thr_1]
    dsimp only
    rw [if_pos (by decide)]
    exact ⟨_, rfl, wr_r, hv' 1, fun c c0 c1 => wr_a c0⟩
/-- a stop: what it throws -/
noncomputable def tSt (v : gV) (i : Int) : Int := if 0 ≤ i ∧ i < v 0 then (if bI (pln v) = 1 ∧ v 1 ≠ 6 then (if 0 < v 1 ∧ apt v (v (22 + v 1)) i = 0 then 3 else 0) else 2) else 1
theorem m_tasks (hL : LyM S Ln R m) (hv : M (m + 1) = v) (hI : IvS b v) (i : Int) :
    ∃ M', fX10_tasks ad S Ln R M m i = some (if tSt v i = 0 then v 1 + 1 else 0, M') ∧ M' m = us (M m) 5 (tSt v i) ∧ M' (m + 1) = (if tSt v i = 0 then stR v i else v) ∧ ∀ c, c ≠ m → c ≠ m + 1 → M' c = M c := by
  have i8 := hI.1.1
  have i6 := hI.1.2.1
  have hp := hI.2.2.2.1
  have hv' : ∀ z, (wr M m 5 z) (m + 1) = v := fun z => by rw [wr_a (by omega)]; exact hv
  unfold fX10_tasks
  rw [m_isPoint hL hv hI.1, bd_s]
  by_cases hi : 0 ≤ i ∧ i < v 0
  · rw [bI_t hi, if_pos (by decide)]
    unfold fX10_tasks_B14
    rw [m_isThrown, bd_s, thr_0]
    dsimp only
    rw [if_neg (by decide), m_planning hL (hv' 0) hp, bd_s]
    have hB40 : ¬ (bI (pln v) = 1 ∧ v 1 ≠ 6) → ∃ M', fX10_tasks_B40 ad S Ln R (wr M m 5 0) m i m = some (if tSt v i = 0 then v 1 + 1 else 0, M') ∧ M' m = us (M m) 5 (tSt v i) ∧ M' (m + 1) = (if tSt v i = 0 then stR v i else v) ∧ ∀ c, c ≠ m → c ≠ m + 1 → M' c = M c := fun h => by
      have ht : tSt v i = 2 := by unfold tSt; rw [if_pos hi, if_neg h]
      unfold fX10_tasks_B40 fX10_tasks_B45
      rw [m_isThrown, bd_s, thr_1, wr_wr, ht]
      dsimp only
      rw [if_pos (by decide), if_neg (by decide), if_neg (by decide)]
      exact ⟨_, rfl, wr_r, hv' 2, fun c c0 c1 => wr_a c0⟩
    by_cases hpl : pln v
    · rw [bI_t hpl, if_neg (by decide), m_0 hL, m_g hL (by decide) (by decide)]
      simp only [hv']
      by_cases h6 : v 1 = 6
      · rw [if_neg (fun q => q h6)]
        exact hB40 (fun q => q.2 h6)
      · rw [if_pos h6]
        have hc : bI (pln v) = 1 ∧ v 1 ≠ 6 := ⟨bI_t hpl, h6⟩
        have hB86 : ¬ (0 < v 1 ∧ apt v (v (22 + v 1)) i = 0) → ∃ M', fX10_tasks_B86 ad S Ln R (wr M m 5 0) m i m = some (if tSt v i = 0 then v 1 + 1 else 0, M') ∧ M' m = us (M m) 5 (tSt v i) ∧ M' (m + 1) = (if tSt v i = 0 then stR v i else v) ∧ ∀ c, c ≠ m → c ≠ m + 1 → M' c = M c := fun h => by
          have ht : tSt v i = 0 := by unfold tSt; rw [if_pos hi, if_pos hc, if_neg h]
          have r1 : wr (wr M m 5 0) (m + 1) (23 + v 1) i (m + 1) = us v (23 + v 1) i := by rw [wr_r, hv']
          have r2 : wr (wr (wr M m 5 0) (m + 1) (23 + v 1) i) (m + 1) 1 (v 1 + 1) (m + 1) = stR v i := by rw [wr_r, r1]; rfl
          have z1 : us v (23 + v 1) i 1 = v 1 := us_n (by omega)
          unfold fX10_tasks_B86 fX10_tasks_B87
          rw [m_isThrown, bd_s, thr_0, wr_wr, ht]
          dsimp only
          rw [if_pos rfl, if_pos rfl, if_pos rfl, m_0 hL, m_0 hL, m_g hL (by decide) (by decide)]
          simp only [hv']
          rw [w32_i (z := 23 + v 1) (by omega) (by omega), m_g hL (by omega) (by omega), nam_d, m_0 hL, m_g hL (by decide) (by decide), m_g hL (by decide) (by decide)]
          simp only [r1, z1]
          rw [w32_i (z := v 1 + 1) (by omega) (by omega), nam_d, m_0 hL, m_g hL (by decide) (by decide)]
          simp only [r2, stR_1]
          exact ⟨_, rfl, by rw [wr_a (by omega), wr_a (by omega), wr_r], r2, fun c c0 c1 => by rw [wr_a c1, wr_a c1, wr_a c0]⟩
        unfold fX10_tasks_B45
        rw [m_isThrown, bd_s, thr_0, wr_wr]
        dsimp only
        rw [if_neg (by decide), m_0 hL, m_g hL (by decide) (by decide)]
        simp only [hv']
        by_cases h0 : v 1 ≤ 0
        · rw [if_pos h0]
          exact hB86 (fun q => by omega)
        · have hq := hI.1.2.2.2.1 (v 1 - 1) (by omega) (by omega)
          rw [show (23 : Int) + (v 1 - 1) = 22 + v 1 by omega] at hq
          rw [if_neg h0, m_0 hL, m_g hL (by decide) (by decide)]
          simp only [hv']
          rw [w32_i (z := v 1 - 1) (by omega) (by omega), m_inTask hL (hv' 0) (by omega) (by omega), bd_s, show (23 : Int) + (v 1 - 1) = 22 + v 1 by omega, m_apart hL (hv' 0) hI.1 hq.1 hq.2 hi.1 hi.2, bd_s]
          by_cases hz : apt v (v (22 + v 1)) i = 0
          · have ht : tSt v i = 3 := by unfold tSt; rw [if_pos hi, if_pos hc, if_pos ⟨by omega, hz⟩]
            rw [if_neg (fun q => q hz), ht, if_neg (by decide), if_neg (by decide)]
            unfold fX10_tasks_B87
            rw [m_isThrown, bd_s, thr_1, wr_wr]
            dsimp only
            rw [if_neg (by decide)]
            exact ⟨_, rfl, wr_r, hv' 3, fun c c0 c1 => wr_a c0⟩
          · rw [if_pos hz]
            exact hB86 (fun q => hz q.2)
    · rw [bI_f hpl, if_pos rfl]
      exact hB40 (fun q => hpl (bI_1.mp q.1))
  · have ht : tSt v i = 1 := by unfold tSt; rw [if_neg hi]
    rw [bI_f hi, if_neg (by decide), ht, if_neg (by decide), if_neg (by decide)]
    unfold fX10_tasks_B14
    rw [m_isThrown, bd_s, thr_1]
    dsimp only
    rw [if_pos (by decide)]
    exact ⟨_, rfl, wr_r, hv' 1, fun c c0 c1 => wr_a c0⟩
noncomputable def tDr (v : gV) : Int := 1 - bI (pln v)
theorem m_L31 (hL : LyM S Ln R m) (hv : M (m + 1) = v) (z : Int) : ∃ M', lp (fX10_clears_L31 ad S Ln R m z) FU (0, M) = some (.inl M') ∧ (∀ k, ¬ (23 ≤ k ∧ k < 29) → M' (m + 1) k = v k) ∧ ∀ c, c ≠ m + 1 → M' c = M c := by
  obtain ⟨r, e1, M', e2, e3, e4⟩ := lp_inv0 (b := fX10_clears_L31 ad S Ln R m z) 6
    (fun i s => s.1 = (i : Int) ∧ (∀ k, ¬ (23 ≤ k ∧ k < 29) → s.2 (m + 1) k = v k) ∧ ∀ c, c ≠ m + 1 → s.2 c = M c)
    (fun r => ∃ M', r = .inl M' ∧ (∀ k, ¬ (23 ≤ k ∧ k < 29) → M' (m + 1) k = v k) ∧ ∀ c, c ≠ m + 1 → M' c = M c)
    (s := ((0 : Int), M)) (by omega) ⟨rfl, fun k _ => congrFun hv k, fun _ _ => rfl⟩
    (fun i s hi hs => by
      obtain ⟨s1, s2, s3⟩ := hs
      left
      unfold fX10_clears_L31
      rw [s1, if_neg (by omega), m_0 hL, w32_i (z := 23 + (i : Int)) (by omega) (by omega), m_g hL (by omega) (by omega), nam_d]
      refine ⟨_, rfl, ?_, fun k hk => ?_, fun c hc => ?_⟩
      · show w32 ((i : Int) + 1) = _
        rw [w32_i (by omega) (by omega)]; omega
      · show wr s.2 (m + 1) (23 + (i : Int)) 0 (m + 1) k = _
        rw [wr_k (by omega)]; exact s2 k hk
      · show wr s.2 (m + 1) (23 + (i : Int)) 0 c = _
        rw [wr_a hc]; exact s3 c hc)
    (fun s hs => by
      obtain ⟨s1, s2, s3⟩ := hs
      unfold fX10_clears_L31
      rw [s1, if_pos (by omega)]
      exact ⟨_, rfl, s.2, rfl, s2, s3⟩)
  exact ⟨M', by rw [e1, e2], e3, e4⟩
theorem m_clears (hL : LyM S Ln R m) (hv : M (m + 1) = v) (hI : IvS b v) :
    ∃ M', fX10_clears ad S Ln R M m = some (if tDr v = 0 then v 1 else 0, M') ∧ M' m = us (M m) 5 (tDr v) ∧ (tDr v = 0 → M' (m + 1) 1 = 0 ∧ ∀ k, k ≠ 1 → ¬ (23 ≤ k ∧ k < 29) → M' (m + 1) k = v k) ∧ (tDr v ≠ 0 → M' (m + 1) = v) ∧ ∀ c, c ≠ m → c ≠ m + 1 → M' c = M c := by
  have hp := hI.2.2.2.1
  have hv' : ∀ z, (wr M m 5 z) (m + 1) = v := fun z => by rw [wr_a (by omega)]; exact hv
  unfold fX10_clears
  rw [m_planning hL hv hp, bd_s]
  by_cases hpl : pln v
  · have ht : tDr v = 0 := by unfold tDr; rw [bI_t hpl]; rfl
    rw [bI_t hpl, if_pos (by decide), ht, if_pos rfl]
    unfold fX10_clears_B13
    rw [m_isThrown, bd_s, thr_0]
    dsimp only
    obtain ⟨M1, e1, e2, e3⟩ := m_L31 (ad := ad) hL (hv' 0) (v 1)
    rw [if_pos rfl, m_0 hL, m_g hL (by decide) (by decide), hv', e1, bd_s, se_l, m_0 hL, m_g hL (by decide) (by decide), nam_d]
    refine ⟨_, rfl, by rw [wr_a (by omega), e3 m (by omega), wr_r], fun _ => ⟨wr_s, fun k h1 h2 => by rw [wr_k h1]; exact e2 k h2⟩, fun h => absurd rfl h, fun c c0 c1 => by rw [wr_a c1, e3 c c1, wr_a c0]⟩
  · have ht : tDr v = 1 := by unfold tDr; rw [bI_f hpl]; rfl
    rw [bI_f hpl, if_neg (by decide), ht, if_neg (by decide)]
    unfold fX10_clears_B13
    rw [m_isThrown, bd_s, thr_1]
    dsimp only
    rw [if_neg (by decide)]
    exact ⟨_, rfl, wr_r, fun h => absurd h (by decide), fun _ => hv' 1, fun c c0 c1 => wr_a c0⟩
def tTh (v : gV) (x y s : Int) : Int := if ((0 ≤ x ∧ x ≤ 60) ∧ 0 ≤ y ∧ y ≤ 60) ∧ 1 ≤ s ∧ s ≤ 5 then (if v 2 = 6 then 2 else 0) else 1
theorem m_thermals (hL : LyM S Ln R m) (hv : M (m + 1) = v) (hI : IvS b v) (x y s : Int) :
    ∃ M', fX10_thermals ad S Ln R M m x y s = some (if tTh v x y s = 0 then v 2 + 1 else 0, M') ∧ M' m = us (M m) 5 (tTh v x y s) ∧ M' (m + 1) = (if tTh v x y s = 0 then thR v x y s else v) ∧ ∀ c, c ≠ m → c ≠ m + 1 → M' c = M c := by
  have i8 := hI.2.1.1
  have hv' : ∀ z, (wr M m 5 z) (m + 1) = v := fun z => by rw [wr_a (by omega)]; exact hv
  have hbad : ¬ (((0 ≤ x ∧ x ≤ 60) ∧ 0 ≤ y ∧ y ≤ 60) ∧ 1 ≤ s ∧ s ≤ 5) → ∃ M', fX10_thermals_B18 ad S Ln R M m x y s m = some (if tTh v x y s = 0 then v 2 + 1 else 0, M') ∧ M' m = us (M m) 5 (tTh v x y s) ∧ M' (m + 1) = (if tTh v x y s = 0 then thR v x y s else v) ∧ ∀ c, c ≠ m → c ≠ m + 1 → M' c = M c := fun h => by
    have ht : tTh v x y s = 1 := by unfold tTh; rw [if_neg h]
    unfold fX10_thermals_B18 fX10_thermals_B23
    rw [m_isThrown, bd_s, thr_1, ht]
    dsimp only
    rw [if_pos (by decide), if_neg (by decide), if_neg (by decide)]
    exact ⟨_, rfl, wr_r, hv' 1, fun c c0 c1 => wr_a c0⟩
  unfold fX10_thermals
  rw [x_isPlace, bd_s]
  by_cases hp : (0 ≤ x ∧ x ≤ 60) ∧ 0 ≤ y ∧ y ≤ 60
  · rw [bI_t hp, if_neg (by decide), x_isIn, bd_s]
    by_cases hs : 1 ≤ s ∧ s ≤ 5
    · rw [bI_t hs, if_pos (by decide)]
      unfold fX10_thermals_B23
      rw [m_isThrown, bd_s, thr_0]
      dsimp only
      rw [if_neg (by decide), m_0 hL, m_g hL (by decide) (by decide)]
      simp only [hv']
      by_cases h8 : v 2 = 6
      · have ht : tTh v x y s = 2 := by unfold tTh; rw [if_pos ⟨hp, hs⟩, if_pos h8]
        rw [if_neg (fun q => q h8), ht, if_neg (by decide), if_neg (by decide)]
        unfold fX10_thermals_B47
        rw [m_isThrown, bd_s, thr_1, wr_wr]
        dsimp only
        rw [if_neg (by decide)]
        exact ⟨_, rfl, wr_r, hv' 2, fun c c0 c1 => wr_a c0⟩
      · have ht : tTh v x y s = 0 := by unfold tTh; rw [if_pos ⟨hp, hs⟩, if_neg h8]
        rw [if_pos h8, ht, if_pos rfl, if_pos rfl]
        unfold fX10_thermals_B47
        rw [m_isThrown, bd_s, thr_0, wr_wr]
        dsimp only
        have r1 : wr (wr M m 5 0) (m + 1) (29 + 3 * v 2) x (m + 1) = us v (29 + 3 * v 2) x := by rw [wr_r, hv']
        have r2 : wr (wr (wr M m 5 0) (m + 1) (29 + 3 * v 2) x) (m + 1) (30 + 3 * v 2) y (m + 1) = us (us v (29 + 3 * v 2) x) (30 + 3 * v 2) y := by rw [wr_r, r1]
        have r3 : wr (wr (wr (wr M m 5 0) (m + 1) (29 + 3 * v 2) x) (m + 1) (30 + 3 * v 2) y) (m + 1) (31 + 3 * v 2) s (m + 1) = us (us (us v (29 + 3 * v 2) x) (30 + 3 * v 2) y) (31 + 3 * v 2) s := by rw [wr_r, r2]
        have z3 : us (us (us v (29 + 3 * v 2) x) (30 + 3 * v 2) y) (31 + 3 * v 2) s 2 = v 2 := by rw [us_n (by omega), us_n (by omega), us_n (by omega)]
        have r4 : wr (wr (wr (wr (wr M m 5 0) (m + 1) (29 + 3 * v 2) x) (m + 1) (30 + 3 * v 2) y) (m + 1) (31 + 3 * v 2) s) (m + 1) 2 (v 2 + 1) (m + 1) = thR v x y s := by rw [wr_r, r3]; rfl
        rw [if_pos rfl, m_0 hL, m_g hL (by decide) (by decide)]
        simp only [hv']
        rw [w32_i (z := 3 * v 2) (by omega) (by omega), w32_i (z := 29 + 3 * v 2) (by omega) (by omega), w32_i (z := 29 + 3 * v 2 + 1) (by omega) (by omega), w32_i (z := 29 + 3 * v 2 + 2) (by omega) (by omega), show 29 + 3 * v 2 + 1 = 30 + 3 * v 2 by omega, show 29 + 3 * v 2 + 2 = 31 + 3 * v 2 by omega,
          m_0 hL, m_g hL (by omega) (by omega), nam_d, m_0 hL, m_g hL (by omega) (by omega), nam_d, m_0 hL, m_g hL (by omega) (by omega), nam_d, m_0 hL, m_g hL (by decide) (by decide), m_g hL (by decide) (by decide)]
        simp only [r3, z3]
        rw [w32_i (z := v 2 + 1) (by omega) (by omega), nam_d, m_0 hL, m_g hL (by decide) (by decide)]
        simp only [r4, thR_2]
        exact ⟨_, rfl, by rw [wr_a (by omega), wr_a (by omega), wr_a (by omega), wr_a (by omega), wr_r], r4, fun c c0 c1 => by rw [wr_a c1, wr_a c1, wr_a c1, wr_a c1, wr_a c0]⟩
    · rw [bI_f hs, if_neg (by decide)]
      exact hbad (fun q => hs q.2)
  · rw [bI_f hp, if_pos rfl]
    exact hbad (fun q => hp q.1)
def tBa (z : Int) : Int := if 500 ≤ z ∧ z ≤ 3000 then 0 else 1
theorem m_bases (hL : LyM S Ln R m) (hv : M (m + 1) = v) (z : Int) :
    ∃ M', fX10_bases ad S Ln R M m z = some (if tBa z = 0 then v 5 else 0, M') ∧ M' m = us (M m) 5 (tBa z) ∧ M' (m + 1) = (if tBa z = 0 then us v 5 z else v) ∧ ∀ c, c ≠ m → c ≠ m + 1 → M' c = M c := by
  have hv' : ∀ z, (wr M m 5 z) (m + 1) = v := fun z => by rw [wr_a (by omega)]; exact hv
  unfold fX10_bases
  rw [x_isIn, bd_s]
  by_cases hz : 500 ≤ z ∧ z ≤ 3000
  · have ht : tBa z = 0 := by unfold tBa; rw [if_pos hz]
    rw [bI_t hz, if_pos (by decide), ht, if_pos rfl, if_pos rfl]
    unfold fX10_bases_B19
    rw [m_isThrown, bd_s, thr_0]
    dsimp only
    rw [if_pos rfl, m_0 hL, m_g hL (by decide) (by decide), m_0 hL, m_g hL (by decide) (by decide), nam_d, hv']
    exact ⟨_, rfl, by rw [wr_a (by omega), wr_r], by rw [wr_r, hv'], fun c c0 c1 => by rw [wr_a c1, wr_a c0]⟩
  · have ht : tBa z = 1 := by unfold tBa; rw [if_neg hz]
    rw [bI_f hz, if_neg (by decide), ht, if_neg (by decide), if_neg (by decide)]
    unfold fX10_bases_B19
    rw [m_isThrown, bd_s, thr_1]
    dsimp only
    rw [if_neg (by decide)]
    exact ⟨_, rfl, wr_r, hv' 1, fun c c0 c1 => wr_a c0⟩
def tAr (v : gV) (x y X Y : Int) : Int := if ((0 ≤ x ∧ x ≤ 60) ∧ 0 ≤ y ∧ y ≤ 60) ∧ (x ≤ X ∧ X ≤ 60) ∧ y ≤ Y ∧ Y ≤ 60 then (if v 3 = 3 then 2 else 0) else 1
theorem m_areas (hL : LyM S Ln R m) (hv : M (m + 1) = v) (hI : IvS b v) (x y X Y : Int) :
    ∃ M', fX10_areas ad S Ln R M m x y X Y = some (if tAr v x y X Y = 0 then v 3 + 1 else 0, M') ∧ M' m = us (M m) 5 (tAr v x y X Y) ∧ M' (m + 1) = (if tAr v x y X Y = 0 then arR v x y X Y else v) ∧ ∀ c, c ≠ m → c ≠ m + 1 → M' c = M c := by
  have i8 := hI.2.2.1.1
  have hv' : ∀ z, (wr M m 5 z) (m + 1) = v := fun z => by rw [wr_a (by omega)]; exact hv
  have hbad : ¬ (((0 ≤ x ∧ x ≤ 60) ∧ 0 ≤ y ∧ y ≤ 60) ∧ (x ≤ X ∧ X ≤ 60) ∧ y ≤ Y ∧ Y ≤ 60) → ∃ M', fX10_areas_B30 ad S Ln R M m x y X Y m = some (if tAr v x y X Y = 0 then v 3 + 1 else 0, M') ∧ M' m = us (M m) 5 (tAr v x y X Y) ∧ M' (m + 1) = (if tAr v x y X Y = 0 then arR v x y X Y else v) ∧ ∀ c, c ≠ m → c ≠ m + 1 → M' c = M c := fun h => by
    have ht : tAr v x y X Y = 1 := by unfold tAr; rw [if_neg h]
    unfold fX10_areas_B30 fX10_areas_B35
    rw [m_isThrown, bd_s, thr_1, ht]
    dsimp only
    rw [if_pos (by decide), if_neg (by decide), if_neg (by decide)]
    exact ⟨_, rfl, wr_r, hv' 1, fun c c0 c1 => wr_a c0⟩
  unfold fX10_areas
  rw [x_isPlace, bd_s]
  by_cases hp : (0 ≤ x ∧ x ≤ 60) ∧ 0 ≤ y ∧ y ≤ 60
  · rw [bI_t hp, if_neg (by decide), x_isIn, bd_s]
    by_cases hs : x ≤ X ∧ X ≤ 60
    · rw [bI_t hs, if_neg (by decide), x_isIn, bd_s]
      by_cases hs2 : y ≤ Y ∧ Y ≤ 60
      · rw [bI_t hs2, if_pos (by decide)]
        unfold fX10_areas_B35
        rw [m_isThrown, bd_s, thr_0]
        dsimp only
        rw [if_neg (by decide), m_0 hL, m_g hL (by decide) (by decide)]
        simp only [hv']
        by_cases h8 : v 3 = 3
        · have ht : tAr v x y X Y = 2 := by unfold tAr; rw [if_pos ⟨hp, hs, hs2⟩, if_pos h8]
          rw [if_neg (fun q => q h8), ht, if_neg (by decide), if_neg (by decide)]
          unfold fX10_areas_B58
          rw [m_isThrown, bd_s, thr_1, wr_wr]
          dsimp only
          rw [if_neg (by decide)]
          exact ⟨_, rfl, wr_r, hv' 2, fun c c0 c1 => wr_a c0⟩
        · have ht : tAr v x y X Y = 0 := by unfold tAr; rw [if_pos ⟨hp, hs, hs2⟩, if_neg h8]
          rw [if_pos h8, ht, if_pos rfl, if_pos rfl]
          unfold fX10_areas_B58
          rw [m_isThrown, bd_s, thr_0, wr_wr]
          dsimp only
          have r1 : wr (wr M m 5 0) (m + 1) (47 + 4 * v 3) x (m + 1) = us v (47 + 4 * v 3) x := by rw [wr_r, hv']
          have r2 : wr (wr (wr M m 5 0) (m + 1) (47 + 4 * v 3) x) (m + 1) (48 + 4 * v 3) y (m + 1) = us (us v (47 + 4 * v 3) x) (48 + 4 * v 3) y := by rw [wr_r, r1]
          have r3 : wr (wr (wr (wr M m 5 0) (m + 1) (47 + 4 * v 3) x) (m + 1) (48 + 4 * v 3) y) (m + 1) (49 + 4 * v 3) X (m + 1) = us (us (us v (47 + 4 * v 3) x) (48 + 4 * v 3) y) (49 + 4 * v 3) X := by rw [wr_r, r2]
          have r4 : wr (wr (wr (wr (wr M m 5 0) (m + 1) (47 + 4 * v 3) x) (m + 1) (48 + 4 * v 3) y) (m + 1) (49 + 4 * v 3) X) (m + 1) (50 + 4 * v 3) Y (m + 1) = us (us (us (us v (47 + 4 * v 3) x) (48 + 4 * v 3) y) (49 + 4 * v 3) X) (50 + 4 * v 3) Y := by rw [wr_r, r3]
          have z4 : us (us (us (us v (47 + 4 * v 3) x) (48 + 4 * v 3) y) (49 + 4 * v 3) X) (50 + 4 * v 3) Y 3 = v 3 := by rw [us_n (by omega), us_n (by omega), us_n (by omega), us_n (by omega)]
          have r5 : wr (wr (wr (wr (wr (wr M m 5 0) (m + 1) (47 + 4 * v 3) x) (m + 1) (48 + 4 * v 3) y) (m + 1) (49 + 4 * v 3) X) (m + 1) (50 + 4 * v 3) Y) (m + 1) 3 (v 3 + 1) (m + 1) = arR v x y X Y := by rw [wr_r, r4]; rfl
          rw [if_pos rfl, m_0 hL, m_g hL (by decide) (by decide)]
          simp only [hv']
          rw [w32_i (z := 4 * v 3) (by omega) (by omega), w32_i (z := 47 + 4 * v 3) (by omega) (by omega), w32_i (z := 47 + 4 * v 3 + 1) (by omega) (by omega), w32_i (z := 47 + 4 * v 3 + 2) (by omega) (by omega), w32_i (z := 47 + 4 * v 3 + 3) (by omega) (by omega), show 47 + 4 * v 3 + 1 = 48 + 4 * v 3 by omega, show 47 + 4 * v 3 + 2 = 49 + 4 * v 3 by omega, show 47 + 4 * v 3 + 3 = 50 + 4 * v 3 by omega,
            m_0 hL, m_g hL (by omega) (by omega), nam_d, m_0 hL, m_g hL (by omega) (by omega), nam_d, m_0 hL, m_g hL (by omega) (by omega), nam_d, m_0 hL, m_g hL (by omega) (by omega), nam_d, m_0 hL, m_g hL (by decide) (by decide), m_g hL (by decide) (by decide)]
          simp only [r4, z4]
          rw [w32_i (z := v 3 + 1) (by omega) (by omega), nam_d, m_0 hL, m_g hL (by decide) (by decide)]
          simp only [r5, arR_3]
          exact ⟨_, rfl, by rw [wr_a (by omega), wr_a (by omega), wr_a (by omega), wr_a (by omega), wr_a (by omega), wr_r], r5, fun c c0 c1 => by rw [wr_a c1, wr_a c1, wr_a c1, wr_a c1, wr_a c1, wr_a c0]⟩
      · rw [bI_f hs2, if_neg (by decide)]
        exact hbad (fun q => hs2 q.2.2)
    · rw [bI_f hs, if_pos rfl]
      exact hbad (fun q => hs q.2.1)
  · rw [bI_f hp, if_pos rfl]
    exact hbad (fun q => hp q.1)
def tPl (v : gV) (r : Int) : Int := if 20 ≤ r ∧ r ≤ 60 then (if v 4 = 6 then 2 else 0) else 1
theorem m_pilots (hL : LyM S Ln R m) (hv : M (m + 1) = v) (hI : IvS b v) (r : Int) :
    ∃ M', fX10_pilots ad S Ln R M m r = some (if tPl v r = 0 then v 4 else 0, M') ∧ M' m = us (M m) 5 (tPl v r) ∧ M' (m + 1) = (if tPl v r = 0 then plR v r else v) ∧ ∀ c, c ≠ m → c ≠ m + 1 → M' c = M c := by
  have hp := hI.2.2.2.1
  have hv' : ∀ z, (wr M m 5 z) (m + 1) = v := fun z => by rw [wr_a (by omega)]; exact hv
  unfold fX10_pilots
  rw [x_isIn, bd_s]
  by_cases hr : 20 ≤ r ∧ r ≤ 60
  · rw [bI_t hr, if_pos (by decide)]
    unfold fX10_pilots_B17
    rw [m_isThrown, bd_s, thr_0]
    dsimp only
    rw [if_neg (by decide), m_0 hL, m_g hL (by decide) (by decide)]
    simp only [hv']
    by_cases h8 : v 4 = 6
    · have ht : tPl v r = 2 := by unfold tPl; rw [if_pos hr, if_pos h8]
      rw [if_neg (fun q => q h8), ht, if_neg (by decide), if_neg (by decide)]
      unfold fX10_pilots_B41
      rw [m_isThrown, bd_s, thr_1, wr_wr]
      dsimp only
      rw [if_neg (by decide)]
      exact ⟨_, rfl, wr_r, hv' 2, fun c c0 c1 => wr_a c0⟩
    · have ht : tPl v r = 0 := by unfold tPl; rw [if_pos hr, if_neg h8]
      rw [if_pos h8, ht, if_pos rfl, if_pos rfl]
      unfold fX10_pilots_B41
      rw [m_isThrown, bd_s, thr_0, wr_wr]
      dsimp only
      have r1 : wr (wr M m 5 0) (m + 1) (59 + 9 * v 4) r (m + 1) = us v (59 + 9 * v 4) r := by rw [wr_r, hv']
      have z1 : us v (59 + 9 * v 4) r 4 = v 4 := us_n (by omega)
      have r2 : wr (wr (wr M m 5 0) (m + 1) (59 + 9 * v 4) r) (m + 1) 4 (v 4 + 1) (m + 1) = plR v r := by rw [wr_r, r1]; rfl
      rw [if_pos rfl, m_0 hL, m_g hL (by decide) (by decide), hv', m_sets hL hp.1 (by omega) (by decide) (by decide), bd_s, show 59 + 9 * v 4 + 0 = 59 + 9 * v 4 by omega, m_0 hL, m_g hL (by decide) (by decide), m_g hL (by decide) (by decide), r1, z1, w32_i (z := v 4 + 1) (by omega) (by omega), nam_d, m_0 hL, m_g hL (by decide) (by decide), r2, plR_4, w32_i (by omega) (by omega), show v 4 + 1 - 1 = v 4 by omega]
      exact ⟨_, rfl, by rw [wr_a (by omega), wr_a (by omega), wr_r], r2, fun c c0 c1 => by rw [wr_a c1, wr_a c1, wr_a c0]⟩
  · have ht : tPl v r = 1 := by unfold tPl; rw [if_neg hr]
    rw [bI_f hr, if_neg (by decide), ht, if_neg (by decide), if_neg (by decide)]
    unfold fX10_pilots_B17
    rw [m_isThrown, bd_s, thr_1]
    dsimp only
    rw [if_pos (by decide)]
    exact ⟨_, rfl, wr_r, hv' 1, fun c c0 c1 => wr_a c0⟩
end PMP
