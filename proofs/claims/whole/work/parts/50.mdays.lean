/-! PURE: the model's launches and ends of days -/
section PMD
variable {ad S Ln : Nat → Nat} {R : gR} {M : gM} {m : Nat} {b : Int} {v u r : gV} {p : Int}
def tLaunch (v : gV) (p : Int) : Int := if 0 ≤ p ∧ p < v 4 then (if gl v p 1 = 0 then (if 2 ≤ v 1 then 0 else 3) else 2) else 1
theorem m_launches (hL : LyM S Ln R m) (hv : M (m + 1) = v) (hI : IvS b v) :
    ∃ M', fX10_launches ad S Ln R M m p = some (if tLaunch v p = 0 then inP (sU v p (toU (gl v p) (v (7 + 2 * v 23)) (v (8 + 2 * v 23)))) 1 (v 4).toNat else 0, M') ∧ M' m = us (M m) 5 (tLaunch v p) ∧ M' (m + 1) = (if tLaunch v p = 0 then sU v p (toU (gl v p) (v (7 + 2 * v 23)) (v (8 + 2 * v 23))) else v) ∧ ∀ c, c ≠ m → c ≠ m + 1 → M' c = M c := by
  have hp := hI.2.2.2.1
  have hv' : ∀ z, (wr M m 5 z) (m + 1) = v := fun z => by rw [wr_a (by omega)]; exact hv
  unfold fX10_launches
  rw [m_isPilot hL hv hp, bd_s]
  by_cases hpl : 0 ≤ p ∧ p < v 4
  · rw [bI_t hpl, if_pos (by decide)]
    unfold fX10_launches_B14
    rw [m_isThrown, bd_s, thr_0]
    dsimp only
    rw [if_neg (by decide)]
    rw [m_of hL hpl.1 (by omega) (by decide) (by decide), bd_s, hv']
    by_cases h1 : gl v p 1 = 0
    · rw [if_pos h1]
      unfold fX10_launches_B36
      rw [m_isThrown, bd_s, thr_0, wr_wr]
      dsimp only
      rw [if_neg (by decide)]
      rw [m_0 hL, m_g hL (by decide) (by decide)]
      simp only [hv']
      by_cases h2 : 2 ≤ v 1
      · have ht : tLaunch v p = 0 := by unfold tLaunch; rw [if_pos hpl, if_pos h1, if_pos h2]
        rw [if_pos h2, ht, if_pos rfl, if_pos rfl]
        unfold fX10_launches_B59
        rw [m_isThrown, bd_s, thr_0, wr_wr]
        dsimp only
        rw [if_pos rfl]
        have i6 := hI.1.2.1
        have i8 := hI.1.1
        have hc0 := hI.1.2.2.2.1 0 (by omega) (by omega)
        rw [show (23 : Int) + 0 = 23 by rfl] at hc0
        have hs0 : (wr M m 5 0) (m + 1) = sU v p (gl v p) := (hv' 0).trans sU_id.symm
        obtain ⟨M1, a1, a2, a3⟩ := m_setsU (ad := ad) hL hs0 hpl.1 (by omega) (k := 1) (by decide) (by decide) 1
        obtain ⟨M2, b1, b2, b3⟩ := m_setsU (ad := ad) hL a2 hpl.1 (by omega) (k := 2) (by decide) (by decide) (v (7 + 2 * v 23))
        obtain ⟨M3, c1, c2, c3⟩ := m_setsU (ad := ad) hL b2 hpl.1 (by omega) (k := 3) (by decide) (by decide) (v (8 + 2 * v 23))
        obtain ⟨M4, d1, d2, d3⟩ := m_setsU (ad := ad) hL c2 hpl.1 (by omega) (k := 4) (by decide) (by decide) 1000
        obtain ⟨M5, e1, e2, e3⟩ := m_setsU (ad := ad) hL d2 hpl.1 (by omega) (k := 5) (by decide) (by decide) 0
        obtain ⟨M6, g1, g2, g3⟩ := m_setsU (ad := ad) hL e2 hpl.1 (by omega) (k := 6) (by decide) (by decide) 0
        obtain ⟨M7, k1, k2, k3⟩ := m_setsU (ad := ad) hL g2 hpl.1 (by omega) (k := 7) (by decide) (by decide) 1
        have hfin : M7 (m + 1) = sU v p (toU (gl v p) (v (7 + 2 * v 23)) (v (8 + 2 * v 23))) := by
          rw [k2]
          refine sU_x fun k k0 k1 => ?_
          rcases k9 k0 k1 with e | e | e | e | e | e | e | e | e <;> subst e <;> rfl
        have h4 : sU v p (toU (gl v p) (v (7 + 2 * v 23)) (v (8 + 2 * v 23))) 4 = v 4 := sU_lo hpl.1 (by decide)
        have hst := m_inState (ad := ad) hL hfin (by rw [h4]; exact hp) 1
        rw [h4] at hst
        rw [a1, bd_s, m_inTask hL a2 (by decide) (by decide), bd_s, show (23 : Int) + 0 = 23 by rfl, sU_lo hpl.1 (by decide), m_pointX hL a2 hc0.1 (by omega), bd_s, sU_lo hpl.1 (by omega), b1, bd_s, m_inTask hL b2 (by decide) (by decide), bd_s, show (23 : Int) + 0 = 23 by rfl, sU_lo hpl.1 (by decide), m_pointY hL b2 hc0.1 (by omega), bd_s, sU_lo hpl.1 (by omega), c1, bd_s, d1, bd_s, e1, bd_s, g1, bd_s, k1, bd_s, hst, bd_s]
        have hfr : ∀ c, c ≠ m + 1 → M7 c = wr M m 5 0 c := fun c hc => by rw [k3 c hc, g3 c hc, e3 c hc, d3 c hc, c3 c hc, b3 c hc, a3 c hc]
        exact ⟨M7, rfl, by rw [hfr m (by omega), wr_r], hfin, fun c c0 c1 => by rw [hfr c c1, wr_a c0]⟩
      · have ht : tLaunch v p = 3 := by unfold tLaunch; rw [if_pos hpl, if_pos h1, if_neg h2]
        rw [if_neg h2, ht, if_neg (by decide), if_neg (by decide)]
        unfold fX10_launches_B59
        rw [m_isThrown, bd_s, thr_1, wr_wr]
        dsimp only
        rw [if_neg (by decide)]
        exact ⟨_, rfl, wr_r, hv' 3, fun c c0 c1 => wr_a c0⟩
    · have ht : tLaunch v p = 2 := by unfold tLaunch; rw [if_pos hpl, if_neg h1]
      rw [if_neg h1, ht, if_neg (by decide), if_neg (by decide)]
      unfold fX10_launches_B36
      rw [m_isThrown, bd_s, thr_1, wr_wr]
      dsimp only
      rw [if_pos (by decide)]
      exact ⟨_, rfl, wr_r, hv' 2, fun c c0 c1 => wr_a c0⟩
  · have ht : tLaunch v p = 1 := by unfold tLaunch; rw [if_neg hpl]
    rw [bI_f hpl, if_neg (by decide), ht, if_neg (by decide), if_neg (by decide)]
    unfold fX10_launches_B14
    rw [m_isThrown, bd_s, thr_1]
    dsimp only
    rw [if_pos (by decide)]
    exact ⟨_, rfl, wr_r, hv' 1, fun c c0 c1 => wr_a c0⟩
/-! the end of a day -/
theorem m_10 {α : Type} {f : Nat → Option α} (hL : LyM S Ln R m) : rf S (R m 10) 20 f = f (m + 5) := rf_o hL.2.2.2.2.2.2.1 hL.1.2.2.2.2.2.1
theorem m_L38 (hL : LyM S Ln R m) (hv : M (m + 1) = v) (hI : IvS b v) (z : Int) : ∃ M', lp (fX10_finishes_L38 ad S Ln R m z) FU (0, M) = some (.inl M') ∧ (∀ p : Int, 0 ≤ p → p < v 4 → M' (m + 5) p = scU v (gl v p)) ∧ ∀ c, c ≠ m + 5 → M' c = M c := by
  have hp := hI.2.2.2.1
  obtain ⟨r, e1, M', e2, e3, e4⟩ := lp_inv0 (b := fX10_finishes_L38 ad S Ln R m z) (v 4).toNat
    (fun i s => s.1 = (i : Int) ∧ (∀ p : Int, 0 ≤ p → p < i → s.2 (m + 5) p = scU v (gl v p)) ∧ ∀ c, c ≠ m + 5 → s.2 c = M c)
    (fun r => ∃ M', r = .inl M' ∧ (∀ p : Int, 0 ≤ p → p < v 4 → M' (m + 5) p = scU v (gl v p)) ∧ ∀ c, c ≠ m + 5 → M' c = M c)
    (s := ((0 : Int), M)) (by omega) ⟨rfl, fun p p0 p1 => by omega, fun _ _ => rfl⟩
    (fun i s hi hs => by
      obtain ⟨s1, s2, s3⟩ := hs
      have hsv : s.2 (m + 1) = v := (s3 (m + 1) (by omega)).trans hv
      left
      unfold fX10_finishes_L38
      rw [m_0 hL, m_g hL (by decide) (by decide), hsv, s1, if_neg (by omega), m_10 hL, m_score hL hsv hI (by omega) (by omega), bd_s, gd_t (by rw [hL.2.1.2.2.2.2.1]; omega), nam_d]
      refine ⟨_, rfl, ?_, fun p p0 p1 => ?_, fun c hc => ?_⟩
      · show w32 ((i : Int) + 1) = _
        rw [w32_i (by omega) (by omega)]; omega
      · show wr s.2 (m + 5) (i : Int) (scU v (gl v i)) (m + 5) p = _
        by_cases e : p = i
        · rw [e, wr_s]
        · rw [wr_k e]; exact s2 p p0 (by omega)
      · show wr s.2 (m + 5) (i : Int) (scU v (gl v i)) c = _
        rw [wr_a hc]; exact s3 c hc)
    (fun s hs => by
      obtain ⟨s1, s2, s3⟩ := hs
      unfold fX10_finishes_L38
      rw [m_0 hL, m_g hL (by decide) (by decide), (s3 (m + 1) (by omega)).trans hv, s1, if_pos (by omega)]
      exact ⟨_, rfl, s.2, rfl, fun p p0 p1 => s2 p p0 (by omega), s3⟩)
  exact ⟨M', by rw [e1, e2], e3, e4⟩
def zrU (u : gV) (n : Nat) : gV := fun k => if 1 ≤ k ∧ k < 1 + n then 0 else u k
theorem zrU_s {u : gV} {n : Nat} : us (zrU u n) (1 + n) 0 = zrU u (n + 1) := by
  funext k
  unfold us zrU
  by_cases h : k = 1 + n
  · rw [if_pos h, if_pos (by omega)]
  · rw [if_neg h]
    by_cases g : 1 ≤ k ∧ k < 1 + n
    · rw [if_pos g, if_pos (by omega)]
    · rw [if_neg g, if_neg (by omega)]
theorem zrU_0 {u : gV} : zrU u 0 = u := by
  funext k
  unfold zrU
  rw [if_neg (by omega)]
theorem m_L100 (hL : LyM S Ln R m) (h : M (m + 1) = sU v p u) (h0 : 0 ≤ p) (h1 : p < 6) (z : Int) : ∃ M', lp (fX10_finishes_L100 ad S Ln R m z p) FU (1, M) = some (.inl M') ∧ M' (m + 1) = sU v p (zrU u 7) ∧ ∀ c, c ≠ m + 1 → M' c = M c := by
  obtain ⟨r, e1, M', e2, e3, e4⟩ := lp_inv0 (b := fX10_finishes_L100 ad S Ln R m z p) 7
    (fun i s => s.1 = 1 + (i : Int) ∧ s.2 (m + 1) = sU v p (zrU u i) ∧ ∀ c, c ≠ m + 1 → s.2 c = M c)
    (fun r => ∃ M', r = .inl M' ∧ M' (m + 1) = sU v p (zrU u 7) ∧ ∀ c, c ≠ m + 1 → M' c = M c)
    (s := ((1 : Int), M)) (by omega) ⟨rfl, by rw [zrU_0]; exact h, fun _ _ => rfl⟩
    (fun i s hi hs => by
      obtain ⟨s1, s2, s3⟩ := hs
      left
      unfold fX10_finishes_L100
      obtain ⟨M2, g1, g2, g3⟩ := m_setsU (ad := ad) hL s2 h0 h1 (k := 1 + (i : Int)) (by omega) (by omega) 0
      rw [s1, if_neg (by omega), g1, bd_s]
      refine ⟨_, rfl, ?_, ?_, fun c hc => ?_⟩
      · show w32 (1 + (i : Int) + 1) = _
        rw [w32_i (by omega) (by omega)]; omega
      · show M2 (m + 1) = _
        rw [g2, zrU_s]
      · show M2 c = _
        rw [g3 c hc]; exact s3 c hc)
    (fun s hs => by
      obtain ⟨s1, s2, s3⟩ := hs
      unfold fX10_finishes_L100
      rw [s1, if_pos (by omega)]
      exact ⟨_, rfl, s.2, rfl, s2, s3⟩)
  exact ⟨M', by rw [e1, e2], e3, e4⟩
theorem m_L67 (hL : LyM S Ln R m) (hv : M (m + 1) = v) (hI : IvS b v) (hsc : ∀ p : Int, 0 ≤ p → p < v 4 → M (m + 5) p = scU v (gl v p)) (z : Int) : ∃ M', lp (fX10_finishes_L67 ad S Ln R m z) FU (0, M) = some (.inl M') ∧ (mE v (M' (m + 1)) ∧ M' (m + 1) 4 = v 4 ∧ M' (m + 1) 6 = v 6 ∧ ∀ p k : Int, 0 ≤ p → 0 ≤ k → k < 9 → gl (M' (m + 1)) p k = if p < v 4 then clU v p k else gl v p k) ∧ ∀ c, c ≠ m + 1 → M' c = M c := by
  have hp := hI.2.2.2.1
  have hb := hI.2.2.2.2.2.1
  have hv9 : ((0 : Int), M).2 (m + 1) = v := hv
  obtain ⟨r, e1, M', e2, e3, e4⟩ := lp_inv0 (b := fX10_finishes_L67 ad S Ln R m z) (v 4).toNat
    (fun i s => s.1 = (i : Int) ∧ (mE v (s.2 (m + 1)) ∧ s.2 (m + 1) 4 = v 4 ∧ s.2 (m + 1) 6 = v 6 ∧ ∀ p k : Int, 0 ≤ p → 0 ≤ k → k < 9 → gl (s.2 (m + 1)) p k = if p < (i : Int) then clU v p k else gl v p k) ∧ ∀ c, c ≠ m + 1 → s.2 c = M c)
    (fun r => ∃ M', r = .inl M' ∧ (mE v (M' (m + 1)) ∧ M' (m + 1) 4 = v 4 ∧ M' (m + 1) 6 = v 6 ∧ ∀ p k : Int, 0 ≤ p → 0 ≤ k → k < 9 → gl (M' (m + 1)) p k = if p < v 4 then clU v p k else gl v p k) ∧ ∀ c, c ≠ m + 1 → M' c = M c)
    (s := ((0 : Int), M)) (by omega) ⟨rfl, ⟨by rw [hv9]; exact fun _ _ _ _ _ => rfl, by rw [hv9], by rw [hv9], fun p k p0 k0 k1 => by rw [hv9, if_neg (by omega)]⟩, fun _ _ => rfl⟩
    (fun i s hi hs => by
      obtain ⟨s1, ⟨s2, s4, s6, sg⟩, s3⟩ := hs
      left
      have hi4 : (i : Int) < v 4 := by omega
      have hu := hI.2.2.2.2.2.2 i (by omega) hi4
      have hs8 := scU_b hI hu
      have hu8 := hu.2.2.2.2.2.2.2.1
      have g8 : gl (s.2 (m + 1)) i 8 = gl v i 8 := by rw [sg i 8 (by omega) (by decide) (by decide), if_neg (by omega)]
      obtain ⟨M1, a1, a2, a3⟩ := m_setsU (ad := ad) (M := s.2) hL sU_id.symm (p := (i : Int)) (by omega) (by omega) (k := 8) (by decide) (by decide) (gl v i 8 + scU v (gl v i))
      obtain ⟨M2, c1, c2, c3⟩ := m_L100 (ad := ad) hL a2 (by omega) (by omega) z
      unfold fX10_finishes_L67
      rw [m_0 hL, m_g hL (by decide) (by decide), s4, s1, if_neg (by omega), m_of hL (by omega) (by omega) (by decide) (by decide), bd_s, g8, m_10 hL, gd_t (by rw [hL.2.1.2.2.2.2.1]; omega), s3 (m + 5) (by omega), hsc i (by omega) hi4, w32_i (by omega) (by omega), a1, bd_s, c1, bd_s, se_l]
      refine ⟨_, rfl, ?_, ⟨?_, ?_, ?_, fun p k p0 k0 k1 => ?_⟩, fun c hc => ?_⟩
      · show w32 ((i : Int) + 1) = _
        rw [w32_i (by omega) (by omega)]; omega
      · show mE v (M2 (m + 1))
        rw [c2]; exact s2.tr (mE_sU (by omega))
      · show M2 (m + 1) 4 = _
        rw [c2, sU_lo (by omega) (by decide), s4]
      · show M2 (m + 1) 6 = _
        rw [c2, sU_lo (by omega) (by decide), s6]
      · show gl (M2 (m + 1)) p k = _
        rw [c2]
        by_cases e : p = i
        · rw [e, sU_s k0 k1, if_pos (by omega)]
          have q0 : gl (s.2 (m + 1)) i 0 = gl v i 0 := by rw [sg i 0 (by omega) (by decide) (by decide), if_neg (by omega)]
          unfold zrU clU
          by_cases e0 : k = 0
          · rw [if_neg (by omega), if_pos e0, e0, us_n (by decide), q0]
          · by_cases e8 : k = 8
            · rw [if_neg (by omega), if_neg e0, if_pos e8, e8, us_s]
            · rw [if_pos (by omega), if_neg e0, if_neg e8]
        · rw [sU_n e k0 k1, sg p k p0 k0 k1]
          by_cases h : p < (i : Int)
          · rw [if_pos h, if_pos (by omega)]
          · rw [if_neg h, if_neg (by omega)]
      · show M2 c = _
        rw [c3 c hc, a3 c hc]; exact s3 c hc)
    (fun s hs => by
      obtain ⟨s1, ⟨s2, s4, s6, sg⟩, s3⟩ := hs
      unfold fX10_finishes_L67
      rw [m_0 hL, m_g hL (by decide) (by decide), s4, s1, if_pos (by omega)]
      refine ⟨_, rfl, s.2, rfl, ⟨s2, s4, s6, fun p k p0 k0 k1 => ?_⟩, s3⟩
      rw [sg p k p0 k0 k1, show (((v 4).toNat : Nat) : Int) = v 4 by omega])
  exact ⟨M', by rw [e1, e2], e3, e4⟩
noncomputable def tEnd (v : gV) : Int := bI (pln v ∨ 0 < inP v 1 (v 4).toNat)
theorem m_finishes (hL : LyM S Ln R m) (hv : M (m + 1) = v) (hI : IvS b v) :
    ∃ M', fX10_finishes ad S Ln R M m = some (if tEnd v = 0 then inP v 3 (v 4).toNat else 0, M') ∧ M' m = us (M m) 5 (tEnd v) ∧
      (tEnd v = 0 → mE v (M' (m + 1)) ∧ M' (m + 1) 4 = v 4 ∧ M' (m + 1) 6 = v 6 + 1 ∧ ∀ p k : Int, 0 ≤ p → 0 ≤ k → k < 9 → gl (M' (m + 1)) p k = if p < v 4 then clU v p k else gl v p k) ∧ (tEnd v ≠ 0 → M' (m + 1) = v) ∧ ∀ c, c ≠ m → c ≠ m + 1 → c ≠ m + 5 → M' c = M c := by
  have hp := hI.2.2.2.1
  have hb := hI.2.2.2.2.2.1
  have h6 := hI.2.2.2.2.1
  have hv' : ∀ z, (wr M m 5 z) (m + 1) = v := fun z => by rw [wr_a (by omega)]; exact hv
  have h16 : (pln v ∨ 0 < inP v 1 (v 4).toNat) → ∃ M', fX10_finishes_B16 ad S Ln R M m m = some (if tEnd v = 0 then inP v 3 (v 4).toNat else 0, M') ∧ M' m = us (M m) 5 (tEnd v) ∧
      (tEnd v = 0 → mE v (M' (m + 1)) ∧ M' (m + 1) 4 = v 4 ∧ M' (m + 1) 6 = v 6 + 1 ∧ ∀ p k : Int, 0 ≤ p → 0 ≤ k → k < 9 → gl (M' (m + 1)) p k = if p < v 4 then clU v p k else gl v p k) ∧ (tEnd v ≠ 0 → M' (m + 1) = v) ∧ ∀ c, c ≠ m → c ≠ m + 1 → c ≠ m + 5 → M' c = M c := fun h => by
    have ht : tEnd v = 1 := bI_t h
    unfold fX10_finishes_B16 fX10_finishes_B21
    rw [m_isThrown, bd_s, thr_1, ht]
    dsimp only
    rw [if_neg (by decide), if_neg (by decide)]
    exact ⟨_, rfl, wr_r, fun h => absurd h (by decide), fun _ => hv' 1, fun c c0 c1 c2 => wr_a c0⟩
  unfold fX10_finishes
  rw [m_planning hL hv hp, bd_s]
  by_cases h1 : pln v
  · rw [bI_t h1, if_pos (by decide)]; exact h16 (Or.inl h1)
  · rw [bI_f h1, if_neg (by decide), m_inState hL hv hp, bd_s]
    by_cases h2 : 0 < inP v 1 (v 4).toNat
    · rw [if_neg (by omega)]; exact h16 (Or.inr h2)
    · rw [if_pos (by omega)]
      have ht : tEnd v = 0 := bI_f (fun q => q.elim h1 h2)
      unfold fX10_finishes_B21
      rw [m_isThrown, bd_s, thr_0, ht]
      dsimp only
      obtain ⟨M1, a1, a2, a3⟩ := m_L38 (ad := ad) hL (hv' 0) hI (inP v 3 (v 4).toNat)
      have hv1 : M1 (m + 1) = v := (a3 (m + 1) (by omega)).trans (hv' 0)
      obtain ⟨M2, b1, ⟨b2, b4, b6, bg⟩, b3⟩ := m_L67 (ad := ad) hL hv1 hI a2 (inP v 3 (v 4).toNat)
      rw [if_pos rfl, if_pos rfl, m_inState hL (hv' 0) hp, bd_s, a1, bd_s, se_l, b1, bd_s, se_l, m_0 hL, m_g hL (by decide) (by decide), m_g hL (by decide) (by decide), nam_d, b6, w32_i (by omega) (by omega)]
      refine ⟨_, rfl, ?_, fun _ => ⟨?_, ?_, ?_, fun p k p0 k0 k1 => ?_⟩, fun h => absurd rfl h, fun c c0 c1 c2 => ?_⟩
      · rw [wr_a (by omega), b3 m (by omega), a3 m (by omega), wr_r]
      · rw [wr_r]; exact b2.tr mE_6
      · rw [wr_k (by decide)]; exact b4
      · rw [wr_s]
      · rw [wr_r, show gl (us (M2 (m + 1)) 6 (v 6 + 1)) p k = gl (M2 (m + 1)) p k from us_n (by omega)]
        exact bg p k p0 k0 k1
      · rw [wr_a c1, b3 c c1, a3 c c2, wr_a c0]
end PMD
