/-! PURE: the model's flights, climbs, launches, ends of days -/
section PMA
variable {ad S Ln : Nat → Nat} {R : gR} {M : gM} {m : Nat} {b : Int} {v u r : gV} {p : Int}
theorem x_stepX (d : Int) : fX10_stepX ad S Ln R M d = some (stX d) := by
  unfold fX10_stepX stX
  by_cases h : d = 1
  · rw [if_neg (fun q => q h), if_pos h]
  rw [if_pos h, if_neg h]
  by_cases g : d = 3
  · rw [if_neg (fun q => q g), if_pos g]
  rw [if_pos g, if_neg g]
theorem x_stepY (d : Int) : fX10_stepY ad S Ln R M d = some (stY d) := by
  unfold fX10_stepY stY
  by_cases h : d = 0
  · rw [if_neg (fun q => q h), if_pos h]
  rw [if_pos h, if_neg h]
  by_cases g : d = 2
  · rw [if_neg (fun q => q g), if_pos g]
  rw [if_pos g, if_neg g]
theorem m_B147 (hL : LyM S Ln R m) (h : M (m + 1) = sU v p r) (h0 : 0 ≤ p) (h1 : p < 6) (e1 : r 1 = 1) : ∃ M', fX10_kilometre_B147 ad S Ln R M m p = some M' ∧ M' (m + 1) = sU v p (us r 1 (if r 7 = v 1 then 3 else if r 4 = 0 then 2 else 1)) ∧ ∀ c, c ≠ m + 1 → M' c = M c := by
  unfold fX10_kilometre_B147
  rw [m_ofU hL h h0 h1 (by decide) (by decide), bd_s, m_0 hL, m_g hL (by decide) (by decide), h, sU_lo h0 (by decide)]
  by_cases e7 : r 7 = v 1
  · rw [if_neg (fun q => q e7), if_pos e7]
    obtain ⟨M', f1, f2, f3⟩ := m_setsU (ad := ad) hL h h0 h1 (k := 1) (by decide) (by decide) 3
    rw [f1, bd_s]
    exact ⟨M', rfl, f2, f3⟩
  rw [if_pos e7, if_neg e7, m_ofU hL h h0 h1 (by decide) (by decide), bd_s]
  by_cases e4 : r 4 = 0
  · rw [if_neg (fun q => q e4), if_pos e4]
    obtain ⟨M', f1, f2, f3⟩ := m_setsU (ad := ad) hL h h0 h1 (k := 1) (by decide) (by decide) 2
    rw [f1, bd_s]
    exact ⟨M', rfl, f2, f3⟩
  · rw [if_pos e4, if_neg e4]
    refine ⟨M, rfl, ?_, fun _ _ => rfl⟩
    rw [h, show us r 1 1 = r from us_e e1]
theorem m_isThere (hL : LyM S Ln R m) (h : M (m + 1) = sU v p r) (hC : IvC v) (h0 : 0 ≤ p) (h1 : p < 6) {z : Int} (z0 : 0 ≤ z) (z1 : z < v 0) : fX10_isThere ad S Ln R M m p z = some (bI (dst v z (r 2) (r 3) = 0)) := by
  have i8 := hC.1
  have a1 := ab_d (v (7 + 2 * z) - r 2)
  have a2 := ab_d (v (8 + 2 * z) - r 3)
  unfold fX10_isThere
  rw [m_ofU hL h h0 h1 (by decide) (by decide), bd_s, m_pointX hL h z0 (by omega), bd_s, sU_lo h0 (by omega)]
  by_cases e : r 2 = v (7 + 2 * z)
  · rw [if_neg (fun q => q e), m_ofU hL h h0 h1 (by decide) (by decide), bd_s, m_pointY hL h z0 (by omega), bd_s, sU_lo h0 (by omega)]
    by_cases e' : r 3 = v (8 + 2 * z)
    · rw [if_neg (fun q => q e'), bI_t (by unfold dst; omega)]
    · rw [if_pos e', bI_f (by unfold dst; omega)]
  · rw [if_pos e, bI_f (by unfold dst; omega)]
theorem m_B112 (hL : LyM S Ln R m) (h : M (m + 1) = sU v p r) (hC : IvC v) (h0 : 0 ≤ p) (h1 : p < 6) (e1 : r 1 = 1) (h7 : 0 ≤ r 7 ∧ r 7 < v 1) : ∃ M', fX10_kilometre_B112 ad S Ln R M m p = some M' ∧ M' (m + 1) = sU v p (kmS v r) ∧ ∀ c, c ≠ m + 1 → M' c = M c := by
  have i6 := hC.2.1
  have g3 := hC.2.2.2.1 _ h7.1 h7.2
  unfold fX10_kilometre_B112
  rw [m_ofU hL h h0 h1 (by decide) (by decide), bd_s, m_inTask hL h h7.1 (by omega), bd_s, sU_lo h0 (by omega), m_isThere hL h hC h0 h1 g3.1 g3.2, bd_s]
  by_cases hz : dst v (v (23 + r 7)) (r 2) (r 3) = 0
  · obtain ⟨M1, f1, f2, f3⟩ := m_setsU (ad := ad) hL h h0 h1 (k := 7) (by decide) (by decide) (r 7 + 1)
    rw [bI_t hz, if_neg (by decide), bd_s, w32_i (by omega) (by omega), f1, bd_s]
    obtain ⟨M2, g1, g2, g3⟩ := m_B147 (ad := ad) hL f2 h0 h1 (by rw [us_n (by decide)]; exact e1)
    rw [us_s, us_n (by decide)] at g2
    refine ⟨M2, g1, ?_, fun c hc => by rw [g3 c hc, f3 c hc]⟩
    unfold kmS kmR
    rw [bI_t hz, us_s]
    exact g2
  · obtain ⟨M2, g1, g2, g3⟩ := m_B147 (ad := ad) hL h h0 h1 e1
    rw [bI_f hz, if_pos rfl]
    refine ⟨M2, g1, ?_, g3⟩
    unfold kmS kmR
    rw [bI_f hz, us_s, Int.add_zero, us_self]
    exact g2
theorem m_B73 (hL : LyM S Ln R m) (h : M (m + 1) = sU v p r) (hC : IvC v) (hB : IvB v) (h0 : 0 ≤ p) (h1 : p < 6) (e1 : r 1 = 1) (h7 : 0 ≤ r 7 ∧ r 7 < v 1) (h6 : -1000000000 ≤ r 6 ∧ r 6 ≤ 1000000000) (z : Int) : ∃ M', fX10_kilometre_B73 ad S Ln R M m p z 4 p m = some M' ∧ M' (m + 1) = sU v p (kmS v (kmP v (us r 4 z))) ∧ ∀ c, c ≠ m + 1 → M' c = M c := by
  unfold fX10_kilometre_B73
  obtain ⟨M1, f1, f2, f3⟩ := m_setsU (ad := ad) hL h h0 h1 (k := 4) (by decide) (by decide) z
  have n2 : us r 4 z 2 = r 2 := us_n (by decide)
  have n3 : us r 4 z 3 = r 3 := us_n (by decide)
  have n6 : us r 4 z 6 = r 6 := us_n (by decide)
  rw [f1, bd_s, m_ofU hL f2 h0 h1 (by decide) (by decide), bd_s, m_ofU hL f2 h0 h1 (by decide) (by decide), bd_s, m_restricted hL f2 (IvB_c (mE_sU h0) hB), bd_s, bI_c (rst_c (mE_sU h0) hB)]
  by_cases hr : rst v (us r 4 z 2) (us r 4 z 3)
  · obtain ⟨M2, g1, g2, g3⟩ := m_setsU (ad := ad) hL f2 h0 h1 (k := 6) (by decide) (by decide) (us r 4 z 6 + 10)
    rw [bI_t hr, if_neg (by decide), m_ofU hL f2 h0 h1 (by decide) (by decide), bd_s, w32_i (by omega) (by omega), g1, bd_s]
    have e6 : kmP v (us r 4 z) = us (us r 4 z) 6 (us r 4 z 6 + 10) := by unfold kmP; rw [bI_t hr]; rfl
    rw [← e6] at g2
    obtain ⟨M3, k1, k2, k3⟩ := m_B112 (ad := ad) hL g2 hC h0 h1 e1 h7
    exact ⟨M3, k1, k2, fun c hc => by rw [k3 c hc, g3 c hc, f3 c hc]⟩
  · rw [bI_f hr, if_pos rfl]
    have e6 : kmP v (us r 4 z) = us r 4 z := by unfold kmP; rw [bI_f hr, show us r 4 z 6 + 10 * 0 = us r 4 z 6 by omega, us_self]
    rw [← e6] at f2
    obtain ⟨M3, k1, k2, k3⟩ := m_B112 (ad := ad) hL f2 hC h0 h1 (by rw [e6]; exact e1) (by rw [e6]; exact h7)
    exact ⟨M3, k1, k2, fun c hc => by rw [k3 c hc, f3 c hc]⟩
theorem m_km (hL : LyM S Ln R m) (h : M (m + 1) = sU v p u) (hC : IvC v) (hB : IvB v) (h0 : 0 ≤ p) (h1 : p < 6) (hF : IvF v u) (e1 : u 1 = 1) (h5 : u 5 ≤ 100000000) (h6 : u 6 ≤ 100000000) (d : Int) : ∃ M', fX10_kilometre ad S Ln R M m p d = some M' ∧ M' (m + 1) = sU v p (kmU v u d) ∧ ∀ c, c ≠ m + 1 → M' c = M c := by
  obtain ⟨f0, f1, ⟨f2, f3⟩, f4, f5, f6, f7, q1, q2, q3, q4⟩ := hF
  have bx := stX_b d
  have bY := stY_b d
  have hs := snk_b f0.1 f0.2
  have g2 := q2 (Or.inl e1)
  unfold fX10_kilometre
  obtain ⟨M1, a1, a2, a3⟩ := m_setsU (ad := ad) hL h h0 h1 (k := 2) (by decide) (by decide) (u 2 + stX d)
  obtain ⟨M2, b1, b2, b3⟩ := m_setsU (ad := ad) hL a2 h0 h1 (k := 3) (by decide) (by decide) (u 3 + stY d)
  obtain ⟨M3, c1, c2, c3⟩ := m_setsU (ad := ad) hL b2 h0 h1 (k := 5) (by decide) (by decide) (u 5 + 1)
  have n0 : (us (us (us u 2 (u 2 + stX d)) 3 (u 3 + stY d)) 5 (u 5 + 1)) 0 = u 0 := rfl
  have n4 : (us (us (us u 2 (u 2 + stX d)) 3 (u 3 + stY d)) 5 (u 5 + 1)) 4 = u 4 := rfl
  have hsk : fX10_sinkOf ad S Ln R M3 m p = some (snk u) := by
    unfold fX10_sinkOf
    rw [m_ofU hL c2 h0 h1 (by decide) (by decide), bd_s, n0, gd_t (by omega)]
    rfl
  rw [m_ofU hL h h0 h1 (by decide) (by decide), bd_s, x_stepX, bd_s, w32_i (by omega) (by omega), a1, bd_s, m_ofU hL a2 h0 h1 (by decide) (by decide), bd_s, x_stepY, bd_s, show us u 2 (u 2 + stX d) 3 = u 3 from rfl, w32_i (by omega) (by omega), b1, bd_s,
    m_ofU hL b2 h0 h1 (by decide) (by decide), bd_s, show us (us u 2 (u 2 + stX d)) 3 (u 3 + stY d) 5 = u 5 from rfl, w32_i (by omega) (by omega), c1, bd_s, m_ofU hL c2 h0 h1 (by decide) (by decide), bd_s, n4, hsk, bd_s, w32_i (by omega) (by omega)]
  have hfr : ∀ c, c ≠ m + 1 → M3 c = M c := fun c hc => by rw [c3 c hc, b3 c hc, a3 c hc]
  have hk : ∀ z, z = (if u 4 - snk u < 0 then 0 else u 4 - snk u) → ∃ M', fX10_kilometre_B73 ad S Ln R M3 m p z 4 p m = some M' ∧ M' (m + 1) = sU v p (kmU v u d) ∧ ∀ c, c ≠ m + 1 → M' c = M c := fun z hz => by
    obtain ⟨M4, d1, d2, d3⟩ := m_B73 (ad := ad) hL c2 hC hB h0 h1 e1 (by show 0 ≤ u 7 ∧ u 7 < v 1; omega) (by show -1000000000 ≤ u 6 ∧ u 6 ≤ 1000000000; omega) z
    refine ⟨M4, d1, ?_, fun c hc => by rw [d3 c hc, hfr c hc]⟩
    rw [d2]
    unfold kmU mvU
    rw [hz]
  by_cases hz : u 4 - snk u < 0
  · rw [if_neg (by omega)]; exact hk 0 (if_pos hz).symm
  · rw [if_pos (by omega)]; exact hk _ (if_neg hz).symm
/-- a flight: what it throws -/
def tFly (v : gV) (p d n : Int) : Int := if 0 ≤ p ∧ p < v 4 then (if (0 ≤ d ∧ d ≤ 3) ∧ 1 ≤ n ∧ n ≤ 60 then (if gl v p 1 = 1 then (if (0 ≤ gl v p 2 + n * stX d ∧ gl v p 2 + n * stX d ≤ 60) ∧ 0 ≤ gl v p 3 + n * stY d ∧ gl v p 3 + n * stY d ≤ 60 then 0 else 4) else 3) else 2) else 1
theorem mul_st {n s : Int} (h0 : 0 ≤ n) (h1 : n ≤ 60) (hs : -1 ≤ s ∧ s ≤ 1) : -60 ≤ n * s ∧ n * s ≤ 60 := by
  have : s = -1 ∨ s = 0 ∨ s = 1 := by omega
  rcases this with e | e | e <;> subst e <;> omega
theorem thr_0 {M : gM} {m : Nat} {z : Int} : wr M m 5 (if (0 : Int) = 0 then 0 else z) = wr M m 5 0 := by rw [if_pos rfl]
theorem thr_1 {M : gM} {m : Nat} {z : Int} : wr M m 5 (if (1 : Int) = 0 then 0 else z) = wr M m 5 z := by rw [if_neg (by decide)]
theorem wr_wr {M : gM} {a : Nat} {k x y : Int} : wr (wr M a k x) a k y = wr M a k y := by
  funext c
  by_cases h : c = a
  · subst h; rw [wr_r, wr_r, wr_r, us_us]
  · rw [wr_a h, wr_a h, wr_a h]
theorem m_flies (hL : LyM S Ln R m) (hv : M (m + 1) = v) (hI : IvS b v) (d n : Int) :
    ∃ M', fX10_flies ad S Ln R M m p d n = some (if tFly v p d n = 0 then kmC v (gl v p) d n.toNat else 0, M') ∧ M' m = us (M m) 5 (tFly v p d n) ∧ M' (m + 1) = (if tFly v p d n = 0 then sU v p (kmN v (gl v p) d n.toNat) else v) ∧ ∀ c, c ≠ m → c ≠ m + 1 → M' c = M c := by
  have hp := hI.2.2.2.1
  have hb := hI.2.2.2.2.2.1
  have hv' : ∀ z, (wr M m 5 z) (m + 1) = v := fun z => by rw [wr_a (by omega)]; exact hv
  unfold fX10_flies
  rw [m_isPilot hL hv hp, bd_s]
  by_cases hpl : 0 ≤ p ∧ p < v 4
  · rw [bI_t hpl, if_pos (by decide)]
    unfold fX10_flies_B14
    rw [m_isThrown, bd_s, thr_0]
    dsimp only
    rw [if_neg (by decide)]
    have hB46 : ((0 ≤ d ∧ d ≤ 3) ∧ 1 ≤ n ∧ n ≤ 60) → ∃ M', fX10_flies_B46 ad S Ln R (wr M m 5 0) m p d n 0 m = some (if tFly v p d n = 0 then kmC v (gl v p) d n.toNat else 0, M') ∧ M' m = us (M m) 5 (tFly v p d n) ∧ M' (m + 1) = (if tFly v p d n = 0 then sU v p (kmN v (gl v p) d n.toNat) else v) ∧ ∀ c, c ≠ m → c ≠ m + 1 → M' c = M c := fun har => by
      unfold fX10_flies_B46
      rw [m_isThrown, bd_s, thr_0, wr_wr]
      dsimp only
      rw [if_neg (by decide)]
      rw [m_of hL hpl.1 (by omega) (by decide) (by decide), bd_s, hv']
      by_cases h1 : gl v p 1 = 1
      · rw [if_pos h1]
        unfold fX10_flies_B69
        rw [m_isThrown, bd_s, thr_0, wr_wr]
        dsimp only
        have hu := hI.2.2.2.2.2.2 p hpl.1 hpl.2
        obtain ⟨f0, f1, ⟨f2, f3⟩, f4, f5, f6, f7, f8, q⟩ := id hu
        have mx := mul_st (n := n) (by omega) har.2.2 (stX_b d)
        have mY := mul_st (n := n) (by omega) har.2.2 (stY_b d)
        rw [if_pos rfl, m_of hL hpl.1 (by omega) (by decide) (by decide), bd_s, hv', x_stepX, bd_s, m_of hL hpl.1 (by omega) (by decide) (by decide), bd_s, hv', x_stepY, bd_s, w32_i (z := n * stX d) (by omega) (by omega), w32_i (z := n * stY d) (by omega) (by omega), w32_i (z := gl v p 2 + n * stX d) (by omega) (by omega), w32_i (z := gl v p 3 + n * stY d) (by omega) (by omega), x_isPlace, bd_s]
        by_cases hin : (0 ≤ gl v p 2 + n * stX d ∧ gl v p 2 + n * stX d ≤ 60) ∧ 0 ≤ gl v p 3 + n * stY d ∧ gl v p 3 + n * stY d ≤ 60
        · have ht : tFly v p d n = 0 := by unfold tFly; rw [if_pos hpl, if_pos har, if_pos h1, if_pos hin]
          rw [bI_t hin, if_pos (by decide), ht, if_pos rfl, if_pos rfl]
          unfold fX10_flies_B116
          rw [m_isThrown, bd_s, thr_0, wr_wr]
          dsimp only
          rw [if_pos rfl]
          have hnn : ((n.toNat : Nat) : Int) = n := by omega
          have hkm := kmN_b (n := n.toNat) hI.1 hu.f (by omega) (by rw [hnn]; exact hin.1) (by rw [hnn]; exact hin.2)
          obtain ⟨r, e2, M', e3, e4, e5⟩ := lp_inv0 (b := fX10_flies_L128 ad S Ln R m p d n) n.toNat
            (fun i s => s.1 = (i : Int) ∧ s.2 (m + 1) = sU v p (kmN v (gl v p) d i) ∧ (∀ c, c ≠ m + 1 → s.2 c = wr M m 5 0 c) ∧ kmC v (gl v p) d i = i)
            (fun r => ∃ M', r = .inl (kmC v (gl v p) d n.toNat, M') ∧ M' (m + 1) = sU v p (kmN v (gl v p) d n.toNat) ∧ ∀ c, c ≠ m + 1 → M' c = wr M m 5 0 c)
            (s := ((0 : Int), wr M m 5 0)) (by omega) ⟨rfl, (hv' 0).trans sU_id.symm, fun _ _ => rfl, rfl⟩
            (fun i s hi hs => by
              obtain ⟨s1, s2, s3, s4⟩ := hs
              obtain ⟨a1, a2, a3, a4, a5, a6, a7⟩ := hkm i (by omega)
              unfold fX10_flies_L128
              rw [if_neg (by omega), m_ofU hL s2 hpl.1 (by omega) (by decide) (by decide), bd_s]
              by_cases e : kmN v (gl v p) d i 1 = 1
              · left
                obtain ⟨M2, g1, g2, g3⟩ := m_km (ad := ad) hL s2 hI.1 hI.2.2.1 hpl.1 (by omega) a1 e (by omega) (by omega) d
                rw [if_neg (fun q => q e), g1, bd_s]
                refine ⟨_, rfl, ?_, ?_, ?_, ?_⟩
                · show w32 (s.1 + 1) = _
                  rw [w32_i (by omega) (by omega)]; omega
                · rw [kmN_t e]; exact g2
                · intro c hc; show M2 c = _; rw [g3 c hc]; exact s3 c hc
                · rw [kmC_t e, s4]; omega
              · right
                rw [if_pos e]
                obtain ⟨st1, st2⟩ := kmN_st e (n.toNat - i)
                rw [show i + (n.toNat - i) = n.toNat by omega] at st1 st2
                refine ⟨_, rfl, s.2, ?_, ?_, s3⟩
                · rw [st2, s4, s1]
                · rw [st1]; exact s2)
            (fun s hs => by
              obtain ⟨s1, s2, s3, s4⟩ := hs
              unfold fX10_flies_L128
              rw [if_pos (by omega)]
              exact ⟨_, rfl, s.2, by rw [s4, s1], s2, s3⟩)
          rw [e2, bd_s, e3, se_l]
          exact ⟨M', rfl, by rw [e5 m (by omega), wr_r], e4, fun c c0 c1 => by rw [e5 c c1, wr_a c0]⟩
        · have ht : tFly v p d n = 4 := by unfold tFly; rw [if_pos hpl, if_pos har, if_pos h1, if_neg hin]
          rw [bI_f hin, if_neg (by decide), ht, if_neg (by decide), if_neg (by decide)]
          unfold fX10_flies_B116
          rw [m_isThrown, bd_s, thr_1, wr_wr]
          dsimp only
          rw [if_neg (by decide)]
          exact ⟨_, rfl, wr_r, hv' 4, fun c c0 c1 => wr_a c0⟩
      · have ht : tFly v p d n = 3 := by unfold tFly; rw [if_pos hpl, if_pos har, if_neg h1]
        rw [if_neg h1, ht, if_neg (by decide), if_neg (by decide)]
        unfold fX10_flies_B69
        rw [m_isThrown, bd_s, thr_1, wr_wr]
        dsimp only
        rw [if_neg (by decide)]
        exact ⟨_, rfl, wr_r, hv' 3, fun c c0 c1 => wr_a c0⟩
    have hB41 : ¬ ((0 ≤ d ∧ d ≤ 3) ∧ 1 ≤ n ∧ n ≤ 60) → ∃ M', fX10_flies_B41 ad S Ln R (wr M m 5 0) m p d n m = some (if tFly v p d n = 0 then kmC v (gl v p) d n.toNat else 0, M') ∧ M' m = us (M m) 5 (tFly v p d n) ∧ M' (m + 1) = (if tFly v p d n = 0 then sU v p (kmN v (gl v p) d n.toNat) else v) ∧ ∀ c, c ≠ m → c ≠ m + 1 → M' c = M c := fun har => by
      have ht : tFly v p d n = 2 := by unfold tFly; rw [if_pos hpl, if_neg har]
      unfold fX10_flies_B41 fX10_flies_B46
      rw [m_isThrown, bd_s, thr_1, wr_wr, ht]
      dsimp only
      rw [if_pos (by decide), if_neg (by decide), if_neg (by decide)]
      exact ⟨_, rfl, wr_r, hv' 2, fun c c0 c1 => wr_a c0⟩
    rw [x_isIn, bd_s]
    by_cases hd : 0 ≤ d ∧ d ≤ 3
    · rw [bI_t hd, if_neg (by decide), x_isIn, bd_s]
      by_cases hn : 1 ≤ n ∧ n ≤ 60
      · rw [bI_t hn, if_pos (by decide)]; exact hB46 ⟨hd, hn⟩
      · rw [bI_f hn, if_neg (by decide)]; exact hB41 (fun q => hn q.2)
    · rw [bI_f hd, if_pos rfl]; exact hB41 (fun q => hd q.1)
  · have ht : tFly v p d n = 1 := by unfold tFly; rw [if_neg hpl]
    rw [bI_f hpl, if_neg (by decide), ht, if_neg (by decide), if_neg (by decide)]
    unfold fX10_flies_B14
    rw [m_isThrown, bd_s, thr_1]
    dsimp only
    rw [if_pos (by decide)]
    exact ⟨_, rfl, wr_r, hv' 1, fun c c0 c1 => wr_a c0⟩
/-- a climb: what it throws -/
def tClimb (v : gV) (p n : Int) : Int := if 0 ≤ p ∧ p < v 4 then (if 1 ≤ n ∧ n ≤ 30 then (if gl v p 1 = 1 then (if str v (gl v p 2) (gl v p 3) (v 2).toNat = 0 then 4 else 0) else 3) else 2) else 1
theorem m_B165 (hL : LyM S Ln R m) (h : M (m + 1) = sU v p u) (h0 : 0 ≤ p) (h1 : p < 6) (h5 : 0 ≤ u 5 ∧ u 5 ≤ 100000000) {n : Int} (n0 : 1 ≤ n) (n1 : n ≤ 30) (z : Int) : ∃ M', fX10_climbs_B165 ad S Ln R M m p n z 4 p m = some (z, M') ∧ M' (m + 1) = sU v p (us (us u 4 z) 5 (u 5 + n)) ∧ ∀ c, c ≠ m + 1 → M' c = M c := by
  unfold fX10_climbs_B165
  obtain ⟨M1, a1, a2, a3⟩ := m_setsU (ad := ad) hL h h0 h1 (k := 4) (by decide) (by decide) z
  obtain ⟨M2, b1, b2, b3⟩ := m_setsU (ad := ad) hL a2 h0 h1 (k := 5) (by decide) (by decide) (u 5 + n)
  rw [a1, bd_s, m_ofU hL a2 h0 h1 (by decide) (by decide), bd_s, us_n (by decide), w32_i (by omega) (by omega), b1, bd_s, m_ofU hL b2 h0 h1 (by decide) (by decide), bd_s, us_n (by decide), us_s]
  exact ⟨M2, rfl, b2, fun c hc => by rw [b3 c hc, a3 c hc]⟩
theorem m_climbs (hL : LyM S Ln R m) (hv : M (m + 1) = v) (hI : IvS b v) (n : Int) :
    ∃ M', fX10_climbs ad S Ln R M m p n = some (if tClimb v p n = 0 then rsH (gl v p) (str v (gl v p 2) (gl v p 3) (v 2).toNat) n (v 5) 4 else 0, M') ∧ M' m = us (M m) 5 (tClimb v p n) ∧ M' (m + 1) = (if tClimb v p n = 0 then sU v p (rsH (gl v p) (str v (gl v p 2) (gl v p 3) (v 2).toNat) n (v 5)) else v) ∧ ∀ c, c ≠ m → c ≠ m + 1 → M' c = M c := by
  have hp := hI.2.2.2.1
  have hb := hI.2.2.2.2.2.1
  have hA := hI.2.1
  have hv' : ∀ z, (wr M m 5 z) (m + 1) = v := fun z => by rw [wr_a (by omega)]; exact hv
  unfold fX10_climbs
  rw [m_isPilot hL hv hp, bd_s]
  by_cases hpl : 0 ≤ p ∧ p < v 4
  · rw [bI_t hpl, if_pos (by decide)]
    unfold fX10_climbs_B14
    rw [m_isThrown, bd_s, thr_0]
    dsimp only
    rw [if_neg (by decide)]
    rw [x_isIn, bd_s]
    by_cases hn : 1 ≤ n ∧ n ≤ 30
    · rw [bI_t hn, if_pos (by decide)]
      unfold fX10_climbs_B37
      rw [m_isThrown, bd_s, thr_0, wr_wr]
      dsimp only
      rw [if_neg (by decide)]
      rw [m_of hL hpl.1 (by omega) (by decide) (by decide), bd_s, hv']
      by_cases h1 : gl v p 1 = 1
      · rw [if_pos h1]
        unfold fX10_climbs_B60
        rw [m_isThrown, bd_s, thr_0, wr_wr]
        dsimp only
        have hu := hI.2.2.2.2.2.2 p hpl.1 hpl.2
        obtain ⟨f0, f1, ⟨f2, f3⟩, f4, f5, f6, f7, f8, q⟩ := id hu
        have hst := str_b hA (x := gl v p 2) (y := gl v p 3) (v 2).toNat (by have := hA.1; omega)
        rw [if_pos rfl, m_of hL hpl.1 (by omega) (by decide) (by decide), bd_s, hv', m_of hL hpl.1 (by omega) (by decide) (by decide), bd_s, hv', m_lifted hL (hv' 0) hA (by omega) (by omega) (by omega) (by omega), bd_s]
        generalize hq : str v (gl v p 2) (gl v p 3) (v 2).toNat = s at hst
        by_cases hz : s = 0
        · have ht : tClimb v p n = 4 := by unfold tClimb; rw [if_pos hpl, if_pos hn, if_pos h1, hq, if_pos hz]
          rw [if_neg (fun q => q hz), ht, if_neg (by decide), if_neg (by decide)]
          unfold fX10_climbs_B96
          rw [m_isThrown, bd_s, thr_1, wr_wr]
          dsimp only
          rw [if_neg (by decide)]
          exact ⟨_, rfl, wr_r, hv' 4, fun c c0 c1 => wr_a c0⟩
        · have ht : tClimb v p n = 0 := by unfold tClimb; rw [if_pos hpl, if_pos hn, if_pos h1, hq, if_neg hz]
          rw [if_pos hz, ht, if_pos rfl, if_pos rfl]
          unfold fX10_climbs_B96
          rw [m_isThrown, bd_s, thr_0, wr_wr]
          dsimp only
          have hm1 : 60 * s * n ≤ 300 * 30 := Int.mul_le_mul (by omega) hn.2 (by omega) (by omega)
          have hm0 : 0 ≤ 60 * s * n := Int.mul_nonneg (by omega) (by omega)
          have hB : ∀ z, z = rsH (gl v p) s n (v 5) 4 → ∃ M', fX10_climbs_B165 ad S Ln R (wr M m 5 0) m p n z 4 p m = some (rsH (gl v p) s n (v 5) 4, M') ∧ M' m = us (M m) 5 0 ∧ M' (m + 1) = sU v p (rsH (gl v p) s n (v 5)) ∧ ∀ c, c ≠ m → c ≠ m + 1 → M' c = M c := fun z hz => by
            obtain ⟨M2, g1, g2, g3⟩ := m_B165 (ad := ad) (u := gl v p) hL ((hv' 0).trans sU_id.symm) hpl.1 (by omega) ⟨f5.1, by omega⟩ hn.1 hn.2 z
            rw [← hz]
            refine ⟨M2, g1, by rw [g3 m (by omega), wr_r], ?_, fun c c0 c1 => by rw [g3 c c1, wr_a c0]⟩
            rw [g2, hz]
            rfl
          have h4 : rsH (gl v p) s n (v 5) 4 = if gl v p 4 < v 5 then (if v 5 < gl v p 4 + 60 * s * n then v 5 else gl v p 4 + 60 * s * n) else gl v p 4 := rfl
          rw [if_pos rfl, m_of hL hpl.1 (by omega) (by decide) (by decide), bd_s, hv', m_0 hL, m_g hL (by decide) (by decide)]
          simp only [hv']
          by_cases c1 : gl v p 4 ≤ v 5
          · rw [if_pos c1, m_0 hL, m_g hL (by decide) (by decide)]
            simp only [hv']
            rw [w32_i (z := 60 * s) (by omega) (by omega), w32_i (z := 60 * s * n) (by omega) (by omega), w32_i (by omega) (by omega)]
            by_cases c2 : gl v p 4 + 60 * s * n ≤ v 5
            · rw [if_pos c2]
              refine hB _ ?_
              rw [h4]
              by_cases c3 : gl v p 4 < v 5
              · rw [if_pos c3, if_neg (by omega)]
              · rw [if_neg c3]; omega
            · rw [if_neg c2, m_0 hL, m_g hL (by decide) (by decide)]
              simp only [hv']
              refine hB _ ?_
              rw [h4]
              by_cases c3 : gl v p 4 < v 5
              · rw [if_pos c3, if_pos (by omega)]
              · rw [if_neg c3]; omega
          · rw [if_neg c1]
            refine hB _ ?_
            rw [h4, if_neg (by omega)]
      · have ht : tClimb v p n = 3 := by unfold tClimb; rw [if_pos hpl, if_pos hn, if_neg h1]
        rw [if_neg h1, ht, if_neg (by decide), if_neg (by decide)]
        unfold fX10_climbs_B60
        rw [m_isThrown, bd_s, thr_1, wr_wr]
        dsimp only
        rw [if_neg (by decide)]
        exact ⟨_, rfl, wr_r, hv' 3, fun c c0 c1 => wr_a c0⟩
    · have ht : tClimb v p n = 2 := by unfold tClimb; rw [if_pos hpl, if_neg hn]
      rw [bI_f hn, if_neg (by decide), ht, if_neg (by decide), if_neg (by decide)]
      unfold fX10_climbs_B37
      rw [m_isThrown, bd_s, thr_1, wr_wr]
      dsimp only
      rw [if_pos (by decide)]
      exact ⟨_, rfl, wr_r, hv' 2, fun c c0 c1 => wr_a c0⟩
  · have ht : tClimb v p n = 1 := by unfold tClimb; rw [if_neg hpl]
    rw [bI_f hpl, if_neg (by decide), ht, if_neg (by decide), if_neg (by decide)]
    unfold fX10_climbs_B14
    rw [m_isThrown, bd_s, thr_1]
    dsimp only
    rw [if_pos (by decide)]
    exact ⟨_, rfl, wr_r, hv' 1, fun c c0 c1 => wr_a c0⟩
end PMA
