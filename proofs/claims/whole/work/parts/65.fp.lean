/-! PURE: speeds and means -/
theorem nb64 {x : UInt64} (h : FP.Core.dIsNaN x = false) : x &&& 0x7fffffffffffffff ≤ 0x7ff0000000000000 := by
  have h1 := (FP.Core.ne_nan x).mp ((FP.Core.notNaN_iff x).mp h)
  rw [UInt64.le_iff_toNat_le, UInt64.toNat_and, show (0x7fffffffffffffff : UInt64).toNat = 2 ^ 63 - 1 from rfl, Nat.and_two_pow_sub_one_eq_mod]
  exact h1
theorem nb32 {x : UInt32} (h : FP.Core.fIsNaN x = false) : x &&& 0x7fffffff ≤ 0x7f800000 := by
  have h1 := (FP.Core.ne_nan32 x).mp ((FP.Core.notNaN_iff32 x).mp h)
  rw [UInt32.le_iff_toNat_le, UInt32.toNat_and, show (0x7fffffff : UInt32).toNat = 2 ^ 31 - 1 from rfl, Nat.and_two_pow_sub_one_eq_mod]
  exact h1
theorem iI_ne {y : Int} (h0 : 0 < y) (h1 : y < 2147483648) : iI y ≠ 0 := fun q => by
  have h2 := iI_toInt (z := y) (by omega)
  rw [q] at h2
  have : (0 : Int32).toInt = 0 := rfl
  omega
theorem fdiv_ok {x y : Int} (h0 : 0 < y) (h1 : y < 2147483648) : FP.Core.fIsNaN (FP.fdiv (FP.i2f (iI x)) (FP.i2f (iI y))) = false := by
  rw [FP.fdiv_core, FP.i2f_core]
  exact FP.Core.fdiv_out (FP.Core.i2f_fin _).notNaN (FP.Core.i2f_fin _) (fun q => FP.Core.i2f_ne_zero (iI_ne h0 h1) ((FP.Core.zero_bits232 _).mp q))
theorem ddiv_ok {x y : Int} (h0 : 0 < y) (h1 : y < 2147483648) : FP.Core.dIsNaN (FP.ddiv (FP.i2d (iI x)) (FP.i2d (iI y))) = false := by
  rw [FP.ddiv_core, FP.i2d_core]
  exact FP.Core.ddiv_out (FP.Core.i2d_fin _).notNaN (FP.Core.i2d_fin _) (fun q => FP.Core.i2d_ne_zero (iI_ne h0 h1) ((FP.Core.zero_bits2 _).mp q))
theorem f2d_ok {x : UInt32} (h : FP.Core.fIsNaN x = false) : FP.Core.dIsNaN (FP.f2d x) = false := by
  rw [FP.f2d_core h]
  exact FP.Core.f2d_out h
theorem i_dcl_0 {x : UInt64} (h : FP.Core.dIsNaN x = false) : i_dcl x x = 0 := by
  unfold i_dcl
  rw [FP.dcmp_core, FP.Core.dcmp_self ((FP.Core.notNaN_iff x).mp h)]
  rfl
section PFP
variable {ad S Ln : Nat → Nat} {R : gR} {M : gM} {e o m a : Nat} {π : Int → Nat} {b : Int} {v : gV}
theorem k_c41 (hY : HY S Ln R M e o m a π b) {sz : Nat} {i0 : Int} (hi : 0 ≤ i0 ∧ i0 + 5 ≤ (Ln e : Int) ∧ (Ln e : Int) ≤ 1000000) : ∃ M' R', fL_c41 ad sz S Ln R M e o m a (a + 1) i0 = some (.inl (w32 (i0 + 5), S, Ln, M', R')) ∧ OKS S Ln R M o m a b R' M' := by
  have hY9 := hY
  obtain ⟨hO, hM, hd, hla, he, hN, hb⟩ := hY
  obtain ⟨hR, ⟨hI, n2⟩, n3, n4, n5, n6, n7⟩ := hN
  have hp := hI.2.2.2.1
  have hb0 := hI.2.2.2.2.2.1
  have g1 : (0 : Int) ≤ w32 (i0 + 1) ∧ w32 (i0 + 1) < (Ln e : Int) := by rw [w32_i (by omega) (by omega)]; omega
  generalize hv : M (m + 1) = v at hR hI n2 hp
  unfold fL_c41
  simp only [gd_t g1]
  generalize hpe : M e (w32 (i0 + 1)) = p
  by_cases h : 0 ≤ p ∧ p < v 4
  · have hu := hI.2.2.2.2.2.2 p h.1 h.2
    by_cases h1 : gl v p 1 = 3
    · have h5 := (hu.2.2.2.2.2.2.2.2.2.2.2 h1).2
      have h59 := hu.2.2.2.2.1.2
      have hf := @fdiv_ok (whl v) (gl v p 5) h5 (by omega)
      have hfd := f2d_ok hf
      generalize hx : FP.fdiv (FP.i2f (iI (whl v))) (FP.i2f (iI (gl v p 5))) = x at hf hfd
      have hcl : fL_speed ad S Ln R M o p (a + 1) = some (0, wr M (a + 1) 0 (dI (FP.f2d x))) := by
        unfold fL_speed fX9_speed
        rw [O_inPhase hO hR hI, bd_s, if_pos h, if_pos h1, se_l, s_u hR h.1 h.2 (by decide) (by decide), if_pos h5, o_0 hO, s_c hO.2.2.1, c_whole hO.2.2.1.2.2.1 hR.1 hI.1, bd_s, hx, gd_t (nb32 hf), bd_s, se_l, gd_t (nb64 hfd), gd_t (by rw [hla.2]; decide), nam_d]
      have hm1 : wr M (a + 1) 0 (dI (FP.f2d x)) (m + 1) = v := by rw [wr_a (by omega)]; exact hv
      have hv' : ∀ z, wr (wr M (a + 1) 0 (dI (FP.f2d x))) m 5 z (m + 1) = v := fun z => by rw [wr_a (by omega)]; exact hm1
      have hmo : fX10_speed ad S Ln R (wr M (a + 1) 0 (dI (FP.f2d x))) m p = some (x, wr (wr M (a + 1) 0 (dI (FP.f2d x))) m 5 0) := by
        unfold fX10_speed
        rw [m_isPilot hM hm1 hp, bd_s, bI_t h, if_pos (by decide)]
        unfold fX10_speed_B14
        rw [m_isThrown, bd_s, thr_0]
        dsimp only
        rw [if_neg (by decide), m_of hM h.1 (by omega) (by decide) (by decide), bd_s, hv', if_pos h1]
        unfold fX10_speed_B37
        rw [m_isThrown, bd_s, thr_0, wr_wr]
        dsimp only
        rw [if_pos rfl, m_whole hM (hv' 0) hI.1, bd_s, m_of hM h.1 (by omega) (by decide) (by decide), bd_s, hv', hx, gd_t (nb32 hf)]
      refine ⟨wr (wr M (a + 1) 0 (dI (FP.f2d x))) m 5 0, R, ?_, q_ok hY9 SC.rf (by rw [wr_r, wr_a (by omega)]) (fun c c0 _ c2 => by rw [wr_a c0, wr_a c2])⟩
      rw [hcl, bd_s]
      dsimp only
      rw [wr_a (show e ≠ a + 1 by omega), hpe, hmo, bd_s]
      dsimp only
      rw [show fX10_thrown ad S Ln R (wr (wr M (a + 1) 0 (dI (FP.f2d x))) m 5 0) m = some (wr (wr M (a + 1) 0 (dI (FP.f2d x))) m 5 0 m 5) from rfl, bd_s, wr_s, if_pos rfl, if_neg (by decide), gd_t (by rw [hla.2]; decide), gd_t (nb64 hfd)]
      have ha : wr (wr M (a + 1) 0 (dI (FP.f2d x))) m 5 0 (a + 1) 0 = dI (FP.f2d x) := by rw [wr_a (by omega), wr_s]
      simp only [ha, dD_dI, i_dcl_0 hfd]
      exact if_pos trivial
    · refine ⟨wr M m 5 2, R, ?_, q_ok hY9 SC.rf wr_r (fun c c0 _ _ => wr_a c0)⟩
      have hv' : ∀ z, wr M m 5 z (m + 1) = v := fun z => by rw [wr_a (by omega)]; exact hv
      have hcl : fL_speed ad S Ln R M o p (a + 1) = some (2, M) := by
        unfold fL_speed fX9_speed
        rw [O_inPhase hO hR hI, bd_s, if_pos h, if_neg h1, se_r, bd_s, se_r, if_neg (by decide), if_pos rfl]
      have hmo : fX10_speed ad S Ln R M m p = some (0, wr M m 5 2) := by
        unfold fX10_speed
        rw [m_isPilot hM hv hp, bd_s, bI_t h, if_pos (by decide)]
        unfold fX10_speed_B14
        rw [m_isThrown, bd_s, thr_0]
        dsimp only
        rw [if_neg (by decide), m_of hM h.1 (by omega) (by decide) (by decide), bd_s, hv', if_neg h1]
        unfold fX10_speed_B37
        rw [m_isThrown, bd_s, thr_1, wr_wr]
        dsimp only
        rw [if_neg (by decide)]
      rw [hcl, bd_s]
      dsimp only
      rw [hpe, hmo, bd_s]
      dsimp only
      rw [show fX10_thrown ad S Ln R (wr M m 5 2) m = some (wr M m 5 2 m 5) from rfl, bd_s, wr_s, if_pos rfl, if_pos (by decide)]
      rfl
  · refine ⟨wr M m 5 1, R, ?_, q_ok hY9 SC.rf wr_r (fun c c0 _ _ => wr_a c0)⟩
    have hcl : fL_speed ad S Ln R M o p (a + 1) = some (1, M) := by
      unfold fL_speed fX9_speed
      rw [O_inPhase hO hR hI, bd_s, if_neg h, se_r, bd_s, se_r]
      rfl
    have hmo : fX10_speed ad S Ln R M m p = some (0, wr M m 5 1) := by
      unfold fX10_speed
      rw [m_isPilot hM hv hp, bd_s, bI_f h, if_neg (by decide)]
      unfold fX10_speed_B14
      rw [m_isThrown, bd_s, thr_1]
      dsimp only
      rw [if_pos (by decide)]
    rw [hcl, bd_s]
    dsimp only
    rw [hpe, hmo, bd_s]
    dsimp only
    rw [show fX10_thrown ad S Ln R (wr M m 5 1) m = some (wr M m 5 1 m 5) from rfl, bd_s, wr_s, if_pos rfl, if_pos (by decide)]
    rfl
def sumS (v : gV) : Nat → Int
  | 0 => 0
  | n + 1 => sumS v n + scU v (gl v n)
theorem sumS_b (hI : IvS b v) : ∀ n : Nat, (n : Int) ≤ v 4 → 0 ≤ sumS v n ∧ sumS v n ≤ 1500 * n := by
  intro n
  induction n with
  | zero => intro _; exact ⟨Int.le_refl _, Int.le_refl _⟩
  | succ n ih =>
    intro hn
    have h1 := ih (by omega)
    have h2 := scU_b hI (hI.2.2.2.2.2.2 n (by omega) (by omega))
    show 0 ≤ sumS v n + scU v (gl v n) ∧ sumS v n + scU v (gl v n) ≤ _
    omega
theorem s_all (hL : LyS S Ln R a) (hR : RpS M a v) (hI : IvS b v) : fX8_scoreOfAll ad S Ln R M a = some (sumS v (v 4).toNat) := by
  have hp := hI.2.2.2.1
  unfold fX8_scoreOfAll
  rw [lp_up0 (b := fX8_scoreOfAll_L4 ad S Ln R M a) (v 4).toNat (fun i => (sumS v i, (i : Int))) (r := .inl (sumS v (v 4).toNat)) (s := ((0 : Int), (0 : Int))) rfl (by omega) (fun i hi => by
      have hi4 : (i : Int) < v 4 := by omega
      have hsb := sumS_b hI i (by omega)
      have hu := hI.2.2.2.2.2.2 i (by omega) hi4
      have hsc := scU_b hI hu
      have hg : RpG M (a + 20 + (i : Int).toNat) (gl v i) := fun k k0 k1 => s_u hR (by omega) hi4 k0 k1
      have hs1 : ((i + 1 : Nat) : Int) = (i : Int) + 1 := by omega
      have hst : sumS v (i + 1) = sumS v i + scU v (gl v i) := rfl
      unfold fX8_scoreOfAll_L4
      dsimp only
      rw [hR.2.2.2.1, if_neg (show ¬ v 4 ≤ (i : Int) by omega), s_g hL (by omega) (by omega), s_score hL hR hI hg hu, bd_s, w32_i (z := sumS v i + scU v (gl v i)) (by omega) (by omega), w32_i (by omega) (by omega), hst, hs1]) (by
      unfold fX8_scoreOfAll_L4
      dsimp only
      rw [hR.2.2.2.1, if_pos (show v 4 ≤ (((v 4).toNat : Nat) : Int) by omega)]), bd_s, se_l]
theorem k_c42 (hY : HY S Ln R M e o m a π b) {sz : Nat} {i0 : Int} : ∃ M' R', fL_c42 ad sz S Ln R M e o m a (a + 1) i0 = some (.inl (w32 (i0 + 5), S, Ln, M', R')) ∧ OKS S Ln R M o m a b R' M' := by
  have hY9 := hY
  obtain ⟨hO, hM, hd, hla, he, hN, hb⟩ := hY
  obtain ⟨hR, ⟨hI, n2⟩, n3, n4, n5, n6, n7⟩ := hN
  have hp := hI.2.2.2.1
  generalize hv : M (m + 1) = v at hR hI n2 hp
  have hsb := sumS_b hI (v 4).toNat (by omega)
  have hlp : ∀ M1 : gM, M1 (m + 1) = v → lp (fX10_meanScore_L4 ad S Ln R M1 m) FU (0, 0) = some (.inl (sumS v (v 4).toNat)) := fun M1 h1 =>
    lp_up0 (b := fX10_meanScore_L4 ad S Ln R M1 m) (v 4).toNat (fun i => (sumS v i, (i : Int))) (r := .inl (sumS v (v 4).toNat)) (s := ((0 : Int), (0 : Int))) rfl (by omega) (fun i hi => by
      have hi4 : (i : Int) < v 4 := by omega
      have hsb := sumS_b hI i (by omega)
      have hsc := scU_b hI (hI.2.2.2.2.2.2 i (by omega) hi4)
      have hs1 : ((i + 1 : Nat) : Int) = (i : Int) + 1 := by omega
      have hst : sumS v (i + 1) = sumS v i + scU v (gl v i) := rfl
      unfold fX10_meanScore_L4
      dsimp only
      rw [m_0 hM, m_g hM (by decide) (by decide), h1, if_neg (show ¬ v 4 ≤ (i : Int) by omega), m_score hM h1 hI (by omega) hi4, bd_s, w32_i (z := sumS v i + scU v (gl v i)) (by omega) (by omega), w32_i (by omega) (by omega), hst, hs1]) (by
      unfold fX10_meanScore_L4
      dsimp only
      rw [m_0 hM, m_g hM (by decide) (by decide), h1, if_pos (show v 4 ≤ (((v 4).toNat : Nat) : Int) by omega)])
  unfold fL_c42
  by_cases h0 : v 4 = 0
  · refine ⟨wr M m 5 1, R, ?_, q_ok hY9 SC.rf wr_r (fun c c0 _ _ => wr_a c0)⟩
    have hcl : fL_meanScore ad S Ln R M o (a + 1) = some (1, M) := by
      unfold fL_meanScore fX9_meanScore
      rw [o_0 hO, hR.2.2.2.1, if_neg (by omega), bd_s, se_r]
      rfl
    have hmo : fX10_meanScore ad S Ln R M m = some (0, wr M m 5 1) := by
      unfold fX10_meanScore
      rw [hlp M hv, bd_s, se_l, m_0 hM, m_g hM (by decide) (by decide), hv, if_neg (fun q => q h0)]
      unfold fX10_meanScore_B43
      rw [m_isThrown, bd_s, thr_1]
      dsimp only
      rw [if_neg (by decide)]
    rw [hcl, bd_s]
    dsimp only
    rw [hmo, bd_s]
    dsimp only
    rw [show fX10_thrown ad S Ln R (wr M m 5 1) m = some (wr M m 5 1 m 5) from rfl, bd_s, wr_s, if_pos rfl, if_pos (by decide)]
    rfl
  · have hf := @ddiv_ok (sumS v (v 4).toNat) (v 4) (by omega) (by omega)
    generalize hx : FP.ddiv (FP.i2d (iI (sumS v (v 4).toNat))) (FP.i2d (iI (v 4))) = x at hf
    have hcl : fL_meanScore ad S Ln R M o (a + 1) = some (0, wr M (a + 1) 0 (dI x)) := by
      unfold fL_meanScore fX9_meanScore
      rw [o_0 hO, hR.2.2.2.1, if_pos (by omega), o_0 hO, s_all hO.2.2.1 hR hI, bd_s, o_0 hO, hR.2.2.2.1, hx, gd_t (nb64 hf), bd_s, se_l, gd_t (by rw [hla.2]; decide), nam_d]
    have hm1 : wr M (a + 1) 0 (dI x) (m + 1) = v := by rw [wr_a (by omega)]; exact hv
    have hv' : ∀ z, wr (wr M (a + 1) 0 (dI x)) m 5 z (m + 1) = v := fun z => by rw [wr_a (by omega)]; exact hm1
    have hmo : fX10_meanScore ad S Ln R (wr M (a + 1) 0 (dI x)) m = some (x, wr (wr M (a + 1) 0 (dI x)) m 5 0) := by
      unfold fX10_meanScore
      rw [hlp _ hm1, bd_s, se_l, m_0 hM, m_g hM (by decide) (by decide), hm1, if_pos h0]
      unfold fX10_meanScore_B43
      rw [m_isThrown, bd_s, thr_0]
      dsimp only
      rw [if_pos rfl, m_0 hM, m_g hM (by decide) (by decide)]
      simp only [hv', hx]
      exact gd_t (nb64 hf)
    refine ⟨wr (wr M (a + 1) 0 (dI x)) m 5 0, R, ?_, q_ok hY9 SC.rf (by rw [wr_r, wr_a (by omega)]) (fun c c0 _ c2 => by rw [wr_a c0, wr_a c2])⟩
    rw [hcl, bd_s]
    dsimp only
    rw [hmo, bd_s]
    dsimp only
    rw [show fX10_thrown ad S Ln R (wr (wr M (a + 1) 0 (dI x)) m 5 0) m = some (wr (wr M (a + 1) 0 (dI x)) m 5 0 m 5) from rfl, bd_s, wr_s, if_pos rfl, if_neg (by decide), gd_t (by rw [hla.2]; decide)]
    have ha : wr (wr M (a + 1) 0 (dI x)) m 5 0 (a + 1) 0 = dI x := by rw [wr_a (by omega), wr_s]
    simp only [ha, dD_dI, i_dcl_0 hf]
    exact if_pos trivial
end PFP
