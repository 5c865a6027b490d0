/-! PURE: rows by ranges; consistency -/
section PCN
variable {ad S Ln : Nat → Nat} {R : gR} {M : gM} {e o m a : Nat} {π : Int → Nat} {b : Int} {v : gV}
/-- a state's scratch: what may change while it is asked -/
def SX (M M1 : gM) (a : Nat) : Prop := ∀ c, c ≠ a + 15 → c ≠ a + 16 → c ≠ a + 18 → c ≠ a + 19 → M1 c = M c
theorem s_rows (hL : LyS S Ln R a) (hR : RpS M a v) (hI : IvS b v) : ∃ M', fX8_rowCountsAgree ad S Ln R M a = some (1, M') ∧ SX M M' a := by
  unfold fX8_rowCountsAgree
  obtain ⟨r, e1, M1, e2, e3⟩ := lp_inv0 (b := fX8_rowCountsAgree_L2 ad S Ln R a) 61
    (fun i s => s.1 = (i : Int) ∧ SX M s.2 a) (fun r => ∃ M', r = .inl M' ∧ SX M M' a) (s := ((0 : Int), M)) (by omega) ⟨rfl, fun _ _ _ _ _ => rfl⟩
    (fun i s hi hs => by
      obtain ⟨s1, s2⟩ := hs
      left
      have hRs : RpS s.2 a v := hR.sc hI.2.2.2.1.2 (fun q _ _ c1 c2 c3 c4 => s2 q c1 c2 c3 c4)
      obtain ⟨M2, f1, f2⟩ := b_byRanges (ad := ad) hL.2.2.2.2.1 hRs.2.2.1 hI.2.2.1 (i : Int)
      unfold fX8_rowCountsAgree_L2
      rw [s1, if_neg (by omega), s_b hL, b_byPositions hL.2.2.2.2.1 hRs.2.2.1 hI.2.2.1, bd_s, s_b hL, f1, bd_s]
      dsimp only
      rw [if_pos rfl, w32_i (by omega) (by omega)]
      exact ⟨_, rfl, by show (i : Int) + 1 = ((i + 1 : Nat) : Int); omega, fun c c1 c2 c3 c4 => (f2 c (by omega) (by omega)).trans (s2 c c1 c2 c3 c4)⟩)
    (fun s hs => by
      obtain ⟨s1, s2⟩ := hs
      unfold fX8_rowCountsAgree_L2
      rw [s1, if_pos (by decide)]
      exact ⟨_, rfl, s.2, rfl, s2⟩)
  rw [e1, bd_s, e2, se_l]
  exact ⟨M1, rfl, e3⟩
theorem s_forecasts (hL : LyS S Ln R a) (hR : RpS M a v) (hI : IvS b v) : ∃ M', fX8_finishForecastsAgree ad S Ln R M a = some (1, M') ∧ SX M M' a := by
  have hp := hI.2.2.2.1
  unfold fX8_finishForecastsAgree
  obtain ⟨r, e1, M1, e2, e3⟩ := lp_inv0 (b := fX8_finishForecastsAgree_L2 ad S Ln R a) (v 4).toNat
    (fun i s => s.1 = (i : Int) ∧ SX M s.2 a) (fun r => ∃ M', r = .inl M' ∧ SX M M' a) (s := ((0 : Int), M)) (by omega) ⟨rfl, fun _ _ _ _ _ => rfl⟩
    (fun i s hi hs => by
      obtain ⟨s1, s2⟩ := hs
      left
      have hi4 : (i : Int) < v 4 := by omega
      have hRs : RpS s.2 a v := hR.sc hp.2 (fun q _ _ c1 c2 c3 c4 => s2 q c1 c2 c3 c4)
      have hu := hI.2.2.2.2.2.2 i (by omega) hi4
      have hg : RpG s.2 (a + 20 + (i : Int).toNat) (gl v i) := fun k k0 k1 => s_u hRs (by omega) hi4 k0 k1
      have hB : ∀ M2, SX s.2 M2 a → ∃ t, fX8_finishForecastsAgree_B42 ad S Ln R M2 a (i : Int) = some (.inl t) ∧ t.1 = ((i + 1 : Nat) : Int) ∧ SX M t.2 a := fun M2 h2 => by
        unfold fX8_finishForecastsAgree_B42
        rw [w32_i (by omega) (by omega)]
        exact ⟨_, rfl, by show (i : Int) + 1 = ((i + 1 : Nat) : Int); omega, fun c c1 c2 c3 c4 => (h2 c c1 c2 c3 c4).trans (s2 c c1 c2 c3 c4)⟩
      unfold fX8_finishForecastsAgree_L2
      rw [hRs.2.2.2.1, s1, if_neg (by omega), s_g hL (by omega) (by omega), s_u hRs (by omega) hi4 (by decide) (by decide), gd_t hu.2.1.1]
      by_cases h1 : gl v i 1 = 1
      · obtain ⟨M2, f1, f2⟩ := f_inFlight (ad := ad) hL hRs hI (by omega) hg hu h1
        rw [if_neg (fun q => q h1), s_byHeight hL hRs hI hg hu h1, bd_s, f1, bd_s]
        dsimp only
        rw [if_pos rfl]
        exact hB M2 (fun c _ _ _ c4 => f2 c c4)
      · rw [if_pos h1]
        exact hB s.2 (fun _ _ _ _ _ => rfl))
    (fun s hs => by
      obtain ⟨s1, s2⟩ := hs
      have hRs : RpS s.2 a v := hR.sc hp.2 (fun q _ _ c1 c2 c3 c4 => s2 q c1 c2 c3 c4)
      unfold fX8_finishForecastsAgree_L2
      rw [hRs.2.2.2.1, s1, if_pos (by omega)]
      exact ⟨_, rfl, s.2, rfl, s2⟩)
  rw [e1, bd_s, e2, se_l]
  exact ⟨M1, rfl, e3⟩
theorem s_bounded (hL : LyS S Ln R a) (hR : RpS M a v) (hI : IvS b v) : fX8_distancesAreBounded ad S Ln R M a = some 1 := by
  have hp := hI.2.2.2.1
  unfold fX8_distancesAreBounded
  obtain ⟨r, e1, e2⟩ := lp_inv0 (b := fX8_distancesAreBounded_L2 ad S Ln R M a) (v 4).toNat
    (fun i s => s = (i : Int)) (fun r => r = .inl ()) (s := (0 : Int)) (by omega) rfl
    (fun i s hi hs => by
      left
      have hi4 : (i : Int) < v 4 := by omega
      have hu := hI.2.2.2.2.2.2 i (by omega) hi4
      have hg : RpG M (a + 20 + (i : Int).toNat) (gl v i) := fun k k0 k1 => s_u hR (by omega) hi4 k0 k1
      unfold fX8_distancesAreBounded_L2
      rw [hR.2.2.2.1, hs, if_neg (by omega), s_g hL (by omega) (by omega), s_done hL hR hI hg hu, bd_s, s_c hL, c_whole hL.2.2.1 hR.1 hI.1, bd_s, if_pos (acU_b hI.1 hu).2, w32_i (by omega) (by omega)]
      exact ⟨_, rfl, by omega⟩)
    (fun s hs => by
      unfold fX8_distancesAreBounded_L2
      rw [hR.2.2.2.1, hs, if_pos (by omega)]
      exact ⟨_, rfl, rfl⟩)
  rw [e1, bd_s, e2, se_l]
end PCN
