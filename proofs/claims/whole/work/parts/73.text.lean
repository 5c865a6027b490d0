/-! PURE: the text read -/
/-- the text x (a StringBuilder over the bytes y) holds the model's line -/
def TXT (S Ln : Nat → Nat) (R : gR) (M : gM) (o m x y : Nat) : Prop := (R o 5 = some x ∧ S x = 2 ∧ R x 0 = some y ∧ S y = 23) ∧ (M x 1 = 0 ∧ M x 3 = M m 12) ∧ (0 ≤ M m 12 ∧ M m 12 ≤ 80 ∧ M m 12 ≤ (Ln y : Int) ∧ (Ln y : Int) ≤ 1000) ∧ ∀ i, 0 ≤ i → i < M m 12 → M y i = M (m + 6) i ∧ 0 ≤ M (m + 6) i ∧ M (m + 6) i < 128
theorem and255 : ∀ n : Nat, n < 128 → i_and (n : Int) 255 = (n : Int) := by decide +kernel
theorem i2c128 : ∀ n : Nat, n < 128 → i_i2c (n : Int) = (n : Int) := by decide +kernel
theorem shr0 : ∀ n : Nat, n < 1001 → i_shr (n : Int) 0 = (n : Int) := by decide +kernel
theorem and_b {z : Int} (h0 : 0 ≤ z) (h1 : z < 128) : i_and z 255 = z := by
  have := and255 z.toNat (by omega)
  rw [show ((z.toNat : Nat) : Int) = z by omega] at this
  exact this
theorem i2c_v {z : Int} (h0 : 0 ≤ z) (h1 : z < 128) : i_i2c z = z := by
  have := i2c128 z.toNat (by omega)
  rw [show ((z.toNat : Nat) : Int) = z by omega] at this
  exact this
section PTX
variable {ad S Ln : Nat → Nat} {R : gR} {M : gM} {e o m a x y : Nat} {π : Int → Nat} {b : Int} {v : gV}
theorem x_5 {α : Type} {f : Nat → Option α} (hX : TXT S Ln R M o m x y) : rf S (R o 5) 2 f = f x := rf_o hX.1.1 hX.1.2.1
theorem m_11 {α : Type} {f : Nat → Option α} (hL : LyM S Ln R m) : rf S (R m 11) 20 f = f (m + 6) := rf_o hL.2.2.2.2.2.2.2.1 hL.1.2.2.2.2.2.2.1
theorem x_chk {i n : Int} (h0 : 0 ≤ i) (h1 : i < n) : fJ0_checkIndex_df160 ad S Ln R M i n = some () := by
  unfold fJ0_checkIndex_df160 fJ3_checkIndex_8e157
  rw [if_neg (by omega), if_pos h1, bd_s]
theorem x_charAt (hX : TXT S Ln R M o m x y) {i : Int} (h0 : 0 ≤ i) (h1 : i < M m 12) : fJ4_charAt_5068e ad S Ln R M x i = some (M (m + 6) i) := by
  obtain ⟨⟨r5, sx, rx, sy⟩, ⟨c1, c3⟩, ⟨n0, n1, n2, n3⟩, hc⟩ := hX
  obtain ⟨k1, k2, k3⟩ := hc i h0 h1
  have hsh : i_shr (Ln y : Int) 0 = (Ln y : Int) := shr0 (Ln y) (by omega)
  have hm : i < i_min (M x 3) (Ln y : Int) := by
    unfold i_min
    rw [c3]
    split <;> omega
  unfold fJ4_charAt_5068e fJ5_charAt_5068e
  rw [rf_o rx sy, c1, hsh, x_chk h0 hm, bd_s, if_neg (fun q => q rfl), gd_t (by omega), k1, and_b k2 k3, i2c_v k2 k3, bd_s]
theorem k_c50 (hY : HY S Ln R M e o m a π b) (hX : TXT S Ln R M o m x y) {sz : Nat} {i0 : Int} (hi : 0 ≤ i0 ∧ i0 + 5 ≤ (Ln e : Int) ∧ (Ln e : Int) ≤ 1000000) : ∃ M' R', fL_c50 ad sz S Ln R M e o m a (a + 1) i0 = some (.inl (w32 (i0 + 5), S, Ln, M', R')) ∧ OKS S Ln R M o m a b R' M' := by
  have hY9 := hY
  obtain ⟨hO, hM, hd, hla, he, hN, hb⟩ := hY
  have hX9 := hX
  obtain ⟨⟨r5, sx, rx, sy⟩, ⟨c1, c3⟩, ⟨n0, n1, n2, n3⟩, hc⟩ := hX
  have g1 : (0 : Int) ≤ w32 (i0 + 1) ∧ w32 (i0 + 1) < (Ln e : Int) := by rw [w32_i (by omega) (by omega)]; omega
  unfold fL_c50
  simp only [gd_t g1]
  generalize hz : M e (w32 (i0 + 1)) = z
  by_cases h1 : 0 ≤ z ∧ z < M m 12
  · obtain ⟨k1, k2, k3⟩ := hc z h1.1 h1.2
    have hcl : fL_outputAt ad S Ln R M o z a = some (0, wr M a 0 (M (m + 6) z)) := by
      unfold fL_outputAt fX9_outputAt
      rw [if_neg (show ¬ z < 0 by omega), x_5 hX9, show fJ4_length_8abf5 ad S Ln R M x = some (M x 3) from rfl, bd_s, c3, if_pos h1.2, x_5 hX9, x_charAt hX9 h1.1 h1.2, bd_s, bd_s, se_l, gd_t (by rw [hla.1]; decide), nam_d]
    have hm : wr M a 0 (M (m + 6) z) m = M m := wr_a (by omega)
    have hmo : fX10_outputAt ad S Ln R (wr M a 0 (M (m + 6) z)) m z = some (M (m + 6) z, wr (wr M a 0 (M (m + 6) z)) m 5 0) := by
      unfold fX10_outputAt
      rw [hm, w32_i (by omega) (by omega), x_isIn, bd_s, bI_t (by omega), if_pos (by decide)]
      unfold fX10_outputAt_B20
      rw [m_isThrown, bd_s, thr_0]
      dsimp only
      rw [if_pos rfl, m_11 hM, gd_t (by rw [hM.2.1.2.2.2.2.2.1]; omega), wr_a (show m + 6 ≠ m by omega), wr_a (show m + 6 ≠ a by omega), i2c_v k2 k3]
    refine ⟨wr (wr M a 0 (M (m + 6) z)) m 5 0, R, ?_, q_ok hY9 SC.rf (by rw [wr_r, hm]) (fun c c0 c1 _ => by rw [wr_a c0, wr_a c1])⟩
    rw [hcl, bd_s]
    dsimp only
    rw [wr_a (show e ≠ a by omega), hz, hmo, bd_s]
    dsimp only
    rw [show fX10_thrown ad S Ln R (wr (wr M a 0 (M (m + 6) z)) m 5 0) m = some (wr (wr M a 0 (M (m + 6) z)) m 5 0 m 5) from rfl, bd_s, wr_s, if_pos rfl, if_neg (by decide), gd_t (by rw [hla.1]; decide)]
    have ha : wr (wr M a 0 (M (m + 6) z)) m 5 0 a 0 = M (m + 6) z := by rw [wr_a (by omega), wr_s]
    simp only [ha, i_lcmp_0]
    exact if_pos trivial
  · have hcl : fL_outputAt ad S Ln R M o z a = some (1, M) := by
      unfold fL_outputAt fX9_outputAt fX9_outputAt_B15
      by_cases h0 : z < 0
      · rw [if_pos h0, bd_s, se_r]; rfl
      · rw [if_neg h0, x_5 hX9, show fJ4_length_8abf5 ad S Ln R M x = some (M x 3) from rfl, bd_s, c3, if_neg (show ¬ z < M m 12 by omega), bd_s, se_r]; rfl
    have hmo : fX10_outputAt ad S Ln R M m z = some (0, wr M m 5 1) := by
      unfold fX10_outputAt
      rw [w32_i (by omega) (by omega), x_isIn, bd_s, bI_f (by omega), if_neg (by decide)]
      unfold fX10_outputAt_B20
      rw [m_isThrown, bd_s, thr_1]
      dsimp only
      rw [if_neg (by decide)]
    refine ⟨wr M m 5 1, R, ?_, q_ok hY9 SC.rf wr_r (fun c c0 _ _ => wr_a c0)⟩
    rw [hcl, bd_s]
    dsimp only
    rw [hz, hmo, bd_s]
    dsimp only
    rw [show fX10_thrown ad S Ln R (wr M m 5 1) m = some (wr M m 5 1 m 5) from rfl, bd_s, wr_s, if_pos rfl, if_pos (by decide)]
    rfl
end PTX
