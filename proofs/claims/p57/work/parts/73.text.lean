/-! PURE: the text read -/
/-- the text x (a StringBuilder over the bytes y) holds the model's line -/
def TXT (S Ln : Nat → Nat) (R : gR) (M : gM) (o m x y : Nat) : Prop := (R o 5 = some x ∧ S x = 2 ∧ R x 0 = some y ∧ S y = 23) ∧ (M x 1 = 0 ∧ M x 3 = M m 12) ∧ (0 ≤ M m 12 ∧ M m 12 ≤ 80 ∧ M m 12 ≤ (Ln y : Int) ∧ (Ln y : Int) ≤ 1000) ∧ ∀ i, 0 ≤ i → i < M m 12 → M y i = M (m + 6) i ∧ 0 ≤ M (m + 6) i ∧ M (m + 6) i < 128
theorem and255 : ∀ n : Nat, n < 128 → i_and (n : Int) 255 = (n : Int) := by decide +kernel
theorem i2c128 : ∀ n : Nat, n < 128 → i_i2c (n : Int) = (n : Int) := by decide +kernel
theorem shr0 : ∀ n : Nat, n < 1001 → i_shr (n : Int) 0 = (n : Int) := by decide +kernel
theorem and_b {z : Int} (h0 : 0 ≤ z) (h1 : z < 128) : i_and z 255 = z := by
  have := and255 z.toNat (by omega)
  rw [show ((z.toNat : Nat) : Int) = z by omega] at this
  exact this
theorem i2c_v {z : Int} (h0 : 0 ≤ z) (h1 : z < 128) : i_i2c z = z := by
  have := i2c128 z.toNat (by omega)
  rw [show ((z.toNat : Nat) : Int) = z by omega] at this
  exact this
section PTX
variable {ad S Ln : Nat → Nat} {R : gR} {M : gM} {e o m a x y : Nat} {π : Int → Nat} {b : Int} {v : gV}
theorem x_5 {α : Type} {f : Nat → Option α} (hX : TXT S Ln R M o m x y) : rf S (R o 5) 2 f = f x := rf_o hX.1.1 hX.1.2.1
theorem m_11 {α : Type} {f : Nat → Option α} (hL : LyM S Ln R m) : rf S (R m 11) 20 f = f (m + 6) := rf_o hL.2.2.2.2.2.2.2.1 hL.1.2.2.2.2.2.2.1
theorem x_chk {i n : Int} (h0 : 0 ≤ i) (h1 : i < n) : fJ0_checkIndex_df160 ad S Ln R M i n = some () := by
  unfold fJ0_checkIndex_df160 fJ3_checkIndex_8e157
  rw [if_neg (by omega), if_pos h1, bd_s]
end PTX
