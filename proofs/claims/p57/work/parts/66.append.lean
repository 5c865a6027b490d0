/-! PURE: the script's characters -/
/-- the script at t: its characters t+1, its kinds t+2, its numbers t+3 (fifteen rows from t+4) -/
def LyT (S Ln : Nat → Nat) (R : gR) (o t : Nat) : Prop := R o 4 = some t ∧ (S t = 10 ∧ S (t + 1) = 24 ∧ S (t + 2) = 20 ∧ S (t + 3) = 25) ∧ (Ln (t + 1) = 60 ∧ Ln (t + 2) = 15 ∧ Ln (t + 3) = 15) ∧ (R t 0 = some (t + 1) ∧ R t 2 = some (t + 2) ∧ R t 3 = some (t + 3)) ∧ ∀ i : Nat, i < 15 → R (t + 3) (i : Int) = some (t + 4 + i) ∧ S (t + 4 + i) = 20 ∧ Ln (t + 4 + i) = 4
/-- the characters, on both sides -/
def SCR (M : gM) (t m : Nat) : Prop := M t 1 = M m 15 ∧ (0 ≤ M m 15 ∧ M m 15 ≤ 60) ∧ ∀ i, 0 ≤ i → i < M m 15 → M (t + 1) i = M (m + 7) i ∧ 0 ≤ M (m + 7) i ∧ M (m + 7) i < 65536
theorem i2c_b {x : Int} : 0 ≤ i_i2c x ∧ i_i2c x < 65536 := by
  unfold i_i2c
  have h : ((iI x).toUInt32 % 65536).toNat < 65536 := by
    rw [UInt32.toNat_mod]
    exact Nat.mod_lt _ (by decide)
  have h2 : ((iI x).toUInt32 % 65536).toInt32.toInt = (((iI x).toUInt32 % 65536).toNat : Int) := by
    show (((iI x).toUInt32 % 65536).toBitVec).toInt = _
    rw [BitVec.toInt_eq_toNat_of_lt]
    · rfl
    · show 2 * ((iI x).toUInt32 % 65536).toNat < 2 ^ 32
      omega
  omega
section PSC
variable {ad S Ln : Nat → Nat} {R : gR} {M : gM} {e o m a t : Nat} {π : Int → Nat} {b : Int} {v : gV}
theorem t_4 {α : Type} {f : Nat → Option α} (hT : LyT S Ln R o t) : rf S (R o 4) 10 f = f t := rf_o hT.1 hT.2.1.1
theorem m_13 {α : Type} {f : Nat → Option α} (hL : LyM S Ln R m) : rf S (R m 13) 20 f = f (m + 7) := rf_o hL.2.2.2.2.2.2.2.2.1 hL.1.2.2.2.2.2.2.2.1
end PSC
