/-! PURE: the model's questions of its row -/
def LyM (S Ln : Nat → Nat) (R : gR) (m : Nat) : Prop := (S m = 13 ∧ S (m + 1) = 20 ∧ S (m + 2) = 20 ∧ S (m + 3) = 20 ∧ S (m + 4) = 20 ∧ S (m + 5) = 20 ∧ S (m + 6) = 20 ∧ S (m + 7) = 20 ∧ S (m + 8) = 20) ∧ (Ln (m + 1) = 113 ∧ Ln (m + 2) = 113 ∧ Ln (m + 3) = 113 ∧ Ln (m + 4) = 904 ∧ Ln (m + 5) = 6 ∧ Ln (m + 6) = 80 ∧ Ln (m + 7) = 60 ∧ Ln (m + 8) = 155) ∧
  R m 0 = some (m + 1) ∧ R m 1 = some (m + 2) ∧ R m 2 = some (m + 3) ∧ R m 3 = some (m + 4) ∧ R m 10 = some (m + 5) ∧ R m 11 = some (m + 6) ∧ R m 13 = some (m + 7) ∧ R m 14 = some (m + 8)
section PMO
variable {ad S Ln : Nat → Nat} {R : gR} {M : gM} {m : Nat} {b : Int}
theorem m_0 {α : Type} {f : Nat → Option α} (hL : LyM S Ln R m) : rf S (R m 0) 20 f = f (m + 1) := rf_o hL.2.2.1 hL.1.2.1
theorem m_g {α : Type} {x : Option α} (hL : LyM S Ln R m) {k : Int} (h0 : 0 ≤ k) (h1 : k < 113) : gd (0 ≤ k ∧ k < (Ln (m + 1) : Int)) x = x := gd_t (by rw [hL.2.1.1]; exact ⟨h0, h1⟩)
end PMO
