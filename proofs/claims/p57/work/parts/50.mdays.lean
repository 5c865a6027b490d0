/-! PURE: the model's launches and ends of days -/
section PMD
variable {ad S Ln : Nat → Nat} {R : gR} {M : gM} {m : Nat} {b : Int} {v u r : gV} {p : Int}
def tLaunch (v : gV) (p : Int) : Int := if 0 ≤ p ∧ p < v 4 then (if gl v p 1 = 0 then (if 2 ≤ v 1 then 0 else 3) else 2) else 1
/-! the end of a day -/
theorem m_10 {α : Type} {f : Nat → Option α} (hL : LyM S Ln R m) : rf S (R m 10) 20 f = f (m + 5) := rf_o hL.2.2.2.2.2.2.1 hL.1.2.2.2.2.2.1
def zrU (u : gV) (n : Nat) : gV := fun k => if 1 ≤ k ∧ k < 1 + n then 0 else u k
theorem zrU_s {u : gV} {n : Nat} : us (zrU u n) (1 + n) 0 = zrU u (n + 1) := by
  funext k
  unfold us zrU
  by_cases h : k = 1 + n
  · rw [if_pos h, if_pos (by omega)]
  · rw [if_neg h]
    by_cases g : 1 ≤ k ∧ k < 1 + n
    · rw [if_pos g, if_pos (by omega)]
    · rw [if_neg g, if_neg (by omega)]
theorem zrU_0 {u : gV} : zrU u 0 = u := by
  funext k
  unfold zrU
  rw [if_neg (by omega)]
noncomputable def tEnd (v : gV) : Int := bI (pln v ∨ 0 < inP v 1 (v 4).toNat)
end PMD
