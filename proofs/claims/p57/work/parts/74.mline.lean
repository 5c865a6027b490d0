/-! PURE: the model's line -/
/-- the model's line is l -/
def LNE (M : gM) (m : Nat) (l : List Int) : Prop := M m 12 = (l.length : Int) ∧ ∀ (i : Nat) (h : i < l.length), M (m + 6) (i : Int) = l[i]
/-- the digits of a number -/
def dig : Nat → Int → List Int
  | 0, n => [48 + Int.tmod n 10]
  | f + 1, n => if n < 10 then [48 + Int.tmod n 10] else dig f (Int.tdiv n 10) ++ [48 + Int.tmod n 10]
theorem dig_len {n : Int} : ∀ f : Nat, 1 ≤ (dig f n).length ∧ (dig f n).length ≤ f + 1 := by
  intro f
  induction f generalizing n with
  | zero => exact ⟨Nat.le_refl _, Nat.le_refl _⟩
  | succ f ih =>
    unfold dig
    split
    · exact ⟨Nat.le_refl _, by simp⟩
    · have := @ih (Int.tdiv n 10)
      rw [List.length_append]
      simp only [List.length_cons, List.length_nil]
      omega
theorem tmod_10 {n : Int} (h : 0 ≤ n) : 0 ≤ Int.tmod n 10 ∧ Int.tmod n 10 < 10 := by
  rw [Int.tmod_eq_emod_of_nonneg h]
  omega
theorem dig_b {n : Int} (h : 0 ≤ n) : ∀ (f : Nat), ∀ z ∈ dig f n, 48 ≤ z ∧ z ≤ 57 := by
  intro f
  induction f generalizing n with
  | zero =>
    intro z hz
    have := tmod_10 h
    simp only [dig, List.mem_cons, List.not_mem_nil, or_false] at hz
    omega
  | succ f ih =>
    intro z hz
    have := tmod_10 h
    unfold dig at hz
    split at hz
    · simp only [List.mem_cons, List.not_mem_nil, or_false] at hz
      omega
    · rw [List.mem_append] at hz
      rcases hz with hz | hz
      · exact ih (Int.tdiv_nonneg h (by decide)) z hz
      · simp only [List.mem_cons, List.not_mem_nil, or_false] at hz
        omega
section PML
variable {ad S Ln : Nat → Nat} {R : gR} {M : gM} {m : Nat}
end PML
