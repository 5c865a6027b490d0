/-! PURE: what the constructors make -/
/-- what lies below is as it was -/
def BL (S S' Ln Ln' : Nat → Nat) (M M' : gM) (R R' : gR) (c : Nat) : Prop := (∀ q, q ≤ c → S' q = S q ∧ Ln' q = Ln q) ∧ ∀ q, q < c → M' q = M q ∧ R' q = R q
theorem c_n2 {c : Nat} : ¬ c = c + 1 + 1 := by omega
theorem c_n3 {c : Nat} : ¬ c = c + 1 + 1 + 1 := by omega
theorem c_n4 {c : Nat} : ¬ c = c + 1 + 1 + 1 + 1 := by omega
theorem c_n5 {c : Nat} : ¬ c = c + 1 + 1 + 1 + 1 + 1 := by omega
theorem c_n6 {c : Nat} : ¬ c = c + 1 + 1 + 1 + 1 + 1 + 1 := by omega
theorem c_n7 {c : Nat} : ¬ c = c + 1 + 1 + 1 + 1 + 1 + 1 + 1 := by omega
theorem c_n8 {c : Nat} : ¬ c = c + 1 + 1 + 1 + 1 + 1 + 1 + 1 + 1 := by omega
section PIN
variable {ad S Ln : Nat → Nat} {R : gR} {M : gM} {c : Nat}
theorem i_C (h : S c = 7) : ∃ S' Ln' M' R', fX2_init ad (c + 1) S Ln R M c = some (c + 5, S', Ln', M', R') ∧ LyC S' Ln' R' c ∧ (M' c 2 = 0 ∧ M' c 5 = 0) ∧ BL S S' Ln Ln' M M' R R' c := by
  unfold fX2_init
  refine ⟨_, _, _, _, rfl, ?_, ?_, ?_⟩
  · unfold LyC
    simp [ua, us, wr, wrR, h, c_n2, c_n3, c_n4, c_n5, c_n6]
  · simp [ua, us, wr, wrR, c_n2, c_n3, c_n4, c_n5, c_n6]
  · refine ⟨fun q hq => ?_, fun q hq => ?_⟩
    · have h1 : q ≠ c + 1 := by omega
      have h2 : q ≠ c + 2 := by omega
      have h3 : q ≠ c + 3 := by omega
      have h4 : q ≠ c + 4 := by omega
      simp [ua, h1, h2, h3, h4]
    · have h0 : q ≠ c := by omega
      have h1 : q ≠ c + 1 := by omega
      have h2 : q ≠ c + 2 := by omega
      have h3 : q ≠ c + 3 := by omega
      have h4 : q ≠ c + 4 := by omega
      simp [ua, wr, wrR, h0, h1, h2, h3, h4]
theorem i_A (h : S c = 5) : ∃ S' Ln' M' R', fX0_init ad (c + 1) S Ln R M c = some (c + 4, S', Ln', M', R') ∧ LyA S' Ln' R' c ∧ (M' c 3 = 0 ∧ M' c 4 = 1500) ∧ BL S S' Ln Ln' M M' R R' c := by
  unfold fX0_init
  refine ⟨_, _, _, _, rfl, ?_, ?_, ?_⟩
  · unfold LyA
    simp [ua, us, wr, wrR, h, c_n2, c_n3, c_n4, c_n5, c_n6]
  · simp [ua, us, wr, wrR, c_n2, c_n3, c_n4, c_n5, c_n6]
  · refine ⟨fun q hq => ?_, fun q hq => ?_⟩
    · have h1 : q ≠ c + 1 := by omega
      have h2 : q ≠ c + 2 := by omega
      have h3 : q ≠ c + 3 := by omega
      simp [ua, h1, h2, h3]
    · have h0 : q ≠ c := by omega
      have h1 : q ≠ c + 1 := by omega
      have h2 : q ≠ c + 2 := by omega
      have h3 : q ≠ c + 3 := by omega
      simp [ua, wr, wrR, h0, h1, h2, h3]
theorem i_B (h : S c = 6) : ∃ S' Ln' M' R', fX1_init ad (c + 1) S Ln R M c = some (c + 7, S', Ln', M', R') ∧ LyB S' Ln' R' c ∧ M' c 4 = 0 ∧ BL S S' Ln Ln' M M' R R' c := by
  unfold fX1_init
  refine ⟨_, _, _, _, rfl, ?_, ?_, ?_⟩
  · unfold LyB
    simp [ua, us, wr, wrR, h, c_n2, c_n3, c_n4, c_n5, c_n6]
  · simp [ua, us, wr, wrR, c_n2, c_n3, c_n4, c_n5, c_n6]
  · refine ⟨fun q hq => ?_, fun q hq => ?_⟩
    · have h1 : q ≠ c + 1 := by omega
      have h2 : q ≠ c + 2 := by omega
      have h3 : q ≠ c + 3 := by omega
      have h4 : q ≠ c + 4 := by omega
      have h5 : q ≠ c + 5 := by omega
      have h6 : q ≠ c + 6 := by omega
      simp [ua, h1, h2, h3, h4, h5, h6]
    · have h0 : q ≠ c := by omega
      have h1 : q ≠ c + 1 := by omega
      have h2 : q ≠ c + 2 := by omega
      have h3 : q ≠ c + 3 := by omega
      have h4 : q ≠ c + 4 := by omega
      have h5 : q ≠ c + 5 := by omega
      have h6 : q ≠ c + 6 := by omega
      simp [ua, wr, wrR, h0, h1, h2, h3, h4, h5, h6]
theorem i_G : ∃ M', fX3_init ad S Ln R M c = some M' ∧ (∀ k : Int, 0 ≤ k → k < 9 → M' c k = 0) ∧ ∀ q, q ≠ c → M' q = M q := by
  unfold fX3_init
  refine ⟨_, rfl, fun k k0 k1 => ?_, fun q hq => ?_⟩
  · rcases k9 k0 k1 with e | e | e | e | e | e | e | e | e <;> subst e <;> simp [ua, us, wr]
  · simp [ua, wr, hq]
end PIN
