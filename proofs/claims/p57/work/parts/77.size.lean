/-! PURE: how many digits -/
def p10 : Nat → Int
  | 0 => 1
  | k + 1 => 10 * p10 k
theorem p10_b : ∀ k : Nat, 1 ≤ p10 k := by
  intro k
  induction k with
  | zero => exact Int.le_refl _
  | succ k ih => unfold p10; omega
theorem p10_m {j k : Nat} (h : j ≤ k) : p10 j ≤ p10 k := by
  induction k with
  | zero => rw [show j = 0 by omega]; exact Int.le_refl _
  | succ k ih =>
    by_cases e : j = k + 1
    · rw [e]; exact Int.le_refl _
    · have := ih (by omega)
      have := p10_b k
      show p10 j ≤ 10 * p10 k
      omega
theorem p10_9 : p10 9 = 1000000000 := by decide
/-- so many digits: the least -/
def nD (n : Int) (L : Nat) : Prop := 1 ≤ L ∧ n < p10 L ∧ (L = 1 ∨ p10 (L - 1) ≤ n)
theorem dig_nD {n : Int} (h0 : 0 ≤ n) : ∀ (f L : Nat), nD n L → L ≤ f + 1 → (dig f n).length = L := by
  intro f
  induction f generalizing n with
  | zero =>
    intro L h hL
    show 1 = L
    have := h.1
    omega
  | succ f ih =>
    intro L ⟨h1, h2, h3⟩ hL
    unfold dig
    by_cases hn : n < 10
    · rw [if_pos hn]
      show 1 = L
      rcases h3 with h3 | h3
      · omega
      · by_cases e : L = 1
        · omega
        · have := p10_m (show 1 ≤ L - 1 by omega)
          rw [show p10 1 = 10 by decide] at this
          omega
    · rw [if_neg hn, List.length_append]
      have hq : Int.tdiv n 10 = n / 10 := Int.tdiv_eq_ediv_of_nonneg h0
      have hL1 : L ≠ 1 := fun e => by rw [e, show p10 1 = 10 by decide] at h2; omega
      obtain ⟨K, rfl⟩ : ∃ K, L = K + 1 := ⟨L - 1, by omega⟩
      have hK : p10 (K + 1) = 10 * p10 K := rfl
      rw [hK] at h2
      rw [ih (by omega) K ⟨by omega, by rw [hq]; omega, ?_⟩ (by omega)]
      · rfl
      · by_cases e : K = 1
        · exact Or.inl e
        · right
          obtain ⟨J, rfl⟩ : ∃ J, K = J + 1 := ⟨K - 1, by omega⟩
          have h4 := h3.resolve_left (by omega)
          rw [show J + 1 + 1 - 1 = J + 1 by omega, show p10 (J + 1) = 10 * p10 J from rfl] at h4
          rw [show J + 1 - 1 = J by omega, hq]
          omega
section PSZ
variable {ad S Ln : Nat → Nat} {R : gR} {M : gM}
theorem s_size {n : Int} (h0 : 0 ≤ n) (h1 : n < 1000000000) : ∃ L : Nat, fJ6_stringSize_0f7a4 ad S Ln R M n = some (L : Int) ∧ nD n L ∧ L ≤ 9 := by
  have hE : ∀ k : Nat, k ≤ 9 → ∃ L : Nat, (nD n L ∧ L ≤ 9) := fun k hk => by
    have : ∀ j : Nat, j ≤ 9 → (n < p10 j → 1 ≤ j → ∃ L : Nat, nD n L ∧ L ≤ 9) := by
      intro j
      induction j with
      | zero => intro _ _ h; omega
      | succ j ih =>
        intro hj hn _
        by_cases e : n < p10 j ∧ 1 ≤ j
        · exact ih (by omega) e.1 e.2
        · refine ⟨j + 1, ⟨by omega, hn, ?_⟩, hj⟩
          by_cases e' : j = 0
          · exact Or.inl (by omega)
          · exact Or.inr (by rw [show j + 1 - 1 = j by omega]; omega)
    exact this 9 (Nat.le_refl _) (by rw [p10_9]; exact h1) (by omega)
  obtain ⟨L, ⟨l1, l2, l3⟩, l4⟩ := hE 9 (Nat.le_refl _)
  refine ⟨L, ?_, ⟨l1, l2, l3⟩, l4⟩
  unfold fJ6_stringSize_0f7a4 fJ6_stringSize_0f7a4_B11
  rw [if_neg (by omega), w32_i (by omega) (by omega)]
  obtain ⟨r, e1, e2⟩ := lp_inv0 (b := fJ6_stringSize_0f7a4_L16 ad S Ln R M (-n) 0) (L - 1)
    (fun i s => s.1 = -p10 (i + 1) ∧ s.2 = ((i + 1 : Nat) : Int)) (fun r => r = .inr (L : Int)) (s := ((-10 : Int), (1 : Int))) (by omega) ⟨by decide, rfl⟩
    (fun i s hi hs => by
      obtain ⟨s1, s2⟩ := hs
      left
      have hle : p10 (i + 1) ≤ n := by
        have := p10_m (show i + 1 ≤ L - 1 by omega)
        have := l3.resolve_left (by omega)
        omega
      have hp := p10_b (i + 1)
      unfold fJ6_stringSize_0f7a4_L16
      rw [s2, s1, if_neg (by omega), if_pos (by omega), w32_i (z := ((i + 1 : Nat) : Int) + 1) (by omega) (by omega)]
      refine ⟨_, rfl, ?_, ?_⟩
      · show w32 (10 * -p10 (i + 1)) = -p10 (i + 1 + 1)
        have hm := p10_m (show i + 1 + 1 ≤ 9 by omega)
        rw [p10_9] at hm
        have hk : p10 (i + 1 + 1) = 10 * p10 (i + 1) := rfl
        rw [w32_i (by omega) (by omega)]
        omega
      · show ((i + 1 : Nat) : Int) + 1 = ((i + 1 + 1 : Nat) : Int)
        omega)
    (fun s hs => by
      obtain ⟨s1, s2⟩ := hs
      rw [show L - 1 + 1 = L by omega] at s1 s2
      unfold fJ6_stringSize_0f7a4_L16
      rw [s2, s1, if_neg (by omega), if_neg (by omega), w32_i (by omega) (by omega), Int.add_zero]
      exact ⟨_, rfl, rfl⟩)
  rw [e1, bd_s, e2, se_r]
end PSZ
