/-! PURE: a number's characters -/
/-- the two rows of digits -/
def DGT (ad S Ln : Nat → Nat) (M : gM) : Prop := (S (ad 10) = 28 ∧ S (ad 11) = 28 ∧ Ln (ad 10) = 100 ∧ Ln (ad 11) = 100) ∧ ∀ r : Int, 0 ≤ r → r < 100 → M (ad 10) r = 48 + r % 10 ∧ M (ad 11) r = 48 + r / 10
def dK (n : Int) (k : Nat) : Int := 48 + n / p10 k % 10
theorem dK_0 {n : Int} : dK n 0 = 48 + n % 10 := by
  unfold dK
  rw [show p10 0 = 1 from rfl, Int.ediv_one]
theorem dK_s {n : Int} {k : Nat} : dK n (k + 1) = dK (n / 10) k := by
  unfold dK
  rw [show p10 (k + 1) = 10 * p10 k from rfl, Int.ediv_ediv_of_nonneg (show (0 : Int) ≤ 10 by decide)]
theorem dig_K {n : Int} (h0 : 0 ≤ n) : ∀ (f L : Nat), nD n L → L ≤ f + 1 → ∀ (k : Nat) (h : k < (dig f n).length), (dig f n)[k] = dK n (L - 1 - k) := by
  intro f
  induction f generalizing n with
  | zero =>
    intro L h hL k hk
    have h1 := h.1
    have hk0 : k = 0 := by
      have : (dig 0 n).length = 1 := rfl
      omega
    subst hk0
    rw [show L - 1 - 0 = 0 by omega, dK_0]
    show 48 + Int.tmod n 10 = _
    rw [Int.tmod_eq_emod_of_nonneg h0]
  | succ f ih =>
    intro L h hL k hk
    have hlen := dig_nD h0 (f + 1) L h hL
    by_cases hn : n < 10
    · have hd : dig (f + 1) n = [48 + Int.tmod n 10] := by unfold dig; rw [if_pos hn]
      have hL1 : L = 1 := by rw [hd] at hlen; exact hlen.symm
      have hk0 : k = 0 := by omega
      subst hk0
      rw [hL1, show 1 - 1 - 0 = 0 by omega, dK_0]
      simp only [hd, List.getElem_cons_zero]
      rw [Int.tmod_eq_emod_of_nonneg h0]
    · have hd : dig (f + 1) n = dig f (Int.tdiv n 10) ++ [48 + Int.tmod n 10] := by rw [dig, if_neg hn]
      have hq : Int.tdiv n 10 = n / 10 := Int.tdiv_eq_ediv_of_nonneg h0
      have hlen2 : (dig f (Int.tdiv n 10)).length + 1 = L := by
        rw [hd, List.length_append] at hlen
        exact hlen
      obtain ⟨l1, l2, l3⟩ := h
      have hnD : nD (Int.tdiv n 10) (L - 1) := by
        obtain ⟨K, rfl⟩ : ∃ K, L = K + 1 := ⟨L - 1, by omega⟩
        rw [show p10 (K + 1) = 10 * p10 K from rfl] at l2
        have hK : 1 ≤ K := by
          have := (@dig_len (Int.tdiv n 10) f).1
          omega
        refine ⟨by omega, by rw [hq, show K + 1 - 1 = K by omega]; omega, ?_⟩
        by_cases e : K = 1
        · exact Or.inl (by omega)
        · right
          obtain ⟨J, rfl⟩ : ∃ J, K = J + 1 := ⟨K - 1, by omega⟩
          have h4 := l3.resolve_left (by omega)
          rw [show J + 1 + 1 - 1 = J + 1 by omega, show p10 (J + 1) = 10 * p10 J from rfl] at h4
          rw [show J + 1 + 1 - 1 - 1 = J by omega, hq]
          omega
      by_cases e : k < (dig f (Int.tdiv n 10)).length
      · have := ih (n := Int.tdiv n 10) (Int.tdiv_nonneg h0 (by decide)) (L - 1) hnD (by omega) k e
        simp only [hd]
        rw [List.getElem_append_left e, this, show L - 1 - k = (L - 1 - 1 - k) + 1 by omega, dK_s, hq]
      · have hk2 : k = (dig f (Int.tdiv n 10)).length := by omega
        subst hk2
        simp only [hd]
        rw [show L - 1 - (dig f (Int.tdiv n 10)).length = 0 by omega, dK_0]
        simp
        rw [Int.tmod_eq_emod_of_nonneg h0]
