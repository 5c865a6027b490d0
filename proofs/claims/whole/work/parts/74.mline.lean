/-! PURE: the model's line -/
/-- the model's line is l -/
def LNE (M : gM) (m : Nat) (l : List Int) : Prop := M m 12 = (l.length : Int) ∧ ∀ (i : Nat) (h : i < l.length), M (m + 6) (i : Int) = l[i]
/-- the digits of a number -/
def dig : Nat → Int → List Int
  | 0, n => [48 + Int.tmod n 10]
  | f + 1, n => if n < 10 then [48 + Int.tmod n 10] else dig f (Int.tdiv n 10) ++ [48 + Int.tmod n 10]
theorem dig_len {n : Int} : ∀ f : Nat, 1 ≤ (dig f n).length ∧ (dig f n).length ≤ f + 1 := by
  intro f
  induction f generalizing n with
  | zero => exact ⟨Nat.le_refl _, Nat.le_refl _⟩
  | succ f ih =>
    unfold dig
    split
    · exact ⟨Nat.le_refl _, by simp⟩
    · have := @ih (Int.tdiv n 10)
      rw [List.length_append]
      simp only [List.length_cons, List.length_nil]
      omega
theorem tmod_10 {n : Int} (h : 0 ≤ n) : 0 ≤ Int.tmod n 10 ∧ Int.tmod n 10 < 10 := by
  rw [Int.tmod_eq_emod_of_nonneg h]
  omega
theorem dig_b {n : Int} (h : 0 ≤ n) : ∀ (f : Nat), ∀ z ∈ dig f n, 48 ≤ z ∧ z ≤ 57 := by
  intro f
  induction f generalizing n with
  | zero =>
    intro z hz
    have := tmod_10 h
    simp only [dig, List.mem_cons, List.not_mem_nil, or_false] at hz
    omega
  | succ f ih =>
    intro z hz
    have := tmod_10 h
    unfold dig at hz
    split at hz
    · simp only [List.mem_cons, List.not_mem_nil, or_false] at hz
      omega
    · rw [List.mem_append] at hz
      rcases hz with hz | hz
      · exact ih (Int.tdiv_nonneg h (by decide)) z hz
      · simp only [List.mem_cons, List.not_mem_nil, or_false] at hz
        omega
section PML
variable {ad S Ln : Nat → Nat} {R : gR} {M : gM} {m : Nat}
theorem m_puts (hM : LyM S Ln R m) {l : List Int} (h : LNE M m l) (hl : l.length < 80) (z : Int) : ∃ M', fX10_puts ad S Ln R M m z = some M' ∧ LNE M' m (l ++ [z]) ∧ (∀ c, c ≠ m → c ≠ m + 6 → M' c = M c) ∧ ∀ k, k ≠ 12 → M' m k = M m k := by
  obtain ⟨h1, h2⟩ := h
  have hn := hM.2.1.2.2.2.2.2.1
  unfold fX10_puts
  rw [m_11 hM, h1, gd_t (by rw [hn]; omega), nam_d, wr_a (show m ≠ m + 6 by omega), h1, w32_i (by omega) (by omega), nam_d]
  refine ⟨_, rfl, ⟨?_, fun i hi => ?_⟩, fun c c0 c1 => by rw [wr_a c0, wr_a c1], fun k hk => by rw [wr_k hk, wr_a (by omega)]⟩
  · rw [wr_s, List.length_append]
    simp
  · rw [wr_a (by omega)]
    by_cases e : i = l.length
    · subst e
      rw [wr_s]
      simp
    · have hi' : i < l.length := by
        rw [List.length_append] at hi
        simp only [List.length_cons, List.length_nil] at hi
        omega
      rw [wr_k (by omega), h2 i hi', List.getElem_append_left hi']
theorem m_digit (hM : LyM S Ln R m) {l : List Int} (h : LNE M m l) (hl : l.length < 80) {n : Int} (hn : 0 ≤ n) : ∃ M', fX10_number_B14 ad S Ln R M m n = some M' ∧ LNE M' m (l ++ [48 + Int.tmod n 10]) ∧ (∀ c, c ≠ m → c ≠ m + 6 → M' c = M c) ∧ ∀ k, k ≠ 12 → M' m k = M m k := by
  have := tmod_10 hn
  obtain ⟨M', e1, e2, e3, e4⟩ := m_puts (ad := ad) hM h hl (48 + Int.tmod n 10)
  unfold fX10_number_B14
  rw [gd_t (by decide), w32_i (by omega) (by omega), e1, bd_s]
  exact ⟨M', rfl, e2, e3, e4⟩
theorem m_numF (hM : LyM S Ln R m) : ∀ (f : Nat) (M : gM) (l : List Int) (n : Int), LNE M m l → 0 ≤ n → n < 10 ^ (f + 1) → l.length + (dig f n).length ≤ 80 → ∃ M', fX10_number_F (f + 1) ad S Ln R M m n = some M' ∧ LNE M' m (l ++ dig f n) ∧ (∀ c, c ≠ m → c ≠ m + 6 → M' c = M c) ∧ ∀ k, k ≠ 12 → M' m k = M m k := by
  intro f
  induction f with
  | zero =>
    intro M l n h h0 h1 hl
    unfold fX10_number_F
    rw [if_pos (by omega)]
    exact m_digit hM h (by simp only [dig, List.length_cons, List.length_nil] at hl; omega) h0
  | succ f ih =>
    intro M l n h h0 h1 hl
    unfold fX10_number_F
    unfold dig at hl ⊢
    by_cases hn : n < 10
    · rw [if_pos hn] at hl ⊢
      rw [if_pos hn]
      exact m_digit hM h (by simp only [List.length_cons, List.length_nil] at hl; omega) h0
    · rw [if_neg hn] at hl ⊢
      rw [if_neg hn, gd_t (by decide)]
      rw [List.length_append] at hl
      simp only [List.length_cons, List.length_nil] at hl
      have hq : Int.tdiv n 10 = n / 10 := Int.tdiv_eq_ediv_of_nonneg h0
      have hp : n / 10 < 10 ^ (f + 1) := by
        rw [Int.pow_succ] at h1
        generalize (10 : Int) ^ (f + 1) = K at h1 ⊢
        omega
      obtain ⟨M1, e1, e2, e3, e4⟩ := ih M l (Int.tdiv n 10) h (by omega) (by rw [hq]; exact hp) (by omega)
      obtain ⟨M2, g1, g2, g3, g4⟩ := m_digit (ad := ad) hM e2 (by rw [List.length_append]; omega) h0
      rw [e1, bd_s, g1]
      exact ⟨M2, rfl, by rw [← List.append_assoc]; exact g2, fun c c0 c1 => by rw [g3 c c0 c1, e3 c c0 c1], fun k hk => by rw [g4 k hk, e4 k hk]⟩
theorem m_number (hM : LyM S Ln R m) {l : List Int} {n : Int} (h : LNE M m l) (h0 : 0 ≤ n) (h1 : n < 1000000000000) (hl : l.length + (dig 11 n).length ≤ 80) : ∃ M', fX10_number ad S Ln R M m n = some M' ∧ LNE M' m (l ++ dig 11 n) ∧ (∀ c, c ≠ m → c ≠ m + 6 → M' c = M c) ∧ ∀ k, k ≠ 12 → M' m k = M m k :=
  m_numF hM 11 M l n h h0 (by have : (10 : Int) ^ (11 + 1) = 1000000000000 := by decide
                              omega) hl
end PML
