/-! PURE: a number's characters, in the class -/
theorem mK_s {n : Int} {k : Nat} : n / p10 (k + 1) = n / p10 k / 10 := by
  rw [show p10 (k + 1) = p10 k * 10 by rw [Int.mul_comm]; rfl, Int.ediv_ediv_of_nonneg (by have := p10_b k; omega)]
theorem tdiv_neg {z : Int} (h : 0 ≤ z) : Int.tdiv (-z) 100 = -(z / 100) := by
  rw [Int.neg_tdiv, Int.tdiv_eq_ediv_of_nonneg h]
section PGC
variable {ad S Ln : Nat → Nat} {R : gR} {M : gM} {y : Nat}
theorem g_chars (hD : DGT ad S Ln M) (hy : y ≠ ad 10 ∧ y ≠ ad 11) {n : Int} (h0 : 0 ≤ n) (h1 : n < 1000000000) {L : Nat} (hL : nD n L) (hL9 : L ≤ 9) {x : Int} (hx : (L : Int) ≤ x) (hx2 : x ≤ (Ln y : Int)) (hx3 : x ≤ 1000) :
    ∃ M', fJ6_getChars_ba4f3 ad S Ln R M n x y = some (x - L, M') ∧ (∀ k : Nat, k < L → M' y (x - 1 - k) = dK n k) ∧ (∀ j, ¬ (x - L ≤ j ∧ j < x) → M' y j = M y j) ∧ ∀ c, c ≠ y → M' c = M c := by
  obtain ⟨⟨d1, d2, d3, d4⟩, hd⟩ := hD
  obtain ⟨l1, l2, l3⟩ := hL
  have hm0 : ∀ k : Nat, 0 ≤ n / p10 k := fun k => Int.ediv_nonneg h0 (by have := p10_b k; omega)
  have hmn : ∀ k : Nat, n / p10 k ≤ n := fun k => Int.ediv_le_self _ h0
  have hge : ∀ k : Nat, 1 ≤ n / p10 k → k < L := fun k hk => by
    refine Classical.byContradiction fun hc => ?_
    have hp := p10_m (show L ≤ k by omega)
    have : n / p10 k = 0 := Int.ediv_eq_zero_of_lt h0 (by omega)
    omega
  unfold fJ6_getChars_ba4f3 fJ6_getChars_ba4f3_B12
  rw [if_pos h0, if_neg (fun q => q rfl), w32_i (by omega) (by omega)]
  obtain ⟨r, e1, t, M1, e2, f1, f2, f3, f4, f5⟩ := lp_inv0 (b := fJ6_getChars_ba4f3_L22 ad S Ln R y 0) 5
    (fun t s => s.1 = -(n / p10 (2 * t)) ∧ s.2.1 = x - 2 * (t : Int) ∧ (2 * t < L) ∧ (∀ k : Nat, k < 2 * t → s.2.2 y (x - 1 - k) = dK n k) ∧ (∀ j, ¬ (x - 2 * (t : Int) ≤ j ∧ j < x) → s.2.2 y j = M y j) ∧ ∀ c, c ≠ y → s.2.2 c = M c)
    (fun r => ∃ (t : Nat) (M1 : gM), r = .inl (-(n / p10 (2 * t)), x - 2 * (t : Int), M1) ∧ (2 * t < L) ∧ n / p10 (2 * t) < 100 ∧ (∀ k : Nat, k < 2 * t → M1 y (x - 1 - k) = dK n k) ∧ (∀ j, ¬ (x - 2 * (t : Int) ≤ j ∧ j < x) → M1 y j = M y j) ∧ ∀ c, c ≠ y → M1 c = M c)
    (s := (-n, x, M)) (by omega) ⟨by show -n = -(n / 1); rw [Int.ediv_one], by show x = x - 2 * ((0 : Nat) : Int); omega, by omega, fun k hk => absurd hk (Nat.not_lt_zero _), fun _ _ => rfl, fun _ _ => rfl⟩
    (fun t s ht hs => by
      obtain ⟨s1, s2, s3, s4, s5, s6⟩ := hs
      have a0 := hm0 (2 * t)
      have a1 := hmn (2 * t)
      have b1 : n / p10 (2 * t + 1) = n / p10 (2 * t) / 10 := mK_s
      have b2 : n / p10 (2 * t + 1 + 1) = n / p10 (2 * t + 1) / 10 := mK_s
      have c0 : dK n (2 * t) = 48 + n / p10 (2 * t) % 10 := rfl
      have c1 : dK n (2 * t + 1) = 48 + n / p10 (2 * t + 1) % 10 := rfl
      generalize hm : n / p10 (2 * t) = z at s1 a0 a1 b1 c0
      unfold fJ6_getChars_ba4f3_L22
      rw [s1, s2]
      by_cases hz : z < 100
      · right
        rw [if_pos (by omega)]
        exact ⟨_, rfl, t, s.2.2, by rw [hm], s3, by rw [hm]; exact hz, s4, s5, s6⟩
      · left
        have hr : w32 (w32 (Int.tdiv (-z) 100 * 100) - -z) = z % 100 := by
          rw [tdiv_neg a0, w32_i (z := -(z / 100) * 100) (by omega) (by omega), w32_i (by omega) (by omega)]
          omega
        have hlt := hge (2 * t + 1 + 1) (by omega)
        obtain ⟨k1, k2⟩ := hd (z % 100) (by omega) (by omega)
        rw [if_neg (by omega), gd_t (by decide), rf_s d1, hr, gd_t (by rw [d3]; omega), w32_i (z := x - 2 * (t : Int) + -1) (by omega) (by omega), gd_t (by omega), s6 _ (fun q => hy.1 q.symm), k1, nam_d, rf_s d2, gd_t (by rw [d4]; omega), w32_i (z := x - 2 * (t : Int) + -1 + -1) (by omega) (by omega), gd_t (by omega), wr_a (fun q => hy.2 q.symm), s6 _ (fun q => hy.2 q.symm), k2, nam_d]
        refine ⟨_, rfl, ?_, ?_, by omega, fun k hk => ?_, fun j hj => ?_, fun c hc => ?_⟩
        · show Int.tdiv (-z) 100 = -(n / p10 (2 * (t + 1)))
          rw [tdiv_neg a0, show 2 * (t + 1) = 2 * t + 1 + 1 by omega, b2, b1]
          omega
        · show x - 2 * (t : Int) + -1 + -1 = x - 2 * ((t + 1 : Nat) : Int)
          omega
        · show wr (wr s.2.2 y (x - 2 * (t : Int) + -1) (48 + z % 100 % 10)) y (x - 2 * (t : Int) + -1 + -1) (48 + z % 100 / 10) y (x - 1 - k) = _
          by_cases e : k = 2 * t
          · rw [e, wr_k (by omega), show x - 1 - ((2 * t : Nat) : Int) = x - 2 * (t : Int) + -1 by omega, wr_s, c0]
            omega
          · by_cases e' : k = 2 * t + 1
            · rw [e', show x - 1 - ((2 * t + 1 : Nat) : Int) = x - 2 * (t : Int) + -1 + -1 by omega, wr_s, c1, b1]
              omega
            · rw [wr_k (by omega), wr_k (by omega)]
              exact s4 k (by omega)
        · show wr (wr s.2.2 y (x - 2 * (t : Int) + -1) (48 + z % 100 % 10)) y (x - 2 * (t : Int) + -1 + -1) (48 + z % 100 / 10) y j = _
          rw [wr_k (by omega), wr_k (by omega)]
          exact s5 j (by omega)
        · show wr (wr s.2.2 y (x - 2 * (t : Int) + -1) (48 + z % 100 % 10)) y (x - 2 * (t : Int) + -1 + -1) (48 + z % 100 / 10) c = _
          rw [wr_a hc, wr_a hc]
          exact s6 c hc)
    (fun s hs => by
      have := hs.2.2.1
      omega)
  have b1 : n / p10 (2 * t + 1) = n / p10 (2 * t) / 10 := mK_s
  have c0 : dK n (2 * t) = 48 + n / p10 (2 * t) % 10 := rfl
  have c1 : dK n (2 * t + 1) = 48 + n / p10 (2 * t + 1) % 10 := rfl
  have a0 := hm0 (2 * t)
  have hg1 := hge (2 * t + 1)
  have b2 : n / p10 (2 * t + 1 + 1) = n / p10 (2 * t + 1) / 10 := mK_s
  have hL2 : L ≤ 2 * t + 2 := by
    refine Classical.byContradiction fun hc => ?_
    have hp := p10_m (show 2 * t + 1 + 1 ≤ L - 1 by omega)
    have h4 := l3.resolve_left (by omega)
    have h5 : 1 ≤ n / p10 (2 * t + 1 + 1) := by
      rw [Int.le_ediv_iff_mul_le (by have := p10_b (2 * t + 1 + 1); omega)]
      omega
    omega
  have hL1 : n / p10 (2 * t) < 10 → L = 2 * t + 1 := fun hz => by
    refine Classical.byContradiction fun hc => ?_
    have hp := p10_m (show 2 * t + 1 ≤ L - 1 by omega)
    have h4 := l3.resolve_left (by omega)
    have h5 : 1 ≤ n / p10 (2 * t + 1) := by
      rw [Int.le_ediv_iff_mul_le (by have := p10_b (2 * t + 1); omega)]
      omega
    omega
  generalize hm : n / p10 (2 * t) = z at e2 f2 b1 c0 a0 hL1
  rw [e1, bd_s, e2, se_l]
  obtain ⟨k1, k2⟩ := hd z a0 f2
  dsimp only
  rw [rf_s d1, w32_i (z := - -z) (by omega) (by omega), show - -z = z by omega, gd_t (by rw [d3]; omega), w32_i (z := x - 2 * (t : Int) + -1) (by omega) (by omega), gd_t (by omega), f5 _ (fun q => hy.1 q.symm), k1, nam_d]
  unfold fJ6_getChars_ba4f3_B104
  by_cases hz : z < 10
  · have hLL := hL1 hz
    rw [if_pos (by omega), if_pos rfl]
    refine ⟨_, by rw [show x - 2 * (t : Int) + -1 = x - (L : Int) by omega], fun k hk => ?_, fun j hj => ?_, fun c hc => by rw [wr_a hc]; exact f5 c hc⟩
    · by_cases e : k = 2 * t
      · rw [e, show x - 1 - ((2 * t : Nat) : Int) = x - (L : Int) by omega, wr_s, c0]
      · rw [wr_k (by omega)]; exact f3 k (by omega)
    · rw [wr_k (by omega)]; exact f4 j (by omega)
  · have hLL : L = 2 * t + 2 := by
      have := hg1 (by omega)
      omega
    rw [if_neg (by omega), rf_s d2, gd_t (by rw [d4]; omega), w32_i (z := x - 2 * (t : Int) + -1 + -1) (by omega) (by omega), gd_t (by omega), wr_a (fun q => hy.2 q.symm), f5 _ (fun q => hy.2 q.symm), k2, nam_d, if_pos rfl]
    refine ⟨_, by rw [show x - 2 * (t : Int) + -1 + -1 = x - (L : Int) by omega], fun k hk => ?_, fun j hj => ?_, fun c hc => by rw [wr_a hc, wr_a hc]; exact f5 c hc⟩
    · by_cases e : k = 2 * t
      · rw [e, wr_k (by omega), show x - 1 - ((2 * t : Nat) : Int) = x - 2 * (t : Int) + -1 by omega, wr_s, c0]
      · by_cases e' : k = 2 * t + 1
        · rw [e', show x - 1 - ((2 * t + 1 : Nat) : Int) = x - (L : Int) by omega, wr_s, c1, b1]
          omega
        · rw [wr_k (by omega), wr_k (by omega)]; exact f3 k (by omega)
    · rw [wr_k (by omega), wr_k (by omega)]; exact f4 j (by omega)
end PGC
