/-! PURE: the text grows -/
def SBL (S Ln : Nat → Nat) (R : gR) (M : gM) (x y : Nat) (l : List Int) : Prop := (S x = 2 ∧ R x 0 = some y ∧ S y = 23 ∧ x ≠ y) ∧ (M x 1 = 0 ∧ M x 3 = (l.length : Int)) ∧ (l.length ≤ Ln y ∧ Ln y ≤ 256) ∧ ∀ (i : Nat) (h : i < l.length), M y (i : Int) = l[i] ∧ 0 ≤ l[i] ∧ l[i] < 128
theorem shl0 : ∀ n : Nat, n < 1001 → i_shl (n : Int) 0 = (n : Int) := by decide +kernel
theorem shl_0 {z : Int} (h0 : 0 ≤ z) (h1 : z ≤ 1000) : i_shl z 0 = z := by
  have := shl0 z.toNat (by omega)
  rw [show ((z.toNat : Nat) : Int) = z by omega] at this
  exact this
theorem shr_0 {z : Int} (h0 : 0 ≤ z) (h1 : z ≤ 1000) : i_shr z 0 = z := by
  have := shr0 z.toNat (by omega)
  rw [show ((z.toNat : Nat) : Int) = z by omega] at this
  exact this
theorem shl20 : i_shl 2 0 = 2 := by decide
section PSB
variable {ad S Ln : Nat → Nat} {R : gR} {M : gM} {x y sz : Nat} {l : List Int}
theorem b_ens (hB : SBL S Ln R M x y l) (hx : x < sz) (hy : y < sz) {n : Int} (n0 : 0 ≤ n) (n1 : n ≤ 100) :
    ∃ sz' S' Ln' M' R' y', fJ5_ensureCapacityInternal_d00df ad sz S Ln R M x n = some (sz', S', Ln', M', R') ∧ (sz ≤ sz' ∧ sz' ≤ sz + 1) ∧ SBL S' Ln' R' M' x y' l ∧ (y' = y ∨ y' = sz) ∧ y' < sz' ∧ n ≤ (Ln' y' : Int) ∧ (∀ q, q < sz → S' q = S q ∧ Ln' q = Ln q ∧ M' q = M q) ∧ ∀ q, q < sz → q ≠ x → R' q = R q := by
  obtain ⟨⟨a1, a2, a3, a4⟩, ⟨c1, c3⟩, ⟨d1, d2⟩, hc⟩ := id hB
  unfold fJ5_ensureCapacityInternal_d00df
  rw [rf_o a2 a3, c1, shr_0 (by omega) (by omega), w32_i (by omega) (by omega)]
  by_cases h : n - (Ln y : Int) ≤ 0
  · rw [if_pos h]
    exact ⟨sz, S, Ln, M, R, y, rfl, ⟨Nat.le_refl _, Nat.le_succ _⟩, hB, Or.inl rfl, hy, by omega, fun q _ => ⟨rfl, rfl, rfl⟩, fun q _ _ => rfl⟩
  · rw [if_neg h, rf_o a2 a3]
    have hmx := @i_max_v (n - (Ln y : Int)) ((Ln y : Int) + 2)
    have hcap : fJ5_newCapacity_0f7a4 ad S Ln R M x n = some ((Ln y : Int) + i_max (n - (Ln y : Int)) ((Ln y : Int) + 2)) := by
      unfold fJ5_newCapacity_0f7a4 fJ8_newLength_cabcc
      rw [rf_o a2 a3, c1, shl_0 n0 (by omega), shl20, w32_i (z := n - (Ln y : Int)) (by omega) (by omega), w32_i (z := (Ln y : Int) + 2) (by omega) (by omega), w32_i (by omega) (by omega), if_neg (by omega), if_neg (by omega), bd_s, if_pos (by omega), shr_0 (by omega) (by omega)]
    generalize hC : (Ln y : Int) + i_max (n - (Ln y : Int)) ((Ln y : Int) + 2) = C at hcap
    have hC1 : n ≤ C ∧ (Ln y : Int) + 2 ≤ C ∧ C ≤ 202 := by omega
    have hmin : i_min (Ln y : Int) C = (Ln y : Int) := by unfold i_min; rw [if_neg (by omega)]
    rw [hcap, bd_s, shl_0 (by omega) (by omega)]
    unfold fJ7_copyOf_9075b
    rw [if_pos (by omega), gd_t (by omega)]
    simp only [nam_d, ua_n (show y ≠ sz by omega), hmin, ua_s]
    rw [gd_t (by omega), bd_s]
    dsimp only
    refine ⟨sz + 1, _, _, _, _, sz, rfl, ⟨Nat.le_succ _, Nat.le_refl _⟩, ⟨⟨?_, ?_, ua_s, by omega⟩, ⟨?_, ?_⟩, ⟨?_, ?_⟩, fun i hi => ?_⟩, Or.inr rfl, Nat.lt_succ_self _, ?_, fun q hq => ⟨ua_n (by omega), ua_n (by omega), ?_⟩, fun q hq hq' => ?_⟩
    · rw [ua_n (by omega)]; exact a1
    · unfold wrR
      rw [ua_s, us_s]
    · rw [cpy_a (by omega), ua_n (by omega)]; exact c1
    · rw [cpy_a (by omega), ua_n (by omega)]; exact c3
    · rw [ua_s]; omega
    · rw [ua_s]; omega
    · rw [cpy_s (by omega) (by omega), ua_n (by omega)]; exact hc i hi
    · rw [ua_s]; omega
    · rw [cpy_a (by omega), ua_n (by omega)]
    · unfold wrR
      rw [ua_n hq', ua_n (by omega)]
end PSB
