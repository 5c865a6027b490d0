/-! PURE: thermals, areas and gliders, in the class -/
def LyA (S Ln : Nat → Nat) (R : gR) (a : Nat) : Prop := (S a = 5 ∧ S (a + 1) = 20 ∧ S (a + 2) = 20 ∧ S (a + 3) = 20) ∧ (Ln (a + 1) = 6 ∧ Ln (a + 2) = 6 ∧ Ln (a + 3) = 6) ∧ R a 0 = some (a + 1) ∧ R a 1 = some (a + 2) ∧ R a 2 = some (a + 3)
def RpA (M : gM) (a : Nat) (v : gV) : Prop := M a 3 = v 2 ∧ M a 4 = v 5 ∧ ∀ i, 0 ≤ i → i < v 2 → M (a + 1) i = v (29 + 3 * i) ∧ M (a + 2) i = v (30 + 3 * i) ∧ M (a + 3) i = v (31 + 3 * i)
def IvA (v : gV) : Prop := (0 ≤ v 2 ∧ v 2 ≤ 6) ∧ (500 ≤ v 5 ∧ v 5 ≤ 3000) ∧ ∀ i, 0 ≤ i → i < v 2 → (0 ≤ v (29 + 3 * i) ∧ v (29 + 3 * i) ≤ 60) ∧ (0 ≤ v (30 + 3 * i) ∧ v (30 + 3 * i) ≤ 60) ∧ 1 ≤ v (31 + 3 * i) ∧ v (31 + 3 * i) ≤ 5
/-- the strongest of the first n thermals over a place -/
def str (v : gV) (x y : Int) : Nat → Int
  | 0 => 0
  | n + 1 => if ab (v (29 + 3 * n) - x) + ab (v (30 + 3 * n) - y) ≤ 2 ∧ str v x y n < v (31 + 3 * n) then v (31 + 3 * n) else str v x y n
theorem str_b {v : gV} (h : IvA v) {x y : Int} : ∀ n : Nat, (n : Int) ≤ v 2 → 0 ≤ str v x y n ∧ str v x y n ≤ 5 := by
  intro n
  induction n with
  | zero => intro _; exact ⟨Int.le_refl _, (by decide : (0 : Int) ≤ 5)⟩
  | succ n ih =>
    intro hn
    have h1 := ih (by omega)
    have h2 := (h.2.2 n (by omega) (by omega)).2.2
    unfold str
    split <;> omega
def LyB (S Ln : Nat → Nat) (R : gR) (a : Nat) : Prop := (S a = 6 ∧ S (a + 1) = 20 ∧ S (a + 2) = 20 ∧ S (a + 3) = 20 ∧ S (a + 4) = 20 ∧ S (a + 5) = 20 ∧ S (a + 6) = 20) ∧ (Ln (a + 1) = 3 ∧ Ln (a + 2) = 3 ∧ Ln (a + 3) = 3 ∧ Ln (a + 4) = 3 ∧ Ln (a + 5) = 3 ∧ Ln (a + 6) = 3) ∧ R a 0 = some (a + 1) ∧ R a 1 = some (a + 2) ∧ R a 2 = some (a + 3) ∧ R a 3 = some (a + 4) ∧ R a 5 = some (a + 5) ∧ R a 6 = some (a + 6)
def RpB (M : gM) (a : Nat) (v : gV) : Prop := M a 4 = v 3 ∧ ∀ i, 0 ≤ i → i < v 3 → M (a + 1) i = v (47 + 4 * i) ∧ M (a + 2) i = v (48 + 4 * i) ∧ M (a + 3) i = v (49 + 4 * i) ∧ M (a + 4) i = v (50 + 4 * i)
def IvB (v : gV) : Prop := (0 ≤ v 3 ∧ v 3 ≤ 3) ∧ ∀ i, 0 ≤ i → i < v 3 → (0 ≤ v (47 + 4 * i) ∧ v (47 + 4 * i) ≤ v (49 + 4 * i) ∧ v (49 + 4 * i) ≤ 60) ∧ 0 ≤ v (48 + 4 * i) ∧ v (48 + 4 * i) ≤ v (50 + 4 * i) ∧ v (50 + 4 * i) ≤ 60
def cov (v : gV) (x y i : Int) : Prop := (v (47 + 4 * i) ≤ x ∧ x ≤ v (49 + 4 * i)) ∧ v (48 + 4 * i) ≤ y ∧ y ≤ v (50 + 4 * i)
/-- a place is in one of the areas -/
def rst (v : gV) (x y : Int) : Prop := ∃ i, (0 ≤ i ∧ i < v 3) ∧ cov v x y i
section PLV
variable {ad S Ln : Nat → Nat} {R : gR} {M : gM} {a : Nat} {v : gV}
theorem a_strongest (hL : LyA S Ln R a) (hR : RpA M a v) (hI : IvA v) {x y : Int} (hx0 : -1000 ≤ x) (hx1 : x ≤ 1000) (hy0 : -1000 ≤ y) (hy1 : y ≤ 1000) : fX0_strongestAt ad S Ln R M a x y = some (str v x y (v 2).toNat) := by
  obtain ⟨⟨s0, s1, s2, s3⟩, ⟨l1, l2, l3⟩, r1, r2, r3⟩ := hL
  obtain ⟨m3, m4, mt⟩ := hR
  have i6 := hI.1
  unfold fX0_strongestAt
  rw [lp_up0 (v 2).toNat (fun t => (str v x y t, (t : Int))) (r := .inl (str v x y (v 2).toNat)) (s := ((0 : Int), (0 : Int))) rfl (by omega) (fun t ht => ?_) ?_, bd_s, se_l]
  · unfold fX0_strongestAt_L5
    dsimp only
    rw [m3, if_pos (by omega)]
  · obtain ⟨e1, e2, e3⟩ := mt t (by omega) (by omega)
    obtain ⟨⟨a1, a2⟩, ⟨a3, a4⟩, a5, a6⟩ := hI.2.2 t (by omega) (by omega)
    have b1 := @ab_0 (v (29 + 3 * t) - x)
    have b2 := @ab_le (v (29 + 3 * t) - x) 2000 (by omega) (by omega)
    have b3 := @ab_0 (v (30 + 3 * t) - y)
    have b4 := @ab_le (v (30 + 3 * t) - y) 2000 (by omega) (by omega)
    unfold fX0_strongestAt_L5
    dsimp only
    rw [m3, if_neg (by omega), rf_o r1 s1, gd_t (by rw [l1]; omega), rf_o r2 s2, gd_t (by rw [l2]; omega), e1, e2]
    simp (disch := omega) only [w32_i, abs_i]
    unfold fX0_strongestAt_B66
    rw [w32_i (by omega) (by omega), rf_o r3 s3, gd_t (by rw [l3]; omega), e3]
    have ec : ((t : Int) + 1) = ((t + 1 : Nat) : Int) := by omega
    by_cases h1 : 2 < ab (v (29 + 3 * ↑t) - x) + ab (v (30 + 3 * ↑t) - y)
    · rw [if_pos h1, ec]
      show some (Sum.inl (_, _)) = some (Sum.inl (str v x y (t + 1), _))
      rw [show str v x y (t + 1) = str v x y t from if_neg (by omega)]
    · rw [if_neg h1]
      by_cases h2 : v (31 + 3 * ↑t) ≤ str v x y t
      · rw [if_pos h2, ec]
        show some (Sum.inl (_, _)) = some (Sum.inl (str v x y (t + 1), _))
        rw [show str v x y (t + 1) = str v x y t from if_neg (by omega)]
      · rw [if_neg h2, rf_o r3 s3, gd_t (by rw [l3]; omega), e3, ec]
        show some (Sum.inl (_, _)) = some (Sum.inl (str v x y (t + 1), _))
        rw [show str v x y (t + 1) = v (31 + 3 * t) from if_pos (by omega)]
theorem b_covers (hL : LyB S Ln R a) (hR : RpB M a v) (hI : IvB v) (x y : Int) : fX1_covers ad S Ln R M a x y = some (bI (rst v x y)) := by
  obtain ⟨⟨s0, s1, s2, s3, s4, s5, s6⟩, ⟨l1, l2, l3, l4, l5, l6⟩, r1, r2, r3, r4, r5, r6⟩ := hL
  obtain ⟨m4, mt⟩ := hR
  have i6 := hI.1
  unfold fX1_covers
  obtain ⟨r, e1, e2⟩ := lp_inv0 (b := fX1_covers_L2 ad S Ln R M a x y) (v 3).toNat (fun t s => s = (t : Int) ∧ ∀ i, 0 ≤ i → i < (t : Int) → ¬ cov v x y i) (fun r => (r = .inl () ∧ ¬ rst v x y) ∨ (r = .inr 1 ∧ rst v x y)) (s := 0) (by omega) ⟨rfl, fun i h0 h1 => by omega⟩ (fun t s ht hs => by
      obtain ⟨rfl, hn⟩ := hs
      obtain ⟨e1, e2, e3, e4⟩ := mt t (by omega) (by omega)
      unfold fX1_covers_L2
      rw [m4, if_neg (by omega), rf_o r1 s1, gd_t (by rw [l1]; omega), rf_o r3 s3, gd_t (by rw [l3]; omega), rf_o r2 s2, gd_t (by rw [l2]; omega), rf_o r4 s4, gd_t (by rw [l4]; omega), e1, e2, e3, e4]
      unfold fX1_covers_B52
      rw [w32_i (by omega) (by omega)]
      by_cases hc : cov v x y t
      · obtain ⟨⟨c1, c2⟩, c3, c4⟩ := hc
        rw [if_neg (by omega), if_neg (by omega), if_neg (by omega), if_neg (by omega)]
        exact Or.inr ⟨_, rfl, Or.inr ⟨rfl, t, ⟨by omega, by omega⟩, ⟨c1, c2⟩, c3, c4⟩⟩
      · refine Or.inl ⟨((t + 1 : Nat) : Int), ?_, rfl, fun i h0 h1 => ?_⟩
        · have ec : ((t : Int) + 1) = ((t + 1 : Nat) : Int) := by omega
          rw [ec]
          split
          · rfl
          · split
            · rfl
            · split
              · rfl
              · split
                · rfl
                · exact absurd ⟨⟨by omega, by omega⟩, by omega, by omega⟩ hc
        · by_cases e : i = t
          · rw [e]; exact hc
          · exact hn i h0 (by omega))
    (fun s hs => by
      obtain ⟨rfl, hn⟩ := hs
      unfold fX1_covers_L2
      rw [m4, if_pos (by omega)]
      exact ⟨_, rfl, Or.inl ⟨rfl, fun ⟨i, h1, h2⟩ => hn i h1.1 (by omega) h2⟩⟩)
  rw [e1, bd_s]
  rcases e2 with ⟨rfl, h⟩ | ⟨rfl, h⟩
  · rw [se_l, bI_f h]
  · rw [se_r, bI_t h]
/-- how many of the first n places of a row are in an area -/
noncomputable def cnt (v : gV) (y : Int) : Nat → Int
  | 0 => 0
  | n + 1 => cnt v y n + bI (rst v n y)
theorem cnt_b {v : gV} {y : Int} : ∀ n : Nat, 0 ≤ cnt v y n ∧ cnt v y n ≤ n := by
  intro n
  induction n with
  | zero => exact ⟨Int.le_refl _, Int.le_refl _⟩
  | succ n ih =>
    have := bI_r (rst v n y)
    unfold cnt
    omega
theorem b_byPositions (hL : LyB S Ln R a) (hR : RpB M a v) (hI : IvB v) (y : Int) : fX1_countByPositions ad S Ln R M a y = some (cnt v y 61) := by
  have hcv := @b_covers ad S Ln R M a v hL hR hI
  unfold fX1_countByPositions
  rw [lp_up0 61 (fun t => (cnt v y t, (t : Int))) (r := .inl (cnt v y 61)) (s := ((0 : Int), (0 : Int))) rfl (by omega) (fun t ht => ?_) ?_, bd_s, se_l]
  · unfold fX1_countByPositions_L4
    dsimp only
    rw [if_pos (by decide)]
  · unfold fX1_countByPositions_L4 fX1_countByPositions_B22
    dsimp only
    have hb := @cnt_b v y t
    have ec : ((t : Int) + 1) = ((t + 1 : Nat) : Int) := by omega
    rw [if_neg (by omega), hcv, bd_s, w32_i (by omega) (by omega), w32_i (by omega) (by omega), ec]
    by_cases h : rst v t y
    · rw [bI_t h, if_neg (by decide)]
      show some (Sum.inl (_, _)) = some (Sum.inl (cnt v y t + bI (rst v t y), _))
      rw [bI_t h]
    · rw [bI_f h, if_pos rfl]
      show some (Sum.inl (_, _)) = some (Sum.inl (cnt v y t + bI (rst v t y), _))
      rw [bI_f h, Int.add_zero]
end PLV
