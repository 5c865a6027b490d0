/-! PURE: gliders: 0 ratio 1 phase 2 x 3 y 4 height 5 minutes 6 penalty 7 reached 8 total -/
def RpG (M : gM) (g : Nat) (u : gV) : Prop := ∀ k : Int, 0 ≤ k → k < 9 → M g k = u k
theorem k9 {k : Int} (h0 : 0 ≤ k) (h1 : k < 9) : k = 0 ∨ k = 1 ∨ k = 2 ∨ k = 3 ∨ k = 4 ∨ k = 5 ∨ k = 6 ∨ k = 7 ∨ k = 8 := by omega
def stX (d : Int) : Int := if d = 1 then 1 else if d = 3 then -1 else 0
def stY (d : Int) : Int := if d = 0 then 1 else if d = 2 then -1 else 0
theorem stX_b (d : Int) : -1 ≤ stX d ∧ stX d ≤ 1 := by
  unfold stX
  split
  · decide
  · split <;> decide
theorem stY_b (d : Int) : -1 ≤ stY d ∧ stY d ≤ 1 := by
  unfold stY
  split
  · decide
  · split <;> decide
def snk (u : gV) : Int := Int.tdiv 1000 (u 0)
theorem tdiv_b {a b : Int} (ha : 0 ≤ a) (hb : 0 < b) : 0 ≤ Int.tdiv a b ∧ Int.tdiv a b ≤ a := by
  refine ⟨Int.tdiv_nonneg ha (Int.le_of_lt hb), ?_⟩
  have h := Int.mul_tdiv_add_tmod a b
  have h2 := Int.tmod_nonneg b ha
  have h3 : 0 ≤ Int.tdiv a b := Int.tdiv_nonneg ha (Int.le_of_lt hb)
  have h4 : Int.tdiv a b * 1 ≤ Int.tdiv a b * b := Int.mul_le_mul_of_nonneg_left (by omega) h3
  rw [Int.mul_comm] at h
  omega
theorem tdiv_1 {a b : Int} (hb : 0 < b) (h : b ≤ a) : 1 ≤ Int.tdiv a b := by
  have h1 := Int.mul_tdiv_add_tmod a b
  have h2 := Int.tmod_lt_of_pos a hb
  have h3 : 0 ≤ Int.tdiv a b := Int.tdiv_nonneg (by omega) (by omega)
  rcases Int.lt_or_le 0 (Int.tdiv a b) with h4 | h4
  · omega
  · have h5 : Int.tdiv a b = 0 := by omega
    rw [h5, Int.mul_zero] at h1
    omega
theorem snk_b {u : gV} (h0 : 20 ≤ u 0) (h1 : u 0 ≤ 60) : 1 ≤ snk u ∧ snk u ≤ 1000 := by
  unfold snk
  have := @tdiv_b 1000 (u 0) (by omega) (by omega)
  have := @tdiv_1 1000 (u 0) (by omega) (by omega)
  omega
section PGL
variable {ad S Ln : Nat → Nat} {R : gR} {M : gM}
theorem x_east (d : Int) : fX9_eastward ad S Ln R M d = some (stX d) := by
  unfold fX9_eastward stX
  by_cases h : d = 1
  · rw [if_neg (by omega), if_pos h]
  · rw [if_pos h, if_neg h]
    by_cases h3 : d = 3
    · rw [if_neg (by omega), if_pos h3]
    · rw [if_pos h3, if_neg h3]
theorem x_north (d : Int) : fX9_northward ad S Ln R M d = some (stY d) := by
  unfold fX9_northward stY
  by_cases h : d = 0
  · rw [if_neg (by omega), if_pos h]
  · rw [if_pos h, if_neg h]
    by_cases h3 : d = 2
    · rw [if_neg (by omega), if_pos h3]
    · rw [if_pos h3, if_neg h3]
theorem x_coord (x : Int) : fX9_isCoordinate ad S Ln R M x = some (bI (0 ≤ x ∧ x ≤ 60)) := by
  unfold fX9_isCoordinate
  by_cases h : 0 ≤ x ∧ x ≤ 60
  · rw [bI_t h, if_neg (by omega), if_neg (by omega)]
  · rw [bI_f h]
    by_cases h2 : x < 0
    · rw [if_pos h2]
    · rw [if_neg h2, if_pos (by omega)]
theorem x_quot {a b : Int} (h : 0 < b) : fX9_quotient ad S Ln R M a b = some (Int.tdiv a b) := by
  unfold fX9_quotient
  rw [if_neg (by omega), gd_t h]
theorem g_sink {g : Nat} {u : gV} (hR : RpG M g u) (h : 0 < u 0) : fX3_sinkRate ad S Ln R M g = some (snk u) := by
  unfold fX3_sinkRate snk
  rw [hR 0 (by decide) (by decide), x_quot h, bd_s]
theorem g_copy {a b : Nat} (hab : b ≠ a) (h1 : 0 ≤ M b 1) : ∃ M', fX3_copyFrom ad S Ln R M a b = some M' ∧ (∀ k, 0 ≤ k → k < 9 → M' a k = M b k) ∧ ∀ c, c ≠ a → M' c = M c := by
  unfold fX3_copyFrom
  simp only [nam_d, wr_a hab]
  rw [gd_t h1]
  refine ⟨_, rfl, fun k h0 h9 => ?_, fun c hc => ?_⟩
  · rcases k9 h0 h9 with rfl | rfl | rfl | rfl | rfl | rfl | rfl | rfl | rfl <;> simp (disch := decide) only [wr_s, wr_k]
  · simp only [wr_a hc]
/-- a glider at rest; one that starts -/
def rsU (u : gV) : gV := fun k => if k = 0 then u 0 else if k = 8 then u 8 else 0
def toU (u : gV) (x y : Int) : gV := fun k => if k = 0 then u 0 else if k = 1 then 1 else if k = 2 then x else if k = 3 then y else if k = 4 then 1000 else if k = 7 then 1 else if k = 8 then u 8 else 0
theorem g_rest {g : Nat} {u : gV} (hR : RpG M g u) : ∃ M', fX3_rest ad S Ln R M g = some M' ∧ RpG M' g (rsU u) ∧ ∀ c, c ≠ g → M' c = M c := by
  unfold fX3_rest
  simp only [nam_d]
  refine ⟨_, rfl, fun k h0 h9 => ?_, fun c hc => ?_⟩
  · have e0 := hR 0 (by decide) (by decide)
    have e8 := hR 8 (by decide) (by decide)
    rcases k9 h0 h9 with rfl | rfl | rfl | rfl | rfl | rfl | rfl | rfl | rfl <;> simp (disch := decide) only [wr_s, wr_k, e0, e8, rsU] <;> rfl
  · simp only [wr_a hc]
theorem g_takeOff {g : Nat} {u : gV} (hR : RpG M g u) (x y : Int) : ∃ M', fX3_takeOff ad S Ln R M g x y = some M' ∧ RpG M' g (toU u x y) ∧ ∀ c, c ≠ g → M' c = M c := by
  unfold fX3_takeOff
  simp only [nam_d]
  refine ⟨_, rfl, fun k h0 h9 => ?_, fun c hc => ?_⟩
  · have e0 := hR 0 (by decide) (by decide)
    have e8 := hR 8 (by decide) (by decide)
    rcases k9 h0 h9 with rfl | rfl | rfl | rfl | rfl | rfl | rfl | rfl | rfl <;> simp (disch := decide) only [wr_s, wr_k, e0, e8, toU] <;> rfl
  · simp only [wr_a hc]
def enU (r : Int) : gV := fun k => if k = 0 then r else 0
theorem g_enter {g : Nat} (r : Int) : ∃ M', fX3_enter ad S Ln R M g r = some M' ∧ RpG M' g (enU r) ∧ ∀ c, c ≠ g → M' c = M c := by
  unfold fX3_enter fX3_rest
  simp only [nam_d, bd_s]
  refine ⟨_, rfl, fun k h0 h9 => ?_, fun c hc => ?_⟩
  · rcases k9 h0 h9 with rfl | rfl | rfl | rfl | rfl | rfl | rfl | rfl | rfl <;> simp (disch := decide) only [wr_s, wr_k, enU] <;> rfl
  · simp only [wr_a hc]
/-- one kilometre's move -/
def mvU (u : gV) (d : Int) : gV := us (us (us (us u 2 (u 2 + stX d)) 3 (u 3 + stY d)) 5 (u 5 + 1)) 4 (if u 4 - snk u < 0 then 0 else u 4 - snk u)
theorem g_move {g : Nat} {u : gV} (hR : RpG M g u) {d : Int} (h0 : 20 ≤ u 0) (h0' : u 0 ≤ 60) (h2 : -1000 ≤ u 2) (h2' : u 2 ≤ 1000) (h3 : -1000 ≤ u 3) (h3' : u 3 ≤ 1000) (h4 : 0 ≤ u 4) (h4' : u 4 ≤ 3000) (h5 : 0 ≤ u 5) (h5' : u 5 ≤ 100000000) : ∃ M', fX3_move ad S Ln R M g d = some M' ∧ RpG M' g (mvU u d) ∧ ∀ c, c ≠ g → M' c = M c := by
  have bx := stX_b d
  have bY := stY_b d
  have bs := snk_b h0 h0'
  unfold fX3_move
  rw [x_east, bd_s, nam_d, x_north, bd_s, nam_d, nam_d, hR 2 (by decide) (by decide), w32_i (by omega) (by omega), wr_k (by decide), hR 3 (by decide) (by decide), w32_i (by omega) (by omega), wr_k (by decide), wr_k (by decide), hR 5 (by decide) (by decide), w32_i (by omega) (by omega)]
  have hR2 : ∀ a b c : Int, RpG (wr (wr (wr M g 2 a) g 3 b) g 5 c) g (us (us (us u 2 a) 3 b) 5 c) := fun a b c k k0 k1 => by
    simp only [wr_r]
    unfold us
    split
    · rfl
    · split
      · rfl
      · split
        · rfl
        · exact hR k k0 k1
  rw [g_sink (hR2 _ _ _) (by show 0 < u 0; omega), bd_s, nam_d]
  have e4 : wr (wr (wr M g 2 (u 2 + stX d)) g 3 (u 3 + stY d)) g 5 (u 5 + 1) g 4 = u 4 := by
    rw [wr_k (by decide), wr_k (by decide), wr_k (by decide)]
    exact hR 4 (by decide) (by decide)
  have es : snk (us (us (us u 2 (u 2 + stX d)) 3 (u 3 + stY d)) 5 (u 5 + 1)) = snk u := rfl
  rw [e4, es, w32_i (by omega) (by omega)]
  refine ⟨_, rfl, fun k k0 k1 => ?_, fun c hc => by simp only [wr_a hc]⟩
  have e9 : i_max 0 (u 4 - snk u) = if u 4 - snk u < 0 then 0 else u 4 - snk u := by
    unfold i_max
    split
    · rw [if_neg (by omega)]
    · split <;> omega
  unfold mvU
  rw [wr_r, e9]
  by_cases e : k = 4
  · rw [e, us_s, us_s]
  · rw [us_n e, us_n e]
    exact hR2 _ _ _ k k0 k1
/-- a climb -/
def rsH (u : gV) (q m b : Int) : gV := us (us u 4 (if u 4 < b then (if b < u 4 + 60 * q * m then b else u 4 + 60 * q * m) else u 4)) 5 (u 5 + m)
theorem g_rise {g : Nat} {u : gV} (hR : RpG M g u) {q m b : Int} (hq0 : 0 ≤ q) (hq1 : q ≤ 5) (hm0 : 0 ≤ m) (hm1 : m ≤ 30) (hb0 : 500 ≤ b) (hb1 : b ≤ 3000) (h4 : 0 ≤ u 4) (h4' : u 4 ≤ 3000) (h5 : 0 ≤ u 5) (h5' : u 5 ≤ 100000000) : ∃ M', fX3_rise ad S Ln R M g q m b = some M' ∧ RpG M' g (rsH u q m b) ∧ ∀ c, c ≠ g → M' c = M c := by
  have g1 : 0 ≤ 60 * q * m := Int.mul_nonneg (by omega) hm0
  have g2 : 60 * q * m ≤ 300 * 30 := Int.mul_le_mul (by omega) hm1 hm0 (by omega)
  unfold fX3_rise fX3_rise_B27 rsH
  rw [hR 4 (by decide) (by decide)]
  by_cases h : b ≤ u 4
  · rw [if_pos h, nam_d, hR 5 (by decide) (by decide), w32_i (by omega) (by omega), if_neg (by omega)]
    refine ⟨_, rfl, fun k k0 k1 => ?_, fun c hc => wr_a hc⟩
    rw [wr_r]
    by_cases e : k = 5
    · rw [e, us_s, us_s]
    · rw [us_n e, us_n e, us_self]
      exact hR k k0 k1
  · rw [if_neg h, nam_d, nam_d, wr_k (by decide), hR 5 (by decide) (by decide), w32_i (z := u 5 + m) (by omega) (by omega), w32_i (z := 60 * q) (by omega) (by omega), w32_i (z := 60 * q * m) (by omega) (by omega), w32_i (by omega) (by omega), if_pos (by omega)]
    refine ⟨_, rfl, fun k k0 k1 => ?_, fun c hc => by simp only [wr_a hc]⟩
    rw [wr_r, wr_r]
    by_cases e : k = 5
    · rw [e, us_s, us_s]
    · rw [us_n e, us_n e]
      by_cases e4 : k = 4
      · rw [e4, us_s, us_s]
        unfold i_min
        split <;> split <;> omega
      · rw [us_n e4, us_n e4]
        exact hR k k0 k1
end PGL
