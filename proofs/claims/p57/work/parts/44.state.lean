/-! PURE: a state, in the class: what is read off it -/
def gl (v : gV) (p : Int) : gV := fun k => v (59 + 9 * p + k)
def LyS (S Ln : Nat → Nat) (R : gR) (a : Nat) : Prop := S a = 11 ∧ (R a 0 = some (a + 1) ∧ R a 1 = some (a + 6) ∧ R a 2 = some (a + 10) ∧ R a 3 = some (a + 17) ∧ R a 6 = some (a + 18) ∧ R a 7 = some (a + 19)) ∧ LyC S Ln R (a + 1) ∧ LyA S Ln R (a + 6) ∧ LyB S Ln R (a + 10) ∧ (S (a + 17) = 26 ∧ Ln (a + 17) = 6 ∧ ∀ p : Int, 0 ≤ p → p < 6 → R (a + 17) p = some (a + 20 + p.toNat)) ∧ (S (a + 18) = 21 ∧ Ln (a + 18) = 6) ∧ S (a + 19) = 8 ∧ ∀ q : Nat, q < 6 → S (a + 20 + q) = 8
def RpS (M : gM) (a : Nat) (v : gV) : Prop := RpC M (a + 1) v ∧ RpA M (a + 6) v ∧ RpB M (a + 10) v ∧ M a 4 = v 4 ∧ M a 5 = v 6 ∧ (∀ p : Int, 0 ≤ p → p < v 4 → RpG M (a + 20 + p.toNat) (gl v p)) ∧ ∀ q : Nat, q < 6 → 0 ≤ M (a + 20 + q) 1
/-- a pilot, as one must be; b: a bound for what grows -/
def IvP (b : Int) (v : gV) (u : gV) : Prop := (20 ≤ u 0 ∧ u 0 ≤ 60) ∧ (0 ≤ u 1 ∧ u 1 ≤ 3) ∧ ((0 ≤ u 2 ∧ u 2 ≤ 60) ∧ 0 ≤ u 3 ∧ u 3 ≤ 60) ∧ (0 ≤ u 4 ∧ u 4 ≤ 3000) ∧ (0 ≤ u 5 ∧ u 5 ≤ 60 * b) ∧ (0 ≤ u 6 ∧ u 6 ≤ 600 * b) ∧ (0 ≤ u 7 ∧ u 7 ≤ 6) ∧ (0 ≤ u 8 ∧ u 8 ≤ 1500 * b) ∧
  (u 1 ≠ 0 → 2 ≤ v 1 ∧ 1 ≤ u 7) ∧ (u 1 = 1 ∨ u 1 = 2 → u 7 < v 1) ∧ (u 1 = 1 → 0 < u 4 ∧ 0 < dst v (v (23 + u 7)) (u 2) (u 3)) ∧ (u 1 = 3 → u 7 = v 1 ∧ 0 < u 5)
def IvS (b : Int) (v : gV) : Prop := IvC v ∧ IvA v ∧ IvB v ∧ (0 ≤ v 4 ∧ v 4 ≤ 6) ∧ (0 ≤ v 6 ∧ v 6 ≤ b) ∧ (0 ≤ b ∧ b ≤ 10000) ∧ ∀ p, 0 ≤ p → p < v 4 → IvP b v (gl v p)
/-- how many of the first n pilots are in a phase -/
def inP (v : gV) (s : Int) : Nat → Int
  | 0 => 0
  | n + 1 => inP v s n + (if gl v n 1 = s then 1 else 0)
theorem inP_b {v : gV} {s : Int} : ∀ n : Nat, 0 ≤ inP v s n ∧ inP v s n ≤ n := by
  intro n
  induction n with
  | zero => exact ⟨Int.le_refl _, Int.le_refl _⟩
  | succ n ih =>
    unfold inP
    split <;> omega
theorem inP_all {v : gV} {s : Int} : ∀ n : Nat, inP v s n = n ↔ ∀ p : Int, 0 ≤ p → p < n → gl v p 1 = s := by
  intro n
  induction n with
  | zero => exact ⟨fun _ p h0 h1 => by omega, fun _ => rfl⟩
  | succ n ih =>
    have hb := @inP_b v s n
    unfold inP
    constructor
    · intro h p h0 h1
      split at h
      · rename_i e
        by_cases ep : p = n
        · rw [ep]; exact e
        · exact ih.mp (by omega) p h0 (by omega)
      · omega
    · intro h
      rw [if_pos (h n (by omega) (by omega))]
      have := ih.mpr (fun p h0 h1 => h p h0 (by omega))
      omega
def pln (v : gV) : Prop := ∀ p : Int, 0 ≤ p → p < v 4 → gl v p 1 = 0
/-- what a pilot has flown of the task -/
def acU (v : gV) (u : gV) : Int := if u 1 = 0 then 0 else if u 1 = 3 then whl v else lgs v (u 7 - 1).toNat + (if 0 < leg v (u 7 - 1) - dst v (v (23 + u 7)) (u 2) (u 3) then leg v (u 7 - 1) - dst v (v (23 + u 7)) (u 2) (u 3) else 0)
/-- the least minutes of the first n pilots that have finished, and m -/
def lms (v : gV) (m : Int) : Nat → Int
  | 0 => m
  | n + 1 => if gl v n 1 = 3 ∧ gl v n 5 < lms v m n then gl v n 5 else lms v m n
def scU (v : gV) (u : gV) : Int := if u 1 = 0 then 0 else
  (if Int.tdiv (1000 * acU v u) (whl v) + (if u 1 = 3 then Int.tdiv (500 * lms v (u 5) (v 4).toNat) (u 5) else 0) - u 6 < 0 then 0 else Int.tdiv (1000 * acU v u) (whl v) + (if u 1 = 3 then Int.tdiv (500 * lms v (u 5) (v 4).toNat) (u 5) else 0) - u 6)
theorem lms_b {b : Int} {v : gV} (h : IvS b v) {m : Int} (hm : 0 ≤ m) : ∀ n : Nat, (n : Int) ≤ v 4 → 0 ≤ lms v m n ∧ lms v m n ≤ m := by
  intro n
  induction n with
  | zero => intro _; exact ⟨hm, Int.le_refl _⟩
  | succ n ih =>
    intro hn
    have h1 := ih (by omega)
    have h2 := (h.2.2.2.2.2.2 n (by omega) (by omega)).2.2.2.2.1
    unfold lms
    split <;> omega
theorem acU_b {b : Int} {v u : gV} (hC : IvC v) (h : IvP b v u) : 0 ≤ acU v u ∧ acU v u ≤ whl v := by
  obtain ⟨h0, h1, ⟨h2, h3⟩, h4, h5, h6, h7, h8, q1, q2, q3, q4⟩ := h
  have hw := whl_b hC
  unfold acU
  by_cases e0 : u 1 = 0
  · rw [if_pos e0]; exact ⟨Int.le_refl _, hw.1⟩
  rw [if_neg e0]
  by_cases e3 : u 1 = 3
  · rw [if_pos e3]; exact ⟨hw.1, Int.le_refl _⟩
  rw [if_neg e3]
  have g1 := q1 e0
  have g2 := q2 (by omega)
  have g3 := lgs_b hC (u 7 - 1).toNat (by omega)
  have g4 := leg_120 hC (k := u 7 - 1) (by omega) (by omega)
  have g5 := @dst_0 v (v (23 + u 7)) (u 2) (u 3)
  have g6 := lgs_m hC (m := (u 7 - 1).toNat + 1) (n := (v 1 - 1).toNat) (by omega) (by omega)
  have g7 : lgs v ((u 7 - 1).toNat + 1) = lgs v (u 7 - 1).toNat + leg v (u 7 - 1) := by
    show lgs v (u 7 - 1).toNat + leg v ((u 7 - 1).toNat : Int) = _
    rw [show ((u 7 - 1).toNat : Int) = u 7 - 1 by omega]
  unfold whl
  split <;> omega
theorem tdiv_le {a b c : Int} (ha : 0 ≤ a) (hb : 0 < b) (h : a ≤ c * b) : Int.tdiv a b ≤ c := by
  have h1 := Int.mul_tdiv_add_tmod a b
  have h2 := Int.tmod_nonneg b ha
  rcases Int.lt_or_le c (Int.tdiv a b) with h3 | h3
  · have h4 : (c + 1) * b ≤ Int.tdiv a b * b := Int.mul_le_mul_of_nonneg_right (by omega) (by omega)
    rw [Int.add_mul, Int.one_mul] at h4
    rw [Int.mul_comm] at h1
    omega
  · exact h3
theorem sc1_b {b : Int} {v u : gV} (hI : IvS b v) (h : IvP b v u) (e0 : u 1 ≠ 0) : 0 ≤ Int.tdiv (1000 * acU v u) (whl v) ∧ Int.tdiv (1000 * acU v u) (whl v) ≤ 1000 := by
  have hw := whl_p hI.1 (h.2.2.2.2.2.2.2.2.1 e0).1
  have ha := acU_b hI.1 h
  exact ⟨Int.tdiv_nonneg (by omega) (by omega), tdiv_le (by omega) hw (by have := Int.mul_le_mul_of_nonneg_left ha.2 (show (0 : Int) ≤ 1000 by omega); omega)⟩
theorem sc2_b {b : Int} {v u : gV} (hI : IvS b v) (h : IvP b v u) (e3 : u 1 = 3) : 0 ≤ Int.tdiv (500 * lms v (u 5) (v 4).toNat) (u 5) ∧ Int.tdiv (500 * lms v (u 5) (v 4).toNat) (u 5) ≤ 500 := by
  have h5 := (h.2.2.2.2.2.2.2.2.2.2.2 e3).2
  have hp := hI.2.2.2.1
  have hl := lms_b hI (m := u 5) (by omega) (v 4).toNat (by omega)
  exact ⟨Int.tdiv_nonneg (by omega) (by omega), tdiv_le (by omega) h5 (by have := Int.mul_le_mul_of_nonneg_left hl.2 (show (0 : Int) ≤ 500 by omega); omega)⟩
theorem scU_b {b : Int} {v u : gV} (hI : IvS b v) (h : IvP b v u) : 0 ≤ scU v u ∧ scU v u ≤ 1500 := by
  have h6 := h.2.2.2.2.2.1
  unfold scU
  by_cases e0 : u 1 = 0
  · rw [if_pos e0]; exact ⟨Int.le_refl _, by decide⟩
  rw [if_neg e0]
  have g1 := sc1_b hI h e0
  by_cases e3 : u 1 = 3
  · have g2 := sc2_b hI h e3
    rw [if_pos e3]
    split <;> omega
  · rw [if_neg e3]
    split <;> omega
section PST
variable {ad S Ln : Nat → Nat} {R : gR} {M : gM} {a : Nat} {v : gV} {b : Int}
theorem s_g {α : Type} {f : Nat → Option α} (hL : LyS S Ln R a) {p : Int} (h0 : 0 ≤ p) (h1 : p < 6) : (rf S (R a 3) 26 fun b => gd ((0 : Int) ≤ p ∧ p < (Ln b : Int)) (rf S (R b p) 8 f)) = f (a + 20 + p.toNat) := by
  obtain ⟨-, ⟨-, -, -, r3, -, -⟩, -, -, -, ⟨g1, g2, g3⟩, -, -, g4⟩ := hL
  rw [rf_o r3 g1, gd_t (by rw [g2]; omega), rf_o (g3 p h0 h1) (g4 p.toNat (by omega))]
theorem s_c {α : Type} {f : Nat → Option α} (hL : LyS S Ln R a) : rf S (R a 0) 7 f = f (a + 1) := rf_o hL.2.1.1 hL.2.2.1.1.1
theorem s_a {α : Type} {f : Nat → Option α} (hL : LyS S Ln R a) : rf S (R a 1) 5 f = f (a + 6) := rf_o hL.2.1.2.1 hL.2.2.2.1.1.1
theorem s_b {α : Type} {f : Nat → Option α} (hL : LyS S Ln R a) : rf S (R a 2) 6 f = f (a + 10) := rf_o hL.2.1.2.2.1 hL.2.2.2.2.1.1.1
theorem s_sc {α : Type} {f : Nat → Option α} (hL : LyS S Ln R a) : rf S (R a 7) 8 f = f (a + 19) := rf_o hL.2.1.2.2.2.2.2 hL.2.2.2.2.2.2.2.1
theorem s_u (hR : RpS M a v) {p : Int} (h0 : 0 ≤ p) (h1 : p < v 4) {k : Int} (k0 : 0 ≤ k) (k1 : k < 9) : M (a + 20 + p.toNat) k = gl v p k := hR.2.2.2.2.2.1 p h0 h1 k k0 k1
theorem s_hasPilot (hR : RpS M a v) (p : Int) : fX8_hasPilot ad S Ln R M a p = some (bI (0 ≤ p ∧ p < v 4)) := by
  unfold fX8_hasPilot
  rw [hR.2.2.2.1]
  by_cases h : 0 ≤ p ∧ p < v 4
  · rw [bI_t h, if_neg (by omega), if_neg (by omega)]
  · rw [bI_f h]
    by_cases h2 : p < 0
    · rw [if_pos h2]
    · rw [if_neg h2, if_pos (by omega)]
theorem s_count (hL : LyS S Ln R a) (hR : RpS M a v) (hI : IvS b v) (s : Int) : fX8_countInPhase ad S Ln R M a s = some (inP v s (v 4).toNat) := by
  have hp := hI.2.2.2.1
  unfold fX8_countInPhase
  rw [lp_up0 (v 4).toNat (fun t => (inP v s t, (t : Int))) (r := .inl (inP v s (v 4).toNat)) (s := ((0 : Int), (0 : Int))) rfl (by omega) (fun t ht => ?_) ?_, bd_s, se_l]
  · unfold fX8_countInPhase_L4
    dsimp only
    rw [hR.2.2.2.1, if_pos (by omega)]
  · have hb := @inP_b v s t
    have h1 := (hI.2.2.2.2.2.2 t (by omega) (by omega)).2.1
    have e1 := s_u hR (p := t) (by omega) (by omega) (k := 1) (by decide) (by decide)
    unfold fX8_countInPhase_L4 fX8_countInPhase_B28
    dsimp only
    have ec : ((t : Int) + 1) = ((t + 1 : Nat) : Int) := by omega
    rw [hR.2.2.2.1, if_neg (by omega), s_g hL (by omega) (by omega), e1, gd_t h1.1, w32_i (z := (t : Int) + 1) (by omega) (by omega), w32_i (by omega) (by omega), ec]
    show _ = some (Sum.inl (inP v s t + (if gl v t 1 = s then 1 else 0), _))
    by_cases h : gl v t 1 = s
    · rw [if_neg (fun q => q h), if_pos h]
    · rw [if_pos h, if_neg h, Int.add_zero]
theorem s_allWaiting (hL : LyS S Ln R a) (hR : RpS M a v) (hI : IvS b v) : fX8_allWaiting ad S Ln R M a = some (bI (pln v)) := by
  have hp := hI.2.2.2.1
  have hb := @inP_b v 0 (v 4).toNat
  have ha := @inP_all v 0 (v 4).toNat
  unfold fX8_allWaiting
  rw [s_count hL hR hI, bd_s, hR.2.2.2.1]
  by_cases h : pln v
  · rw [bI_t h, if_neg (fun q => q (by rw [ha.mpr (fun p h0 h1 => h p h0 (by omega))]; omega))]
  · rw [bI_f h, if_pos (fun q => h (fun p h0 h1 => ha.mp (by omega) p h0 (by omega)))]
theorem s_done (hL : LyS S Ln R a) (hR : RpS M a v) (hI : IvS b v) {g : Nat} {u : gV} (hg : RpG M g u) (hu : IvP b v u) : fX8_distanceDone ad S Ln R M a g = some (acU v u) := by
  have hac := acU_b hI.1 hu
  have hw := whl_b hI.1
  obtain ⟨h0, h1, ⟨h2, h3⟩, h4, h5, h6, h7, h8, q1, q2, q3, q4⟩ := hu
  have i6 := hI.1.2.1
  have hcl := @c_legs ad S Ln R M (a + 1) v hL.2.2.1 hR.1 hI.1
  have hcs := @c_spanToStop ad S Ln R M (a + 1) v hL.2.2.1 hR.1 hI.1
  unfold fX8_distanceDone
  rw [hg 1 (by decide) (by decide), hg 7 (by decide) (by decide), hg 2 (by decide) (by decide), hg 3 (by decide) (by decide), gd_t h1.1]
  unfold acU at hac ⊢
  by_cases e0 : u 1 = 0
  · rw [if_neg (fun q => q e0), if_pos e0]
  rw [if_neg e0] at hac ⊢
  have g1 := q1 e0
  rw [if_pos e0, s_c hL, w32_i (by omega) (by omega), hcl (Int.le_refl 0) (by omega), bd_s, gd_t h1.1, if_pos (show (0 : Int) ≤ u 7 - 1 by omega)]
  have e9 : lgs v (u 7 - 1).toNat - lgs v (0 : Int).toNat = lgs v (u 7 - 1).toNat := by show _ - (0 : Int) = _; omega
  rw [e9]
  by_cases e3 : u 1 = 3
  · rw [if_neg (fun q => q e3), if_pos e3, (q4 e3).1]; rfl
  rw [if_neg e3] at hac ⊢
  have g2 := q2 (by omega)
  have g4 := leg_120 hI.1 (k := u 7 - 1) (by omega) (by omega)
  have g3 := lgs_b hI.1 (u 7 - 1).toNat (by omega)
  obtain ⟨p1, p2⟩ := hI.1.2.2.2.1 (u 7) (by omega) g2
  have g5 := @dst_0 v (v (23 + u 7)) (u 2) (u 3)
  have g8 := dst_120 hI.1 p1 p2 h2.1 h2.2 h3.1 h3.2
  have g7 : lgs v (u 7).toNat - lgs v (u 7 - 1).toNat = leg v (u 7 - 1) := by
    rw [show (u 7).toNat = (u 7 - 1).toNat + 1 by omega]
    show lgs v (u 7 - 1).toNat + leg v ((u 7 - 1).toNat : Int) - _ = _
    rw [show ((u 7 - 1).toNat : Int) = u 7 - 1 by omega]
    omega
  rw [if_pos e3, s_c hL, hcl (by omega) (Or.inl g2), bd_s, if_pos (show u 7 - 1 ≤ u 7 by omega), g7, s_c hL, hcs (by omega) g2 (by omega) (by omega) (by omega) (by omega), bd_s, w32_i (z := leg v (u 7 - 1) - dst v (v (23 + u 7)) (u 2) (u 3)) (by omega) (by omega)]
  have e10 : i_max 0 (leg v (u 7 - 1) - dst v (v (23 + u 7)) (u 2) (u 3)) = if 0 < leg v (u 7 - 1) - dst v (v (23 + u 7)) (u 2) (u 3) then leg v (u 7 - 1) - dst v (v (23 + u 7)) (u 2) (u 3) else 0 := rfl
  rw [e10, w32_i (by omega) (by omega)]
theorem s_least (hL : LyS S Ln R a) (hR : RpS M a v) (hI : IvS b v) {m : Int} (hm0 : 0 ≤ m) (hm1 : m ≤ 600000) : fX8_leastMinutes ad S Ln R M a m = some (lms v m (v 4).toNat) := by
  have hp := hI.2.2.2.1
  unfold fX8_leastMinutes
  rw [lp_up0 (v 4).toNat (fun t => (lms v m t, (t : Int))) (r := .inl (lms v m (v 4).toNat)) (s := (m, (0 : Int))) rfl (by omega) (fun t ht => ?_) ?_, bd_s, se_l]
  · unfold fX8_leastMinutes_L4
    dsimp only
    rw [hR.2.2.2.1, if_pos (by omega)]
  · have h1 := (hI.2.2.2.2.2.2 t (by omega) (by omega)).2.1
    have e1 := s_u hR (p := t) (by omega) (by omega) (k := 1) (by decide) (by decide)
    have e5 := s_u hR (p := t) (by omega) (by omega) (k := 5) (by decide) (by decide)
    unfold fX8_leastMinutes_L4 fX8_leastMinutes_B41
    dsimp only
    have ec : ((t : Int) + 1) = ((t + 1 : Nat) : Int) := by omega
    rw [hR.2.2.2.1, if_neg (by omega), s_g hL (by omega) (by omega), e1, gd_t h1.1, w32_i (by omega) (by omega), s_g hL (by omega) (by omega), e5, ec]
    show _ = some (Sum.inl ((if gl v t 1 = 3 ∧ gl v t 5 < lms v m t then gl v t 5 else lms v m t), _))
    by_cases h : gl v t 1 = 3
    · rw [if_neg (fun q => q h)]
      unfold i_min
      by_cases h9 : gl v t 5 < lms v m t
      · rw [if_pos h9, if_pos ⟨h, h9⟩]
      · rw [if_neg h9, if_neg (fun q => h9 q.2)]
    · rw [if_pos h, if_neg (fun q => h q.1)]
theorem s_score (hL : LyS S Ln R a) (hR : RpS M a v) (hI : IvS b v) {g : Nat} {u : gV} (hg : RpG M g u) (hu : IvP b v u) : fX8_scoreOf ad S Ln R M a g = some (scU v u) := by
  have hac := acU_b hI.1 hu
  have hw := whl_b hI.1
  have hd := @s_done ad S Ln R M a v b hL hR hI g u hg hu
  have hb := hI.2.2.2.2.2.1
  have hp := hI.2.2.2.1
  have hu9 := hu
  obtain ⟨h0, h1, ⟨h2, h3⟩, h4, h5, h6, h7, h8, q1, q2, q3, q4⟩ := hu
  unfold fX8_scoreOf fX8_scoreOf_B64 scU
  rw [hg 1 (by decide) (by decide), hg 5 (by decide) (by decide), hg 6 (by decide) (by decide), gd_t h1.1]
  by_cases e0 : u 1 = 0
  · rw [if_neg (fun q => q e0), if_pos e0]
  have hwp := whl_p hI.1 (q1 e0).1
  have s1 := sc1_b hI hu9 e0
  rw [if_pos e0, if_neg e0, hd, bd_s, s_c hL, c_whole hL.2.2.1 hR.1 hI.1, bd_s, w32_i (z := 1000 * acU v u) (by omega) (by omega), x_quot hwp, bd_s, gd_t h1.1]
  have em : ∀ z : Int, i_max 0 z = if z < 0 then 0 else z := fun z => by
    unfold i_max
    split
    · rw [if_neg (by omega)]
    · split <;> omega
  by_cases e3 : u 1 = 3
  · have s2 := sc2_b hI hu9 e3
    have h5p := (q4 e3).2
    have hl := lms_b hI (m := u 5) (by omega) (v 4).toNat (by omega)
    rw [if_neg (fun q => q e3), if_pos e3, s_least hL hR hI (by omega) (by omega), bd_s, w32_i (z := 500 * lms v (u 5) (v 4).toNat) (by omega) (by omega), x_quot h5p, bd_s, w32_i (z := _ + Int.tdiv (500 * lms v (u 5) (v 4).toNat) (u 5)) (by omega) (by omega), w32_i (by omega) (by omega), em]
  · rw [if_pos e3, if_neg e3, w32_i (by omega) (by omega), em, Int.add_zero]
/-- what is left of the task -/
def lfU (v : gV) (u : gV) : Int := dst v (v (23 + u 7)) (u 2) (u 3) + (whl v - lgs v (u 7).toNat)
theorem lfU_b {v u : gV} (hI : IvC v) (hu : IvP b v u) (e1 : u 1 = 1) : 1 ≤ lfU v u ∧ lfU v u ≤ 720 := by
  obtain ⟨h0, h1, ⟨h2, h3⟩, h4, h5, h6, h7, h8, q1, q2, q3, q4⟩ := hu
  have g1 := q1 (by omega)
  have g2 := q2 (Or.inl e1)
  have g3 := q3 e1
  obtain ⟨p1, p2⟩ := hI.2.2.2.1 (u 7) (by omega) g2
  have g8 := dst_120 hI p1 p2 h2.1 h2.2 h3.1 h3.2
  have g6 := lgs_m hI (m := (u 7).toNat) (n := (v 1 - 1).toNat) (by omega) (by omega)
  have g5 := lgs_b hI (u 7).toNat (by omega)
  have hw := whl_b hI
  unfold lfU
  unfold whl at hw ⊢
  omega
theorem s_left (hL : LyS S Ln R a) (hR : RpS M a v) (hI : IvS b v) {g : Nat} {u : gV} (hg : RpG M g u) (hu : IvP b v u) (e1 : u 1 = 1) : fX8_distanceLeft ad S Ln R M a g = some (lfU v u) := by
  have hlf := lfU_b hI.1 hu e1
  obtain ⟨h0, h1, ⟨h2, h3⟩, h4, h5, h6, h7, h8, q1, q2, q3, q4⟩ := hu
  have g1 := q1 (by omega)
  have g2 := q2 (Or.inl e1)
  have i6 := hI.1.2.1
  unfold fX8_distanceLeft
  rw [hg 7 (by decide) (by decide), hg 2 (by decide) (by decide), hg 3 (by decide) (by decide), s_c hL, c_spanToStop hL.2.2.1 hR.1 hI.1 (by omega) g2 (by omega) (by omega) (by omega) (by omega), bd_s, s_c hL, s_c hL, hR.1.2.1, w32_i (z := v 1 - 1) (by omega) (by omega), c_legs hL.2.2.1 hR.1 hI.1 (by omega) (by omega), bd_s, if_pos (by omega)]
  unfold lfU whl at hlf ⊢
  rw [w32_i (by omega) (by omega)]
theorem s_byHeight (hL : LyS S Ln R a) (hR : RpS M a v) (hI : IvS b v) {g : Nat} {u : gV} (hg : RpG M g u) (hu : IvP b v u) (e1 : u 1 = 1) : fX8_finishesByHeight ad S Ln R M a g = some (bI ((lfU v u - 1) * snk u < u 4)) := by
  have hlf := lfU_b hI.1 hu e1
  have hs := snk_b hu.1.1 hu.1.2
  have g1 : 0 ≤ (lfU v u - 1) * snk u := Int.mul_nonneg (by omega) (by omega)
  have g2 : (lfU v u - 1) * snk u ≤ 720 * 1000 := Int.mul_le_mul (by omega) hs.2 (by omega) (by omega)
  unfold fX8_finishesByHeight
  rw [s_left hL hR hI hg hu e1, bd_s, g_sink hg (by have := hu.1.1; omega), bd_s, hg 4 (by decide) (by decide), w32_i (z := lfU v u - 1) (by omega) (by omega), w32_i (by omega) (by omega)]
  by_cases h : (lfU v u - 1) * snk u < u 4
  · rw [bI_t h, if_neg (by omega)]
  · rw [bI_f h, if_pos (by omega)]
end PST
