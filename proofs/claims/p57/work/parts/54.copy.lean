/-! PURE: a state copied; the history -/
theorem RpS.fr {M M' : gM} {a : Nat} {v : gV} (h : RpS M a v) (e : ∀ q : Nat, a ≤ q → q < a + 26 → M' q = M q) : v 4 ≤ 6 → RpS M' a v := fun h6 =>
  ⟨h.1.fr fun q q0 q1 => e q (by omega) (by omega), h.2.1.fr fun q q0 q1 => e q (by omega) (by omega), h.2.2.1.fr fun q q0 q1 => e q (by omega) (by omega), by rw [e a (by omega) (by omega)]; exact h.2.2.2.1, by rw [e a (by omega) (by omega)]; exact h.2.2.2.2.1,
    fun p p0 p1 => (h.2.2.2.2.2.1 p p0 p1).fr (e _ (by omega) (by omega)), fun q hq => by rw [e _ (by omega) (by omega)]; exact h.2.2.2.2.2.2 q hq⟩
theorem LyC.fr {S Ln : Nat → Nat} {R R' : gR} {c : Nat} (h : LyC S Ln R c) (e : ∀ q : Nat, c ≤ q → q < c + 5 → R' q = R q) : LyC S Ln R' c := by
  unfold LyC
  rw [e c (by omega) (by omega)]
  exact h
theorem LyA.fr {S Ln : Nat → Nat} {R R' : gR} {c : Nat} (h : LyA S Ln R c) (e : ∀ q : Nat, c ≤ q → q < c + 4 → R' q = R q) : LyA S Ln R' c := by
  unfold LyA
  rw [e c (by omega) (by omega)]
  exact h
theorem LyB.fr {S Ln : Nat → Nat} {R R' : gR} {c : Nat} (h : LyB S Ln R c) (e : ∀ q : Nat, c ≤ q → q < c + 7 → R' q = R q) : LyB S Ln R' c := by
  unfold LyB
  rw [e c (by omega) (by omega)]
  exact h
theorem LyS.fr {S Ln : Nat → Nat} {R R' : gR} {a : Nat} (h : LyS S Ln R a) (e : ∀ q : Nat, a ≤ q → q < a + 26 → R' q = R q) : LyS S Ln R' a := by
  obtain ⟨h1, h2, h3, h4, h5, ⟨h6, h7, h8⟩, h9⟩ := h
  refine ⟨h1, ?_, h3.fr fun q q0 q1 => e q (by omega) (by omega), h4.fr fun q q0 q1 => e q (by omega) (by omega), h5.fr fun q q0 q1 => e q (by omega) (by omega), ⟨h6, h7, fun p p0 p1 => ?_⟩, h9⟩
  · rw [e a (by omega) (by omega)]; exact h2
  · rw [e (a + 17) (by omega) (by omega)]; exact h8 p p0 p1
section PCC
variable {ad S Ln : Nat → Nat} {R : gR} {M : gM} {a c : Nat} {v : gV} {b : Int}
theorem c_copy (hL : LyC S Ln R a) (hLc : LyC S Ln R c) (hR : RpC M c v) (hC : IvC v) (hd : a + 5 ≤ c ∨ c + 5 ≤ a) : ∃ M', fX2_copyFrom ad S Ln R M a c = some M' ∧ RpC M' a v ∧ ∀ q, q < a ∨ a + 5 ≤ q → M' q = M q := by
  obtain ⟨⟨s0, s1, s2, s3, s4⟩, ⟨n1, n2, n3, n4⟩, r0, r1, r3, r4⟩ := hL
  obtain ⟨⟨s0', s1', s2', s3', s4'⟩, ⟨n1', n2', n3', n4'⟩, r0', r1', r3', r4'⟩ := hLc
  have i8 := hC.1
  have i6 := hC.2.1
  unfold fX2_copyFrom
  rw [rf_o r0' s1', rf_o r0 s1, gd_t (by rw [n1, n1']; decide), nam_d, rf_o r1' s2', rf_o r1 s2, gd_t (by rw [n2, n2']; decide), nam_d, nam_d, rf_o r3' s3', rf_o r3 s3, gd_t (by rw [n3, n3']; decide), nam_d, rf_o r4' s4', rf_o r4 s4, gd_t (by rw [n4, n4']; decide), nam_d, nam_d]
  refine ⟨_, rfl, ⟨?_, ?_, fun i h0 h1 => ⟨?_, ?_⟩, fun i h0 h1 => ?_, fun i h0 h1 => ?_⟩, fun q hq => ?_⟩
  · rw [wr_k (by decide), cpy_a (by omega), cpy_a (by omega), wr_s, cpy_a (by omega), cpy_a (by omega)]; exact hR.1
  · rw [wr_s, cpy_a (by omega), cpy_a (by omega), wr_a (by omega), cpy_a (by omega), cpy_a (by omega)]; exact hR.2.1
  · rw [wr_a (by omega), cpy_a (by omega), cpy_a (by omega), wr_a (by omega), cpy_a (by omega), cpy_s h0 (by omega)]; exact (hR.2.2.1 i h0 h1).1
  · rw [wr_a (by omega), cpy_a (by omega), cpy_a (by omega), wr_a (by omega), cpy_s h0 (by omega), cpy_a (by omega)]; exact (hR.2.2.1 i h0 h1).2
  · rw [wr_a (by omega), cpy_a (by omega), cpy_s h0 (by omega), wr_a (by omega), cpy_a (by omega), cpy_a (by omega)]; exact hR.2.2.2.1 i h0 h1
  · rw [wr_a (by omega), cpy_s h0 (by omega), cpy_a (by omega), wr_a (by omega), cpy_a (by omega), cpy_a (by omega)]; exact hR.2.2.2.2 i h0 h1
  · rw [wr_a (by omega), cpy_a (by omega), cpy_a (by omega), wr_a (by omega), cpy_a (by omega), cpy_a (by omega)]
theorem a_copy (hL : LyA S Ln R a) (hLc : LyA S Ln R c) (hR : RpA M c v) (hA : IvA v) (hd : a + 4 ≤ c ∨ c + 4 ≤ a) : ∃ M', fX0_copyFrom ad S Ln R M a c = some M' ∧ RpA M' a v ∧ ∀ q, q < a ∨ a + 4 ≤ q → M' q = M q := by
  obtain ⟨⟨s0, s1, s2, s3⟩, ⟨n1, n2, n3⟩, r0, r1, r2⟩ := hL
  obtain ⟨⟨s0', s1', s2', s3'⟩, ⟨n1', n2', n3'⟩, r0', r1', r2'⟩ := hLc
  have i6 := hA.1
  unfold fX0_copyFrom
  rw [rf_o r0' s1', rf_o r0 s1, gd_t (by rw [n1, n1']; decide), nam_d, rf_o r1' s2', rf_o r1 s2, gd_t (by rw [n2, n2']; decide), nam_d, rf_o r2' s3', rf_o r2 s3, gd_t (by rw [n3, n3']; decide), nam_d, nam_d, nam_d]
  refine ⟨_, rfl, ⟨?_, ?_, fun i h0 h1 => ⟨?_, ?_, ?_⟩⟩, fun q hq => ?_⟩
  · rw [wr_k (by decide), wr_s, cpy_a (by omega), cpy_a (by omega), cpy_a (by omega)]; exact hR.1
  · rw [wr_s, wr_a (by omega), cpy_a (by omega), cpy_a (by omega), cpy_a (by omega)]; exact hR.2.1
  · rw [wr_a (by omega), wr_a (by omega), cpy_a (by omega), cpy_a (by omega), cpy_s h0 (by omega)]; exact (hR.2.2 i h0 h1).1
  · rw [wr_a (by omega), wr_a (by omega), cpy_a (by omega), cpy_s h0 (by omega), cpy_a (by omega)]; exact (hR.2.2 i h0 h1).2.1
  · rw [wr_a (by omega), wr_a (by omega), cpy_s h0 (by omega), cpy_a (by omega), cpy_a (by omega)]; exact (hR.2.2 i h0 h1).2.2
  · rw [wr_a (by omega), wr_a (by omega), cpy_a (by omega), cpy_a (by omega), cpy_a (by omega)]
theorem b_copy (hL : LyB S Ln R a) (hLc : LyB S Ln R c) (hR : RpB M c v) (hB : IvB v) (hd : a + 7 ≤ c ∨ c + 7 ≤ a) : ∃ M', fX1_copyFrom ad S Ln R M a c = some M' ∧ RpB M' a v ∧ ∀ q, q < a ∨ a + 7 ≤ q → M' q = M q := by
  obtain ⟨⟨s0, s1, s2, s3, s4, s5, s6⟩, ⟨n1, n2, n3, n4, n5, n6⟩, r0, r1, r2, r3, r5, r6⟩ := hL
  obtain ⟨⟨s0', s1', s2', s3', s4', s5', s6'⟩, ⟨n1', n2', n3', n4', n5', n6'⟩, r0', r1', r2', r3', r5', r6'⟩ := hLc
  have i6 := hB.1
  unfold fX1_copyFrom
  rw [rf_o r0' s1', rf_o r0 s1, gd_t (by rw [n1, n1']; decide), nam_d, rf_o r1' s2', rf_o r1 s2, gd_t (by rw [n2, n2']; decide), nam_d, rf_o r2' s3', rf_o r2 s3, gd_t (by rw [n3, n3']; decide), nam_d, rf_o r3' s4', rf_o r3 s4, gd_t (by rw [n4, n4']; decide), nam_d, nam_d]
  refine ⟨_, rfl, ⟨?_, fun i h0 h1 => ⟨?_, ?_, ?_, ?_⟩⟩, fun q hq => ?_⟩
  · rw [wr_s, cpy_a (by omega), cpy_a (by omega), cpy_a (by omega), cpy_a (by omega)]; exact hR.1
  · rw [wr_a (by omega), cpy_a (by omega), cpy_a (by omega), cpy_a (by omega), cpy_s h0 (by omega)]; exact (hR.2 i h0 h1).1
  · rw [wr_a (by omega), cpy_a (by omega), cpy_a (by omega), cpy_s h0 (by omega), cpy_a (by omega)]; exact (hR.2 i h0 h1).2.1
  · rw [wr_a (by omega), cpy_a (by omega), cpy_s h0 (by omega), cpy_a (by omega), cpy_a (by omega)]; exact (hR.2 i h0 h1).2.2.1
  · rw [wr_a (by omega), cpy_s h0 (by omega), cpy_a (by omega), cpy_a (by omega), cpy_a (by omega)]; exact (hR.2 i h0 h1).2.2.2
  · rw [wr_a (by omega), cpy_a (by omega), cpy_a (by omega), cpy_a (by omega), cpy_a (by omega)]
theorem f_copy (hL : LyS S Ln R a) (hLc : LyS S Ln R c) (hR : RpS M c v) (hI : IvS b v) (hd : a + 26 ≤ c ∨ c + 26 ≤ a) : ∃ M', fX8_copyFrom ad S Ln R M a c = some M' ∧ RpS M' a v ∧ ∀ q, q < a ∨ a + 26 ≤ q → M' q = M q := by
  have hp := hI.2.2.2.1
  unfold fX8_copyFrom
  obtain ⟨M1, a1, a2, a3⟩ := c_copy (ad := ad) hL.2.2.1 hLc.2.2.1 hR.1 hI.1 (by omega)
  obtain ⟨M2, b1, b2, b3⟩ := a_copy (ad := ad) (M := M1) hL.2.2.2.1 hLc.2.2.2.1 (hR.2.1.fr fun q q0 q1 => a3 q (by omega)) hI.2.1 (by omega)
  obtain ⟨M3, c1, c2, c3⟩ := b_copy (ad := ad) (M := M2) hL.2.2.2.2.1 hLc.2.2.2.2.1 (hR.2.2.1.fr fun q q0 q1 => by rw [b3 q (by omega), a3 q (by omega)]) hI.2.2.1 (by omega)
  rw [s_c hL, s_c hLc, a1, bd_s, s_a hL, s_a hLc, b1, bd_s, s_b hL, s_b hLc, c1, bd_s]
  have hf : ∀ q, q < a + 1 ∨ a + 17 ≤ q → M3 q = M q := fun q hq => by rw [c3 q (by omega), b3 q (by omega), a3 q (by omega)]
  have hC3 : RpC M3 (a + 1) v := a2.fr fun q q0 q1 => by rw [c3 q (by omega), b3 q (by omega)]
  have hA3 : RpA M3 (a + 6) v := b2.fr fun q q0 q1 => by rw [c3 q (by omega)]
  obtain ⟨r, e1, M4, e2, e3, e4⟩ := lp_inv0 (b := fX8_copyFrom_L35 ad S Ln R a c) 6
    (fun i s => s.1 = (i : Int) ∧ (∀ p : Nat, p < i → ∀ k : Int, 0 ≤ k → k < 9 → s.2 (a + 20 + p) k = M (c + 20 + p) k) ∧ ∀ q, q < a + 20 ∨ a + 26 ≤ q → s.2 q = M3 q)
    (fun r => ∃ M', r = .inl M' ∧ (∀ p : Nat, p < 6 → ∀ k : Int, 0 ≤ k → k < 9 → M' (a + 20 + p) k = M (c + 20 + p) k) ∧ ∀ q, q < a + 20 ∨ a + 26 ≤ q → M' q = M3 q)
    (s := ((0 : Int), M3)) (by omega) ⟨rfl, fun p hp => absurd hp (Nat.not_lt_zero _), fun _ _ => rfl⟩
    (fun i s hi hs => by
      obtain ⟨s1, s2, s3⟩ := hs
      left
      have hsrc : s.2 (c + 20 + i) = M (c + 20 + i) := by rw [s3 _ (by omega), hf _ (by omega)]
      obtain ⟨M5, g1, g2, g3⟩ := g_copy (ad := ad) (S := S) (Ln := Ln) (R := R) (a := a + 20 + i) (b := c + 20 + i) (M := s.2) (by omega) (by rw [hsrc]; exact hR.2.2.2.2.2.2 i hi)
      unfold fX8_copyFrom_L35
      rw [s1, if_neg (by omega), s_g hL (by omega) (by omega), s_g hLc (by omega) (by omega), Int.toNat_natCast, g1, bd_s]
      refine ⟨_, rfl, ?_, fun p hp k k0 k1 => ?_, fun q hq => ?_⟩
      · show w32 ((i : Int) + 1) = _
        rw [w32_i (by omega) (by omega)]; omega
      · show M5 (a + 20 + p) k = _
        by_cases e : p = i
        · rw [e, g2 k k0 k1, hsrc]
        · rw [g3 _ (by omega)]; exact s2 p (by omega) k k0 k1
      · show M5 q = _
        rw [g3 q (by omega)]; exact s3 q hq)
    (fun s hs => by
      obtain ⟨s1, s2, s3⟩ := hs
      unfold fX8_copyFrom_L35
      rw [s1, if_pos (by omega)]
      exact ⟨_, rfl, s.2, rfl, s2, s3⟩)
  rw [e1, bd_s, e2, se_l, nam_d, nam_d]
  have k4 : M4 c 4 = v 4 := by rw [e4 c (by omega), hf c (by omega)]; exact hR.2.2.2.1
  have k5 : M4 c 5 = v 6 := by rw [e4 c (by omega), hf c (by omega)]; exact hR.2.2.2.2.1
  rw [wr_a (show c ≠ a by omega), k4, k5]
  have hfin : ∀ q, q ≠ a → wr (wr M4 a 4 (v 4)) a 5 (v 6) q = M4 q := fun q hq => by rw [wr_a hq, wr_a hq]
  refine ⟨_, rfl, ⟨hC3.fr fun q q0 q1 => by rw [hfin q (by omega), e4 q (by omega)], hA3.fr fun q q0 q1 => by rw [hfin q (by omega), e4 q (by omega)], c2.fr fun q q0 q1 => by rw [hfin q (by omega), e4 q (by omega)], ?_, wr_s, fun p p0 p1 k k0 k1 => ?_, fun q hq => ?_⟩, fun q hq => ?_⟩
  · rw [wr_k (by decide), wr_s]
  · rw [hfin _ (by omega), e3 p.toNat (by omega) k k0 k1]
    exact hR.2.2.2.2.2.1 p p0 p1 k k0 k1
  · rw [hfin _ (by omega), e3 q hq 1 (by decide) (by decide)]
    exact hR.2.2.2.2.2.2 q hq
  · rw [hfin q (by omega), e4 q (by omega), hf q (by omega)]
end PCC
/-- the history -/
def LyH (S Ln : Nat → Nat) (R : gR) (h : Nat) (π : Int → Nat) : Prop := S h = 9 ∧ S (h + 1) = 27 ∧ Ln (h + 1) = 8 ∧ R h 0 = some (h + 1) ∧ (∀ q : Int, 0 ≤ q → q < 8 → R (h + 1) q = some (π q) ∧ LyS S Ln R (π q) ∧ h + 2 ≤ π q ∧ π q + 26 ≤ h + 210) ∧ ∀ q q' : Int, 0 ≤ q → q < 8 → 0 ≤ q' → q' < 8 → q ≠ q' → π q + 26 ≤ π q' ∨ π q' + 26 ≤ π q
def RpH (M : gM) (h : Nat) (π : Int → Nat) (n : Int) (w : Int → gV) : Prop := M h 1 = n ∧ ∀ q : Int, 0 ≤ q → q < n → RpS M (π q) (w q)
def rotP (π : Int → Nat) : Int → Nat := fun q => if q = 7 then π 0 else π (q + 1)
section PHI
variable {ad S Ln : Nat → Nat} {R : gR} {M : gM} {a h : Nat} {π : Int → Nat} {v : gV} {b n : Int} {w : Int → gV}
theorem h_B13 (hL : LyH S Ln R h π) (hLa : LyS S Ln R a) (hd : a + 26 ≤ h ∨ h + 210 ≤ a) (hR : RpS M a v) (hI : IvS b v) (hH : RpH M h π n w) (hIw : ∀ q, 0 ≤ q → q < n → w q 4 ≤ 6) (n0 : 0 ≤ n) (n8 : n < 8) : ∃ M', fX4_keep_B13 ad S Ln R M h a = some (M', R) ∧ RpH M' h π (n + 1) (fun q => if q = n then v else w q) ∧ ∀ q, q < h ∨ h + 210 ≤ q → M' q = M q := by
  obtain ⟨s0, s1, l1, r0, ra, rd⟩ := hL
  obtain ⟨rn, ln, p0, p1⟩ := ra n n0 n8
  obtain ⟨M1, e1, e2, e3⟩ := f_copy (ad := ad) ln hLa hR hI (by omega)
  unfold fX4_keep_B13
  rw [rf_o r0 s1, hH.1, gd_t (by rw [l1]; omega), rf_o rn ln.1, e1, bd_s, nam_d, e3 h (by omega), hH.1, w32_i (by omega) (by omega)]
  have hf : ∀ q, q ≠ h → wr M1 h 1 (n + 1) q = M1 q := fun q hq => wr_a hq
  refine ⟨_, rfl, ⟨wr_s, fun q q0 q1 => ?_⟩, fun q hq => by rw [hf q (by omega), e3 q (by omega)]⟩
  by_cases e : q = n
  · rw [e]
    show RpS _ (π n) (if n = n then v else w n)
    rw [if_pos rfl]
    exact e2.fr (fun x x0 x1 => hf x (by omega)) hI.2.2.2.1.2
  · show RpS _ (π q) (if q = n then v else w q)
    rw [if_neg e]
    obtain ⟨_, _, p2, p3⟩ := ra q q0 (by omega)
    have := rd q n q0 (by omega) n0 n8 e
    exact (hH.2 q q0 (by omega)).fr (fun x x0 x1 => by rw [hf x (by omega), e3 x (by omega)]) (hIw q q0 (by omega))
theorem h_drop (hL : LyH S Ln R h π) : ∃ R', fX4_dropOldest ad S Ln R M h = some (wr M h 1 7, R') ∧ LyH S Ln R' h (rotP π) ∧ ∀ q, q ≠ h + 1 → R' q = R q := by
  obtain ⟨s0, s1, l1, r0, ra, rd⟩ := hL
  have ra0 := ra 0 (by decide) (by decide)
  unfold fX4_dropOldest
  rw [rf_o r0 s1, gd_t (by rw [l1]; decide), rf_o ra0.1 ra0.2.1.1]
  obtain ⟨r, e1, R2, e2, e3, e4⟩ := lp_inv0 (b := fX4_dropOldest_L9 ad S Ln h (π 0)) 7
    (fun i s => s.1 = 1 + (i : Int) ∧ s.2.1 = M ∧ (∀ q : Int, 0 ≤ q → q < 8 → s.2.2 (h + 1) q = if q < i then some (π (q + 1)) else some (π q)) ∧ ∀ q, q ≠ h + 1 → s.2.2 q = R q)
    (fun r => ∃ R', r = .inl (M, R') ∧ (∀ q : Int, 0 ≤ q → q < 8 → R' (h + 1) q = if q < 7 then some (π (q + 1)) else some (π q)) ∧ ∀ q, q ≠ h + 1 → R' q = R q)
    (s := ((1 : Int), M, R)) (by omega) ⟨rfl, rfl, fun q q0 q1 => by rw [if_neg (by omega)]; exact (ra q q0 q1).1, fun _ _ => rfl⟩
    (fun i s hi hs => by
      obtain ⟨t1, t2, t3, t4⟩ := hs
      left
      have hri : s.2.2 (h + 1) (1 + (i : Int)) = some (π (1 + (i : Int))) := by rw [t3 _ (by omega) (by omega), if_neg (by omega)]
      have hsi := (ra (1 + (i : Int)) (by omega) (by omega)).2.1.1
      have hr0 : s.2.2 h 0 = some (h + 1) := by rw [t4 h (by omega)]; exact r0
      unfold fX4_dropOldest_L9
      rw [t1, if_neg (by omega), rf_o hr0 s1, rf_o hr0 s1, gd_t (by rw [l1]; omega), rf_o hri hsi, w32_i (by omega) (by omega), gd_t (by rw [l1]; omega), nam_d]
      refine ⟨_, rfl, ?_, t2, fun q q0 q1 => ?_, fun q hq => ?_⟩
      · show w32 (1 + (i : Int) + 1) = _
        rw [w32_i (by omega) (by omega)]; omega
      · show wrR s.2.2 (h + 1) (1 + (i : Int) - 1) (some (π (1 + (i : Int)))) (h + 1) q = _
        unfold wrR
        by_cases e : q = (i : Int)
        · rw [e, show (1 + (i : Int) - 1) = (i : Int) by omega, ua_s, us_s, if_pos (by omega), show (i : Int) + 1 = 1 + (i : Int) by omega]
        · rw [ua_s, us_n (by omega), t3 q q0 q1]
          by_cases e' : q < (i : Int)
          · rw [if_pos e', if_pos (by omega)]
          · rw [if_neg e', if_neg (by omega)]
      · show wrR s.2.2 (h + 1) (1 + (i : Int) - 1) (some (π (1 + (i : Int)))) q = _
        unfold wrR
        rw [ua_n hq]; exact t4 q hq)
    (fun s hs => by
      obtain ⟨t1, t2, t3, t4⟩ := hs
      unfold fX4_dropOldest_L9
      rw [t1, if_pos (by omega)]
      exact ⟨_, rfl, s.2.2, by rw [t2], t3, t4⟩)
  have hr2 : R2 h 0 = some (h + 1) := by rw [e4 h (by omega)]; exact r0
  rw [e1, bd_s, e2, se_l, rf_o hr2 s1, gd_t (by rw [l1]; decide), nam_d, nam_d]
  have hw : ∀ q, q ≠ h + 1 → wrR R2 (h + 1) 7 (some (π 0)) q = R q := fun q hq => by
    unfold wrR
    rw [ua_n hq]; exact e4 q hq
  refine ⟨_, rfl, ⟨s0, s1, l1, by rw [hw h (by omega)]; exact r0, fun q q0 q1 => ?_, fun q q' q0 q1 q0' q1' hne => ?_⟩, hw⟩
  · have hq : ∃ j : Int, rotP π q = π j ∧ 0 ≤ j ∧ j < 8 ∧ wrR R2 (h + 1) 7 (some (π 0)) (h + 1) q = some (π j) := by
      unfold wrR rotP
      rw [ua_s]
      by_cases e : q = 7
      · exact ⟨0, if_pos e, by decide, by decide, by rw [e, us_s]⟩
      · exact ⟨q + 1, if_neg e, by omega, by omega, by rw [us_n e, e3 q q0 q1, if_pos (by omega)]⟩
    obtain ⟨j, j1, j2, j3, j4⟩ := hq
    obtain ⟨k1, k2, k3, k4⟩ := ra j j2 j3
    rw [j1]
    exact ⟨j4, k2.fr (fun x x0 x1 => hw x (by omega)), k3, k4⟩
  · unfold rotP
    by_cases e : q = 7
    · rw [if_pos e, if_neg (by omega)]
      exact rd 0 (q' + 1) (by decide) (by decide) (by omega) (by omega) (by omega)
    · by_cases e' : q' = 7
      · rw [if_neg e, if_pos e']
        exact rd (q + 1) 0 (by omega) (by omega) (by decide) (by decide) (by omega)
      · rw [if_neg e, if_neg e']
        exact rd (q + 1) (q' + 1) (by omega) (by omega) (by omega) (by omega) (by omega)
/-- the rows after one more is kept -/
def kpN (n : Int) : Int := if n < 8 then n + 1 else 8
def kpW (n : Int) (w : Int → gV) (v : gV) : Int → gV := if n < 8 then (fun q => if q = n then v else w q) else (fun q => if q = 7 then v else w (q + 1))
theorem h_keep (hL : LyH S Ln R h π) (hLa : LyS S Ln R a) (hd : a + 26 ≤ h ∨ h + 210 ≤ a) (hR : RpS M a v) (hI : IvS b v) (hH : RpH M h π n w) (hIw : ∀ q, 0 ≤ q → q < n → w q 4 ≤ 6) (n0 : 0 ≤ n) (n8 : n ≤ 8) :
    ∃ M' R' π', fX4_keep ad S Ln R M h a = some (M', R') ∧ LyH S Ln R' h π' ∧ RpH M' h π' (kpN n) (kpW n w v) ∧ (∀ q, q ≠ h + 1 → R' q = R q) ∧ ∀ q, q < h ∨ h + 210 ≤ q → M' q = M q := by
  unfold fX4_keep kpN kpW
  rw [hH.1]
  by_cases h8 : n < 8
  · obtain ⟨M', e1, e2, e3⟩ := h_B13 (ad := ad) hL hLa hd hR hI hH hIw n0 h8
    rw [if_pos h8, if_pos h8, if_pos h8]
    exact ⟨M', R, π, e1, hL, e2, fun _ _ => rfl, e3⟩
  · obtain ⟨R1, d1, d2, d3⟩ := h_drop (ad := ad) (M := M) hL
    have hLa' : LyS S Ln R1 a := hLa.fr fun q q0 q1 => d3 q (by omega)
    have hf : ∀ q, q ≠ h → wr M h 1 7 q = M q := fun q hq => wr_a hq
    have hH1 : RpH (wr M h 1 7) h (rotP π) 7 (fun q => w (q + 1)) := by
      refine ⟨wr_s, fun q q0 q1 => ?_⟩
      have hk := hL.2.2.2.2.1 (q + 1) (by omega) (by omega)
      unfold rotP
      rw [if_neg (by omega)]
      exact (hH.2 (q + 1) (by omega) (by omega)).fr (fun x x0 x1 => hf x (by omega)) (hIw (q + 1) (by omega) (by omega))
    obtain ⟨M', e1, e2, e3⟩ := h_B13 (ad := ad) d2 hLa' hd (hR.fr (fun x x0 x1 => hf x (by omega)) hI.2.2.2.1.2) hI hH1 (fun q q0 q1 => hIw (q + 1) (by omega) (by omega)) (by decide) (by decide)
    rw [if_neg h8, if_neg h8, if_neg h8, d1, bd_s]
    exact ⟨M', R1, rotP π, e1, d2, e2, d3, fun q hq => by rw [e3 q hq, hf q (by omega)]⟩
end PHI
