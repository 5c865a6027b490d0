/-! PURE: what the constructor of a state makes -/
def v00 : gV := us (fun _ => 0) 5 1500
theorem v00_n {k : Int} (h : k ≠ 5) : v00 k = 0 := us_n h
theorem IvS.new : IvS 0 v00 := by
  refine ⟨⟨by rw [v00_n (by decide)]; decide, by rw [v00_n (by decide)]; decide, fun i h0 h1 => ?_, fun i h0 h1 => ?_, fun i h0 h1 => ?_⟩, ⟨by rw [v00_n (by decide)]; decide, by show (500 : Int) ≤ 1500 ∧ (1500 : Int) ≤ 3000; decide, fun i h0 h1 => ?_⟩, ⟨by rw [v00_n (by decide)]; decide, fun i h0 h1 => ?_⟩, by rw [v00_n (by decide)]; decide, by rw [v00_n (by decide)]; decide, by decide, fun p p0 p1 => ?_⟩
  · rw [v00_n (by decide)] at h1; omega
  · rw [v00_n (by decide)] at h1; omega
  · rw [v00_n (by decide)] at h1; omega
  · rw [v00_n (by decide)] at h1; omega
  · rw [v00_n (by decide)] at h1; omega
  · rw [v00_n (by decide)] at p1; omega
theorem IvZ.new : IvZ v00 := fun p k p0 p1 k0 k1 => by
  rw [v00_n (by decide)] at p0
  exact v00_n (by omega)
theorem LyC.f2 {S S' Ln Ln' : Nat → Nat} {R R' : gR} {c : Nat} (h : LyC S Ln R c) (e : ∀ q : Nat, c ≤ q → q < c + 5 → S' q = S q ∧ Ln' q = Ln q) (r : R' c = R c) : LyC S' Ln' R' c := by
  unfold LyC
  rw [r, (e c (by omega) (by omega)).1, (e (c + 1) (by omega) (by omega)).1, (e (c + 2) (by omega) (by omega)).1, (e (c + 3) (by omega) (by omega)).1, (e (c + 4) (by omega) (by omega)).1, (e (c + 1) (by omega) (by omega)).2, (e (c + 2) (by omega) (by omega)).2, (e (c + 3) (by omega) (by omega)).2, (e (c + 4) (by omega) (by omega)).2]
  exact h
theorem LyA.f2 {S S' Ln Ln' : Nat → Nat} {R R' : gR} {c : Nat} (h : LyA S Ln R c) (e : ∀ q : Nat, c ≤ q → q < c + 4 → S' q = S q ∧ Ln' q = Ln q) (r : R' c = R c) : LyA S' Ln' R' c := by
  unfold LyA
  rw [r, (e c (by omega) (by omega)).1, (e (c + 1) (by omega) (by omega)).1, (e (c + 2) (by omega) (by omega)).1, (e (c + 3) (by omega) (by omega)).1, (e (c + 1) (by omega) (by omega)).2, (e (c + 2) (by omega) (by omega)).2, (e (c + 3) (by omega) (by omega)).2]
  exact h
theorem LyB.f2 {S S' Ln Ln' : Nat → Nat} {R R' : gR} {c : Nat} (h : LyB S Ln R c) (e : ∀ q : Nat, c ≤ q → q < c + 7 → S' q = S q ∧ Ln' q = Ln q) (r : R' c = R c) : LyB S' Ln' R' c := by
  unfold LyB
  rw [r, (e c (by omega) (by omega)).1, (e (c + 1) (by omega) (by omega)).1, (e (c + 2) (by omega) (by omega)).1, (e (c + 3) (by omega) (by omega)).1, (e (c + 4) (by omega) (by omega)).1, (e (c + 5) (by omega) (by omega)).1, (e (c + 6) (by omega) (by omega)).1, (e (c + 1) (by omega) (by omega)).2, (e (c + 2) (by omega) (by omega)).2, (e (c + 3) (by omega) (by omega)).2, (e (c + 4) (by omega) (by omega)).2, (e (c + 5) (by omega) (by omega)).2, (e (c + 6) (by omega) (by omega)).2]
  exact h
theorem LyS.f2 {S S' Ln Ln' : Nat → Nat} {R R' : gR} {a : Nat} (h : LyS S Ln R a) (e : ∀ q : Nat, a ≤ q → q < a + 26 → S' q = S q ∧ Ln' q = Ln q) (r : ∀ q : Nat, a ≤ q → q < a + 26 → R' q = R q) : LyS S' Ln' R' a := by
  obtain ⟨h1, h2, h3, h4, h5, ⟨h6, h7, h8⟩, ⟨h9, h10⟩, h11, h12⟩ := h
  refine ⟨by rw [(e a (by omega) (by omega)).1]; exact h1, ?_, h3.f2 (fun q q0 q1 => e q (by omega) (by omega)) (r _ (by omega) (by omega)), h4.f2 (fun q q0 q1 => e q (by omega) (by omega)) (r _ (by omega) (by omega)), h5.f2 (fun q q0 q1 => e q (by omega) (by omega)) (r _ (by omega) (by omega)), ⟨by rw [(e (a + 17) (by omega) (by omega)).1]; exact h6, by rw [(e (a + 17) (by omega) (by omega)).2]; exact h7, fun p p0 p1 => ?_⟩, ⟨by rw [(e (a + 18) (by omega) (by omega)).1]; exact h9, by rw [(e (a + 18) (by omega) (by omega)).2]; exact h10⟩, by rw [(e (a + 19) (by omega) (by omega)).1]; exact h11, fun q hq => by rw [(e (a + 20 + q) (by omega) (by omega)).1]; exact h12 q hq⟩
  · rw [r a (by omega) (by omega)]; exact h2
  · rw [r (a + 17) (by omega) (by omega)]; exact h8 p p0 p1
section PIS
variable {ad S Ln : Nat → Nat} {R : gR} {M : gM} {a : Nat}
theorem i_L77 {S Ln : Nat → Nat} {R : gR} {M : gM} (hR3 : R a 3 = some (a + 17)) (hS : S (a + 17) = 26) (hL : Ln (a + 17) = 6) :
    ∃ S' Ln' M' R', lp (fX8_init_L77 ad a) FU (0, a + 20, S, Ln, M, R, 0) = some (.inl (a + 26, S', Ln', M', R')) ∧ (∀ q, q < a + 20 → S' q = S q ∧ Ln' q = Ln q ∧ M' q = M q) ∧ (∀ q, q < a + 20 → q ≠ a + 17 → R' q = R q) ∧ (∀ p : Nat, p < 6 → R' (a + 17) (p : Int) = some (a + 20 + p) ∧ S' (a + 20 + p) = 8 ∧ ∀ k : Int, 0 ≤ k → k < 9 → M' (a + 20 + p) k = 0) := by
  obtain ⟨r, e1, S1, Ln1, M1, R1, e2, e3, e4, e5⟩ := lp_inv0 (b := fX8_init_L77 ad a) 6
    (fun i s => s.1 = (i : Int) ∧ s.2.1 = a + 20 + i ∧ s.2.2.2.2.2.2 = i ∧ (∀ q, q < a + 20 → s.2.2.1 q = S q ∧ s.2.2.2.1 q = Ln q ∧ s.2.2.2.2.1 q = M q) ∧ (∀ q, q < a + 20 → q ≠ a + 17 → s.2.2.2.2.2.1 q = R q) ∧ (∀ p : Nat, p < i → s.2.2.2.2.2.1 (a + 17) (p : Int) = some (a + 20 + p) ∧ s.2.2.1 (a + 20 + p) = 8 ∧ ∀ k : Int, 0 ≤ k → k < 9 → s.2.2.2.2.1 (a + 20 + p) k = 0))
    (fun r => ∃ S' Ln' M' R', r = .inl (a + 26, S', Ln', M', R') ∧ (∀ q, q < a + 20 → S' q = S q ∧ Ln' q = Ln q ∧ M' q = M q) ∧ (∀ q, q < a + 20 → q ≠ a + 17 → R' q = R q) ∧ (∀ p : Nat, p < 6 → R' (a + 17) (p : Int) = some (a + 20 + p) ∧ S' (a + 20 + p) = 8 ∧ ∀ k : Int, 0 ≤ k → k < 9 → M' (a + 20 + p) k = 0))
    (s := ((0 : Int), a + 20, S, Ln, M, R, 0)) (by omega) ⟨rfl, rfl, rfl, fun _ _ => ⟨rfl, rfl, rfl⟩, fun _ _ _ => rfl, fun p hp => absurd hp (Nat.not_lt_zero _)⟩
    (fun i s hi hs => by
      obtain ⟨s1, s2, s3, s4, s5, s6⟩ := hs
      left
      have h17 := s4 (a + 17) (by omega)
      have ha3 : s.2.2.2.2.2.1 a 3 = some (a + 17) := by rw [s5 a (by omega) (by omega)]; exact hR3
      obtain ⟨M2, g1, g2, g3⟩ := i_G (ad := ad) (S := ua s.2.2.1 (a + 20 + i) 8) (Ln := ua s.2.2.2.1 (a + 20 + i) 0) (R := ua s.2.2.2.2.2.1 (a + 20 + i) gNo) (M := ua s.2.2.2.2.1 (a + 20 + i) (gN 8)) (c := a + 20 + i)
      unfold fX8_init_L77
      rw [s1, s2, s3, gd_t (by omega), if_neg (by omega), rf_o ha3 (h17.1.trans hS), nam_d, nam_d, nam_d, nam_d, g1, bd_s, ua_n (show a + 17 ≠ a + 20 + i by omega), h17.2.1, hL, gd_t (by omega), nam_d, w32_i (by omega) (by omega)]
      refine ⟨_, rfl, ?_, ?_, rfl, fun q hq => ⟨?_, ?_, ?_⟩, fun q hq hq' => ?_, fun p hp => ⟨?_, ?_, fun k k0 k1 => ?_⟩⟩
      · show (i : Int) + 1 = ((i + 1 : Nat) : Int); omega
      · show a + 20 + i + 1 = a + 20 + (i + 1); omega
      · show ua s.2.2.1 (a + 20 + i) 8 q = _
        rw [ua_n (by omega)]; exact (s4 q hq).1
      · show ua s.2.2.2.1 (a + 20 + i) 0 q = _
        rw [ua_n (by omega)]; exact (s4 q hq).2.1
      · show M2 q = _
        rw [g3 q (by omega), ua_n (by omega)]; exact (s4 q hq).2.2
      · show wrR (ua s.2.2.2.2.2.1 (a + 20 + i) gNo) (a + 17) (i : Int) (some (a + 20 + i)) q = _
        unfold wrR
        rw [ua_n hq', ua_n (by omega)]; exact s5 q hq hq'
      · show wrR (ua s.2.2.2.2.2.1 (a + 20 + i) gNo) (a + 17) (i : Int) (some (a + 20 + i)) (a + 17) (p : Int) = _
        unfold wrR
        rw [ua_s]
        by_cases e : p = i
        · rw [e, us_s]
        · rw [us_n (by omega), ua_n (by omega)]; exact (s6 p (by omega)).1
      · show ua s.2.2.1 (a + 20 + i) 8 (a + 20 + p) = 8
        by_cases e : p = i
        · rw [e, ua_s]
        · rw [ua_n (by omega)]; exact (s6 p (by omega)).2.1
      · show M2 (a + 20 + p) k = 0
        by_cases e : p = i
        · rw [e]; exact g2 k k0 k1
        · rw [g3 _ (by omega), ua_n (by omega)]; exact (s6 p (by omega)).2.2 k k0 k1)
    (fun s hs => by
      obtain ⟨s1, s2, s3, s4, s5, s6⟩ := hs
      unfold fX8_init_L77
      rw [s1, s3, gd_t (by decide), if_pos (by decide)]
      exact ⟨_, rfl, s.2.2.1, s.2.2.2.1, s.2.2.2.2.1, s.2.2.2.2.2.1, by rw [s2], s4, s5, s6⟩)
  exact ⟨S1, Ln1, M1, R1, by rw [e1, e2], e3, e4, e5⟩
end PIS
