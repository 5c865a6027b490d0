/-! PURE: a new state -/
section PI2
variable {ad S Ln : Nat → Nat} {R : gR} {M : gM} {a : Nat}
theorem i_S (h : S a = 11) : ∃ S' Ln' M' R', fX8_init ad (a + 1) S Ln R M a = some (a + 26, S', Ln', M', R') ∧ LyS S' Ln' R' a ∧ RpS M' a v00 ∧ BL S S' Ln Ln' M M' R R' a := by
  obtain ⟨S2, Ln2, M2, R2, e1, hC, mC, bS1, bM1⟩ := i_C (ad := ad) (S := ua S (a + 1) 7) (Ln := ua Ln (a + 1) 0) (R := ua R (a + 1) gNo) (M := ua M (a + 1) (gN 7)) (c := a + 1) ua_s
  rw [show a + 1 + 5 = a + 6 by omega] at e1
  generalize hR3 : wrR R2 a 0 (some (a + 1)) = R3
  obtain ⟨S5, Ln5, M5, R5, e2, hA, mA, bS2, bM2⟩ := i_A (ad := ad) (S := ua S2 (a + 6) 5) (Ln := ua Ln2 (a + 6) 0) (R := ua R3 (a + 6) gNo) (M := ua M2 (a + 6) (gN 5)) (c := a + 6) ua_s
  rw [show a + 6 + 4 = a + 10 by omega] at e2
  generalize hR6 : wrR R5 a 1 (some (a + 6)) = R6
  obtain ⟨S8, Ln8, M8, R8, e3, hB, mB, bS3, bM3⟩ := i_B (ad := ad) (S := ua S5 (a + 10) 6) (Ln := ua Ln5 (a + 10) 0) (R := ua R6 (a + 10) gNo) (M := ua M5 (a + 10) (gN 6)) (c := a + 10) ua_s
  rw [show a + 10 + 7 = a + 17 by omega] at e3
  generalize hR9 : wrR R8 a 2 (some (a + 10)) = R9
  generalize hS10 : ua S8 (a + 17) 26 = S10
  generalize hL10 : ua Ln8 (a + 17) (6 : Int).toNat = Ln10
  generalize hM10 : ua M8 (a + 17) gNz = M10
  generalize hR11 : wrR (ua R9 (a + 17) gNo) a 3 (some (a + 17)) = R11
  generalize hM13 : wr (wr M10 a 4 0) a 5 0 = M13
  generalize hS14 : ua S10 (a + 17 + 1) 21 = S14
  generalize hL14 : ua Ln10 (a + 17 + 1) (6 : Int).toNat = Ln14
  generalize hM14 : ua M13 (a + 17 + 1) gNz = M14
  generalize hR15 : wrR (ua R11 (a + 17 + 1) gNo) a 6 (some (a + 17 + 1)) = R15
  generalize hS16 : ua S14 (a + 17 + 1 + 1) 8 = S16
  generalize hL16 : ua Ln14 (a + 17 + 1 + 1) 0 = Ln16
  generalize hM16 : ua M14 (a + 17 + 1 + 1) (gN 8) = M16
  generalize hR16 : ua R15 (a + 17 + 1 + 1) gNo = R16
  obtain ⟨M17, g1, g2, g3⟩ := i_G (ad := ad) (S := S16) (Ln := Ln16) (R := R16) (M := M16) (c := a + 17 + 1 + 1)
  generalize hR18 : wrR R16 a 7 (some (a + 17 + 1 + 1)) = R18
  have kS : ∀ q, q < a + 17 → S16 q = S8 q ∧ Ln16 q = Ln8 q := fun q hq => by
    rw [← hS16, ← hS14, ← hS10, ← hL16, ← hL14, ← hL10, ua_n (by omega), ua_n (by omega), ua_n (by omega), ua_n (by omega), ua_n (by omega), ua_n (by omega)]
    exact ⟨rfl, rfl⟩
  have kM : ∀ q, q < a + 17 → q ≠ a → M17 q = M8 q ∧ R18 q = R8 q := fun q hq hq' => by
    constructor
    · rw [g3 q (by omega), ← hM16, ua_n (by omega), ← hM14, ua_n (by omega), ← hM13, wr_a hq', wr_a hq', ← hM10, ua_n (by omega)]
    · rw [← hR18]
      unfold wrR
      rw [ua_n hq', ← hR16, ua_n (by omega), ← hR15]
      unfold wrR
      rw [ua_n hq', ua_n (by omega), ← hR11]
      unfold wrR
      rw [ua_n hq', ua_n (by omega), ← hR9]
      unfold wrR
      rw [ua_n hq']
  have kS8 : ∀ q, q < a + 10 → S8 q = S5 q ∧ Ln8 q = Ln5 q := fun q hq => by
    rw [(bS3 q (by omega)).1, (bS3 q (by omega)).2, ua_n (by omega), ua_n (by omega)]
    exact ⟨rfl, rfl⟩
  have kM8 : ∀ q, q < a + 10 → q ≠ a → M8 q = M5 q ∧ R8 q = R5 q := fun q hq hq' => by
    rw [(bM3 q hq).1, (bM3 q hq).2, ua_n (by omega), ua_n (by omega), ← hR6]
    unfold wrR
    rw [ua_n hq']
    exact ⟨rfl, rfl⟩
  have kS5 : ∀ q, q < a + 6 → S5 q = S2 q ∧ Ln5 q = Ln2 q := fun q hq => by
    rw [(bS2 q (by omega)).1, (bS2 q (by omega)).2, ua_n (by omega), ua_n (by omega)]
    exact ⟨rfl, rfl⟩
  have kM5 : ∀ q, q < a + 6 → q ≠ a → M5 q = M2 q ∧ R5 q = R2 q := fun q hq hq' => by
    rw [(bM2 q hq).1, (bM2 q hq).2, ua_n (by omega), ua_n (by omega), ← hR3]
    unfold wrR
    rw [ua_n hq']
    exact ⟨rfl, rfl⟩
  have kR5 : ∀ k, R5 a k = us (R2 a) 0 (some (a + 1)) k := fun k => by
    rw [(bM2 a (by omega)).2, ua_n (by omega), ← hR3]
    unfold wrR
    rw [ua_s]
  have kR8 : ∀ k, R8 a k = us (R5 a) 1 (some (a + 6)) k := fun k => by
    rw [(bM3 a (by omega)).2, ua_n (by omega), ← hR6]
    unfold wrR
    rw [ua_s]
  have kR18 : ∀ k, R18 a k = us (us (us (us (R8 a) 2 (some (a + 10))) 3 (some (a + 17))) 6 (some (a + 17 + 1))) 7 (some (a + 17 + 1 + 1)) k := fun k => by
    rw [← hR18]
    unfold wrR
    rw [ua_s, ← hR16, ua_n (by omega), ← hR15]
    unfold wrR
    rw [ua_s, ua_n (by omega), ← hR11]
    unfold wrR
    rw [ua_s, ua_n (by omega), ← hR9]
    unfold wrR
    rw [ua_s]
  have kMa : ∀ k, M17 a k = us (us (M8 a) 4 0) 5 0 k := fun k => by
    rw [g3 a (by omega), ← hM16, ua_n (by omega), ← hM14, ua_n (by omega), ← hM13, wr_r, wr_r, ← hM10, ua_n (by omega)]
  have f17 : S16 (a + 17) = 26 ∧ Ln16 (a + 17) = 6 := by
    rw [← hS16, ← hS14, ← hS10, ← hL16, ← hL14, ← hL10, ua_n (by omega), ua_n (by omega), ua_s, ua_n (by omega), ua_n (by omega), ua_s]
    exact ⟨rfl, rfl⟩
  have f18 : S16 (a + 18) = 21 ∧ Ln16 (a + 18) = 6 := by
    rw [← hS16, ← hS14, ← hL16, ← hL14, ua_n (by omega), ua_s, ua_n (by omega), ua_s]
    exact ⟨rfl, rfl⟩
  have f19 : S16 (a + 19) = 8 := by rw [← hS16, ua_s]
  have ra0 : R18 a 0 = some (a + 1) := by rw [kR18, us_n (by decide), us_n (by decide), us_n (by decide), us_n (by decide), kR8, us_n (by decide), kR5, us_s]
  have ra1 : R18 a 1 = some (a + 6) := by rw [kR18, us_n (by decide), us_n (by decide), us_n (by decide), us_n (by decide), kR8, us_s]
  have ra2 : R18 a 2 = some (a + 10) := by rw [kR18, us_n (by decide), us_n (by decide), us_n (by decide), us_s]
  have ra3 : R18 a 3 = some (a + 17) := by rw [kR18, us_n (by decide), us_n (by decide), us_s]
  have ra6 : R18 a 6 = some (a + 18) := by rw [kR18, us_n (by decide), us_s]
  have ra7 : R18 a 7 = some (a + 19) := by rw [kR18, us_s]
  obtain ⟨S', Ln', M', R', l1, l2, l3, l4⟩ := i_L77 (ad := ad) (S := S16) (Ln := Ln16) (R := R18) (M := M17) ra3 f17.1 f17.2
  have l1' : lp (fX8_init_L77 ad a) FU (0, a + 17 + 1 + 1 + 1, S16, Ln16, M17, R18, 0) = some (.inl (a + 26, S', Ln', M', R')) := l1
  refine ⟨S', Ln', M', R', ?_, ?_, ?_, ?_⟩
  · unfold fX8_init
    simp only [nam_d]
    rw [e1, bd_s]
    dsimp only
    rw [hR3, e2, bd_s]
    dsimp only
    rw [hR6, e3, bd_s]
    dsimp only
    rw [hR9, hS10, hL10, hM10, hR11, hM13, hS14, hL14, hM14, hR15, hS16, hL16, hM16, hR16, g1, bd_s, hR18, l1', bd_s, se_l]
  · refine ⟨?_, ?_, hC.f2 (fun q q0 q1 => ?_) ?_, hA.f2 (fun q q0 q1 => ?_) ?_, hB.f2 (fun q q0 q1 => ?_) ?_, ⟨?_, ?_, fun p p0 p1 => ?_⟩, ⟨?_, ?_⟩, ?_, fun q hq => (l4 q hq).2.1⟩
    · rw [(l2 a (by omega)).1, (kS a (by omega)).1, (kS8 a (by omega)).1, (kS5 a (by omega)).1, (bS1 a (by omega)).1, ua_n (by omega)]; exact h
    · rw [l3 a (by omega) (by omega)]; exact ⟨ra0, ra1, ra2, ra3, ra6, ra7⟩
    · rw [(l2 q (by omega)).1, (l2 q (by omega)).2.1, (kS q (by omega)).1, (kS q (by omega)).2, (kS8 q (by omega)).1, (kS8 q (by omega)).2, (kS5 q (by omega)).1, (kS5 q (by omega)).2]; exact ⟨rfl, rfl⟩
    · rw [l3 _ (by omega) (by omega), (kM _ (by omega) (by omega)).2, (kM8 _ (by omega) (by omega)).2, (kM5 _ (by omega) (by omega)).2]
    · rw [(l2 q (by omega)).1, (l2 q (by omega)).2.1, (kS q (by omega)).1, (kS q (by omega)).2, (kS8 q (by omega)).1, (kS8 q (by omega)).2]; exact ⟨rfl, rfl⟩
    · rw [l3 _ (by omega) (by omega), (kM _ (by omega) (by omega)).2, (kM8 _ (by omega) (by omega)).2]
    · rw [(l2 q (by omega)).1, (l2 q (by omega)).2.1, (kS q (by omega)).1, (kS q (by omega)).2]; exact ⟨rfl, rfl⟩
    · rw [l3 _ (by omega) (by omega), (kM _ (by omega) (by omega)).2]
    · rw [(l2 _ (by omega)).1]; exact f17.1
    · rw [(l2 _ (by omega)).2.1]; exact f17.2
    · have := (l4 p.toNat (by omega)).1
      rw [show ((p.toNat : Nat) : Int) = p by omega] at this
      exact this
    · rw [(l2 _ (by omega)).1]; exact f18.1
    · rw [(l2 _ (by omega)).2.1]; exact f18.2
    · rw [(l2 _ (by omega)).1]; exact f19
  · have z : ∀ k, k ≠ 5 → v00 k = 0 := fun k hk => v00_n hk
    have mC' : M' (a + 1) = M2 (a + 1) := by rw [(l2 _ (by omega)).2.2, (kM _ (by omega) (by omega)).1, (kM8 _ (by omega) (by omega)).1, (kM5 _ (by omega) (by omega)).1]
    have mA' : M' (a + 6) = M5 (a + 6) := by rw [(l2 _ (by omega)).2.2, (kM _ (by omega) (by omega)).1, (kM8 _ (by omega) (by omega)).1]
    have mB' : M' (a + 10) = M8 (a + 10) := by rw [(l2 _ (by omega)).2.2, (kM _ (by omega) (by omega)).1]
    have ma : M' a = M17 a := (l2 a (by omega)).2.2
    refine ⟨⟨by rw [mC', z 0 (by decide)]; exact mC.1, by rw [mC', z 1 (by decide)]; exact mC.2, fun i h0 h1 => ?_, fun i h0 h1 => ?_, fun i h0 h1 => ?_⟩, ⟨by rw [mA', z 2 (by decide)]; exact mA.1, by rw [mA']; exact mA.2, fun i h0 h1 => ?_⟩, ⟨by rw [mB', z 3 (by decide)]; exact mB, fun i h0 h1 => ?_⟩, by rw [ma, kMa, us_n (by decide), us_s, z 4 (by decide)], by rw [ma, kMa, us_s, z 6 (by decide)], fun p p0 p1 => ?_, fun q hq => by rw [(l4 q hq).2.2 1 (by decide) (by decide)]; decide⟩
    · rw [z 0 (by decide)] at h1; omega
    · rw [z 1 (by decide)] at h1; omega
    · rw [z 1 (by decide)] at h1; omega
    · rw [z 2 (by decide)] at h1; omega
    · rw [z 3 (by decide)] at h1; omega
    · rw [z 4 (by decide)] at p1; omega
  · refine ⟨fun q hq => ?_, fun q hq => ?_⟩
    · rw [(l2 q (by omega)).1, (l2 q (by omega)).2.1, (kS q (by omega)).1, (kS q (by omega)).2, (kS8 q (by omega)).1, (kS8 q (by omega)).2, (kS5 q (by omega)).1, (kS5 q (by omega)).2, (bS1 q (by omega)).1, (bS1 q (by omega)).2, ua_n (by omega), ua_n (by omega)]
      exact ⟨rfl, rfl⟩
    · rw [(l2 q (by omega)).2.2, l3 q (by omega) (by omega), (kM q (by omega) (by omega)).1, (kM q (by omega) (by omega)).2, (kM8 q (by omega) (by omega)).1, (kM8 q (by omega) (by omega)).2, (kM5 q (by omega) (by omega)).1, (kM5 q (by omega) (by omega)).2, (bM1 q (by omega)).1, (bM1 q (by omega)).2, ua_n (by omega), ua_n (by omega)]
      exact ⟨rfl, rfl⟩
end PI2
