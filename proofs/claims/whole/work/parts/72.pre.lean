/-! PURE: a new model; the law's start -/
section PPR
variable {ad S Ln : Nat → Nat} {R : gR} {M : gM} {o m : Nat}
theorem i_M (hk : S m = 13) : ∃ S' Ln' M' R', fX10_init ad (m + 1) S Ln R M m = some (m + 9, S', Ln', M', R') ∧ LyM S' Ln' R' m ∧ M' (m + 1) = v00 ∧ (M' m 6 = -1 ∧ M' m 7 = -1 ∧ ∀ k, k ≠ 6 → k ≠ 7 → M' m k = M m k) ∧ BL S S' Ln Ln' M M' R R' m := by
  unfold fX10_init
  simp only [nam_d]
  rw [rf_o (b := m + 1) (by simp [ua, us, wrR, c_n2, c_n3, c_n4, c_n5, c_n6, c_n7, c_n8]) (by simp [ua]), gd_t (by simp [ua])]
  refine ⟨_, _, _, _, rfl, ?_, ?_, ⟨?_, ?_, fun k k6 k7 => ?_⟩, ⟨fun q hq => ?_, fun q hq => ?_⟩⟩
  · unfold LyM
    simp [ua, us, wrR, hk, c_n2, c_n3, c_n4, c_n5, c_n6, c_n7, c_n8]
  · rw [wr_r]
    simp [ua, wr]
    rfl
  · rw [wr_a (by omega)]
    simp [ua, us, wr, c_n2, c_n3, c_n4, c_n5, c_n6, c_n7, c_n8]
  · rw [wr_a (by omega)]
    simp [ua, us, wr, c_n2, c_n3, c_n4, c_n5, c_n6, c_n7, c_n8]
  · rw [wr_a (by omega)]
    simp [ua, us, wr, k6, k7, c_n2, c_n3, c_n4, c_n5, c_n6, c_n7, c_n8]
  · have h1 : q ≠ m + 1 := by omega
    have h2 : q ≠ m + 2 := by omega
    have h3 : q ≠ m + 3 := by omega
    have h4 : q ≠ m + 4 := by omega
    have h5 : q ≠ m + 5 := by omega
    have h6 : q ≠ m + 6 := by omega
    have h7 : q ≠ m + 7 := by omega
    have h8 : q ≠ m + 8 := by omega
    simp [ua, h1, h2, h3, h4, h5, h6, h7, h8]
  · have h0 : q ≠ m := by omega
    have h1 : q ≠ m + 1 := by omega
    have h2 : q ≠ m + 2 := by omega
    have h3 : q ≠ m + 3 := by omega
    have h4 : q ≠ m + 4 := by omega
    have h5 : q ≠ m + 5 := by omega
    have h6 : q ≠ m + 6 := by omega
    have h7 : q ≠ m + 7 := by omega
    have h8 : q ≠ m + 8 := by omega
    simp [ua, wr, wrR, h0, h1, h2, h3, h4, h5, h6, h7, h8]
/-- what the law has made when its loop begins -/
theorem pre_ok (e : Nat) (he : e < o) : ∃ S' Ln' M' R', fL_pre ad o S Ln R M e = some (o, o + 310, o + 319, o + 319 + 1, o + 321, S', Ln', M', R') ∧ HY S' Ln' R' M' e o (o + 310) (o + 319) (pi0 (o + 79)) 0 ∧ EI M' o (o + 310) ∧ LyT S' Ln' R' o (o + 289) ∧ SCR M' (o + 289) (o + 310) ∧ LyX S' Ln' R' M' o (o + 308) ∧ M' (o + 310) 12 = 0 ∧ (∀ q, q < o → S' q = S q ∧ Ln' q = Ln q ∧ M' q = M q ∧ R' q = R q) ∧ S' (o + 319) = 21 ∧ S' (o + 319 + 1) = 22 := by
  obtain ⟨S2, Ln2, M2, R2, e1, y1, p1, n1, mo, yT, mT, yX, b1⟩ := i_O (ad := ad) (S := ua S o 12) (Ln := ua Ln o 0) (R := ua R o gNo) (M := ua M o (gN 12)) (o := o) ua_s
  obtain ⟨S4, Ln4, M4, R4, e2, y2, v2, mm, b2⟩ := i_M (ad := ad) (S := ua S2 (o + 310) 13) (Ln := ua Ln2 (o + 310) 0) (R := ua R2 (o + 310) gNo) (M := ua M2 (o + 310) (gN 13)) (m := o + 310) ua_s
  rw [show o + 310 + 9 = o + 319 by omega] at e2
  have k1 : ∀ q, q < o + 310 → S4 q = S2 q ∧ Ln4 q = Ln2 q := fun q hq => by rw [(b2.1 q (by omega)).1, (b2.1 q (by omega)).2, ua_n (by omega), ua_n (by omega)]; exact ⟨rfl, rfl⟩
  have k2 : ∀ q, q < o + 310 → M4 q = M2 q ∧ R4 q = R2 q := fun q hq => by rw [(b2.2 q hq).1, (b2.2 q hq).2, ua_n (by omega), ua_n (by omega)]; exact ⟨rfl, rfl⟩
  generalize hS6 : ua (ua S4 (o + 319) 21) (o + 319 + 1) 22 = S6
  generalize hL6 : ua (ua Ln4 (o + 319) (1 : Int).toNat) (o + 319 + 1) (1 : Int).toNat = Ln6
  generalize hM6 : ua (ua M4 (o + 319) gNz) (o + 319 + 1) gNz = M6
  generalize hR6 : ua (ua R4 (o + 319) gNo) (o + 319 + 1) gNo = R6
  have g1 : ∀ q, q < o + 319 → S6 q = S4 q ∧ Ln6 q = Ln4 q ∧ M6 q = M4 q ∧ R6 q = R4 q := fun q hq => by
    rw [← hS6, ← hL6, ← hM6, ← hR6, ua_n (by omega), ua_n (by omega), ua_n (by omega), ua_n (by omega), ua_n (by omega), ua_n (by omega), ua_n (by omega), ua_n (by omega)]
    exact ⟨rfl, rfl, rfl, rfl⟩
  have g2 : ∀ q, q < o + 310 → S6 q = S2 q ∧ Ln6 q = Ln2 q ∧ M6 q = M2 q ∧ R6 q = R2 q := fun q hq => by
    obtain ⟨a1, a2, a3, a4⟩ := g1 q (by omega)
    rw [a1, a2, a3, a4, (k1 q hq).1, (k1 q hq).2, (k2 q hq).1, (k2 q hq).2]
    exact ⟨rfl, rfl, rfl, rfl⟩
  have hv : M6 (o + 310 + 1) = v00 := by rw [(g1 _ (by omega)).2.2.1]; exact v2
  have hmk : ∀ k, k ≠ 6 → k ≠ 7 → M6 (o + 310) k = gN 13 k := fun k k6 k7 => by rw [(g1 _ (by omega)).2.2.1, mm.2.2 k k6 k7, ua_s]
  have h4 : M6 (o + 310) 4 = 0 := by rw [hmk 4 (by decide) (by decide)]; rfl
  have h9 : M6 (o + 310) 9 = 0 := by rw [hmk 9 (by decide) (by decide)]; rfl
  have h12 : M6 (o + 310) 12 = 0 := by rw [hmk 12 (by decide) (by decide)]; rfl
  have h15 : M6 (o + 310) 15 = 0 := by rw [hmk 15 (by decide) (by decide)]; rfl
  have h6 : M6 (o + 310) 6 = -1 := by rw [(g1 _ (by omega)).2.2.1]; exact mm.1
  have h7 : M6 (o + 310) 7 = -1 := by rw [(g1 _ (by omega)).2.2.1]; exact mm.2.1
  have ho : M6 o = M2 o := (g2 o (by omega)).2.2.1
  have hro : R6 o = R2 o := (g2 o (by omega)).2.2.2
  have y1' : LyO S6 Ln6 R6 o (pi0 (o + 79)) := by
    obtain ⟨a1, a2, a3, a4, a5, a6⟩ := y1
    exact ⟨by rw [(g2 o (by omega)).1]; exact a1, by rw [hro]; exact a2, a3.f2 (fun q q0 q1 => ⟨(g2 q (by omega)).1, (g2 q (by omega)).2.1⟩) (fun q q0 q1 => (g2 q (by omega)).2.2.2), a4.f2 (fun q q0 q1 => ⟨(g2 q (by omega)).1, (g2 q (by omega)).2.1⟩) (fun q q0 q1 => (g2 q (by omega)).2.2.2), a5.f2 (fun q q0 q1 => ⟨(g2 q (by omega)).1, (g2 q (by omega)).2.1⟩) (fun q q0 q1 => (g2 q (by omega)).2.2.2), a6.f2 (fun q q0 q1 => ⟨(g2 q (by omega)).1, (g2 q (by omega)).2.1⟩) (fun q q0 q1 => (g2 q (by omega)).2.2.2)⟩
  have y2' : LyM S6 Ln6 R6 (o + 310) := by
    obtain ⟨⟨a0, a1, a2, a3, a4, a5, a6, a7, a8⟩, ⟨c1, c2, c3, c4, c5, c6, c7, c8⟩, a9⟩ := y2
    refine ⟨⟨?_, ?_, ?_, ?_, ?_, ?_, ?_, ?_, ?_⟩, ⟨?_, ?_, ?_, ?_, ?_, ?_, ?_, ?_⟩, by rw [(g1 _ (by omega)).2.2.2]; exact a9⟩
    all_goals first | rw [(g1 _ (by omega)).1]; assumption | rw [(g1 _ (by omega)).2.1]; assumption
  refine ⟨S6, Ln6, M6, R6, ?_, ⟨y1', y2', by omega, ?_, he, ⟨?_, ?_, ?_, ?_, fun q q0 q1 => ?_, ?_, fun h => absurd h9 h⟩, by decide⟩, ⟨⟨?_, ?_⟩, ?_, ?_⟩, ?_, ⟨?_, ?_, fun i i0 i1 => ?_⟩, ?_, h12, fun q hq => ?_, ?_, ?_⟩
  · unfold fL_pre
    simp only [nam_d]
    rw [e1, bd_s]
    dsimp only
    rw [e2, bd_s]
    dsimp only
    rw [hS6, hL6, hM6, hR6]
  · rw [← hL6, ua_n (by omega), ua_s, ua_s]; exact ⟨rfl, rfl⟩
  · rw [hv]; exact p1.fr (fun x x0 x1 => (g2 x (by omega)).2.2.1) (by rw [v00_n (by decide)]; decide)
  · rw [hv]; exact ⟨IvS.new, IvZ.new⟩
  · rw [(g2 _ (by omega)).2.2.1, h4]; exact n1
  · rw [h4]; decide
  · rw [h4] at q1; omega
  · rw [ho, h9]; exact mo.1
  · rw [ho, h6]; exact mo.2.1
  · rw [h6]; decide
  · rw [ho, h7]; exact mo.2.2
  · rw [h7]; decide
  · obtain ⟨a1, ⟨a2, a3, a4, a5⟩, ⟨a6, a7, a8⟩, a9, a10⟩ := yT
    refine ⟨by rw [hro]; exact a1, ⟨?_, ?_, ?_, ?_⟩, ⟨?_, ?_, ?_⟩, by rw [(g2 _ (by omega)).2.2.2]; exact a9, fun i hi => ?_⟩
    · rw [(g2 _ (by omega)).1]; exact a2
    · rw [(g2 _ (by omega)).1]; exact a3
    · rw [(g2 _ (by omega)).1]; exact a4
    · rw [(g2 _ (by omega)).1]; exact a5
    · rw [(g2 _ (by omega)).2.1]; exact a6
    · rw [(g2 _ (by omega)).2.1]; exact a7
    · rw [(g2 _ (by omega)).2.1]; exact a8
    · rw [(g2 (o + 289 + 3) (by omega)).2.2.2, (g2 (o + 289 + 4 + i) (by omega)).1, (g2 (o + 289 + 4 + i) (by omega)).2.1]; exact a10 i hi
  · rw [(g2 _ (by omega)).2.2.1, h15]; exact mT
  · rw [h15]; decide
  · rw [h15] at i1; omega
  · obtain ⟨a1, a2, a3, a4, a5, a6, a7⟩ := yX
    refine ⟨by rw [hro]; exact a1, by rw [(g2 _ (by omega)).1]; exact a2, by rw [(g2 _ (by omega)).1]; exact a3, by rw [(g2 _ (by omega)).2.1]; exact a4, by rw [(g2 _ (by omega)).2.2.2]; exact a5, by rw [(g2 _ (by omega)).2.2.1]; exact a6, by rw [(g2 _ (by omega)).2.2.1]; exact a7⟩
  · obtain ⟨a1, a2, a3, a4⟩ := g2 q (by omega)
    rw [a1, a2, a3, a4, (b1.1 q (by omega)).1, (b1.1 q (by omega)).2, (b1.2 q hq).1, (b1.2 q hq).2, ua_n (by omega), ua_n (by omega), ua_n (by omega), ua_n (by omega)]
    exact ⟨rfl, rfl, rfl, rfl⟩
  · rw [← hS6, ua_n (by omega), ua_s]
  · rw [← hS6, ua_s]
end PPR
