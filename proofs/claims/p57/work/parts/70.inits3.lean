/-! PURE: a new history, script, text -/
def pi0 (h : Nat) : Int → Nat := fun q => h + 2 + 26 * q.toNat
section PI3
variable {ad S Ln : Nat → Nat} {R : gR} {M : gM} {h t : Nat}
theorem i_H (hk : S h = 9) : ∃ S' Ln' M' R', fX4_init ad (h + 1) S Ln R M h = some (h + 210, S', Ln', M', R') ∧ LyH S' Ln' R' h (pi0 h) ∧ M' h 1 = 0 ∧ BL S S' Ln Ln' M M' R R' h := by
  unfold fX4_init
  simp only [nam_d]
  generalize hS1 : ua S (h + 1) 27 = S1
  generalize hL1 : ua Ln (h + 1) (8 : Int).toNat = Ln1
  generalize hM3 : wr (ua M (h + 1) gNz) h 1 0 = M3
  generalize hR2 : wrR (ua R (h + 1) gNo) h 0 (some (h + 1)) = R2
  have f1 : S1 (h + 1) = 27 ∧ Ln1 (h + 1) = 8 := by rw [← hS1, ← hL1, ua_s, ua_s]; exact ⟨rfl, rfl⟩
  have f2 : ∀ q, q < h + 1 → S1 q = S q ∧ Ln1 q = Ln q := fun q hq => by rw [← hS1, ← hL1, ua_n (by omega), ua_n (by omega)]; exact ⟨rfl, rfl⟩
  have f3 : R2 h 0 = some (h + 1) := by
    rw [← hR2]
    unfold wrR
    rw [ua_s, us_s]
  have f4 : ∀ q, q < h → M3 q = M q ∧ R2 q = R q := fun q hq => by
    rw [← hM3, ← hR2, wr_a (by omega), ua_n (by omega)]
    unfold wrR
    rw [ua_n (by omega), ua_n (by omega)]
    exact ⟨rfl, rfl⟩
  have f5 : M3 h 1 = 0 := by rw [← hM3, wr_s]
  obtain ⟨r, e1, S', Ln', M', R', e2, e3, e4, e5⟩ := lp_inv0 (b := fX4_init_L20 ad h) 8
    (fun i s => s.1 = (i : Int) ∧ s.2.1 = h + 2 + 26 * i ∧ s.2.2.2.2.2.2 = i ∧ (∀ q, q < h + 2 → s.2.2.1 q = S1 q ∧ s.2.2.2.1 q = Ln1 q ∧ s.2.2.2.2.1 q = M3 q) ∧ (∀ q, q < h + 2 → q ≠ h + 1 → s.2.2.2.2.2.1 q = R2 q) ∧ (∀ p : Nat, p < i → s.2.2.2.2.2.1 (h + 1) (p : Int) = some (h + 2 + 26 * p) ∧ LyS s.2.2.1 s.2.2.2.1 s.2.2.2.2.2.1 (h + 2 + 26 * p)))
    (fun r => ∃ S' Ln' M' R', r = .inl (h + 210, S', Ln', M', R') ∧ (∀ q, q < h + 2 → S' q = S1 q ∧ Ln' q = Ln1 q ∧ M' q = M3 q) ∧ (∀ q, q < h + 2 → q ≠ h + 1 → R' q = R2 q) ∧ (∀ p : Nat, p < 8 → R' (h + 1) (p : Int) = some (h + 2 + 26 * p) ∧ LyS S' Ln' R' (h + 2 + 26 * p)))
    (s := ((0 : Int), h + 1 + 1, S1, Ln1, M3, R2, 0)) (by omega) ⟨rfl, by show h + 1 + 1 = h + 2 + 26 * 0; omega, rfl, fun _ _ => ⟨rfl, rfl, rfl⟩, fun _ _ _ => rfl, fun p hp => absurd hp (Nat.not_lt_zero _)⟩
    (fun i s hi hs => by
      obtain ⟨s1, s2, s3, s4, s5, s6⟩ := hs
      left
      have hh0 : s.2.2.2.2.2.1 h 0 = some (h + 1) := by rw [s5 h (by omega) (by omega)]; exact f3
      have hh1 := s4 (h + 1) (by omega)
      obtain ⟨S2, Ln2, M2, R3, g1, g2, g3, g4, g5⟩ := i_S (ad := ad) (S := ua s.2.2.1 (h + 2 + 26 * i) 11) (Ln := ua s.2.2.2.1 (h + 2 + 26 * i) 0) (R := ua s.2.2.2.2.2.1 (h + 2 + 26 * i) gNo) (M := ua s.2.2.2.2.1 (h + 2 + 26 * i) (gN 11)) (a := h + 2 + 26 * i) ua_s
      have k4 : ∀ q, q < h + 2 + 26 * i → S2 q = s.2.2.1 q ∧ Ln2 q = s.2.2.2.1 q := fun q hq => by rw [(g4 q (by omega)).1, (g4 q (by omega)).2, ua_n (by omega), ua_n (by omega)]; exact ⟨rfl, rfl⟩
      have k5 : ∀ q, q < h + 2 + 26 * i → M2 q = s.2.2.2.2.1 q ∧ R3 q = s.2.2.2.2.2.1 q := fun q hq => by rw [(g5 q hq).1, (g5 q hq).2, ua_n (by omega), ua_n (by omega)]; exact ⟨rfl, rfl⟩
      unfold fX4_init_L20
      rw [s1, s2, s3, gd_t (by omega), if_neg (by omega), rf_o hh0 (hh1.1.trans f1.1)]
      simp only [nam_d]
      rw [g1, bd_s]
      dsimp only
      rw [gd_t (by rw [(k4 (h + 1) (by omega)).2, hh1.2.1, f1.2]; omega), w32_i (by omega) (by omega)]
      have kw : ∀ q, q ≠ h + 1 → wrR R3 (h + 1) (i : Int) (some (h + 2 + 26 * i)) q = R3 q := fun q hq => by
        unfold wrR
        rw [ua_n hq]
      refine ⟨_, rfl, ?_, ?_, rfl, fun q hq => ⟨?_, ?_, ?_⟩, fun q hq hq' => ?_, fun p hp => ⟨?_, ?_⟩⟩
      · show (i : Int) + 1 = ((i + 1 : Nat) : Int); omega
      · show h + 2 + 26 * i + 26 = h + 2 + 26 * (i + 1); omega
      · show S2 q = _
        rw [(k4 q (by omega)).1]; exact (s4 q hq).1
      · show Ln2 q = _
        rw [(k4 q (by omega)).2]; exact (s4 q hq).2.1
      · show M2 q = _
        rw [(k5 q (by omega)).1]; exact (s4 q hq).2.2
      · show wrR R3 (h + 1) (i : Int) (some (h + 2 + 26 * i)) q = _
        rw [kw q hq', (k5 q (by omega)).2]; exact s5 q hq hq'
      · show wrR R3 (h + 1) (i : Int) (some (h + 2 + 26 * i)) (h + 1) (p : Int) = _
        unfold wrR
        rw [ua_s]
        by_cases e : p = i
        · rw [e, us_s]
        · rw [us_n (by omega), (k5 (h + 1) (by omega)).2]; exact (s6 p (by omega)).1
      · show LyS S2 Ln2 (wrR R3 (h + 1) (i : Int) (some (h + 2 + 26 * i))) (h + 2 + 26 * p)
        by_cases e : p = i
        · rw [e]; exact g2.f2 (fun q q0 q1 => ⟨rfl, rfl⟩) (fun q q0 q1 => kw q (by omega))
        · exact (s6 p (by omega)).2.f2 (fun q q0 q1 => k4 q (by omega)) (fun q q0 q1 => by rw [kw q (by omega), (k5 q (by omega)).2]))
    (fun s hs => by
      obtain ⟨s1, s2, s3, s4, s5, s6⟩ := hs
      unfold fX4_init_L20
      rw [s1, s3, gd_t (by decide), if_pos (by decide)]
      exact ⟨_, rfl, s.2.2.1, s.2.2.2.1, s.2.2.2.2.1, s.2.2.2.2.2.1, by rw [s2], s4, s5, s6⟩)
  rw [e1, bd_s, e2, se_l]
  refine ⟨S', Ln', M', R', rfl, ⟨?_, ?_, ?_, ?_, fun q q0 q1 => ?_, fun q q' q0 q1 q0' q1' hne => ?_⟩, ?_, ⟨fun q hq => ?_, fun q hq => ?_⟩⟩
  · rw [(e3 h (by omega)).1, (f2 h (by omega)).1]; exact hk
  · rw [(e3 _ (by omega)).1]; exact f1.1
  · rw [(e3 _ (by omega)).2.1]; exact f1.2
  · rw [e4 h (by omega) (by omega)]; exact f3
  · have := e5 q.toNat (by omega)
    rw [show ((q.toNat : Nat) : Int) = q by omega] at this
    unfold pi0
    exact ⟨this.1, this.2, by omega, by omega⟩
  · unfold pi0
    omega
  · rw [(e3 h (by omega)).2.2]; exact f5
  · rw [(e3 q (by omega)).1, (e3 q (by omega)).2.1]; exact f2 q (by omega)
  · rw [(e3 q (by omega)).2.2, e4 q (by omega) (by omega)]; exact f4 q hq
theorem i_T (hk : S t = 10) : ∃ S' Ln' M' R', fX7_init ad (t + 1) S Ln R M t = some (t + 19, S', Ln', M', R') ∧ ((S' t = 10 ∧ S' (t + 1) = 24 ∧ S' (t + 2) = 20 ∧ S' (t + 3) = 25) ∧ (Ln' (t + 1) = 60 ∧ Ln' (t + 2) = 15 ∧ Ln' (t + 3) = 15) ∧ (R' t 0 = some (t + 1) ∧ R' t 2 = some (t + 2) ∧ R' t 3 = some (t + 3)) ∧ ∀ i : Nat, i < 15 → R' (t + 3) (i : Int) = some (t + 4 + i) ∧ S' (t + 4 + i) = 20 ∧ Ln' (t + 4 + i) = 4) ∧ (M' t 1 = 0 ∧ M' t 4 = 0 ∧ M' t 5 = 0) ∧ BL S S' Ln Ln' M M' R R' t := by
  unfold fX7_init
  refine ⟨_, _, _, _, rfl, ⟨?_, ?_, ?_, fun i hi => ⟨?_, ?_, ?_⟩⟩, ?_, ⟨fun q hq => ?_, fun q hq => ?_⟩⟩
  · unfold m_S
    simp [ua, hk, c_n2, c_n3]
    omega
  · unfold m_Ln
    simp [ua]
    omega
  · unfold wrR
    refine ⟨?_, ?_, ?_⟩
    · rw [ua_s, us_n (by decide)]
      unfold m_R
      rw [if_neg (by omega), if_neg (by omega), ua_s, us_n (by decide), ua_n (by omega), ua_s, us_s]
    · rw [ua_s, us_n (by decide)]
      unfold m_R
      rw [if_neg (by omega), if_neg (by omega), ua_s, us_s]
    · rw [ua_s, us_s]
  · unfold m_R wrR
    rw [ua_n (by omega), if_pos (by omega), if_pos (by omega)]
    congr 1
  · unfold m_S
    rw [if_neg (by omega), if_pos (by omega)]
  · unfold m_Ln
    rw [if_neg (by omega), if_pos (by omega)]
  · refine ⟨?_, ?_, ?_⟩
    · rw [wr_k (by decide), wr_k (by decide)]
      unfold m_M
      rw [if_neg (by omega), ua_n (by omega), wr_s]
    · rw [wr_k (by decide), wr_s]
    · rw [wr_s]
  · unfold m_S m_Ln
    rw [if_neg (by omega), if_neg (by omega), ua_n (by omega), ua_n (by omega), if_neg (by omega), if_neg (by omega), ua_n (by omega), ua_n (by omega)]
    exact ⟨rfl, rfl⟩
  · unfold m_M m_R wrR
    rw [wr_a (by omega), wr_a (by omega), if_neg (by omega), ua_n (by omega), wr_a (by omega), ua_n (by omega), ua_n (by omega), if_neg (by omega), if_neg (by omega), ua_n (by omega), ua_n (by omega), ua_n (by omega), ua_n (by omega)]
    exact ⟨rfl, rfl⟩
theorem i_X (hk : S t = 2) : ∃ S' Ln' M' R', fJ4_init_da8c8 ad (t + 1) S Ln R M t = some (t + 2, S', Ln', M', R') ∧ (S' t = 2 ∧ S' (t + 1) = 23 ∧ Ln' (t + 1) = 16 ∧ R' t 0 = some (t + 1) ∧ M' t 1 = 0 ∧ M' t 3 = M t 3) ∧ BL S S' Ln Ln' M M' R R' t := by
  unfold fJ4_init_da8c8 fJ5_init_d00df
  rw [if_neg (by decide), gd_t (by decide)]
  refine ⟨_, _, _, _, rfl, ?_, ⟨fun q hq => ?_, fun q hq => ?_⟩⟩
  · simp [ua, us, wr, wrR, hk]
  · have h1 : q ≠ t + 1 := by omega
    simp [ua, h1]
  · have h0 : q ≠ t := by omega
    have h1 : q ≠ t + 1 := by omega
    simp [ua, wr, wrR, h0, h1]
end PI3
