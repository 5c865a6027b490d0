/-! PURE: the model's rows copied; its history -/
section PMH
variable {ad S Ln : Nat → Nat} {R : gR} {M : gM} {m : Nat} {b : Int} {v : gV}
theorem x_copies {a c : Nat} {i j : Int} (hi : 0 ≤ i ∧ i + 113 ≤ (Ln a : Int)) (hj : 0 ≤ j ∧ j + 113 ≤ (Ln c : Int)) (hl : (Ln a : Int) ≤ 1000 ∧ (Ln c : Int) ≤ 1000) (hd : a ≠ c ∨ i + 113 ≤ j ∨ j + 113 ≤ i) :
    ∃ M', fX10_copies ad S Ln R M a i c j = some M' ∧ (∀ k, 0 ≤ k → k < 113 → M' c (j + k) = M a (i + k)) ∧ (∀ k, ¬ (j ≤ k ∧ k < j + 113) → M' c k = M c k) ∧ ∀ q, q ≠ c → M' q = M q := by
  unfold fX10_copies
  obtain ⟨r, e1, M', e2, e3, e4, e5⟩ := lp_inv0 (b := fX10_copies_L3 ad S Ln R a i c j) 113
    (fun t s => s.1 = (t : Int) ∧ (∀ k, 0 ≤ k → k < (t : Int) → s.2 c (j + k) = M a (i + k)) ∧ (∀ k, ¬ (j ≤ k ∧ k < j + (t : Int)) → s.2 c k = M c k) ∧ ∀ q, q ≠ c → s.2 q = M q)
    (fun r => ∃ M', r = .inl M' ∧ (∀ k, 0 ≤ k → k < 113 → M' c (j + k) = M a (i + k)) ∧ (∀ k, ¬ (j ≤ k ∧ k < j + 113) → M' c k = M c k) ∧ ∀ q, q ≠ c → M' q = M q)
    (s := ((0 : Int), M)) (by omega) ⟨rfl, fun k k0 k1 => by omega, fun _ _ => rfl, fun _ _ => rfl⟩
    (fun t s ht hs => by
      obtain ⟨s1, s2, s3, s4⟩ := hs
      left
      have hsrc : s.2 a (i + (t : Int)) = M a (i + (t : Int)) := by
        by_cases e : a = c
        · rw [e]
          have hd' : i + 113 ≤ j ∨ j + 113 ≤ i := hd.resolve_left (fun q => q e)
          exact s3 _ (by omega)
        · rw [s4 a e]
      unfold fX10_copies_L3
      rw [s1, if_neg (by omega), w32_i (z := i + (t : Int)) (by omega) (by omega), gd_t (by omega), w32_i (z := j + (t : Int)) (by omega) (by omega), gd_t (by omega), nam_d, hsrc]
      refine ⟨_, rfl, ?_, fun k k0 k1 => ?_, fun k hk => ?_, fun q hq => ?_⟩
      · show w32 ((t : Int) + 1) = _
        rw [w32_i (by omega) (by omega)]; omega
      · show wr s.2 c (j + (t : Int)) (M a (i + (t : Int))) c (j + k) = _
        by_cases e : k = t
        · rw [e, wr_s]
        · rw [wr_k (by omega)]; exact s2 k k0 (by omega)
      · show wr s.2 c (j + (t : Int)) (M a (i + (t : Int))) c k = _
        rw [wr_k (by omega)]; exact s3 k (by omega)
      · show wr s.2 c (j + (t : Int)) (M a (i + (t : Int))) q = _
        rw [wr_a hq]; exact s4 q hq)
    (fun s hs => by
      obtain ⟨s1, s2, s3, s4⟩ := hs
      unfold fX10_copies_L3
      rw [s1, if_pos (by omega)]
      exact ⟨_, rfl, s.2, rfl, s2, s3, s4⟩)
  rw [e1, bd_s, e2, se_l]
  exact ⟨M', rfl, e3, e4, e5⟩
theorem m_1 {α : Type} {f : Nat → Option α} (hL : LyM S Ln R m) : rf S (R m 1) 20 f = f (m + 2) := rf_o hL.2.2.2.1 hL.1.2.2.1
theorem m_2 {α : Type} {f : Nat → Option α} (hL : LyM S Ln R m) : rf S (R m 2) 20 f = f (m + 3) := rf_o hL.2.2.2.2.1 hL.1.2.2.2.1
theorem m_3 {α : Type} {f : Nat → Option α} (hL : LyM S Ln R m) : rf S (R m 3) 20 f = f (m + 4) := rf_o hL.2.2.2.2.2.1 hL.1.2.2.2.2.1
theorem m_keeps (hL : LyM S Ln R m) : ∃ M1, fX10_keeps ad S Ln R M m = some M1 ∧ (∀ j, 0 ≤ j → j < 113 → M1 (m + 2) j = M (m + 1) j) ∧ M1 m = us (M m) 5 0 ∧ ∀ c, c ≠ m → c ≠ m + 2 → M1 c = M c := by
  obtain ⟨n1, n2, n3, n4, n5, n6, n7, n8⟩ := hL.2.1
  obtain ⟨M1, e1, e2, e3, e4⟩ := x_copies (ad := ad) (S := S) (Ln := Ln) (R := R) (M := M) (a := m + 1) (c := m + 2) (i := 0) (j := 0) (by omega) (by omega) (by omega) (Or.inl (by omega))
  unfold fX10_keeps
  rw [m_0 hL, m_1 hL, e1, bd_s, nam_d]
  refine ⟨_, rfl, fun j j0 j1 => ?_, ?_, fun c c0 c1 => ?_⟩
  · rw [wr_a (by omega)]
    have := e2 j j0 j1
    rw [Int.zero_add] at this
    exact this
  · rw [wr_r, e4 m (by omega)]
  · rw [wr_a c0, e4 c c1]
theorem m_ends0 (h5 : M m 5 ≠ 0) (x : Int) : fX10_ends ad S Ln R M m x = some (0, M) := by
  unfold fX10_ends
  rw [if_neg h5]
theorem m_B63 (hL : LyM S Ln R m) {n : Int} (hn : M m 4 = n) (n0 : 0 ≤ n) (n8 : n < 8) (x : Int) : ∃ M', fX10_ends_B63 ad S Ln R M m x = some (x, M') ∧ M' m = us (M m) 4 (n + 1) ∧ (∀ j, 0 ≤ j → j < 113 → M' (m + 4) (113 * n + j) = M (m + 2) j) ∧ (∀ k, ¬ (113 * n ≤ k ∧ k < 113 * n + 113) → M' (m + 4) k = M (m + 4) k) ∧ ∀ c, c ≠ m → c ≠ m + 4 → M' c = M c := by
  obtain ⟨n1, n2, n3, n4, n5, n6, n7, n9⟩ := hL.2.1
  obtain ⟨M1, e1, e2, e3, e4⟩ := x_copies (ad := ad) (S := S) (Ln := Ln) (R := R) (M := M) (a := m + 2) (c := m + 4) (i := 0) (j := 113 * n) (by omega) (by omega) (by omega) (Or.inl (by omega))
  unfold fX10_ends_B63
  rw [m_1 hL, m_3 hL, hn, w32_i (by omega) (by omega), e1, bd_s, e4 m (by omega), hn, w32_i (by omega) (by omega), nam_d]
  refine ⟨_, rfl, by rw [wr_r, e4 m (by omega)], fun j j0 j1 => ?_, fun k hk => ?_, fun c c0 c1 => ?_⟩
  · rw [wr_a (by omega)]
    have := e2 j j0 j1
    rw [Int.zero_add] at this
    exact this
  · rw [wr_a (by omega)]; exact e3 k hk
  · rw [wr_a c0, e4 c c1]
theorem m_ends1 (hL : LyM S Ln R m) (h5 : M m 5 = 0) {n : Int} (hn : M m 4 = n) (n0 : 0 ≤ n) (n8 : n ≤ 8) {w : Int → gV} (hw : ∀ q, 0 ≤ q → q < n → ∀ j, 0 ≤ j → j < 113 → M (m + 4) (113 * q + j) = w q j) (hv : ∀ j, 0 ≤ j → j < 113 → M (m + 2) j = v j) (x : Int) :
    ∃ M', fX10_ends ad S Ln R M m x = some (x, M') ∧ M' m = us (M m) 4 (kpN n) ∧ (∀ q, 0 ≤ q → q < kpN n → ∀ j, 0 ≤ j → j < 113 → M' (m + 4) (113 * q + j) = kpW n w v q j) ∧ ∀ c, c ≠ m → c ≠ m + 4 → M' c = M c := by
  obtain ⟨n1, n2, n3, n4, n5, n6, n7, n9⟩ := hL.2.1
  unfold fX10_ends kpN kpW
  rw [if_pos h5, hn]
  by_cases h8 : n < 8
  · obtain ⟨M', e1, e2, e3, e4, e5⟩ := m_B63 (ad := ad) hL hn n0 h8 x
    rw [if_pos (by omega), if_pos h8, if_pos h8]
    refine ⟨M', e1, e2, fun q q0 q1 j j0 j1 => ?_, e5⟩
    by_cases e : q = n
    · show _ = (if q = n then v else w q) j
      rw [if_pos e, e, e3 j j0 j1]; exact hv j j0 j1
    · show _ = (if q = n then v else w q) j
      rw [if_neg e, e4 _ (by omega)]
      exact hw q q0 (by omega) j j0 j1
  · rw [if_neg (by omega), if_neg h8, if_neg h8]
    obtain ⟨r, e1, M2, e2, e3, e4⟩ := lp_inv0 (b := fX10_ends_L20 ad S Ln R m x) 7
      (fun i s => s.1 = 1 + (i : Int) ∧ (∀ q j, 0 ≤ q → q < 8 → 0 ≤ j → j < 113 → s.2 (m + 4) (113 * q + j) = if q < (i : Int) then M (m + 4) (113 * (q + 1) + j) else M (m + 4) (113 * q + j)) ∧ ∀ c, c ≠ m + 4 → s.2 c = M c)
      (fun r => ∃ M', r = .inl M' ∧ (∀ q j, 0 ≤ q → q < 7 → 0 ≤ j → j < 113 → M' (m + 4) (113 * q + j) = M (m + 4) (113 * (q + 1) + j)) ∧ ∀ c, c ≠ m + 4 → M' c = M c)
      (s := ((1 : Int), M)) (by omega) ⟨rfl, fun q j q0 q1 j0 j1 => by rw [if_neg (by omega)], fun _ _ => rfl⟩
      (fun i s hi hs => by
        obtain ⟨s1, s2, s3⟩ := hs
        left
        obtain ⟨M3, c1, c2, c3, c4⟩ := x_copies (ad := ad) (S := S) (Ln := Ln) (R := R) (M := s.2) (a := m + 4) (c := m + 4) (i := 113 * (1 + (i : Int))) (j := 113 * (i : Int)) (by omega) (by omega) (by omega) (Or.inr (Or.inr (by omega)))
        unfold fX10_ends_L20
        rw [s1, if_neg (by omega), m_3 hL, m_3 hL, w32_i (z := 113 * (1 + (i : Int))) (by omega) (by omega), w32_i (z := 1 + (i : Int) - 1) (by omega) (by omega), show 1 + (i : Int) - 1 = (i : Int) by omega, w32_i (z := 113 * (i : Int)) (by omega) (by omega), c1, bd_s]
        refine ⟨_, rfl, ?_, fun q j q0 q1 j0 j1 => ?_, fun c hc => ?_⟩
        · show w32 (1 + (i : Int) + 1) = _
          rw [w32_i (by omega) (by omega)]; omega
        · show M3 (m + 4) (113 * q + j) = _
          by_cases e : q = (i : Int)
          · rw [e, c2 j j0 j1, s2 _ j (by omega) (by omega) j0 j1, if_neg (by omega), if_pos (by omega), show (i : Int) + 1 = 1 + (i : Int) by omega]
          · rw [c3 _ (by omega), s2 q j q0 q1 j0 j1]
            by_cases e' : q < (i : Int)
            · rw [if_pos e', if_pos (by omega)]
            · rw [if_neg e', if_neg (by omega)]
        · show M3 c = _
          rw [c4 c hc]; exact s3 c hc)
      (fun s hs => by
        obtain ⟨s1, s2, s3⟩ := hs
        unfold fX10_ends_L20
        rw [s1, if_pos (by omega)]
        exact ⟨_, rfl, s.2, rfl, fun q j q0 q1 j0 j1 => by rw [s2 q j q0 (by omega) j0 j1, if_pos (by omega)], s3⟩)
    have hm4 : M2 m 4 = n := by rw [e4 m (by omega)]; exact hn
    have hn7 : wr M2 m 4 7 m 4 = 7 := wr_s
    rw [e1, bd_s, e2, se_l, hm4, w32_i (by omega) (by omega), show n - 1 = 7 by omega, nam_d]
    obtain ⟨M', f1, f2, f3, f4, f5⟩ := m_B63 (ad := ad) hL hn7 (by decide) (by decide) x
    refine ⟨M', f1, ?_, fun q q0 q1 j j0 j1 => ?_, fun c c0 c1 => by rw [f5 c c0 c1, wr_a c0, e4 c c1]⟩
    · rw [f2, wr_r, us_us, e4 m (by omega)]; rfl
    · by_cases e : q = 7
      · show _ = (if q = 7 then v else w (q + 1)) j
        rw [if_pos e, e, f3 j j0 j1, wr_a (by omega), e4 _ (by omega)]; exact hv j j0 j1
      · show _ = (if q = 7 then v else w (q + 1)) j
        rw [if_neg e, f4 _ (by omega), wr_a (by omega), e3 q j q0 (by omega) j0 j1]
        exact hw (q + 1) (by omega) (by omega) j j0 j1
end PMH
