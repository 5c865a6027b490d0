/-! PURE: the restricted kilometres by ranges -/
/-- the first n ranges of the two scratch rows: sorted, and together what P says -/
def SR (M : gM) (a : Nat) (n : Int) (P : Int → Prop) : Prop := (∀ q, 0 ≤ q → q < n → 0 ≤ M (a + 5) q ∧ M (a + 5) q ≤ M (a + 6) q ∧ M (a + 6) q ≤ 60) ∧ (∀ p q, 0 ≤ p → p ≤ q → q < n → M (a + 5) p ≤ M (a + 5) q) ∧ ∀ x, P x ↔ ∃ q, (0 ≤ q ∧ q < n) ∧ M (a + 5) q ≤ x ∧ x ≤ M (a + 6) q
theorem i_max_v {x y : Int} : (x ≤ y ∧ i_max x y = y) ∨ (y ≤ x ∧ i_max x y = x) := by unfold i_max; split <;> omega
section PRG
variable {ad S Ln : Nat → Nat} {R : gR} {M : gM} {a : Nat} {v : gV} {b : Int}
theorem b_ins (hL : LyB S Ln R a) {n f t : Int} {P : Int → Prop} (h : SR M a n P) (n0 : 0 ≤ n) (n3 : n < 3) (hf : 0 ≤ f ∧ f ≤ t ∧ t ≤ 60) :
    ∃ M', fX1_insertRange ad S Ln R M a n f t = some M' ∧ SR M' a (n + 1) (fun x => (f ≤ x ∧ x ≤ t) ∨ P x) ∧ ∀ c, c ≠ a + 5 → c ≠ a + 6 → M' c = M c := by
  obtain ⟨⟨s0, s1, s2, s3, s4, s5, s6⟩, ⟨l1, l2, l3, l4, l5, l6⟩, r1, r2, r3, r4, r5, r6⟩ := hL
  obtain ⟨h1, h2, h3⟩ := h
  unfold fX1_insertRange
  rw [if_neg (by omega), if_pos n3]
  obtain ⟨r, e1, j, M1, e2, j0, j1, eF, eT, eS, eP, eR⟩ := lp_inv0 (b := fX1_insertRange_L13 ad S Ln R a f t) n.toNat
    (fun i s => s.1 = n - (i : Int) ∧ (∀ q, 0 ≤ q → q ≤ n → s.2 (a + 5) q = if q ≤ n - (i : Int) then M (a + 5) q else M (a + 5) (q - 1)) ∧ (∀ q, 0 ≤ q → q ≤ n → s.2 (a + 6) q = if q ≤ n - (i : Int) then M (a + 6) q else M (a + 6) (q - 1)) ∧ (∀ q, n - (i : Int) ≤ q → q < n → f < M (a + 5) q) ∧ ∀ c, c ≠ a + 5 → c ≠ a + 6 → s.2 c = M c)
    (fun r => ∃ (j : Int) (M1 : gM), r = .inl (j, M1) ∧ 0 ≤ j ∧ j ≤ n ∧ (∀ q, 0 ≤ q → q ≤ n → M1 (a + 5) q = if q ≤ j then M (a + 5) q else M (a + 5) (q - 1)) ∧ (∀ q, 0 ≤ q → q ≤ n → M1 (a + 6) q = if q ≤ j then M (a + 6) q else M (a + 6) (q - 1)) ∧ (∀ q, j ≤ q → q < n → f < M (a + 5) q) ∧ (∀ q, 0 ≤ q → q < j → M (a + 5) q ≤ f) ∧ ∀ c, c ≠ a + 5 → c ≠ a + 6 → M1 c = M c)
    (s := (n, M)) (by omega) ⟨by show n = n - ((0 : Nat) : Int); omega, fun q q0 q1 => by rw [if_pos (by omega)], fun q q0 q1 => by rw [if_pos (by omega)], fun q q0 q1 => by omega, fun _ _ _ => rfl⟩
    (fun i s hi hs => by
      obtain ⟨t1, t2, t3, t4, t5⟩ := hs
      have hk : s.2 (a + 5) (n - (i : Int) - 1) = M (a + 5) (n - (i : Int) - 1) := by rw [t2 _ (by omega) (by omega), if_pos (by omega)]
      have hk6 : s.2 (a + 6) (n - (i : Int) - 1) = M (a + 6) (n - (i : Int) - 1) := by rw [t3 _ (by omega) (by omega), if_pos (by omega)]
      unfold fX1_insertRange_L13
      rw [t1, if_neg (by omega), rf_o r5 s5, w32_i (z := n - (i : Int) - 1) (by omega) (by omega), gd_t (by rw [l5]; omega), hk]
      by_cases hle : M (a + 5) (n - (i : Int) - 1) ≤ f
      · right
        rw [if_pos hle]
        refine ⟨_, rfl, n - (i : Int), s.2, rfl, by omega, by omega, t2, t3, t4, fun q q0 q1 => ?_, t5⟩
        have := h2 q (n - (i : Int) - 1) q0 (by omega) (by omega)
        omega
      · left
        rw [if_neg hle, rf_o r5 s5, rf_o r5 s5, gd_t (by rw [l5]; omega), gd_t (by rw [l5]; omega), nam_d, rf_o r6 s6, rf_o r6 s6, gd_t (by rw [l6]; omega), gd_t (by rw [l6]; omega), nam_d, wr_a (show a + 6 ≠ a + 5 by omega), hk6, w32_i (by omega) (by omega)]
        refine ⟨_, rfl, ?_, fun q q0 q1 => ?_, fun q q0 q1 => ?_, fun q q0 q1 => ?_, fun c c1 c2 => ?_⟩
        · show n - (i : Int) + -1 = n - ((i + 1 : Nat) : Int)
          omega
        · show wr (wr s.2 (a + 5) (n - (i : Int)) _) (a + 6) (n - (i : Int)) _ (a + 5) q = _
          rw [wr_a (by omega)]
          by_cases e : q = n - (i : Int)
          · rw [e, wr_s, if_neg (by omega)]; exact hk
          · rw [wr_k e, t2 q q0 q1]
            by_cases e' : q ≤ n - (i : Int)
            · rw [if_pos e', if_pos (by omega)]
            · rw [if_neg e', if_neg (by omega)]
        · show wr (wr s.2 (a + 5) (n - (i : Int)) _) (a + 6) (n - (i : Int)) _ (a + 6) q = _
          by_cases e : q = n - (i : Int)
          · rw [e, wr_s, if_neg (by omega)]
          · rw [wr_k e, wr_a (by omega), t3 q q0 q1]
            by_cases e' : q ≤ n - (i : Int)
            · rw [if_pos e', if_pos (by omega)]
            · rw [if_neg e', if_neg (by omega)]
        · by_cases e : q = n - (i : Int) - 1
          · rw [e]; omega
          · exact t4 q (by omega) q1
        · show wr (wr s.2 (a + 5) (n - (i : Int)) _) (a + 6) (n - (i : Int)) _ c = _
          rw [wr_a c2, wr_a c1]; exact t5 c c1 c2)
    (fun s hs => by
      obtain ⟨t1, t2, t3, t4, t5⟩ := hs
      have hz : n - ((n.toNat : Nat) : Int) = 0 := by omega
      rw [hz] at t1 t4
      simp only [hz] at t2 t3
      unfold fX1_insertRange_L13
      rw [t1, if_pos (Int.le_refl _)]
      exact ⟨_, rfl, 0, s.2, rfl, Int.le_refl _, n0, t2, t3, t4, fun q q0 q1 => by omega, t5⟩)
  rw [e1, bd_s, e2, se_l]
  unfold fX1_insertRange_B69
  dsimp only
  rw [rf_o r5 s5, gd_t (by rw [l5]; omega), nam_d, rf_o r6 s6, gd_t (by rw [l6]; omega), nam_d]
  have kF : ∀ q, 0 ≤ q → q ≤ n → wr (wr M1 (a + 5) j f) (a + 6) j t (a + 5) q = if q < j then M (a + 5) q else if q = j then f else M (a + 5) (q - 1) := fun q q0 q1 => by
    rw [wr_a (by omega)]
    by_cases e : q = j
    · rw [e, wr_s, if_neg (by omega), if_pos rfl]
    · rw [wr_k e, eF q q0 q1]
      by_cases e' : q ≤ j
      · rw [if_pos e', if_pos (by omega)]
      · rw [if_neg e', if_neg (by omega), if_neg e]
  have kT : ∀ q, 0 ≤ q → q ≤ n → wr (wr M1 (a + 5) j f) (a + 6) j t (a + 6) q = if q < j then M (a + 6) q else if q = j then t else M (a + 6) (q - 1) := fun q q0 q1 => by
    by_cases e : q = j
    · rw [e, wr_s, if_neg (by omega), if_pos rfl]
    · rw [wr_k e, wr_a (by omega), eT q q0 q1]
      by_cases e' : q ≤ j
      · rw [if_pos e', if_pos (by omega)]
      · rw [if_neg e', if_neg (by omega), if_neg e]
  refine ⟨_, rfl, ⟨fun q q0 q1 => ?_, fun p q p0 p1 q1 => ?_, fun x => ⟨fun hx => ?_, fun hx => ?_⟩⟩, fun c c1 c2 => by rw [wr_a c2, wr_a c1]; exact eR c c1 c2⟩
  · rw [kF q q0 (by omega), kT q q0 (by omega)]
    by_cases e : q < j
    · rw [if_pos e, if_pos e]; exact h1 q q0 (by omega)
    · by_cases e' : q = j
      · rw [if_neg e, if_neg e, if_pos e', if_pos e']; exact hf
      · rw [if_neg e, if_neg e, if_neg e', if_neg e']; exact h1 (q - 1) (by omega) (by omega)
  · rw [kF p p0 (by omega), kF q (by omega) (by omega)]
    by_cases e : q < j
    · rw [if_pos (show p < j by omega), if_pos e]; exact h2 p q p0 p1 (by omega)
    · by_cases e' : q = j
      · rw [if_neg e, if_pos e']
        by_cases d : p < j
        · rw [if_pos d]; exact eP p p0 d
        · rw [if_neg d, if_pos (by omega)]; exact Int.le_refl _
      · rw [if_neg e, if_neg e']
        by_cases d : p < j
        · rw [if_pos d]; exact h2 p (q - 1) p0 (by omega) (by omega)
        · by_cases d' : p = j
          · rw [if_neg d, if_pos d']
            have := eS (q - 1) (by omega) (by omega)
            omega
          · rw [if_neg d, if_neg d']; exact h2 (p - 1) (q - 1) (by omega) (by omega) (by omega)
  · rcases hx with hx | hx
    · refine ⟨j, ⟨j0, by omega⟩, ?_⟩
      rw [kF j j0 j1, kT j j0 j1, if_neg (show ¬ j < j by omega), if_neg (show ¬ j < j by omega), if_pos rfl, if_pos rfl]
      exact hx
    · obtain ⟨q, ⟨q0, q1⟩, hq⟩ := (h3 x).mp hx
      by_cases d : q < j
      · refine ⟨q, ⟨q0, by omega⟩, ?_⟩
        rw [kF q q0 (by omega), kT q q0 (by omega), if_pos d, if_pos d]
        exact hq
      · refine ⟨q + 1, ⟨by omega, by omega⟩, ?_⟩
        rw [kF (q + 1) (by omega) (by omega), kT (q + 1) (by omega) (by omega), if_neg (by omega), if_neg (by omega), if_neg (by omega), if_neg (by omega), show q + 1 - 1 = q by omega]
        exact hq
  · obtain ⟨q, ⟨q0, q1⟩, hq⟩ := hx
    rw [kF q q0 (by omega), kT q q0 (by omega)] at hq
    by_cases e : q < j
    · rw [if_pos e, if_pos e] at hq
      exact Or.inr ((h3 x).mpr ⟨q, ⟨q0, by omega⟩, hq⟩)
    · by_cases e' : q = j
      · rw [if_neg e, if_neg e, if_pos e', if_pos e'] at hq
        exact Or.inl hq
      · rw [if_neg e, if_neg e, if_neg e', if_neg e'] at hq
        exact Or.inr ((h3 x).mpr ⟨q - 1, ⟨by omega, by omega⟩, hq⟩)
theorem b_sort (hL : LyB S Ln R a) (hR : RpB M a v) (hI : IvB v) (y : Int) :
    ∃ n M', fX1_sortRanges ad S Ln R M a y = some (n, M') ∧ (0 ≤ n ∧ n ≤ 3) ∧ SR M' a n (fun x => rst v x y) ∧ ∀ c, c ≠ a + 5 → c ≠ a + 6 → M' c = M c := by
  have hL9 := hL
  obtain ⟨⟨s0, s1, s2, s3, s4, s5, s6⟩, ⟨l1, l2, l3, l4, l5, l6⟩, r1, r2, r3, r4, r5, r6⟩ := hL
  have i3 := hI.1
  unfold fX1_sortRanges
  obtain ⟨r, e1, n, M1, e2, e3, e4, e5⟩ := lp_inv0 (b := fX1_sortRanges_L4 ad S Ln R a y) (v 3).toNat
    (fun i s => s.2.1 = (i : Int) ∧ (0 ≤ s.1 ∧ s.1 ≤ (i : Int)) ∧ SR s.2.2 a s.1 (fun x => ∃ q, (0 ≤ q ∧ q < (i : Int)) ∧ cov v x y q) ∧ ∀ c, c ≠ a + 5 → c ≠ a + 6 → s.2.2 c = M c)
    (fun r => ∃ (n : Int) (M1 : gM), r = .inl (n, M1) ∧ (0 ≤ n ∧ n ≤ 3) ∧ SR M1 a n (fun x => rst v x y) ∧ ∀ c, c ≠ a + 5 → c ≠ a + 6 → M1 c = M c)
    (s := ((0 : Int), (0 : Int), M)) (by omega) ⟨rfl, ⟨Int.le_refl _, Int.le_refl _⟩, ⟨fun q q0 q1 => absurd (show q < (0 : Int) from q1) (by omega), fun p q p0 p1 q1 => absurd (show q < (0 : Int) from q1) (by omega), fun x => ⟨fun ⟨q, ⟨q0, q1⟩, _⟩ => by omega, fun ⟨q, ⟨q0, q1⟩, _⟩ => absurd (show q < (0 : Int) from q1) (by omega)⟩⟩, fun _ _ _ => rfl⟩
    (fun i s hi hs => by
      obtain ⟨t1, t2, t3, t4⟩ := hs
      left
      have hi3 : (i : Int) < v 3 := by omega
      obtain ⟨c1, c2⟩ := hI.2 i (by omega) hi3
      obtain ⟨m1, m2, m3, m4⟩ := hR.2 i (by omega) hi3
      have q0 : s.2.2 a 4 = v 3 := by rw [t4 a (by omega) (by omega)]; exact hR.1
      have q1 : s.2.2 (a + 1) (i : Int) = v (47 + 4 * i) := by rw [t4 _ (by omega) (by omega)]; exact m1
      have q2 : s.2.2 (a + 2) (i : Int) = v (48 + 4 * i) := by rw [t4 _ (by omega) (by omega)]; exact m2
      have q3 : s.2.2 (a + 3) (i : Int) = v (49 + 4 * i) := by rw [t4 _ (by omega) (by omega)]; exact m3
      have q4 : s.2.2 (a + 4) (i : Int) = v (50 + 4 * i) := by rw [t4 _ (by omega) (by omega)]; exact m4
      have hcong : ∀ (M2 : gM) (n : Int) (P Q : Int → Prop), (∀ x, P x ↔ Q x) → SR M2 a n P → SR M2 a n Q := fun M2 n P Q hPQ h => ⟨h.1, h.2.1, fun x => (hPQ x).symm.trans (h.2.2 x)⟩
      have hno : ¬ (v (48 + 4 * (i : Int)) ≤ y ∧ y ≤ v (50 + 4 * (i : Int))) → SR s.2.2 a s.1 (fun x => ∃ q, (0 ≤ q ∧ q < ((i + 1 : Nat) : Int)) ∧ cov v x y q) := fun hn => by
        refine hcong _ _ _ _ (fun x => ⟨fun ⟨q, hq, hc⟩ => ⟨q, by omega, hc⟩, fun ⟨q, hq, hc⟩ => ⟨q, ⟨hq.1, ?_⟩, hc⟩⟩) t3
        by_cases e : q = (i : Int)
        · rw [e] at hc; exact absurd hc.2 hn
        · omega
      unfold fX1_sortRanges_L4
      rw [q0, t1, if_neg (by omega), rf_o r2 s2, gd_t (by rw [l2]; omega), q2]
      by_cases a1 : y < v (48 + 4 * (i : Int))
      · rw [if_pos a1]
        unfold fX1_sortRanges_B52
        rw [w32_i (by omega) (by omega)]
        exact ⟨_, rfl, by show (i : Int) + 1 = ((i + 1 : Nat) : Int); omega, ⟨t2.1, by show s.1 ≤ ((i + 1 : Nat) : Int); omega⟩, hno (by omega), t4⟩
      rw [if_neg a1, rf_o r4 s4, gd_t (by rw [l4]; omega), q4]
      by_cases a2 : v (50 + 4 * (i : Int)) < y
      · rw [if_pos a2]
        unfold fX1_sortRanges_B52
        rw [w32_i (by omega) (by omega)]
        exact ⟨_, rfl, by show (i : Int) + 1 = ((i + 1 : Nat) : Int); omega, ⟨t2.1, by show s.1 ≤ ((i + 1 : Nat) : Int); omega⟩, hno (by omega), t4⟩
      rw [if_neg a2, rf_o r1 s1, gd_t (by rw [l1]; omega), rf_o r3 s3, gd_t (by rw [l3]; omega), q1, q3]
      obtain ⟨M2, f1, f2, f3⟩ := b_ins (ad := ad) hL9 t3 t2.1 (by omega) c1
      rw [f1, bd_s]
      unfold fX1_sortRanges_B52
      rw [w32_i (by omega) (by omega), w32_i (by omega) (by omega)]
      refine ⟨_, rfl, by show (i : Int) + 1 = ((i + 1 : Nat) : Int); omega, ⟨by show 0 ≤ s.1 + 1; omega, by show s.1 + 1 ≤ ((i + 1 : Nat) : Int); omega⟩, hcong _ _ _ _ (fun x => ⟨fun h => ?_, fun h => ?_⟩) f2, fun c d1 d2 => ?_⟩
      · rcases h with h | ⟨q, hq, hc⟩
        · exact ⟨i, by omega, ⟨h, by omega, by omega⟩⟩
        · exact ⟨q, by omega, hc⟩
      · obtain ⟨q, hq, hc⟩ := h
        by_cases e : q = (i : Int)
        · rw [e] at hc; exact Or.inl hc.1
        · exact Or.inr ⟨q, by omega, hc⟩
      · show M2 c = _
        rw [f3 c d1 d2]; exact t4 c d1 d2)
    (fun s hs => by
      obtain ⟨t1, t2, t3, t4⟩ := hs
      have q0 : s.2.2 a 4 = v 3 := by rw [t4 a (by omega) (by omega)]; exact hR.1
      unfold fX1_sortRanges_L4
      rw [q0, t1, if_pos (by omega)]
      refine ⟨_, rfl, s.1, s.2.2, rfl, by omega, ⟨t3.1, t3.2.1, fun x => Iff.trans ⟨fun ⟨q, hq, hc⟩ => ⟨q, by omega, hc⟩, fun ⟨q, hq, hc⟩ => ⟨q, by omega, hc⟩⟩ (t3.2.2 x)⟩, t4⟩)
  rw [e1, bd_s, e2, se_l]
  exact ⟨n, M1, rfl, e3, e4, e5⟩
noncomputable def cc (P : Int → Prop) : Nat → Int
  | 0 => 0
  | n + 1 => cc P n + bI (P n)
theorem cc_b {P : Int → Prop} : ∀ n : Nat, 0 ≤ cc P n ∧ cc P n ≤ n := by
  intro n
  induction n with
  | zero => exact ⟨Int.le_refl _, Int.le_refl _⟩
  | succ n ih =>
    have := bI_r (P n)
    unfold cc
    omega
theorem cc_c {P Q : Int → Prop} (h : ∀ x, P x ↔ Q x) : ∀ n : Nat, cc P n = cc Q n := by
  intro n
  induction n with
  | zero => rfl
  | succ n ih =>
    unfold cc
    rw [ih, bI_c (h n)]
theorem cc_add {P Q : Int → Prop} {s t : Int} (h0 : 0 ≤ s) (hst : s ≤ t) (hn : ∀ x, s ≤ x → x ≤ t → ¬ P x) (hq : ∀ x, Q x ↔ P x ∨ (s ≤ x ∧ x ≤ t)) : ∀ n : Nat, cc Q n = cc P n + (if (n : Int) ≤ s then 0 else if (n : Int) ≤ t + 1 then (n : Int) - s else t + 1 - s) := by
  intro n
  induction n with
  | zero => rw [if_pos (by omega)]; rfl
  | succ n ih =>
    have hc : ((n + 1 : Nat) : Int) = (n : Int) + 1 := by omega
    unfold cc
    rw [ih, hc]
    by_cases h : s ≤ (n : Int) ∧ (n : Int) ≤ t
    · rw [bI_t ((hq n).mpr (Or.inr h)), bI_f (hn n h.1 h.2), if_neg (show ¬ (n : Int) + 1 ≤ s by omega), if_pos (show (n : Int) + 1 ≤ t + 1 by omega)]
      by_cases e : (n : Int) ≤ s
      · rw [if_pos e]; omega
      · rw [if_neg e, if_pos (by omega)]; omega
    · rw [bI_c (show Q n ↔ P n from ⟨fun g => ((hq n).mp g).resolve_right h, fun g => (hq n).mpr (Or.inl g)⟩)]
      by_cases e : (n : Int) < s
      · rw [if_pos (show (n : Int) ≤ s by omega), if_pos (show (n : Int) + 1 ≤ s by omega)]; omega
      · rw [if_neg (show ¬ (n : Int) ≤ s by omega), if_neg (show ¬ (n : Int) + 1 ≤ s by omega)]
        by_cases e2 : (n : Int) ≤ t + 1
        · rw [if_pos e2, if_neg (by omega)]; omega
        · rw [if_neg e2, if_neg (by omega)]; omega
theorem cnt_cc {y : Int} : ∀ n : Nat, cnt v y n = cc (fun x => rst v x y) n := by
  intro n
  induction n with
  | zero => rfl
  | succ n ih =>
    unfold cc cnt
    rw [ih]
theorem b_byRanges (hL : LyB S Ln R a) (hR : RpB M a v) (hI : IvB v) (y : Int) :
    ∃ M', fX1_countByRanges ad S Ln R M a y = some (cnt v y 61, M') ∧ ∀ c, c ≠ a + 5 → c ≠ a + 6 → M' c = M c := by
  obtain ⟨n, M1, e1, e2, ⟨g1, g2, g3⟩, e4⟩ := b_sort (ad := ad) hL hR hI y
  obtain ⟨⟨s0, s1, s2, s3, s4, s5, s6⟩, ⟨l1, l2, l3, l4, l5, l6⟩, r1, r2, r3, r4, r5, r6⟩ := hL
  unfold fX1_countByRanges
  rw [e1, bd_s]
  dsimp only
  obtain ⟨r, f1, f2⟩ := lp_inv0 (b := fX1_countByRanges_L14 ad S Ln R M1 a n) n.toNat
    (fun i s => s.2.2 = (i : Int) ∧ s.1 = cc (fun x => ∃ q, (0 ≤ q ∧ q < (i : Int)) ∧ M1 (a + 5) q ≤ x ∧ x ≤ M1 (a + 6) q) 61 ∧ (-1 ≤ s.2.1 ∧ s.2.1 ≤ 60) ∧ (∀ q, 0 ≤ q → q < (i : Int) → M1 (a + 6) q ≤ s.2.1) ∧ (s.2.1 = -1 ∨ ∃ q, (0 ≤ q ∧ q < (i : Int)) ∧ M1 (a + 6) q = s.2.1))
    (fun r => r = .inl (cc (fun x => rst v x y) 61))
    (s := ((0 : Int), (-1 : Int), (0 : Int))) (by omega) ⟨rfl, by
      refine (?_ : (0 : Int) = _)
      have : ∀ k : Nat, cc (fun x => ∃ q : Int, (0 ≤ q ∧ q < ((0 : Nat) : Int)) ∧ M1 (a + 5) q ≤ x ∧ x ≤ M1 (a + 6) q) k = 0 := by
        intro k
        induction k with
        | zero => rfl
        | succ k ih =>
          unfold cc
          rw [ih, bI_f (fun ⟨q, ⟨q0, q1⟩, _⟩ => by omega)]
          rfl
      exact (this 61).symm, ⟨by decide, by decide⟩, fun q q0 q1 => by omega, Or.inl rfl⟩
    (fun i s hi hs => by
      obtain ⟨t1, t2, t3, t4, t5⟩ := hs
      left
      have hin : (i : Int) < n := by omega
      obtain ⟨p1, p2, p3⟩ := g1 i (by omega) hin
      have hb := @cc_b (fun x => ∃ q, (0 ≤ q ∧ q < (i : Int)) ∧ M1 (a + 5) q ≤ x ∧ x ≤ M1 (a + 6) q) 61
      unfold fX1_countByRanges_L14
      rw [t1, if_neg (by omega), rf_o r5 s5, gd_t (by rw [l5]; omega), rf_o r6 s6, gd_t (by rw [l6]; omega), w32_i (z := s.2.1 + 1) (by omega) (by omega)]
      have hm := @i_max_v (M1 (a + 5) (i : Int)) (s.2.1 + 1)
      have hext : ∀ x, (∃ q, (0 ≤ q ∧ q < ((i + 1 : Nat) : Int)) ∧ M1 (a + 5) q ≤ x ∧ x ≤ M1 (a + 6) q) ↔ (∃ q, (0 ≤ q ∧ q < (i : Int)) ∧ M1 (a + 5) q ≤ x ∧ x ≤ M1 (a + 6) q) ∨ (M1 (a + 5) (i : Int) ≤ x ∧ x ≤ M1 (a + 6) (i : Int)) := fun x => by
        constructor
        · rintro ⟨q, hq, hx⟩
          by_cases e : q = (i : Int)
          · rw [e] at hx; exact Or.inr hx
          · exact Or.inl ⟨q, by omega, hx⟩
        · rintro (⟨q, hq, hx⟩ | hx)
          · exact ⟨q, by omega, hx⟩
          · exact ⟨i, by omega, hx⟩
      have hold : ∀ x, M1 (a + 5) (i : Int) ≤ x → x ≤ s.2.1 → ∃ q, (0 ≤ q ∧ q < (i : Int)) ∧ M1 (a + 5) q ≤ x ∧ x ≤ M1 (a + 6) q := fun x x0 x1 => by
        rcases t5 with t5 | ⟨q, hq, hr⟩
        · omega
        · have := g2 q i hq.1 (by omega) hin
          exact ⟨q, hq, by omega, by omega⟩
      by_cases hlt : M1 (a + 6) (i : Int) < i_max (M1 (a + 5) (i : Int)) (s.2.1 + 1)
      · rw [if_pos hlt]
        unfold fX1_countByRanges_B72
        rw [w32_i (by omega) (by omega)]
        refine ⟨_, rfl, by show (i : Int) + 1 = ((i + 1 : Nat) : Int); omega, ?_, t3, fun q q0 q1 => ?_, ?_⟩
        · show s.1 = _
          rw [t2]
          refine cc_c (fun x => ?_) 61
          rw [hext x]
          exact ⟨Or.inl, fun h => h.elim id (fun hx => hold x hx.1 (by omega))⟩
        · show M1 (a + 6) q ≤ s.2.1
          by_cases e : q = (i : Int)
          · rw [e]; omega
          · exact t4 q q0 (by omega)
        · show s.2.1 = -1 ∨ _
          exact t5.imp id (fun ⟨q, hq, hr⟩ => ⟨q, by omega, hr⟩)
      · rw [if_neg hlt, rf_o r6 s6, gd_t (by rw [l6]; omega), rf_o r6 s6, gd_t (by rw [l6]; omega)]
        unfold fX1_countByRanges_B72
        rw [w32_i (z := M1 (a + 6) (i : Int) - _) (by omega) (by omega), w32_i (z := M1 (a + 6) (i : Int) - i_max (M1 (a + 5) (i : Int)) (s.2.1 + 1) + 1) (by omega) (by omega), w32_i (z := s.1 + _) (by omega) (by omega), w32_i (by omega) (by omega)]
        refine ⟨_, rfl, by show (i : Int) + 1 = ((i + 1 : Nat) : Int); omega, ?_, ⟨by show -1 ≤ M1 (a + 6) (i : Int); omega, p3⟩, fun q q0 q1 => ?_, Or.inr ⟨i, by omega, rfl⟩⟩
        · show s.1 + (M1 (a + 6) (i : Int) - i_max (M1 (a + 5) (i : Int)) (s.2.1 + 1) + 1) = _
          have hadd := cc_add (P := fun x => ∃ q, (0 ≤ q ∧ q < (i : Int)) ∧ M1 (a + 5) q ≤ x ∧ x ≤ M1 (a + 6) q) (Q := fun x => ∃ q, (0 ≤ q ∧ q < ((i + 1 : Nat) : Int)) ∧ M1 (a + 5) q ≤ x ∧ x ≤ M1 (a + 6) q) (s := i_max (M1 (a + 5) (i : Int)) (s.2.1 + 1)) (t := M1 (a + 6) (i : Int)) (by omega) (by omega)
            (fun x x0 x1 ⟨q, hq, hx⟩ => by have := t4 q hq.1 hq.2; omega)
            (fun x => by
              rw [hext x]
              constructor
              · rintro (h | hx)
                · exact Or.inl h
                · by_cases e : x ≤ s.2.1
                  · exact Or.inl (hold x hx.1 e)
                  · exact Or.inr (by omega)
              · rintro (h | hx)
                · exact Or.inl h
                · exact Or.inr (by omega)) 61
          rw [hadd, ← t2, if_neg (show ¬ ((61 : Nat) : Int) ≤ i_max (M1 (a + 5) (i : Int)) (s.2.1 + 1) by omega)]
          by_cases e : ((61 : Nat) : Int) ≤ M1 (a + 6) (i : Int) + 1
          · rw [if_pos e]; omega
          · rw [if_neg e]; omega
        · show M1 (a + 6) q ≤ M1 (a + 6) (i : Int)
          by_cases e : q = (i : Int)
          · rw [e]; exact Int.le_refl _
          · have := t4 q q0 (by omega); omega)
    (fun s hs => by
      obtain ⟨t1, t2, t3, t4, t5⟩ := hs
      unfold fX1_countByRanges_L14
      rw [t1, if_pos (by omega), t2]
      refine ⟨_, rfl, ?_⟩
      congr 1
      refine cc_c (fun x => ?_) 61
      refine Iff.trans ?_ (g3 x).symm
      exact ⟨fun ⟨q, hq, hx⟩ => ⟨q, by omega, hx⟩, fun ⟨q, hq, hx⟩ => ⟨q, by omega, hx⟩⟩)
  rw [f1, bd_s, f2, se_l, ← cnt_cc]
  exact ⟨M1, rfl, e4⟩
end PRG
