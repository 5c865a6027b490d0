/-! PURE: a character is appended; the text is emptied -/
def GR (sz sz' x y y' : Nat) (S S' Ln Ln' : Nat → Nat) (M M' : gM) (R R' : gR) : Prop := sz ≤ sz' ∧ (y' = y ∨ sz ≤ y') ∧ y' < sz' ∧ (∀ q, q < sz → S' q = S q ∧ Ln' q = Ln q) ∧ (∀ q, q < sz → q ≠ x → q ≠ y → M' q = M q) ∧ ∀ q, q < sz → q ≠ x → R' q = R q
theorem GR.tr {sz sz1 sz2 x y y1 y2 : Nat} {S S1 S2 Ln Ln1 Ln2 : Nat → Nat} {M M1 M2 : gM} {R R1 R2 : gR} (h : GR sz sz1 x y y1 S S1 Ln Ln1 M M1 R R1) (g : GR sz1 sz2 x y1 y2 S1 S2 Ln1 Ln2 M1 M2 R1 R2) : GR sz sz2 x y y2 S S2 Ln Ln2 M M2 R R2 := by
  obtain ⟨h1, h2, h3, h4, h5, h6⟩ := h
  obtain ⟨g1, g2, g3, g4, g5, g6⟩ := g
  refine ⟨by omega, by omega, g3, fun q hq => ?_, fun q hq q1 q2 => ?_, fun q hq q1 => ?_⟩
  · rw [(g4 q (by omega)).1, (g4 q (by omega)).2]; exact h4 q hq
  · rw [g5 q (by omega) q1 (by omega)]; exact h5 q hq q1 q2
  · rw [g6 q (by omega) q1]; exact h6 q hq q1
theorem i2b128 : ∀ n : Nat, n < 128 → i_i2b (n : Int) = (n : Int) := by decide +kernel
theorem i2b_v {z : Int} (h0 : 0 ≤ z) (h1 : z < 128) : i_i2b z = z := by
  have := i2b128 z.toNat (by omega)
  rw [show ((z.toNat : Nat) : Int) = z by omega] at this
  exact this
section PS2
variable {ad S Ln : Nat → Nat} {R : gR} {M : gM} {x y sz : Nat} {l : List Int}
theorem b_chr (hB : SBL S Ln R M x y l) (hx : x < sz) (hy : y < sz) (hl : l.length < 100) {c : Int} (c0 : 0 ≤ c) (c1 : c < 128) :
    ∃ sz' S' Ln' M' R' y', fJ4_append_cf468 ad sz S Ln R M x c = some (x, sz', S', Ln', M', R') ∧ SBL S' Ln' R' M' x y' (l ++ [c]) ∧ GR sz sz' x y y' S S' Ln Ln' M M' R R' := by
  have h3 := hB.2.1.2
  obtain ⟨sz', S', Ln', M', R', y', e1, e2, e3, e4, e5, e6, e7, e8⟩ := b_ens (ad := ad) hB hx hy (n := (l.length : Int) + 1) (by omega) (by omega)
  obtain ⟨⟨a1, a2, a3, a4⟩, ⟨b1, b3⟩, ⟨d1, d2⟩, hc⟩ := e3
  unfold fJ4_append_cf468 fJ5_append_3fe6f
  rw [h3, w32_i (by omega) (by omega), e1, bd_s]
  dsimp only
  rw [show fJ5_isLatin1_aae02 ad S' Ln' R' M' x = some 1 by unfold fJ5_isLatin1_aae02; rw [if_neg (by decide), b1, if_neg (fun q => q rfl)], bd_s, if_neg (by decide), show fJ1_canEncode_fc78d ad S' Ln' R' M' c = some 1 by unfold fJ1_canEncode_fc78d; rw [if_neg (by omega)], bd_s, if_neg (by decide), rf_o a2 a3]
  simp only [b3, nam_d]
  rw [gd_t (by omega), w32_i (by omega) (by omega), i2b_v c0 c1, bd_s]
  dsimp only
  have hx' : x < sz' := by omega
  refine ⟨sz', S', Ln', _, R', y', rfl, ⟨⟨a1, a2, a3, a4⟩, ⟨?_, ?_⟩, ⟨?_, d2⟩, fun i hi => ?_⟩, by omega, by omega, e5, fun q hq => ⟨(e7 q hq).1, (e7 q hq).2.1⟩, fun q hq q1 q2 => ?_, e8⟩
  · rw [wr_a a4, wr_k (by decide)]; exact b1
  · rw [wr_a a4, wr_s, List.length_append]
    simp
  · rw [List.length_append]
    simp only [List.length_cons, List.length_nil]
    omega
  · by_cases e : i = l.length
    · subst e
      rw [wr_s]
      simp
      omega
    · have hi' : i < l.length := by
        rw [List.length_append] at hi
        simp only [List.length_cons, List.length_nil] at hi
        omega
      rw [wr_k (by omega), wr_a (fun q => a4 q.symm), List.getElem_append_left hi']
      exact hc i hi'
  · rw [wr_a (by omega), wr_a q1]
    exact (e7 q hq).2.2
theorem b_set0 (hB : SBL S Ln R M x y l) (hx : x < sz) (hy : y < sz) :
    ∃ M', fJ4_setLength_d00df ad sz S Ln R M x 0 = some (sz, S, Ln, M', R) ∧ SBL S Ln R M' x y [] ∧ GR sz sz x y y S S Ln Ln M M' R R := by
  obtain ⟨⟨a1, a2, a3, a4⟩, ⟨b1, b3⟩, ⟨d1, d2⟩, hc⟩ := hB
  have he : fJ5_ensureCapacityInternal_d00df ad sz S Ln R M x 0 = some (sz, S, Ln, M, R) := by
    unfold fJ5_ensureCapacityInternal_d00df
    rw [rf_o a2 a3, b1, shr_0 (by omega) (by omega), w32_i (by omega) (by omega), if_pos (by omega)]
  unfold fJ4_setLength_d00df fJ5_setLength_d00df
  rw [if_pos (by decide), he, bd_s]
  dsimp only
  simp only [b3]
  rw [if_pos (by omega)]
  unfold fJ5_setLength_d00df_B76
  by_cases h : (l.length : Int) ≤ 0
  · rw [if_pos h, nam_d, bd_s]
    dsimp only
    exact ⟨_, rfl, ⟨⟨a1, a2, a3, a4⟩, ⟨by rw [wr_k (by decide)]; exact b1, wr_s⟩, ⟨Nat.zero_le _, d2⟩, fun i hi => absurd hi (Nat.not_lt_zero _)⟩, Nat.le_refl _, Or.inl rfl, hy, fun q _ => ⟨rfl, rfl⟩, fun q _ q1 _ => wr_a q1, fun q _ _ => rfl⟩
  · rw [if_neg h, nam_d, nam_d, bd_s]
    dsimp only
    exact ⟨_, rfl, ⟨⟨a1, a2, a3, a4⟩, ⟨by rw [wr_k (by decide), wr_k (by decide)]; exact b1, wr_s⟩, ⟨Nat.zero_le _, d2⟩, fun i hi => absurd hi (Nat.not_lt_zero _)⟩, Nat.le_refl _, Or.inl rfl, hy, fun q _ => ⟨rfl, rfl⟩, fun q _ q1 _ => by rw [wr_a q1, wr_a q1], fun q _ _ => rfl⟩
end PS2
