/-! PURE: a number is appended -/
section PSI
variable {ad S Ln : Nat → Nat} {R : gR} {M : gM} {x y sz : Nat} {l : List Int}
theorem b_int (hD : DGT ad S Ln M) (hB : SBL S Ln R M x y l) (hx : x < sz) (hy : y < sz) (ha : ad 10 < sz ∧ ad 11 < sz) (hyn : y ≠ ad 10 ∧ y ≠ ad 11) (hl : l.length ≤ 90) {n : Int} (h0 : 0 ≤ n) (h1 : n < 1000000000) :
    ∃ sz' S' Ln' M' R' y', fJ4_append_bf812 ad sz S Ln R M x n = some (x, sz', S', Ln', M', R') ∧ SBL S' Ln' R' M' x y' (l ++ dig 11 n) ∧ GR sz sz' x y y' S S' Ln Ln' M M' R R' := by
  have h3 := hB.2.1.2
  obtain ⟨L, hs, hL, hL9⟩ := s_size (ad := ad) (S := S) (Ln := Ln) (R := R) (M := M) h0 h1
  have hlen := dig_nD h0 11 L hL (by omega)
  have hdk := dig_K h0 11 L hL (by omega)
  have hdb := dig_b h0 11
  obtain ⟨sz', S', Ln', M', R', y', e1, e2, e3, e4, e5, e6, e7, e8⟩ := b_ens (ad := ad) hB hx hy (n := (l.length : Int) + L) (by omega) (by omega)
  obtain ⟨⟨a1, a2, a3, a4⟩, ⟨b1, b3⟩, ⟨d1, d2⟩, hc⟩ := e3
  have hD' : DGT ad S' Ln' M' := by
    obtain ⟨⟨k1, k2, k3, k4⟩, k5⟩ := hD
    obtain ⟨p1, p2, p3⟩ := e7 _ ha.1
    obtain ⟨q1, q2, q3⟩ := e7 _ ha.2
    refine ⟨⟨by rw [p1]; exact k1, by rw [q1]; exact k2, by rw [p2]; exact k3, by rw [q2]; exact k4⟩, fun r r0 r1 => ?_⟩
    rw [p3, q3]
    exact k5 r r0 r1
  obtain ⟨M2, g1, g2, g3, g4⟩ := g_chars (R := R') hD' (show y' ≠ ad 10 ∧ y' ≠ ad 11 by omega) h0 h1 hL hL9 (x := (l.length : Int) + L) (by omega) e6 (by omega)
  unfold fJ4_append_bf812 fJ5_append_c97b9
  rw [hs, bd_s, h3, w32_i (by omega) (by omega), e1, bd_s]
  dsimp only
  rw [show fJ5_isLatin1_aae02 ad S' Ln' R' M' x = some 1 by unfold fJ5_isLatin1_aae02; rw [if_neg (by decide), b1, if_neg (fun q => q rfl)], bd_s, if_neg (by decide), rf_o a2 a3, g1, bd_s]
  dsimp only
  rw [nam_d, bd_s]
  dsimp only
  refine ⟨sz', S', Ln', wr M2 x 3 ((l.length : Int) + L), R', y', rfl, ⟨⟨a1, a2, a3, a4⟩, ⟨?_, ?_⟩, ⟨?_, d2⟩, fun i hi => ?_⟩, by omega, by omega, e5, fun q hq => ⟨(e7 q hq).1, (e7 q hq).2.1⟩, fun q hq q1 q2 => ?_, e8⟩
  · rw [wr_k (by decide), g4 x a4]; exact b1
  · rw [wr_s, List.length_append, hlen]
    omega
  · rw [List.length_append, hlen]
    omega
  · rw [wr_a (fun q => a4 q.symm)]
    by_cases e : i < l.length
    · rw [List.getElem_append_left e, g3 _ (by omega)]
      exact hc i e
    · have hi2 : i - l.length < (dig 11 n).length := by
        rw [List.length_append] at hi
        omega
      have hb := hdb _ (List.getElem_mem hi2)
      have hk := hdk (i - l.length) hi2
      have hg := g2 (L - 1 - (i - l.length)) (by omega)
      rw [List.getElem_append_right (by omega)]
      refine ⟨?_, by omega, by omega⟩
      rw [hk, ← hg]
      congr 1
      omega
  · rw [wr_a q1, g4 q (by omega)]
    exact (e7 q hq).2.2
end PSI
