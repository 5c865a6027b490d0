/-! PURE: writePilot -/
def TXL (S Ln : Nat → Nat) (R : gR) (M : gM) (o m x y : Nat) : Prop := R o 5 = some x ∧ ∃ l, SBL S Ln R M x y l ∧ LNE M m l ∧ l.length ≤ 80
def OKW (sz : Nat) (S Ln : Nat → Nat) (R : gR) (M : gM) (o m a x y : Nat) (S' Ln' : Nat → Nat) (R' : gR) (M' : gM) (y' : Nat) : Prop := (∀ q, q < sz → S' q = S q ∧ Ln' q = Ln q) ∧ (∀ q, q < sz → q ≠ x → q ≠ y → q ≠ m → q ≠ m + 6 → q ≠ a → M' q = M q) ∧ (∀ q, q < sz → q ≠ x → R' q = R q) ∧ (∀ k, k ≠ 5 → k ≠ 12 → M' m k = M m k) ∧ (y' = y ∨ sz ≤ y') ∧ TXL S' Ln' R' M' o m x y'
section PWP
variable {ad S S' Ln Ln' : Nat → Nat} {R R' : gR} {M M' : gM} {o m x y y' sz sz' : Nat} {π : Int → Nat} {v : gV} {l l' : List Int} {b : Int}
theorem k10 : kS 10 = [109, 32] := rfl
theorem k11 : kS 11 = [32, 45] := rfl
theorem TS.O (h : TS ad sz S Ln R M o x y π v l) : LyO S Ln R o π := h.2.2.2.2.2.1
theorem TS.P (h : TS ad sz S Ln R M o x y π v l) : RpS M (o + 1) v := h.2.2.2.2.2.2.1
theorem sgn_b (s : Int) : 0 ≤ sgn s ∧ sgn s < 128 := by
  unfold sgn
  split
  · decide
  · split <;> decide
theorem c_flight (h : TS ad sz S Ln R M o x y π v l) (hI : IvS b v) {p : Int} (p0 : 0 ≤ p) (p1 : p < v 4) (hs : gl v p 1 ≠ 0) (hl : l = dig 11 p) :
    ∃ sz' S' Ln' M' R' y', fX9_writeFlight ad sz S Ln R M o (o + 1 + 20 + p.toNat) = some (sz', S', Ln', M', R') ∧ TS ad sz' S' Ln' R' M' o x y' π v (lnP v p) ∧ GR sz sz' x y y' S S' Ln Ln' M M' R R' := by
  have hu := hI.2.2.2.2.2.2 p p0 p1
  have hb := hI.2.2.2.2.2.1
  have h1 := hI.1.2.1
  obtain ⟨f0, f1, f2, f4, f5, f6, f7, f8, -⟩ := hu
  have d0 := (@dig_len p 11).2
  have d2 := (@dig_len (gl v p 2) 11).2
  have d3 := (@dig_len (gl v p 3) 11).2
  have d4 := (@dig_len (gl v p 4) 11).2
  have d7 := (@dig_len (gl v p 7) 11).2
  have d1 := (@dig_len (v 1) 11).2
  have hsg := sgn_b (gl v p 1)
  have hph : fX3_phaseSign ad S Ln R M (o + 1 + 20 + p.toNat) = some (sgn (gl v p 1)) := by
    unfold fX3_phaseSign sgn
    rw [ts_g h p0 p1 (k := 1) (by decide) (by decide), gd_t (by omega)]
    by_cases e1 : gl v p 1 = 1
    · rw [if_neg (fun q => q e1), if_pos e1]
    · rw [if_pos e1, if_neg e1, gd_t (by omega)]
      by_cases e2 : gl v p 1 = 2
      · rw [if_neg (fun q => q e2), if_pos e2]
      · rw [if_pos e2, if_neg e2]
  subst hl
  unfold fX9_writeFlight
  rw [ts_5 h, hph, bd_s]
  obtain ⟨sz1, S1, Ln1, M1, R1, y1, e1, t1, g1⟩ := ts_chr h (by omega) hsg.1 hsg.2
  rw [e1, bd_s]
  dsimp only
  rw [ts_g t1 p0 p1 (k := 2) (by decide) (by decide)]
  obtain ⟨sz2, S2, Ln2, M2, R2, y2, e2, t2, g2⟩ := ts_int t1 (n := gl v p 2) (by simp only [List.length_append, List.length_cons, List.length_nil]; omega) (by omega) (by omega)
  rw [e2, bd_s]
  dsimp only
  obtain ⟨sz3, S3, Ln3, M3, R3, y3, e3, t3, g3⟩ := ts_chr t2 (c := 44) (by simp only [List.length_append, List.length_cons, List.length_nil]; omega) (by decide) (by decide)
  rw [e3, bd_s]
  dsimp only
  rw [ts_g t3 p0 p1 (k := 3) (by decide) (by decide)]
  obtain ⟨sz4, S4, Ln4, M4, R4, y4, e4, t4, g4⟩ := ts_int t3 (n := gl v p 3) (by simp only [List.length_append, List.length_cons, List.length_nil]; omega) (by omega) (by omega)
  rw [e4, bd_s]
  dsimp only
  rw [ts_5 t4]
  obtain ⟨sz5, S5, Ln5, M5, R5, y5, e5, t5, g5⟩ := ts_chr t4 (c := 32) (by simp only [List.length_append, List.length_cons, List.length_nil]; omega) (by decide) (by decide)
  rw [e5, bd_s]
  dsimp only
  rw [ts_g t5 p0 p1 (k := 4) (by decide) (by decide)]
  obtain ⟨sz6, S6, Ln6, M6, R6, y6, e6, t6, g6⟩ := ts_int t5 (n := gl v p 4) (by simp only [List.length_append, List.length_cons, List.length_nil]; omega) (by omega) (by omega)
  rw [e6, bd_s]
  dsimp only
  rw [ts_z t6 (z := 10) (by decide)]
  obtain ⟨sz7, S7, Ln7, M7, R7, y7, e7, t7, g7⟩ := ts_str t6 (z := 10) (by decide) (by rw [k10]; simp only [List.length_append, List.length_cons, List.length_nil]; omega)
  rw [e7, bd_s]
  dsimp only
  rw [k10] at t7
  rw [ts_5 t7, ts_g t7 p0 p1 (k := 7) (by decide) (by decide)]
  obtain ⟨sz8, S8, Ln8, M8, R8, y8, e8, t8, g8⟩ := ts_int t7 (n := gl v p 7) (by simp only [List.length_append, List.length_cons, List.length_nil]; omega) (by omega) (by omega)
  rw [e8, bd_s]
  dsimp only
  obtain ⟨sz9, S9, Ln9, M9, R9, y9, e9, t9, g9⟩ := ts_chr t8 (c := 47) (by simp only [List.length_append, List.length_cons, List.length_nil]; omega) (by decide) (by decide)
  rw [e9, bd_s]
  dsimp only
  rw [o_0 t9.O, s_c t9.O.2.2.1, t9.P.1.2.1]
  obtain ⟨szA, SA, LnA, MA, RA, yA, eA, tA, gA⟩ := ts_int t9 (n := v 1) (by simp only [List.length_append, List.length_cons, List.length_nil]; omega) (by omega) (by omega)
  rw [eA, bd_s]
  dsimp only
  simp only [ts_g tA p0 p1 (k := 6) (by decide) (by decide)]
  have gg := ((((((((g1.tr g2).tr g3).tr g4).tr g5).tr g6).tr g7).tr g8).tr g9).tr gA
  unfold lnP
  rw [if_neg hs]
  by_cases e6 : gl v p 6 = 0
  · rw [if_pos e6, if_pos e6]
    exact ⟨szA, SA, LnA, MA, RA, yA, rfl, tA, gg⟩
  · rw [if_neg e6, if_neg e6, ts_5 tA, ts_z tA (z := 11) (by decide)]
    obtain ⟨szB, SB, LnB, MB, RB, yB, eB, tB, gB⟩ := ts_str tA (z := 11) (by decide) (by rw [k11]; simp only [List.length_append, List.length_cons, List.length_nil]; omega)
    rw [eB, bd_s]
    dsimp only
    rw [k11] at tB
    rw [ts_g tB p0 p1 (k := 6) (by decide) (by decide)]
    obtain ⟨szC, SC, LnC, MC, RC, yC, eC, tC, gC⟩ := ts_int tB (n := gl v p 6) (by simp only [List.length_append, List.length_cons, List.length_nil]; omega) (by omega) (by omega)
    rw [eC, bd_s]
    exact ⟨szC, SC, LnC, MC, RC, yC, rfl, tC, (gg.tr gB).tr gC⟩
theorem c_wp (h : TS ad sz S Ln R M o x y π v l) (hI : IvS b v) {p : Int} (p0 : 0 ≤ p) (p1 : p < v 4) :
    ∃ sz' S' Ln' M' R' y', fX9_writePilot ad sz S Ln R M o p = some (.inl (((lnP v p).length : Int), sz', S', Ln', M', R')) ∧ TS ad sz' S' Ln' R' M' o x y' π v (lnP v p) ∧ GR sz sz' x y y' S S' Ln Ln' M M' R R' := by
  have h4 := hI.2.2.2.1
  have hu := (hI.2.2.2.2.2.2 p p0 p1).2.1
  have d0 := (@dig_len p 11).2
  unfold fX9_writePilot
  rw [O_known h.O h.P hI p, bd_s, if_pos ⟨p0, p1⟩, se_l, ts_5 h]
  obtain ⟨M0, e0, t0, g0⟩ := ts_set0 h
  rw [e0, bd_s]
  dsimp only
  rw [ts_5 t0]
  obtain ⟨sz1, S1, Ln1, M1, R1, y1, e1, t1, g1⟩ := ts_int t0 (n := p) (Nat.zero_le _) p0 (by omega)
  rw [e1, bd_s]
  dsimp only
  rw [List.nil_append] at t1
  simp only [ts_g t1 p0 p1 (k := 1) (by decide) (by decide)]
  rw [gd_t (by omega)]
  by_cases hs : gl v p 1 = 0
  · rw [if_neg (fun q => q hs), ts_5 t1]
    obtain ⟨sz2, S2, Ln2, M2, R2, y2, e2, t2, g2⟩ := ts_chr t1 (c := 45) (by omega) (by decide) (by decide)
    rw [e2, bd_s]
    dsimp only
    unfold fX9_writePilot_B51
    rw [ts_5 t2, ts_len t2, bd_s]
    unfold lnP
    rw [if_pos hs]
    exact ⟨sz2, S2, Ln2, M2, R2, y2, rfl, t2, (g0.tr g1).tr g2⟩
  · rw [if_pos hs]
    obtain ⟨sz2, S2, Ln2, M2, R2, y2, e2, t2, g2⟩ := c_flight t1 hI p0 p1 hs rfl
    rw [e2, bd_s]
    dsimp only
    unfold fX9_writePilot_B51
    rw [ts_5 t2, ts_len t2, bd_s]
    exact ⟨sz2, S2, Ln2, M2, R2, y2, rfl, t2, (g0.tr g1).tr g2⟩
theorem ms_0 (hL : LyM S Ln R m) (hv : M (m + 1) = v) (hC : CST ad S Ln R M) (hA : AD ad o) (hm : o + 308 ≤ m) : MS ad S Ln R (wr (wr M m 5 0) m 12 0) o m v [] :=
  ⟨hL, ⟨wr_s, fun i hi => absurd hi (Nat.not_lt_zero _)⟩, by rw [wr_a (by omega), wr_a (by omega)]; exact hv, hC.fr hA (fun q hq => ⟨rfl, rfl, by rw [wr_a (by omega), wr_a (by omega)], rfl⟩), hA, hm⟩
theorem m_g1 {α : Type} {x : Option α} (hL : LyM S Ln R m) : gd ((0 : Int) ≤ 1 ∧ 1 < (Ln (m + 1) : Int)) x = x := m_g hL (by decide) (by decide)
end PWP
