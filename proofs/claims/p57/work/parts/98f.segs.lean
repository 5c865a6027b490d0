/-! p57: the pieces of the law, from what stands before each to what stands after it -/
def LI (ad S Ln : Nat → Nat) (R : gR) (M : gM) (o a0 : Nat) (π : Int → Nat) (b : Int) (v : gV) (n : Int) (w : Int → gV) : Prop := CW S Ln R M o π b v n w ∧ (4 ≤ v 4 ∧ a0 < o ∧ S a0 = 29) ∧ (LyT S Ln R o (o + 289) ∧ M (o + 289) 1 = 0) ∧ LyX S Ln R M o (o + 308) ∧ CST ad S Ln R M ∧ AD ad o
/-- what was seen of a contest that holds v -/
def SN (Ln : Nat → Nat) (M : gM) (o a : Nat) (v : gV) : Prop := o + 310 ≤ a ∧ Ln a = 130 ∧ M a = sF v
section LS57
variable {ad S Ln S' Ln' : Nat → Nat} {R R' : gR} {M M' : gM} {o a0 sz : Nat} {π : Int → Nat} {b : Int} {v : gV} {n : Int} {w : Int → gV}
theorem LyT.fr {t : Nat} (h : LyT S Ln R o t) (e : ∀ q, q < t + 19 → S' q = S q ∧ Ln' q = Ln q) (r : R' o 4 = R o 4) (r2 : ∀ q, t ≤ q → q < t + 19 → R' q = R q) : LyT S' Ln' R' o t := by
  obtain ⟨t1, ⟨t2, t3, t4, t5⟩, ⟨t6, t7, t8⟩, ⟨t9, t10, t11⟩, t12⟩ := h
  refine ⟨by rw [r]; exact t1, ⟨by rw [(e _ (by omega)).1]; exact t2, by rw [(e _ (by omega)).1]; exact t3, by rw [(e _ (by omega)).1]; exact t4, by rw [(e _ (by omega)).1]; exact t5⟩, ⟨by rw [(e _ (by omega)).2]; exact t6, by rw [(e _ (by omega)).2]; exact t7, by rw [(e _ (by omega)).2]; exact t8⟩, ⟨by rw [r2 _ (by omega) (by omega)]; exact t9, by rw [r2 _ (by omega) (by omega)]; exact t10, by rw [r2 _ (by omega) (by omega)]; exact t11⟩, fun i hi => ?_⟩
  obtain ⟨u1, u2, u3⟩ := t12 i hi
  exact ⟨by rw [r2 _ (by omega) (by omega)]; exact u1, by rw [(e _ (by omega)).1]; exact u2, by rw [(e _ (by omega)).2]; exact u3⟩
theorem LyX.fr {x : Nat} (h : LyX S Ln R M o x) (e : ∀ q, q < x + 2 → S' q = S q ∧ Ln' q = Ln q) (r : R' o 5 = R o 5) (r2 : R' x = R x) (m : M' x = M x) : LyX S' Ln' R' M' o x := by
  obtain ⟨a1, a2, a3, a4, a5, a6, a7⟩ := h
  exact ⟨by rw [r]; exact a1, by rw [(e _ (by omega)).1]; exact a2, by rw [(e _ (by omega)).1]; exact a3, by rw [(e _ (by omega)).2]; exact a4, by rw [r2]; exact a5, by rw [m]; exact a6, by rw [m]; exact a7⟩
theorem CW.fz (hW : CW S Ln R M o π b v n w) (h : ∀ q, q < o + 289 → S' q = S q ∧ Ln' q = Ln q) (r : ∀ q, q < o + 289 → R' q = R q) (m : ∀ q, o + 1 ≤ q → q < o + 289 → M' q = M q) : CW S' Ln' R' M' o π b v n w := by
  obtain ⟨hO, h2⟩ := hW.fr (M' := M') (fun c c0 c1 => m c c0 (by omega)) (fun c c0 c1 => m c (by omega) c1)
  exact ⟨hO.f2 h r, h2⟩
/-- what lies below the next free place stays -/
theorem LI.fz (h : LI ad S Ln R M o a0 π b v n w) (e : ∀ q, q < o + 310 → S' q = S q ∧ Ln' q = Ln q ∧ M' q = M q ∧ R' q = R q) : LI ad S' Ln' R' M' o a0 π b v n w := by
  obtain ⟨hW, ⟨h4, ha, h29⟩, ⟨hT, hT0⟩, hX, hC, hA⟩ := h
  refine ⟨hW.fz (fun q hq => ⟨(e q (by omega)).1, (e q (by omega)).2.1⟩) (fun q hq => (e q (by omega)).2.2.2) (fun q _ hq => (e q (by omega)).2.2.1), ⟨h4, ha, by rw [(e _ (by omega)).1]; exact h29⟩, ⟨hT.fr (fun q hq => ⟨(e q (by omega)).1, (e q (by omega)).2.1⟩) (by rw [(e _ (by omega)).2.2.2]) (fun q _ hq => (e q (by omega)).2.2.2), by rw [(e _ (by omega)).2.2.1]; exact hT0⟩, hX.fr (fun q hq => ⟨(e q (by omega)).1, (e q (by omega)).2.1⟩) (by rw [(e _ (by omega)).2.2.2]) (e _ (by omega)).2.2.2 (e _ (by omega)).2.2.1, hC.fr hA (fun q hq => e q (by omega)), hA⟩
theorem LI.sc (h : LI ad S Ln R M o a0 π b v n w) (e : SC M M' o) : LI ad S Ln R M' o a0 π b v n w := by
  obtain ⟨hW, h4, ⟨hT, hT0⟩, hX, hC, hA⟩ := h
  have hf : ∀ q, (q < o ∨ o + 289 ≤ q) → M' q = M q := fun q hq => e q (by omega) (by omega) (by omega) (by omega)
  exact ⟨hW.sc e, h4, ⟨hT, by rw [hf _ (by omega)]; exact hT0⟩, hX.fr (fun q _ => ⟨rfl, rfl⟩) rfl rfl (hf _ (by omega)), hC.fr hA (fun q hq => ⟨rfl, rfl, hf q (by omega), rfl⟩), hA⟩
theorem seen_fz (ho : o + 310 ≤ sz) (f : Int → Int) : ∀ q, q < o + 310 → ua S sz 20 q = S q ∧ ua Ln sz 130 q = Ln q ∧ ua M sz f q = M q ∧ ua R sz gNo q = R q := fun q hq => ⟨ua_n (by omega), ua_n (by omega), ua_n (by omega), ua_n (by omega)⟩
/-- the contest of the law is begun -/
theorem G_s0 (hC : CST ad S Ln R M) (hA : AD ad sz) (ha : a0 < sz) (h29 : S a0 = 29) : ∃ S' Ln' M' R' π v n w, fL_s0 ad sz S Ln R M a0 = some (sz, S', Ln', M', R') ∧ LI ad S' Ln' R' M' sz a0 π 23 v n w := by
  obtain ⟨S1, Ln1, M1, R1, e1, ⟨π, v, n, w, hW, h4⟩, hT, hT0, hX, hf⟩ := W_begun (ad := ad) (S := S) (Ln := Ln) (R := R) (M := M) (o := sz) (e := a0)
  have hI : LI ad S1 Ln1 R1 M1 sz a0 π 23 v n w := ⟨hW, ⟨h4, ha, by rw [(hf _ ha).1]; exact h29⟩, ⟨hT, hT0⟩, hX, hC.fr hA (fun q hq => hf q hq), hA⟩
  obtain ⟨M2, e2, c2⟩ := W_isWell (ad := ad) hW
  refine ⟨S1, Ln1, M2, R1, π, v, n, w, ?_, hI.sc c2⟩
  unfold fL_s0
  rw [e1, bd_s]
  dsimp only
  rw [e2, bd_s, if_pos (show ¬ ((1 : Int) = 0) by decide)]
/-- a turn: what is seen, an act -/
theorem G_s1 (h : LI ad S Ln R M o a0 π b v n w) (hb : b + 30 ≤ 10000) (ho : o + 310 ≤ sz) {k : Int} (k0 : 0 ≤ k) (k1 : k < 9) :
    ∃ r S' Ln' M' R' π' v' n' w', LI ad S' Ln' R' M' o a0 π' (b + 30) v' n' w' ∧ SN Ln' M' o sz v ∧ ((r ≤ -900000 ∧ v' = v ∧ fL_s1 ad sz S Ln R M a0 o k = some (.inl (sz, r, S', Ln', M', R'))) ∨ (0 ≤ r ∧ 1 ≤ n' ∧ w' (n' - 1) = v ∧ 4 ≤ v 4 ∧ fL_s1 ad sz S Ln R M a0 o k = some (.inr (.inl (sz, r, S', Ln', M', R'))))) := by
  obtain ⟨hW1, ⟨h4, ha, h29⟩, ⟨hT, hT0⟩, hX, hC, hA⟩ := h.fz (seen_fz ho (sF v))
  obtain ⟨r, S2, Ln2, M2, R2, π2, v2, n2, w2, e2, hW2, g4, hr, hc, fS, fR, fM, fT⟩ := A_acts (sz := sz + 1) (ad := ad) (e := a0) (i := w32 (40 + w32 (4 * k))) hW1 hb h4 hT hT0 hC hA (by omega) (by rw [w32_i (z := 4 * k) (by omega) (by omega), w32_i (by omega) (by omega)]; omega) (by rw [w32_i (z := 4 * k) (by omega) (by omega), w32_i (by omega) (by omega)]; omega)
  have hI2 : LI ad S2 Ln2 R2 M2 o a0 π2 (b + 30) v2 n2 w2 := by
    refine ⟨hW2, ⟨by omega, ha, by rw [(fS _ (by omega)).1]; exact h29⟩, ⟨hT.fr (fun q hq => fS q (by omega)) (by rw [fR _ (by omega) (by omega)]) (fun q q0 q1 => fR q (by omega) (by omega)), fT⟩, hX.fr (fun q hq => fS q (by omega)) (by rw [fR _ (by omega) (by omega)]) (fR _ (by omega) (by omega)) (fM _ (by omega) (by omega)), hC.fr hA (fun q hq => ⟨(fS q (by omega)).1, (fS q (by omega)).2, fM q (by omega) (by omega), fR q (by omega) (by omega)⟩), hA⟩
  obtain ⟨M3, e3, c3⟩ := W_isWell (ad := ad) hW2
  have hs : SN Ln2 M3 o sz v := ⟨ho, by rw [(fS sz (by omega)).2]; exact ua_s, by rw [c3 sz (by omega) (by omega) (by omega) (by omega), fM sz (by omega) (by omega)]; exact ua_s⟩
  have hv : v 4 = v 4 := rfl
  refine ⟨r, S2, Ln2, M3, R2, π2, v2, n2, w2, hI2.sc c3, hs, ?_⟩
  unfold fL_s1
  rw [if_neg (by omega), W_seen h.1 ho, bd_s]
  dsimp only
  rw [e2, bd_s]
  dsimp only
  rw [e3, bd_s]
  dsimp only
  rw [if_neg (show ¬ ((1 : Int) = 0) by decide), if_neg (show ¬ r = -900009 by omega)]
  rcases hc with ⟨c0, c1⟩ | ⟨c0, c1, c2⟩
  · rw [if_neg (show ¬ (-900000 : Int) < r by omega)]
    exact Or.inl ⟨by omega, c1, rfl⟩
  · rw [if_pos (show (-900000 : Int) < r by omega)]
    exact Or.inr ⟨c0, c1, c2, h4, rfl⟩
/-- what is seen is as it was seen -/
theorem G_same (hW : CW S Ln R M o π b v n w) {a : Nat} (hs : SN Ln M o a v) (ha : a < sz) (ho : o + 310 ≤ sz) : fL_areAlike ad (ua S sz 20) (ua Ln sz 130) (ua R sz gNo) (ua M sz (sF v)) a sz = some 1 := by
  obtain ⟨h1, h2, h3⟩ := hs
  refine W_alike (by rw [ua_n (by omega)]; exact h2) ua_s (fun j j0 j1 => ?_)
  rw [ua_n (show a ≠ sz by omega), ua_s, h3]
theorem G_s2 (h : LI ad S Ln R M o a0 π b v n w) {a : Nat} (hs : SN Ln M o a v) (ha : a < sz) (ho : o + 310 ≤ sz) {k r : Int} : ∃ S' Ln' M' R', fL_s2 ad sz S Ln R M a0 o k a r = some (S', Ln', M', R') ∧ LI ad S' Ln' R' M' o a0 π b v n w := by
  refine ⟨ua S sz 20, ua Ln sz 130, ua M sz (sF v), ua R sz gNo, ?_, h.fz (seen_fz ho (sF v))⟩
  unfold fL_s2
  rw [W_seen h.1 ho, bd_s]
  dsimp only
  rw [G_same h.1 hs ha ho, bd_s, if_pos (show ¬ ((1 : Int) = 0) by decide)]
theorem G_s4 (h : LI ad S Ln R M o a0 π b v n w) {a : Nat} (hs : SN Ln M o a v) (ha : a < sz) (ho : o + 310 ≤ sz) {k : Int} : ∃ S' Ln' M' R', fL_s4 ad sz S Ln R M a0 o k a = some (w32 (k + 1), S', Ln', M', R') ∧ LI ad S' Ln' R' M' o a0 π b v n w := by
  refine ⟨ua S sz 20, ua Ln sz 130, ua M sz (sF v), ua R sz gNo, ?_, h.fz (seen_fz ho (sF v))⟩
  unfold fL_s4
  rw [W_seen h.1 ho, bd_s]
  dsimp only
  rw [G_same h.1 hs ha ho, bd_s, if_pos (show ¬ ((1 : Int) = 0) by decide)]
theorem G_s3a {a : Nat} {k r : Int} (hr : r ≤ -900000) : fL_s3 ad sz S Ln R M a0 o k a r = some (.inl (w32 (k + 1), S, Ln, M, R)) := by
  unfold fL_s3
  rw [if_pos hr]
theorem G_s3b (h : LI ad S Ln R M o a0 π b v n w) {vb : gV} {a : Nat} {k r : Int} (hr : 0 ≤ r) (k0 : 0 ≤ k) (k1 : k < 9) (n1 : 1 ≤ n) (hw : w (n - 1) = vb) (h4 : 4 ≤ vb 4) (hs : SN Ln M o a vb) : fL_s3 ad sz S Ln R M a0 o k a r = some (.inl (w32 (k + 1), S, Ln, M, R)) ∨ ∃ M', fL_s3 ad sz S Ln R M a0 o k a r = some (.inr (S, Ln, M', R)) ∧ LI ad S Ln R M' o a0 π b vb (n - 1) w ∧ SN Ln M' o a vb := by
  obtain ⟨q, eq, q0, q1⟩ := W_in (ad := ad) (S := S) (Ln := Ln) (R := R) (M := M) (a := a0) (i := w32 (77 + k)) (m := 5) (by rw [w32_i (by omega) (by omega)]; omega) (by decide)
  unfold fL_s3
  rw [if_neg (by omega), eq, bd_s]
  by_cases hq : q = 0
  · obtain ⟨hW, ⟨g4, ha, h29⟩, ⟨hT, hT0⟩, hX, hC, hA⟩ := h
    obtain ⟨M1, e1, hW1, f1⟩ := W_undo (ad := ad) hW n1
    refine Or.inr ⟨M1, ?_, ?_, ?_⟩
    · rw [if_neg (fun z => z hq), e1, bd_s]
      dsimp only
      rw [if_neg (by omega)]
    · rw [hw] at hW1
      exact ⟨hW1, ⟨h4, ha, h29⟩, ⟨hT, by rw [f1 _ (by omega)]; exact hT0⟩, hX.fr (fun q _ => ⟨rfl, rfl⟩) rfl rfl (f1 _ (by omega)), hC.fr hA (fun q hq => ⟨rfl, rfl, f1 q (by omega), rfl⟩), hA⟩
    · obtain ⟨s1, s2, s3⟩ := hs
      exact ⟨s1, s2, by rw [f1 _ (by omega)]; exact s3⟩
  · exact Or.inl (by rw [if_pos hq])
/-- the first of the ranks -/
theorem W_first (hW : CW S Ln R M o π b v n w) (h4 : 4 ≤ v 4) : ∃ r M', fL_pilotAtRank ad S Ln R M o 0 = some (r, M') ∧ (0 ≤ r ∧ r < v 4) ∧ ∀ c, c ≠ o + 19 → M' c = M c := by
  obtain ⟨hO, hR, ⟨hI, hZ, hX⟩, hH, hHX⟩ := hW
  obtain ⟨k, k0, k1, k2⟩ := @rank_first v (v 4).toNat 0 (by decide) (by omega)
  obtain ⟨M1, e1, f1⟩ := s_ranked (ad := ad) hO.2.2.1 hR hI k0 k1 k2
  refine ⟨k, M1, ?_, by omega, fun c hc => f1 c (by omega)⟩
  unfold fL_pilotAtRank fX9_pilotAtRank
  rw [o_0 hO, s_hasPilot hR, bd_s, bI_t ⟨by decide, by omega⟩, if_pos (show ¬ ((1 : Int) = 0) by decide), o_0 hO, e1, bd_s, bd_s, se_l]
theorem W_strong (hW : CW S Ln R M o π b v n w) : ∃ r, fL_strongestThermal ad S Ln R M o 5 5 = some r ∧ -900002 ≤ r ∧ r ≤ 5 := by
  obtain ⟨hO, hR, ⟨hI, hZ, hX⟩, hH, hHX⟩ := hW
  have hst := str_b hI.2.1 (x := 5) (y := 5) (v 2).toNat (by have := hI.2.1.1; omega)
  unfold fL_strongestThermal fX9_strongestThermal
  rw [O_place, if_pos (by decide), bd_s, se_l, o_0 hO, s_a hO.2.2.1, a_strongest hO.2.2.1.2.2.2.1 hR.2.1 hI.2.1 (by omega) (by omega) (by omega) (by omega), bd_s]
  by_cases hz : str v 5 5 (v 2).toNat = 0
  · rw [if_neg (fun q => q hz), bd_s, se_r, if_neg (by decide), if_pos rfl]
    exact ⟨_, rfl, by decide, by decide⟩
  · rw [if_pos hz, bd_s, se_l]
    exact ⟨_, rfl, by omega, by omega⟩
/-- what was saved -/
def SV (M : gM) (o : Nat) (v : gV) : Prop := RpS M (o + 27) v ∧ M o 6 = 1
theorem G_s5 (h : LI ad S Ln R M o a0 π b v n w) (ho : o + 310 ≤ sz) : ∃ j S' Ln' M' R', fL_s5 ad sz S Ln R M o = some (sz, j, S', Ln', M', R') ∧ (-1000000 ≤ j ∧ j ≤ 11) ∧ LI ad S' Ln' R' M' o a0 π b v n w ∧ SN Ln' M' o sz v ∧ SV M' o v := by
  obtain ⟨hW1, ⟨h4, ha, h29⟩, ⟨hT, hT0⟩, hX, hC, hA⟩ := h.fz (seen_fz ho (sF v))
  obtain ⟨M2, e2, hW2, s1, s2, s3, f2⟩ := W_save (ad := ad) hW1
  obtain ⟨r3, e3, r30, r31⟩ := W_strong (ad := ad) hW2
  obtain ⟨r4, M4, e4, ⟨r40, r41⟩, f4⟩ := W_first (ad := ad) hW2 h4
  have h6 : v 4 ≤ 6 := h.1.2.2.1.1.2.2.2.1.2
  refine ⟨w32 (r3 + r4), ua S sz 20, ua Ln sz 130, M4, ua R sz gNo, ?_, by rw [w32_i (by omega) (by omega)]; omega, ⟨hW2.sc (fun c _ _ c2 _ => f4 c c2), ⟨h4, ha, h29⟩, ⟨hT, by rw [f4 _ (by omega), f2 _ (by omega) (by omega)]; exact hT0⟩, hX.fr (fun q _ => ⟨rfl, rfl⟩) rfl rfl (by rw [f4 _ (by omega), f2 _ (by omega) (by omega)]), hC.fr hA (fun q hq => ⟨rfl, rfl, by rw [f4 _ (by omega), f2 _ (by omega) (by omega)], rfl⟩), hA⟩, ⟨ho, ua_s, by rw [f4 _ (by omega), f2 _ (by omega) (by omega)]; exact ua_s⟩, s1.fr (fun q q0 q1 => f4 q (by omega)) h6, by rw [f4 _ (by omega)]; exact s2⟩
  unfold fL_s5
  rw [W_seen h.1 ho, bd_s]
  dsimp only
  rw [e2, bd_s, e3, bd_s, e4, bd_s]
theorem G_s6 (h : LI ad S Ln R M o a0 π b v n w) (ho : o + 310 ≤ sz) {a : Nat} (has : a < sz) (hs : SN Ln M o a v) (hv : SV M o v) {j : Int} (j0 : -1000000 ≤ j) (j1 : j ≤ 11) : ∃ i S' Ln' M' R', fL_s6 ad sz S Ln R M o a j = some (i, S', Ln', M', R') ∧ (-2000000 ≤ i ∧ i ≤ 2000) ∧ CW S' Ln' R' M' o π b v n w ∧ SN Ln' M' o a v ∧ SV M' o v := by
  obtain ⟨hW, ⟨h4, ha, h29⟩, hT, hX, hC, hA⟩ := h
  have hW9 := hW
  obtain ⟨hO, hR, ⟨hI, hZ, hIX⟩, hH, hHX⟩ := hW
  have h6 := hI.2.2.2.1
  obtain ⟨x1, x2, x3, x4, x5, x6, x7⟩ := hX
  have hTS : TS ad sz S Ln R M o (o + 308) (o + 309) π v [] := ⟨⟨⟨x2, x5, x3, by omega⟩, ⟨x6, x7⟩, ⟨Nat.zero_le _, by show Ln (o + 308 + 1) ≤ 256; rw [x4]; decide⟩, fun i hi => absurd hi (Nat.not_lt_zero _)⟩, ⟨by omega, by omega, by omega, by omega⟩, x1, hC, hA, hO, hR, h6.2⟩
  obtain ⟨sz1, S1, Ln1, M1, R1, y1, e1, t1, g1⟩ := c_task hTS hI
  obtain ⟨sz2, S2, Ln2, M2, R2, y2, e2, t2, g2⟩ := c_wp t1 hI (p := 0) (by decide) (by omega)
  have g := g1.tr g2
  obtain ⟨z1, z2, z3, zS, zM, zR⟩ := g
  have hW2 : CW S2 Ln2 R2 M2 o π b v n w := hW9.fz (fun q hq => zS q (by omega)) (fun q hq => zR q (by omega) (by omega)) (fun q _ hq => zM q (by omega) (by omega) (by omega))
  have hl := W_left (ad := ad) hW2.1 hW2.2.1 hI 0
  have l1 := t1.1.2.2.1
  have l2 := t2.1.2.2.1
  have hb3 : ∃ q, fL_remainingDistance ad S2 Ln2 R2 M2 o 0 = some q ∧ -900002 ≤ q ∧ q ≤ 720 := by
    rw [hl, if_pos (by omega)]
    by_cases h1 : gl v 0 1 = 1
    · rw [if_pos h1]
      have := lfU_b hI.1 (hI.2.2.2.2.2.2 0 (by decide) (by omega)) h1
      exact ⟨_, rfl, by omega, by omega⟩
    · rw [if_neg h1]
      exact ⟨_, rfl, by decide, by decide⟩
  obtain ⟨q, eq, q0, q1⟩ := hb3
  obtain ⟨s1, s2, s3⟩ := hs
  obtain ⟨v1, v2⟩ := hv
  have hay : a ≠ o + 309 := by omega
  refine ⟨w32 (w32 (w32 (j + ((lnT v (v 1).toNat).length : Int)) + ((lnP v 0).length : Int)) + q), S2, Ln2, M2, R2, ?_, ?_, hW2, ⟨s1, by rw [(zS a has).2]; exact s2, by rw [zM a has (by omega) hay]; exact s3⟩, v1.fr (fun c c0 c1 => zM c (by omega) (by omega) (by omega)) h6.2, by rw [zM o (by omega) (by omega) (by omega)]; exact v2⟩
  · unfold fL_s6
    rw [e1, bd_s]
    dsimp only
    rw [e2, bd_s, se_l]
    dsimp only
    rw [eq, bd_s]
  · rw [w32_i (z := j + ((lnT v (v 1).toNat).length : Int)) (by omega) (by omega), w32_i (z := j + ((lnT v (v 1).toNat).length : Int) + ((lnP v 0).length : Int)) (by omega) (by omega), w32_i (by omega) (by omega)]
    omega
/-- the state that was saved comes back; nothing else changes -/
theorem W_restoreF {vs : gV} (hW : CW S Ln R M o π b v n w) (h6 : M o 6 = 1) (hs : RpS M (o + 27) vs) (hIs : IvS b vs ∧ IvZ vs ∧ IvX vs) : ∃ M', fL_restore ad S Ln R M o = some (0, M') ∧ CW S Ln R M' o π b vs 0 w ∧ ∀ c, o + 289 ≤ c → M' c = M c := by
  obtain ⟨hO, hR, ⟨hI, hZ, hX⟩, ⟨hH, hn, hHI⟩, hHX⟩ := hW
  obtain ⟨M1, e1, e2, e3⟩ := f_copy (ad := ad) hO.2.2.1 hO.2.2.2.1 hs hIs.1 (by omega)
  refine ⟨wr M1 (o + 79) 1 0, ?_, ⟨hO, e2.fr (fun x x0 x1 => wr_a (by omega)) hIs.1.2.2.2.1.2, hIs, ⟨⟨wr_s, fun q q0 q1 => absurd q0 (by omega)⟩, by decide, fun q q0 q1 => absurd q0 (by omega)⟩, fun q q0 q1 => absurd q0 (by omega)⟩, fun c hc => by rw [wr_a (by omega), e3 c (by omega)]⟩
  unfold fL_restore fX9_restore
  rw [h6, if_pos (by decide), o_0 hO, o_1 hO, e1, bd_s, o_3 hO, nam_d, bd_s, se_l]
theorem G_s7 (hW : CW S Ln R M o π b v n w) (hb : b + 5 ≤ 10000) (h4 : 4 ≤ v 4) (ho : o + 310 ≤ sz) {a : Nat} (has : a < sz) (hs : SN Ln M o a v) (hv : SV M o v) {i : Int} (i0 : -2000000 ≤ i) (i1 : i ≤ 2000) : ∃ S' Ln' M' R' π' w', fL_s7 ad sz S Ln R M o a i = some (S', Ln', M', R') ∧ CW S' Ln' R' M' o π' (b + 5) v 0 w' ∧ SN Ln' M' o a v := by
  have hf := seen_fz (S := S) (Ln := Ln) (M := M) (R := R) ho (sF v)
  have hW1 : CW (ua S sz 20) (ua Ln sz 130) (ua R sz gNo) (ua M sz (sF v)) o π b v n w := hW.fz (fun q hq => ⟨(hf q (by omega)).1, (hf q (by omega)).2.1⟩) (fun q hq => (hf q (by omega)).2.2.2) (fun q _ hq => (hf q (by omega)).2.2.1)
  obtain ⟨s1, s2, s3⟩ := hs
  obtain ⟨v1, v2⟩ := hv
  have hS : SN (ua Ln sz 130) (ua M sz (sF v)) o a v := ⟨s1, by rw [ua_n (by omega)]; exact s2, by rw [ua_n (by omega)]; exact s3⟩
  have g6 : v 4 ≤ 6 := hW.2.2.1.1.2.2.2.1.2
  have hV : SV (ua M sz (sF v)) o v := ⟨v1.fr (fun q q0 q1 => ua_n (by omega)) g6, by rw [ua_n (by omega)]; exact v2⟩
  have hsame := G_same (ad := ad) (sz := sz) hW ⟨s1, s2, s3⟩ has ho
  have hse := W_seen (ad := ad) hW ho
  generalize ua S sz 20 = S1 at *
  generalize ua Ln sz 130 = L1 at *
  generalize ua R sz gNo = R1 at *
  generalize ua M sz (sF v) = M1 at *
  have b0 : BG S1 L1 R1 M1 o b 0 M1 R1 := ⟨⟨π, v, n, w, hW1, by omega⟩, FA.rf, FQ.rf⟩
  obtain ⟨r3, M3, R3, e3, ⟨r30, r31⟩, b3⟩ := b0.step (fl := fL_launch ad S1 L1 R1 M1 o 3) (by omega) 0 (Int.le_refl _) (fun π v n w hW => A_launch hW (by omega) 3)
  obtain ⟨r4, M4, R4, e4, ⟨r40, r41⟩, b4⟩ := b3.step (fl := fL_fly ad S1 L1 R3 M3 o 0 1 3) (by omega) 1 (by decide) (fun π v n w hW => A_fly hW (by omega) 0 1 3)
  obtain ⟨r5, M5, R5, e5, ⟨r50, r51⟩, b5⟩ := b4.step (fl := fL_setCloudBase ad S1 L1 R4 M4 o 900) (by omega) 0 (Int.le_refl _) (fun π v n w hW => A_setCloudBase hW (by omega) 900)
  obtain ⟨r6, M6, R6, e6, ⟨r60, r61⟩, b6⟩ := b5.step (fl := fL_addPilot ad S1 L1 R5 M5 o 30) (by omega) 0 (Int.le_refl _) (fun π v n w hW => A_addPilot hW (by omega) 30)
  obtain ⟨r7, M7, R7, e7, ⟨r70, r71⟩, b7⟩ := b6.step (fl := fL_endDay ad S1 L1 R6 M6 o) (by omega) 0 (Int.le_refl _) (fun π v n w hW => A_endDay hW (by omega))
  obtain ⟨⟨π7, v7, n7, w7, hW7, -⟩, f7, q7⟩ := b7
  rw [show b + 1 + 1 + 1 + 1 + 1 = b + 5 by omega] at hW7
  obtain ⟨k1, k2, k3⟩ := hW.2.2.1
  obtain ⟨M8, e8, hW8, f8⟩ := W_restoreF (ad := ad) (vs := v) hW7 (by rw [f7 o (by omega)]; exact hV.2) (hV.1.fr (fun q q0 q1 => f7 q (by omega)) g6) ⟨k1.mono (by omega) hb, k2, k3⟩
  refine ⟨S1, L1, M8, R7, π7, w7, ?_, hW8, ⟨s1, hS.2.1, by rw [f8 a (by omega), f7 a (by omega)]; exact hS.2.2⟩⟩
  have hsum : w32 (i + w32 (w32 (w32 (w32 (r3 + r4) + r5) + r6) + r7)) = i + (r3 + r4 + r5 + r6 + r7) := by
    rw [w32_i (z := r3 + r4) (by omega) (by omega), w32_i (z := r3 + r4 + r5) (by omega) (by omega), w32_i (z := r3 + r4 + r5 + r6) (by omega) (by omega), w32_i (z := r3 + r4 + r5 + r6 + r7) (by omega) (by omega), w32_i (by omega) (by omega)]
  unfold fL_s7
  rw [hse, bd_s]
  dsimp only
  rw [hsame, bd_s, if_pos (show ¬ ((1 : Int) = 0) by decide), e3, bd_s]
  dsimp only
  rw [e4, bd_s]
  dsimp only
  rw [e5, bd_s]
  dsimp only
  rw [e6, bd_s]
  dsimp only
  rw [e7, bd_s]
  dsimp only
  rw [hsum, if_neg (by omega), e8, bd_s]
  dsimp only
  rw [if_neg (fun q => q rfl)]
theorem G_s8 (hW : CW S Ln R M o π b v 0 w) (ho : o + 310 ≤ sz) {a : Nat} (has : a < sz) (hs : SN Ln M o a v) : ∃ S' Ln' M' R', fL_s8 ad sz S Ln R M o a = some (S', Ln', M', R') := by
  have hf := seen_fz (S := S) (Ln := Ln) (M := M) (R := R) ho (sF v)
  have hW1 : CW (ua S sz 20) (ua Ln sz 130) (ua R sz gNo) (ua M sz (sF v)) o π b v 0 w := hW.fz (fun q hq => ⟨(hf q (by omega)).1, (hf q (by omega)).2.1⟩) (fun q hq => (hf q (by omega)).2.2.2) (fun q _ hq => (hf q (by omega)).2.2.1)
  have hsame := G_same (ad := ad) (sz := sz) hW hs has ho
  have hse := W_seen (ad := ad) hW ho
  have hu := W_undo0 (ad := ad) hW1
  refine ⟨ua S sz 20, ua Ln sz 130, ua M sz (sF v), ua R sz gNo, ?_⟩
  unfold fL_s8
  rw [hse, bd_s]
  dsimp only
  rw [hsame, bd_s, if_neg (show ¬ ((1 : Int) = 0) by decide), hu, bd_s]
  dsimp only
  rw [if_neg (fun q => q rfl)]
theorem G_end {k : Int} (hk : 9 ≤ k) : fL_s1 ad sz S Ln R M a0 o k = some (.inr (.inr (S, Ln, M, R))) := by
  unfold fL_s1
  rw [if_pos hk]
end LS57
