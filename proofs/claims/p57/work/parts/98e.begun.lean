/-! p57: the contest as the law begins it -/
def BG (S Ln : Nat → Nat) (R0 : gR) (M0 : gM) (o : Nat) (b k : Int) (M : gM) (R : gR) : Prop := (∃ π v n w, CW S Ln R M o π b v n w ∧ k ≤ v 4) ∧ FA o M0 M ∧ FQ o R0 R
section BG57
variable {ad S Ln : Nat → Nat} {R R0 : gR} {M M0 : gM} {o : Nat} {b k : Int}
theorem BG.step {fl : Option (Int × gM × gR)} (h : BG S Ln R0 M0 o b k M R) (hb : b + 1 ≤ 10000) (lo : Int) (l0 : 0 ≤ lo) (hA : ∀ π v n w, CW S Ln R M o π b v n w → AR S Ln R M o b v n w lo fl) : ∃ r M' R', fl = some (r, M', R') ∧ (-900004 ≤ r ∧ r ≤ 3000) ∧ BG S Ln R0 M0 o (b + 1) k M' R' := by
  obtain ⟨⟨π, v, n, w, hW, hk⟩, h1, h2⟩ := h
  obtain ⟨r, M', R', e, ⟨r0, r1, m1, m2⟩ | ⟨r0, r1, ⟨π', v', c1, c2⟩, f1, f2⟩⟩ := hA π v n w hW
  · subst m1; subst m2
    exact ⟨r, _, _, e, ⟨r0, by omega⟩, ⟨π, v, n, w, hW.mono (by omega) hb, hk⟩, h1, h2⟩
  · exact ⟨r, M', R', e, ⟨by omega, r1⟩, ⟨π', v', _, _, c1, by omega⟩, h1.tr f1, h2.tr f2⟩
theorem BG.pilot (h : BG S Ln R0 M0 o b k M R) (hb : b + 1 ≤ 10000) (hk3 : k ≤ 3) {g : Int} (hg : 20 ≤ g ∧ g ≤ 60) : ∃ r M' R', fL_addPilot ad S Ln R M o g = some (r, M', R') ∧ (-900004 ≤ r ∧ r ≤ 3000) ∧ BG S Ln R0 M0 o (b + 1) (k + 1) M' R' := by
  obtain ⟨⟨π, v, n, w, hW, hk⟩, h1, h2⟩ := h
  have hW9 := hW
  obtain ⟨hO, hR, ⟨hI, hZ, hX⟩, hH, hHX⟩ := hW
  have i4 := hI.2.2.2.1
  obtain ⟨w1, w2⟩ := W_addPilot (ad := ad) hO hR hI hZ hH g
  by_cases h6 : v 4 = 6
  · have ht : tPl v g ≠ 0 := by
      unfold tPl
      rw [if_pos hg, if_pos h6]
      decide
    obtain ⟨r, e, r0, r1⟩ := w2 ht
    exact ⟨r, M, R, e, ⟨r0, by omega⟩, ⟨π, v, n, w, hW9.mono (by omega) hb, by omega⟩, h1, h2⟩
  · have ht : tPl v g = 0 := by
      unfold tPl
      rw [if_pos hg, if_neg h6]
    obtain ⟨M1, R1, e, π1, p1, p2, p3, p4, p5⟩ := w1 ht
    obtain ⟨q1, q2, q3⟩ := P_addPilot hI hZ hb g ht _ rfl
    obtain ⟨x1, x2⟩ := X_pl hI hZ hX g ht
    refine ⟨v 4, M1, R1, e, ⟨by omega, by omega⟩, ⟨π1, plR v g, kpN n, kpW n w v, ⟨p1, p2 _ rfl, ⟨q2, q3, x1⟩, ⟨p3, kpN_b hH.2.1.1 hH.2.1.2, fun q q0 q1 => ?_⟩, kpW_X hHX hX hH.2.1.1 hH.2.1.2⟩, by rw [plR_4]; omega⟩, h1.tr (fun c hc => p5 c hc), h2.tr p4⟩
    have := kpW_4 hH.2.2 hI hH.2.1.1 hH.2.1.2 hZ q q0 q1
    exact ⟨this.1.mono (by omega) hb, this.2⟩
theorem BG.mono {b' k' : Int} (h : BG S Ln R0 M0 o b k M R) (hb : b ≤ b') (hb2 : b' ≤ 10000) (hk : k' ≤ k) : BG S Ln R0 M0 o b' k' M R := by
  obtain ⟨⟨π, v, n, w, hW, h0⟩, h1, h2⟩ := h
  exact ⟨⟨π, v, n, w, hW.mono hb hb2, by omega⟩, h1, h2⟩
theorem bg_L30 {e : Nat} {q : Int} (hq : q = 14 ∨ q = 61) (h : BG S Ln R0 M0 o 0 0 M R) : ∃ n M' R', lp (fL_begun_L30 ad S Ln e o q) FU (0, 0, M, R, 0) = some (.inl (n, M', R')) ∧ (-900004 * 5 ≤ n ∧ n ≤ 3000 * 5) ∧ BG S Ln R0 M0 o 5 0 M' R' := by
  obtain ⟨res, e1, n, M', R', e2, e3⟩ := lp_inv0 (b := fL_begun_L30 ad S Ln e o q) 5
    (fun i z => (z.2.1 = (i : Int) ∧ z.2.2.2.2 = i) ∧ (-900004 * (i : Int) ≤ z.1 ∧ z.1 ≤ 3000 * i) ∧ BG S Ln R0 M0 o i 0 z.2.2.1 z.2.2.2.1)
    (fun res => ∃ n M' R', res = .inl (n, M', R') ∧ (-900004 * 5 ≤ n ∧ n ≤ 3000 * 5) ∧ BG S Ln R0 M0 o 5 0 M' R') (s := ((0 : Int), (0 : Int), M, R, 0)) (by decide)
    ⟨⟨rfl, rfl⟩, (by show (-900004 : Int) * 0 ≤ 0 ∧ (0 : Int) ≤ 3000 * 0; decide), h⟩
    (fun i z hi hz => by
      obtain ⟨z1, z2, z3, z4, z5⟩ := z
      obtain ⟨⟨a1, a2⟩, a3, a4⟩ := hz
      dsimp only at a1 a2 a3 a4
      subst a1
      replace a2 := a2.symm
      subst a2
      obtain ⟨x, ex, x0, x1⟩ := W_in (ad := ad) (S := S) (Ln := Ln) (R := z4) (M := z3) (a := e) (i := 1 + (i : Int)) (m := q) (by omega) (by omega)
      obtain ⟨y, ey, y0, y1⟩ := W_in (ad := ad) (S := S) (Ln := Ln) (R := z4) (M := z3) (a := e) (i := 6 + (i : Int)) (m := q) (by omega) (by omega)
      obtain ⟨r, M', R', er, hr, hB⟩ := a4.step (fl := fL_addPoint ad S Ln z4 z3 o x y) (by omega) 0 (Int.le_refl _) (fun π v n w hW => A_addPoint hW (by omega) x y)
      refine Or.inl ⟨(z1 + r, ((i + 1 : Nat) : Int), M', R', i + 1), ?_, ⟨rfl, rfl⟩, ?_, ?_⟩
      · unfold fL_begun_L30
        dsimp only
        rw [gd_t (by omega), if_neg (by omega), w32_i (z := 1 + (i : Int)) (by omega) (by omega), ex, bd_s, w32_i (z := 6 + (i : Int)) (by omega) (by omega), ey, bd_s, er, bd_s]
        dsimp only
        rw [w32_i (z := z1 + r) (by omega) (by omega), w32_i (z := (i : Int) + 1) (by omega) (by omega)]
        rfl
      · dsimp only
        omega
      · dsimp only
        rw [show (((i + 1 : Nat)) : Int) = (i : Int) + 1 by omega]
        exact hB)
    (fun z hz => by
      obtain ⟨z1, z2, z3, z4, z5⟩ := z
      obtain ⟨⟨a1, a2⟩, a3, a4⟩ := hz
      dsimp only at a1 a2 a3 a4
      refine ⟨_, ?_, z1, z3, z4, rfl, a3, a4⟩
      unfold fL_begun_L30
      dsimp only
      rw [gd_t (by omega), if_pos (by omega)])
  exact ⟨n, M', R', by rw [e1, e2], e3⟩
theorem bg_L71 {e : Nat} {q n0 : Int} (hq : q = 14 ∨ q = 61) (hn : -900004 * 5 ≤ n0 ∧ n0 ≤ 3000 * 5) (h : BG S Ln R0 M0 o 5 0 M R) : ∃ n M' R', lp (fL_begun_L71 ad S Ln e o q) FU (n0, 0, M, R, 0) = some (.inl (n, M', R')) ∧ (-900004 * 17 ≤ n ∧ n ≤ 3000 * 17) ∧ BG S Ln R0 M0 o 17 4 M' R' := by
  obtain ⟨res, e1, n, M', R', e2, e3⟩ := lp_inv0 (b := fL_begun_L71 ad S Ln e o q) 4
    (fun i z => (z.2.1 = (i : Int) ∧ z.2.2.2.2 = i) ∧ (-900004 * (5 + 3 * (i : Int)) ≤ z.1 ∧ z.1 ≤ 3000 * (5 + 3 * (i : Int))) ∧ BG S Ln R0 M0 o (5 + 3 * (i : Int)) i z.2.2.1 z.2.2.2.1)
    (fun res => ∃ n M' R', res = .inl (n, M', R') ∧ (-900004 * 17 ≤ n ∧ n ≤ 3000 * 17) ∧ BG S Ln R0 M0 o 17 4 M' R') (s := (n0, (0 : Int), M, R, 0)) (by decide)
    ⟨⟨rfl, rfl⟩, (by show (-900004 : Int) * (5 + 3 * 0) ≤ n0 ∧ n0 ≤ 3000 * (5 + 3 * 0); omega), (by dsimp only; rw [show (5 : Int) + 3 * ((0 : Nat) : Int) = 5 by decide, show ((0 : Nat) : Int) = 0 by decide]; exact h)⟩
    (fun i z hi hz => by
      obtain ⟨z1, z2, z3, z4, z5⟩ := z
      obtain ⟨⟨a1, a2⟩, a3, a4⟩ := hz
      dsimp only at a1 a2 a3 a4
      subst a1
      replace a2 := a2.symm
      subst a2
      obtain ⟨x, ex, x0, x1⟩ := W_in (ad := ad) (S := S) (Ln := Ln) (R := z4) (M := z3) (a := e) (i := 11 + (i : Int)) (m := 5) (by omega) (by omega)
      obtain ⟨r, M1, R1, er, hr, hB⟩ := a4.step (fl := fL_addTaskPoint ad S Ln z4 z3 o x) (by omega) 0 (Int.le_refl _) (fun π v n w hW => A_addTaskPoint hW (by omega) x)
      obtain ⟨y1, ey1, y10, y11⟩ := W_in (ad := ad) (S := S) (Ln := Ln) (R := R1) (M := M1) (a := e) (i := 15 + (i : Int)) (m := q) (by omega) (by omega)
      obtain ⟨y2, ey2, y20, y21⟩ := W_in (ad := ad) (S := S) (Ln := Ln) (R := R1) (M := M1) (a := e) (i := 19 + (i : Int)) (m := q) (by omega) (by omega)
      obtain ⟨y3, ey3, y30, y31⟩ := W_in (ad := ad) (S := S) (Ln := Ln) (R := R1) (M := M1) (a := e) (i := 23 + (i : Int)) (m := 5) (by omega) (by omega)
      obtain ⟨r2, M2, R2, er2, hr2, hB2⟩ := hB.step (fl := fL_addThermal ad S Ln R1 M1 o y1 y2 (1 + y3)) (by omega) 0 (Int.le_refl _) (fun π v n w hW => A_addThermal hW (by omega) y1 y2 (1 + y3))
      obtain ⟨y4, ey4, y40, y41⟩ := W_in (ad := ad) (S := S) (Ln := Ln) (R := R2) (M := M2) (a := e) (i := 27 + (i : Int)) (m := 41) (by omega) (by omega)
      obtain ⟨r3, M3, R3, er3, hr3, hB3⟩ := hB2.pilot (ad := ad) (by omega) (by omega) (g := 20 + y4) ⟨by omega, by omega⟩
      refine Or.inl ⟨(z1 + r + r2 + r3, ((i + 1 : Nat) : Int), M3, R3, i + 1), ?_, ⟨rfl, rfl⟩, ?_, ?_⟩
      · unfold fL_begun_L71
        dsimp only
        rw [gd_t (by omega), if_neg (by omega), w32_i (z := 11 + (i : Int)) (by omega) (by omega), ex, bd_s, er, bd_s]
        dsimp only
        rw [w32_i (z := 15 + (i : Int)) (by omega) (by omega), ey1, bd_s, w32_i (z := 19 + (i : Int)) (by omega) (by omega), ey2, bd_s, w32_i (z := 23 + (i : Int)) (by omega) (by omega), ey3, bd_s, w32_i (z := 1 + y3) (by omega) (by omega), er2, bd_s]
        dsimp only
        rw [w32_i (z := 27 + (i : Int)) (by omega) (by omega), ey4, bd_s, w32_i (z := 20 + y4) (by omega) (by omega), er3, bd_s]
        dsimp only
        rw [w32_i (z := z1 + r) (by omega) (by omega), w32_i (z := z1 + r + r2) (by omega) (by omega), w32_i (z := z1 + r + r2 + r3) (by omega) (by omega), w32_i (z := (i : Int) + 1) (by omega) (by omega)]
        rfl
      · dsimp only
        omega
      · dsimp only
        rw [show (5 : Int) + 3 * ((i + 1 : Nat) : Int) = 5 + 3 * (i : Int) + 1 + 1 + 1 by omega, show (((i + 1 : Nat)) : Int) = (i : Int) + 1 by omega]
        exact hB3)
    (fun z hz => by
      obtain ⟨z1, z2, z3, z4, z5⟩ := z
      obtain ⟨⟨a1, a2⟩, a3, a4⟩ := hz
      dsimp only at a1 a2 a3 a4
      refine ⟨_, ?_, z1, z3, z4, rfl, a3, a4⟩
      unfold fL_begun_L71
      dsimp only
      rw [gd_t (by omega), if_pos (by omega)])
  exact ⟨n, M', R', by rw [e1, e2], e3⟩
theorem bg_L246 {e : Nat} {n0 : Int} (hn : -900004 * 20 ≤ n0 ∧ n0 ≤ 3000 * 20) (h : BG S Ln R0 M0 o 20 4 M R) : ∃ n M' R', lp (fL_begun_L246 ad S Ln e o) FU (n0, 0, M, R, 0) = some (.inl (n, M', R')) ∧ (-900004 * 23 ≤ n ∧ n ≤ 3000 * 23) ∧ BG S Ln R0 M0 o 23 4 M' R' := by
  obtain ⟨res, e1, n, M', R', e2, e3⟩ := lp_inv0 (b := fL_begun_L246 ad S Ln e o) 3
    (fun i z => (z.2.1 = (i : Int) ∧ z.2.2.2.2 = i) ∧ (-900004 * (20 + (i : Int)) ≤ z.1 ∧ z.1 ≤ 3000 * (20 + (i : Int))) ∧ BG S Ln R0 M0 o (20 + (i : Int)) 4 z.2.2.1 z.2.2.2.1)
    (fun res => ∃ n M' R', res = .inl (n, M', R') ∧ (-900004 * 23 ≤ n ∧ n ≤ 3000 * 23) ∧ BG S Ln R0 M0 o 23 4 M' R') (s := (n0, (0 : Int), M, R, 0)) (by decide)
    ⟨⟨rfl, rfl⟩, (by show (-900004 : Int) * (20 + 0) ≤ n0 ∧ n0 ≤ 3000 * (20 + 0); omega), (by dsimp only; rw [show (20 : Int) + ((0 : Nat) : Int) = 20 by decide]; exact h)⟩
    (fun i z hi hz => by
      obtain ⟨z1, z2, z3, z4, z5⟩ := z
      obtain ⟨⟨a1, a2⟩, a3, a4⟩ := hz
      dsimp only at a1 a2 a3 a4
      subst a1
      replace a2 := a2.symm
      subst a2
      have es : ((i + 1 : Nat) : Int) = (i : Int) + 1 := by omega
      obtain ⟨x, ex, x0, x1⟩ := W_in (ad := ad) (S := S) (Ln := Ln) (R := z4) (M := z3) (a := e) (i := 37 + (i : Int)) (m := 5) (by omega) (by omega)
      by_cases hx : x ≤ 0
      · refine Or.inl ⟨(z1 + 0, ((i + 1 : Nat) : Int), z3, z4, i + 1), ?_, ⟨rfl, rfl⟩, ?_, ?_⟩
        · unfold fL_begun_L246
          dsimp only
          rw [gd_t (by omega), if_neg (by omega), w32_i (z := 37 + (i : Int)) (by omega) (by omega), ex, bd_s, if_pos hx]
          unfold fL_begun_B276
          rw [w32_i (z := z1 + 0) (by omega) (by omega), w32_i (z := (i : Int) + 1) (by omega) (by omega)]
          rfl
        · dsimp only
          omega
        · dsimp only
          exact a4.mono (by omega) (by omega) (Int.le_refl _)
      · obtain ⟨r, M', R', er, hr, hB⟩ := a4.step (fl := fL_launch ad S Ln z4 z3 o (i : Int)) (by omega) 0 (Int.le_refl _) (fun π v n w hW => A_launch hW (by omega) (i : Int))
        refine Or.inl ⟨(z1 + r, ((i + 1 : Nat) : Int), M', R', i + 1), ?_, ⟨rfl, rfl⟩, ?_, ?_⟩
        · unfold fL_begun_L246
          dsimp only
          rw [gd_t (by omega), if_neg (by omega), w32_i (z := 37 + (i : Int)) (by omega) (by omega), ex, bd_s, if_neg hx, er, bd_s]
          dsimp only
          unfold fL_begun_B276
          rw [w32_i (z := z1 + r) (by omega) (by omega), w32_i (z := (i : Int) + 1) (by omega) (by omega)]
          rfl
        · dsimp only
          omega
        · dsimp only
          rw [show (20 : Int) + ((i + 1 : Nat) : Int) = 20 + (i : Int) + 1 by omega]
          exact hB)
    (fun z hz => by
      obtain ⟨z1, z2, z3, z4, z5⟩ := z
      obtain ⟨⟨a1, a2⟩, a3, a4⟩ := hz
      dsimp only at a1 a2 a3 a4
      refine ⟨_, ?_, z1, z3, z4, rfl, a3, a4⟩
      unfold fL_begun_L246
      dsimp only
      rw [gd_t (by omega), if_pos (by omega)])
  exact ⟨n, M', R', by rw [e1, e2], e3⟩
theorem bg_B24 {e : Nat} {sz : Nat} {q : Int} (hq : q = 14 ∨ q = 61) (h : BG S Ln R0 M0 o 0 0 M R) : ∃ M' R', fL_begun_B24 ad sz S Ln R M e o q = some (o, S, Ln, M', R') ∧ BG S Ln R0 M0 o 23 4 M' R' := by
  obtain ⟨n1, M1, R1, e1, b1, h1⟩ := bg_L30 (ad := ad) (e := e) hq h
  obtain ⟨n2, M2, R2, e2, b2, h2⟩ := bg_L71 (ad := ad) (e := e) hq b1 h1
  obtain ⟨x1, ex1, -, -⟩ := W_in (ad := ad) (S := S) (Ln := Ln) (R := R2) (M := M2) (a := e) (i := 31) (m := q) (by omega) (by omega)
  obtain ⟨x2, ex2, -, -⟩ := W_in (ad := ad) (S := S) (Ln := Ln) (R := R2) (M := M2) (a := e) (i := 32) (m := q) (by omega) (by omega)
  obtain ⟨r3, M3, R3, er3, b3, h3⟩ := h2.step (fl := fL_addArea ad S Ln R2 M2 o x1 x2 60 60) (by omega) 0 (Int.le_refl _) (fun π v n w hW => A_addArea hW (by omega) x1 x2 60 60)
  obtain ⟨x3, ex3, -, -⟩ := W_in (ad := ad) (S := S) (Ln := Ln) (R := R3) (M := M3) (a := e) (i := 33) (m := q) (by omega) (by omega)
  obtain ⟨x4, ex4, -, -⟩ := W_in (ad := ad) (S := S) (Ln := Ln) (R := R3) (M := M3) (a := e) (i := 34) (m := 9) (by omega) (by omega)
  obtain ⟨r4, M4, R4, er4, b4, h4⟩ := h3.step (fl := fL_addArea ad S Ln R3 M3 o 0 3 x3 (w32 (3 + x4))) (by omega) 0 (Int.le_refl _) (fun π v n w hW => A_addArea hW (by omega) 0 3 x3 (w32 (3 + x4)))
  obtain ⟨x5, ex5, -, -⟩ := W_in (ad := ad) (S := S) (Ln := Ln) (R := R4) (M := M4) (a := e) (i := 35) (m := 3) (by omega) (by omega)
  have hs : w32 (n2 + w32 (r3 + r4)) = n2 + (r3 + r4) := by
    rw [w32_i (z := r3 + r4) (by omega) (by omega), w32_i (by omega) (by omega)]
  unfold fL_begun_B24
  rw [e1, bd_s, se_l]
  dsimp only
  rw [e2, bd_s, se_l]
  dsimp only
  rw [ex1, bd_s, ex2, bd_s, er3, bd_s]
  dsimp only
  rw [ex3, bd_s, ex4, bd_s, er4, bd_s]
  dsimp only
  rw [ex5, bd_s, hs]
  by_cases h0 : x5 = 0
  · obtain ⟨x6, ex6, -, -⟩ := W_in (ad := ad) (S := S) (Ln := Ln) (R := R4) (M := M4) (a := e) (i := 36) (m := 1500) (by omega) (by omega)
    obtain ⟨r5, M5, R5, er5, b5, h5⟩ := h4.step (fl := fL_setCloudBase ad S Ln R4 M4 o (w32 (500 + x6))) (by omega) 0 (Int.le_refl _) (fun π v n w hW => A_setCloudBase hW (by omega) (w32 (500 + x6)))
    obtain ⟨n6, M6, R6, e6, b6, h6⟩ := bg_L246 (ad := ad) (e := e) (n0 := n2 + (r3 + r4) + r5) (by omega) (h5.mono (b' := 20) (by omega) (by omega) (Int.le_refl _))
    rw [if_neg (fun q => q h0), ex6, bd_s, er5, bd_s]
    dsimp only
    unfold fL_begun_B241
    rw [w32_i (z := n2 + (r3 + r4) + r5) (by omega) (by omega), e6, bd_s, se_l]
    dsimp only
    rw [if_pos (by omega)]
    exact ⟨M6, R6, rfl, h6⟩
  · obtain ⟨n6, M6, R6, e6, b6, h6⟩ := bg_L246 (ad := ad) (e := e) (n0 := n2 + (r3 + r4) + 0) (by omega) (h4.mono (b' := 20) (by omega) (by omega) (Int.le_refl _))
    rw [if_pos h0]
    unfold fL_begun_B241
    rw [w32_i (z := n2 + (r3 + r4) + 0) (by omega) (by omega), e6, bd_s, se_l]
    dsimp only
    rw [if_pos (by omega)]
    exact ⟨M6, R6, rfl, h6⟩
theorem W_begun {e : Nat} : ∃ S' Ln' M' R', fL_begun ad o S Ln R M e = some (o, S', Ln', M', R') ∧ (∃ π v n w, CW S' Ln' R' M' o π 23 v n w ∧ 4 ≤ v 4) ∧ LyT S' Ln' R' o (o + 289) ∧ M' (o + 289) 1 = 0 ∧ LyX S' Ln' R' M' o (o + 308) ∧ ∀ q, q < o → S' q = S q ∧ Ln' q = Ln q ∧ M' q = M q ∧ R' q = R q := by
  obtain ⟨S1, Ln1, M1, R1, e1, y1, p1, n1, mo, yT, mT, yX, b1⟩ := i_O (ad := ad) (S := ua S o 12) (Ln := ua Ln o 0) (R := ua R o gNo) (M := ua M o (gN 12)) (o := o) ua_s
  have h0 : BG S1 Ln1 R1 M1 o 0 0 M1 R1 := by
    refine ⟨⟨_, v00, 0, fun _ => v00, ⟨y1, p1, ⟨IvS.new, IvZ.new, fun p p0 p1 => ?_⟩, ⟨⟨n1, fun q q0 q1 => absurd q0 (by omega)⟩, by decide, fun q q0 q1 => absurd q0 (by omega)⟩, fun q q0 q1 => absurd q0 (by omega)⟩, by rw [v00_n (by decide)]; decide⟩, FA.rf, FQ.rf⟩
    rw [v00_n (by decide)] at p1
    omega
  have hfin : ∀ (M' : gM) (R' : gR), BG S1 Ln1 R1 M1 o 23 4 M' R' → (∃ π v n w, CW S1 Ln1 R' M' o π 23 v n w ∧ 4 ≤ v 4) ∧ LyT S1 Ln1 R' o (o + 289) ∧ M' (o + 289) 1 = 0 ∧ LyX S1 Ln1 R' M' o (o + 308) ∧ ∀ q, q < o → S1 q = S q ∧ Ln1 q = Ln q ∧ M' q = M q ∧ R' q = R q := fun M' R' h => by
    obtain ⟨hc, hA, hQ⟩ := h
    refine ⟨hc, ?_, by rw [hA _ (by omega)]; exact mT, ?_, fun q hq => ?_⟩
    · obtain ⟨t1, t2, t3, ⟨t9, t10, t11⟩, t12⟩ := yT
      refine ⟨by rw [hQ _ (by omega)]; exact t1, t2, t3, ⟨by rw [hQ _ (by omega)]; exact t9, by rw [hQ _ (by omega)]; exact t10, by rw [hQ _ (by omega)]; exact t11⟩, fun i hi => ?_⟩
      rw [hQ _ (by omega)]
      exact t12 i hi
    · obtain ⟨a1, a2, a3, a4, a5, a6, a7⟩ := yX
      exact ⟨by rw [hQ _ (by omega)]; exact a1, a2, a3, a4, by rw [hQ _ (by omega)]; exact a5, by rw [hA _ (by omega)]; exact a6, by rw [hA _ (by omega)]; exact a7⟩
    · rw [(b1.1 q (by omega)).1, (b1.1 q (by omega)).2, hA q (by omega), hQ q (by omega), (b1.2 q hq).1, (b1.2 q hq).2, ua_n (by omega), ua_n (by omega), ua_n (by omega), ua_n (by omega)]
      exact ⟨rfl, rfl, rfl, rfl⟩
  obtain ⟨x, ex, -, -⟩ := W_in (ad := ad) (S := S1) (Ln := Ln1) (R := R1) (M := M1) (a := e) (i := 0) (m := 2) (by omega) (by omega)
  unfold fL_begun
  simp only [nam_d]
  rw [e1, bd_s]
  dsimp only
  rw [ex, bd_s]
  split
  · obtain ⟨M', R', e2, h2⟩ := bg_B24 (ad := ad) (e := e) (sz := o + 310) (q := 61) (Or.inr rfl) h0
    exact ⟨S1, Ln1, M', R', e2, hfin M' R' h2⟩
  · obtain ⟨M', R', e2, h2⟩ := bg_B24 (ad := ad) (e := e) (sz := o + 310) (q := 14) (Or.inl rfl) h0
    exact ⟨S1, Ln1, M', R', e2, hfin M' R' h2⟩
end BG57
