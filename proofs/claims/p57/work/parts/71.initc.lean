/-! PURE: a new contest, a new model, the law's start -/
def SF (S S' Ln Ln' : Nat → Nat) (M M' : gM) (R R' : gR) (o x : Nat) (k : Int) : Prop := (∀ q, q < x → S' q = S q ∧ Ln' q = Ln q) ∧ (∀ q, q < x → q ≠ o → M' q = M q ∧ R' q = R q) ∧ M' o = M o ∧ R' o = us (R o) k (some x)
theorem sf {S S' Ln Ln' : Nat → Nat} {M M' : gM} {R R' : gR} {o x kd n : Nat} {k : Int} {f : Int → Int} (h : BL (ua S x kd) S' (ua Ln x n) Ln' (ua M x f) M' (ua R x gNo) R' x) (ho : o < x) : SF S S' Ln Ln' M M' R (wrR R' o k (some x)) o x k := by
  obtain ⟨h1, h2⟩ := h
  refine ⟨fun q hq => ?_, fun q hq hq' => ?_, ?_, ?_⟩
  · rw [(h1 q (by omega)).1, (h1 q (by omega)).2, ua_n (by omega), ua_n (by omega)]; exact ⟨rfl, rfl⟩
  · unfold wrR
    rw [ua_n hq', (h2 q hq).1, (h2 q hq).2, ua_n (by omega), ua_n (by omega)]; exact ⟨rfl, rfl⟩
  · rw [(h2 o ho).1, ua_n (by omega)]
  · unfold wrR
    rw [ua_s, (h2 o ho).2, ua_n (by omega)]
theorem LyH.f2 {S S' Ln Ln' : Nat → Nat} {R R' : gR} {h : Nat} {π : Int → Nat} (hH : LyH S Ln R h π) (e : ∀ q : Nat, h ≤ q → q < h + 210 → S' q = S q ∧ Ln' q = Ln q) (r : ∀ q : Nat, h ≤ q → q < h + 210 → R' q = R q) : LyH S' Ln' R' h π := by
  obtain ⟨h1, h2, h3, h4, h5, h6⟩ := hH
  refine ⟨by rw [(e h (by omega) (by omega)).1]; exact h1, by rw [(e (h + 1) (by omega) (by omega)).1]; exact h2, by rw [(e (h + 1) (by omega) (by omega)).2]; exact h3, by rw [r h (by omega) (by omega)]; exact h4, fun q q0 q1 => ?_, h6⟩
  obtain ⟨k1, k2, k3, k4⟩ := h5 q q0 q1
  exact ⟨by rw [r (h + 1) (by omega) (by omega)]; exact k1, k2.f2 (fun x x0 x1 => e x (by omega) (by omega)) (fun x x0 x1 => r x (by omega) (by omega)), k3, k4⟩
/-- the text at x -/
def LyX (S Ln : Nat → Nat) (R : gR) (M : gM) (o x : Nat) : Prop := R o 5 = some x ∧ S x = 2 ∧ S (x + 1) = 23 ∧ Ln (x + 1) = 16 ∧ R x 0 = some (x + 1) ∧ M x 1 = 0 ∧ M x 3 = 0
section PIO
variable {ad S Ln : Nat → Nat} {R : gR} {M : gM} {o m : Nat}
theorem i_O (hk : S o = 12) : ∃ S' Ln' M' R', fX9_init ad (o + 1) S Ln R M o = some (o + 310, S', Ln', M', R') ∧ LyO S' Ln' R' o (pi0 (o + 79)) ∧ RpS M' (o + 1) v00 ∧ M' (o + 79) 1 = 0 ∧ (M' o 6 = 0 ∧ M' o 7 = -1 ∧ M' o 8 = -1) ∧ LyT S' Ln' R' o (o + 289) ∧ M' (o + 289) 1 = 0 ∧ LyX S' Ln' R' M' o (o + 308) ∧ BL S S' Ln Ln' M M' R R' o := by
  obtain ⟨S2, Ln2, M2, R2, e1, y1, p1, b1⟩ := i_S (ad := ad) (S := ua S (o + 1) 11) (Ln := ua Ln (o + 1) 0) (R := ua R (o + 1) gNo) (M := ua M (o + 1) (gN 11)) (a := o + 1) ua_s
  rw [show o + 1 + 26 = o + 27 by omega] at e1
  have s1 := sf (k := 0) b1 (show o < o + 1 by omega)
  have q1 : ∀ q, q ≠ o → wrR R2 o 0 (some (o + 1)) q = R2 q := fun q hq => by unfold wrR; rw [ua_n hq]
  generalize hR3 : wrR R2 o 0 (some (o + 1)) = R3 at s1 q1
  obtain ⟨S5, Ln5, M5, R5, e2, y2, p2, b2⟩ := i_S (ad := ad) (S := ua S2 (o + 27) 11) (Ln := ua Ln2 (o + 27) 0) (R := ua R3 (o + 27) gNo) (M := ua M2 (o + 27) (gN 11)) (a := o + 27) ua_s
  rw [show o + 27 + 26 = o + 53 by omega] at e2
  have s2 := sf (k := 1) b2 (show o < o + 27 by omega)
  have q2 : ∀ q, q ≠ o → wrR R5 o 1 (some (o + 27)) q = R5 q := fun q hq => by unfold wrR; rw [ua_n hq]
  generalize hR6 : wrR R5 o 1 (some (o + 27)) = R6 at s2 q2
  obtain ⟨S8, Ln8, M8, R8, e3, y3, p3, b3⟩ := i_S (ad := ad) (S := ua S5 (o + 53) 11) (Ln := ua Ln5 (o + 53) 0) (R := ua R6 (o + 53) gNo) (M := ua M5 (o + 53) (gN 11)) (a := o + 53) ua_s
  rw [show o + 53 + 26 = o + 79 by omega] at e3
  have s3 := sf (k := 2) b3 (show o < o + 53 by omega)
  have q3 : ∀ q, q ≠ o → wrR R8 o 2 (some (o + 53)) q = R8 q := fun q hq => by unfold wrR; rw [ua_n hq]
  generalize hR9 : wrR R8 o 2 (some (o + 53)) = R9 at s3 q3
  obtain ⟨S11, Ln11, M11, R11, e4, y4, p4, b4⟩ := i_H (ad := ad) (S := ua S8 (o + 79) 9) (Ln := ua Ln8 (o + 79) 0) (R := ua R9 (o + 79) gNo) (M := ua M8 (o + 79) (gN 9)) (h := o + 79) ua_s
  rw [show o + 79 + 210 = o + 289 by omega] at e4
  have s4 := sf (k := 3) b4 (show o < o + 79 by omega)
  have q4 : ∀ q, q ≠ o → wrR R11 o 3 (some (o + 79)) q = R11 q := fun q hq => by unfold wrR; rw [ua_n hq]
  generalize hR12 : wrR R11 o 3 (some (o + 79)) = R12 at s4 q4
  obtain ⟨S14, Ln14, M14, R14, e5, y5, p5, b5⟩ := i_T (ad := ad) (S := ua S11 (o + 289) 10) (Ln := ua Ln11 (o + 289) 0) (R := ua R12 (o + 289) gNo) (M := ua M11 (o + 289) (gN 10)) (t := o + 289) ua_s
  rw [show o + 289 + 19 = o + 308 by omega] at e5
  have s5 := sf (k := 4) b5 (show o < o + 289 by omega)
  have q5 : ∀ q, q ≠ o → wrR R14 o 4 (some (o + 289)) q = R14 q := fun q hq => by unfold wrR; rw [ua_n hq]
  generalize hR15 : wrR R14 o 4 (some (o + 289)) = R15 at s5 q5
  obtain ⟨S17, Ln17, M17, R17, e6, y6, b6⟩ := i_X (ad := ad) (S := ua S14 (o + 308) 2) (Ln := ua Ln14 (o + 308) 0) (R := ua R15 (o + 308) gNo) (M := ua M14 (o + 308) (gN 2)) (t := o + 308) ua_s
  rw [show o + 308 + 2 = o + 310 by omega] at e6
  have s6 := sf (k := 5) b6 (show o < o + 308 by omega)
  have q6 : ∀ q, q ≠ o → wrR R17 o 5 (some (o + 308)) q = R17 q := fun q hq => by unfold wrR; rw [ua_n hq]
  generalize hR18 : wrR R17 o 5 (some (o + 308)) = R18 at s6 q6
  have hM : ∀ q, q ≠ o → wr (wr (wr M17 o 6 0) o 7 (-1)) o 8 (-1) q = M17 q := fun q hq => by rw [wr_a hq, wr_a hq, wr_a hq]
  generalize hM21 : wr (wr (wr M17 o 6 0) o 7 (-1)) o 8 (-1) = M21 at hM
  have hmo : M21 o 6 = 0 ∧ M21 o 7 = -1 ∧ M21 o 8 = -1 := by
    rw [← hM21]
    exact ⟨by rw [wr_k (by decide), wr_k (by decide), wr_s], by rw [wr_k (by decide), wr_s], wr_s⟩
  -- down from the end to each stage
  have t5 : ∀ q, q < o + 308 → S17 q = S14 q ∧ Ln17 q = Ln14 q := s6.1
  have t4 : ∀ q, q < o + 289 → S17 q = S11 q ∧ Ln17 q = Ln11 q := fun q hq => by rw [(t5 q (by omega)).1, (t5 q (by omega)).2]; exact s5.1 q hq
  have t3 : ∀ q, q < o + 79 → S17 q = S8 q ∧ Ln17 q = Ln8 q := fun q hq => by rw [(t4 q (by omega)).1, (t4 q (by omega)).2]; exact s4.1 q hq
  have t2 : ∀ q, q < o + 53 → S17 q = S5 q ∧ Ln17 q = Ln5 q := fun q hq => by rw [(t3 q (by omega)).1, (t3 q (by omega)).2]; exact s3.1 q hq
  have t1 : ∀ q, q < o + 27 → S17 q = S2 q ∧ Ln17 q = Ln2 q := fun q hq => by rw [(t2 q (by omega)).1, (t2 q (by omega)).2]; exact s2.1 q hq
  have t0 : ∀ q, q < o + 1 → S17 q = S q ∧ Ln17 q = Ln q := fun q hq => by rw [(t1 q (by omega)).1, (t1 q (by omega)).2]; exact s1.1 q hq
  have u5 : ∀ q, q < o + 308 → q ≠ o → M21 q = M14 q ∧ R18 q = R14 q := fun q hq hq' => by rw [hM q hq', (s6.2.1 q hq hq').1, (s6.2.1 q hq hq').2, q5 q hq']; exact ⟨rfl, rfl⟩
  have u4 : ∀ q, q < o + 289 → q ≠ o → M21 q = M11 q ∧ R18 q = R11 q := fun q hq hq' => by rw [(u5 q (by omega) hq').1, (u5 q (by omega) hq').2, ← q5 q hq', (s5.2.1 q hq hq').1, (s5.2.1 q hq hq').2, q4 q hq']; exact ⟨rfl, rfl⟩
  have u3 : ∀ q, q < o + 79 → q ≠ o → M21 q = M8 q ∧ R18 q = R8 q := fun q hq hq' => by rw [(u4 q (by omega) hq').1, (u4 q (by omega) hq').2, ← q4 q hq', (s4.2.1 q hq hq').1, (s4.2.1 q hq hq').2, q3 q hq']; exact ⟨rfl, rfl⟩
  have u2 : ∀ q, q < o + 53 → q ≠ o → M21 q = M5 q ∧ R18 q = R5 q := fun q hq hq' => by rw [(u3 q (by omega) hq').1, (u3 q (by omega) hq').2, ← q3 q hq', (s3.2.1 q hq hq').1, (s3.2.1 q hq hq').2, q2 q hq']; exact ⟨rfl, rfl⟩
  have u1 : ∀ q, q < o + 27 → q ≠ o → M21 q = M2 q ∧ R18 q = R2 q := fun q hq hq' => by rw [(u2 q (by omega) hq').1, (u2 q (by omega) hq').2, ← q2 q hq', (s2.2.1 q hq hq').1, (s2.2.1 q hq hq').2, q1 q hq']; exact ⟨rfl, rfl⟩
  have u0 : ∀ q, q < o + 1 → q ≠ o → M21 q = M q ∧ R18 q = R q := fun q hq hq' => by rw [(u1 q (by omega) hq').1, (u1 q (by omega) hq').2, ← q1 q hq', (s1.2.1 q hq hq').1, (s1.2.1 q hq hq').2]; exact ⟨rfl, rfl⟩
  have ro : R18 o = us (us (us (us (us (us (R o) 0 (some (o + 1))) 1 (some (o + 27))) 2 (some (o + 53))) 3 (some (o + 79))) 4 (some (o + 289))) 5 (some (o + 308)) := by
    rw [s6.2.2.2, s5.2.2.2, s4.2.2.2, s3.2.2.2, s2.2.2.2, s1.2.2.2]
  refine ⟨S17, Ln17, M21, R18, ?_, ⟨?_, ⟨?_, ?_, ?_, ?_⟩, y1.f2 (fun q q0 q1 => t1 q (by omega)) (fun q q0 q1 => (u1 q (by omega) (by omega)).2), y2.f2 (fun q q0 q1 => t2 q (by omega)) (fun q q0 q1 => (u2 q (by omega) (by omega)).2), y3.f2 (fun q q0 q1 => t3 q (by omega)) (fun q q0 q1 => (u3 q (by omega) (by omega)).2), y4.f2 (fun q q0 q1 => t4 q (by omega)) (fun q q0 q1 => (u4 q (by omega) (by omega)).2)⟩, ?_, ?_, hmo, ⟨?_, ?_, ?_, ?_, fun i hi => ?_⟩, ?_, ⟨?_, ?_, ?_, ?_, ?_, ?_, ?_⟩, ⟨fun q hq => t0 q (by omega), fun q hq => u0 q (by omega) (by omega)⟩⟩
  · unfold fX9_init
    simp only [nam_d]
    rw [e1, bd_s]
    dsimp only
    rw [hR3, e2, bd_s]
    dsimp only
    rw [hR6, e3, bd_s]
    dsimp only
    rw [hR9, e4, bd_s]
    dsimp only
    rw [hR12, e5, bd_s]
    dsimp only
    rw [hR15, e6, bd_s]
    dsimp only
    rw [hR18, hM21]
  · rw [(t0 o (by omega)).1]; exact hk
  · rw [ro, us_n (by decide), us_n (by decide), us_n (by decide), us_n (by decide), us_n (by decide), us_s]
  · rw [ro, us_n (by decide), us_n (by decide), us_n (by decide), us_n (by decide), us_s]
  · rw [ro, us_n (by decide), us_n (by decide), us_n (by decide), us_s]
  · rw [ro, us_n (by decide), us_n (by decide), us_s]
  · exact p1.fr (fun x x0 x1 => (u1 x (by omega) (by omega)).1) (by rw [v00_n (by decide)]; decide)
  · rw [(u4 _ (by omega) (by omega)).1]; exact p4
  · rw [ro, us_n (by decide), us_s]
  · rw [(t5 _ (by omega)).1, (t5 _ (by omega)).1, (t5 _ (by omega)).1, (t5 _ (by omega)).1]; exact y5.1
  · rw [(t5 _ (by omega)).2, (t5 _ (by omega)).2, (t5 _ (by omega)).2]; exact y5.2.1
  · rw [(u5 _ (by omega) (by omega)).2]; exact y5.2.2.1
  · rw [(u5 _ (by omega) (by omega)).2, (t5 _ (by omega)).1, (t5 _ (by omega)).2]; exact y5.2.2.2 i hi
  · rw [(u5 _ (by omega) (by omega)).1]; exact p5.1
  · rw [ro, us_s]
  · exact y6.1
  · exact y6.2.1
  · exact y6.2.2.1
  · rw [q6 _ (by omega)]; exact y6.2.2.2.1
  · rw [hM _ (by omega)]; exact y6.2.2.2.2.1
  · rw [hM _ (by omega), y6.2.2.2.2.2, ua_s]; rfl
end PIO
