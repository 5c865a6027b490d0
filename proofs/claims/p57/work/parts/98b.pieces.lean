/-! p57: the texts of the programs; the turn's act -/
def BZ (z : Nat) (S Ln : Nat → Nat) (R : gR) (M : gM) (S' Ln' : Nat → Nat) (R' : gR) (M' : gM) : Prop := ∀ q, q < z → S' q = S q ∧ Ln' q = Ln q ∧ M' q = M q ∧ R' q = R q
/-- a text x over the row y of 16, begun in the state S Ln R M of size z -/
def KB (z sz : Nat) (S0 Ln0 : Nat → Nat) (R0 : gR) (M0 : gM) (S Ln : Nat → Nat) (R : gR) (M : gM) (x y : Nat) (l : List Int) : Prop := (SBL S Ln R M x y l ∧ Ln y = 16 ∧ l.length ≤ 16) ∧ (z ≤ x ∧ z ≤ y ∧ x < sz ∧ y < sz) ∧ BZ z S0 Ln0 R0 M0 S Ln R M
/-- a made String -/
def PC (sz : Nat) (S Ln : Nat → Nat) (R : gR) (M : gM) (sz' : Nat) (S' Ln' : Nat → Nat) (R' : gR) (M' : gM) (s : Nat) (l : List Int) (lo hi : Nat) : Prop := STR S' Ln' R' M' s (s + 1) l ∧ (sz ≤ s ∧ s + 2 ≤ sz') ∧ BZ sz S Ln R M S' Ln' R' M' ∧ lo ≤ l.length ∧ l.length ≤ hi
theorem BZ.tr {z z1 : Nat} {S Ln S1 Ln1 S2 Ln2 : Nat → Nat} {R R1 R2 : gR} {M M1 M2 : gM} (h : BZ z S Ln R M S1 Ln1 R1 M1) (g : BZ z1 S1 Ln1 R1 M1 S2 Ln2 R2 M2) (hz : z ≤ z1) : BZ z S Ln R M S2 Ln2 R2 M2 := fun q hq => by
  obtain ⟨h1, h2, h3, h4⟩ := h q hq
  obtain ⟨g1, g2, g3, g4⟩ := g q (by omega)
  exact ⟨g1.trans h1, g2.trans h2, g3.trans h3, g4.trans h4⟩
theorem BZ.rf {z : Nat} {S Ln : Nat → Nat} {R : gR} {M : gM} : BZ z S Ln R M S Ln R M := fun _ _ => ⟨rfl, rfl, rfl, rfl⟩
theorem BZ.le {z z1 : Nat} {S Ln S1 Ln1 : Nat → Nat} {R R1 : gR} {M M1 : gM} (h : BZ z S Ln R M S1 Ln1 R1 M1) (hz : z1 ≤ z) : BZ z1 S Ln R M S1 Ln1 R1 M1 := fun q hq => h q (by omega)
theorem dig_2 {n : Int} (h0 : 0 ≤ n) (h1 : n < 100) : 1 ≤ (dig 11 n).length ∧ (dig 11 n).length ≤ 2 := by
  refine ⟨(dig_len 11).1, ?_⟩
  by_cases h : n < 10
  · rw [dig_1 h]; decide
  · have e : Int.tdiv n 10 < 10 := by
      rw [Int.tdiv_eq_ediv_of_nonneg h0]
      omega
    have e2 : (dig 10 (Int.tdiv n 10)).length = 1 := by
      unfold dig
      rw [if_pos e]
      rfl
    unfold dig
    rw [if_neg h, List.length_append, e2]
    exact Nat.le_refl 2
theorem dig_22 {n : Int} (h0 : 10 ≤ n) (h1 : n < 100) : (dig 11 n).length = 2 := by
  have e : Int.tdiv n 10 < 10 := by
    rw [Int.tdiv_eq_ediv_of_nonneg (by omega)]
    omega
  have e2 : (dig 10 (Int.tdiv n 10)).length = 1 := by
    unfold dig
    rw [if_pos e]
    rfl
  unfold dig
  rw [if_neg (by omega), List.length_append, e2]
  rfl
section KB57
variable {ad S0 Ln0 S Ln S' Ln' : Nat → Nat} {R0 R R' : gR} {M0 M M' : gM} {x y z sz sz' o : Nat} {l : List Int}
theorem CST.bz (h : CST ad S0 Ln0 R0 M0) (hA : AD ad o) (g : BZ z S0 Ln0 R0 M0 S Ln R M) (ho : o ≤ z) : CST ad S Ln R M := h.fr hA (fun q hq => g q (by omega))
theorem kb_new : ∃ S' Ln' M' R', fJ4_init_da8c8 ad (sz + 1) (ua S sz 2) (ua Ln sz 0) (ua R sz gNo) (ua M sz (gN 2)) sz = some (sz + 2, S', Ln', M', R') ∧ KB sz (sz + 2) S Ln R M S' Ln' R' M' sz (sz + 1) [] := by
  obtain ⟨S', Ln', M', R', e1, ⟨a1, a2, a3, a4, a5, a6⟩, b1, b2⟩ := i_X (ad := ad) (S := ua S sz 2) (Ln := ua Ln sz 0) (R := ua R sz gNo) (M := ua M sz (gN 2)) (t := sz) ua_s
  refine ⟨S', Ln', M', R', e1, ⟨⟨⟨a1, a4, a2, by omega⟩, ⟨a5, ?_⟩, ⟨by rw [a3]; decide, by rw [a3]; decide⟩, fun i hi => absurd hi (Nat.not_lt_zero _)⟩, a3, by decide⟩, by omega, fun q hq => ⟨?_, ?_, ?_, ?_⟩⟩
  · rw [a6, ua_s]
    rfl
  · rw [(b1 q (by omega)).1, ua_n (by omega)]
  · rw [(b1 q (by omega)).2, ua_n (by omega)]
  · rw [(b2 q hq).1, ua_n (by omega)]
  · rw [(b2 q hq).2, ua_n (by omega)]
theorem kb_str (h : KB z sz S0 Ln0 R0 M0 S Ln R M x y l) (hC : CST ad S0 Ln0 R0 M0) (hA : AD ad o) (ho : o ≤ z) {k : Nat} (hk : k < 21) (hl : l.length + (kS k).length ≤ 16) :
    ∃ sz' S' Ln' M' R' y', fJ4_append_15ec4 ad sz S Ln R M x (ad (16 + k)) = some (x, sz', S', Ln', M', R') ∧ KB z sz' S0 Ln0 R0 M0 S' Ln' R' M' x y' (l ++ kS k) := by
  obtain ⟨⟨h1, h2, h3⟩, ⟨h4, h5, h6, h7⟩, h8⟩ := h
  have hC1 := hC.bz hA h8 ho
  obtain ⟨a1, a2⟩ := hA.2 k hk
  obtain ⟨sz', S', Ln', M', R', y', e1, e2, ⟨g1, g2, g3, g4, g5, g6⟩, e4⟩ := b_str2 (ad := ad) (hC1.1 k hk) h1 h6 h7 ⟨by omega, by omega⟩ (by omega)
  have hlen : (l ++ kS k).length = l.length + (kS k).length := List.length_append
  have hln := e4 h2 (by omega)
  rw [if_pos (by omega)] at hln
  refine ⟨sz', S', Ln', M', R', y', e1, ⟨e2, by omega, by omega⟩, ⟨h4, by omega, by omega, g3⟩, fun q hq => ?_⟩
  obtain ⟨k1, k2, k3, k4⟩ := h8 q hq
  exact ⟨(g4 q (by omega)).1.trans k1, (g4 q (by omega)).2.trans k2, (g5 q (by omega) (by omega) (by omega)).trans k3, (g6 q (by omega) (by omega)).trans k4⟩
theorem kb_int (h : KB z sz S0 Ln0 R0 M0 S Ln R M x y l) (hC : CST ad S0 Ln0 R0 M0) (hA : AD ad o) (ho : o ≤ z) {n : Int} (n0 : 0 ≤ n) (n1 : n < 100) (hl : l.length + 2 ≤ 16) :
    ∃ sz' S' Ln' M' R' y', fJ4_append_bf812 ad sz S Ln R M x n = some (x, sz', S', Ln', M', R') ∧ KB z sz' S0 Ln0 R0 M0 S' Ln' R' M' x y' (l ++ dig 11 n) := by
  obtain ⟨⟨h1, h2, h3⟩, ⟨h4, h5, h6, h7⟩, h8⟩ := h
  have hC1 := hC.bz hA h8 ho
  obtain ⟨a1, a2⟩ := hA.1
  have hd := dig_2 n0 n1
  obtain ⟨sz', S', Ln', M', R', y', e1, e2, ⟨g1, g2, g3, g4, g5, g6⟩, e4⟩ := b_int2 (ad := ad) hC1.2 h1 h6 h7 ⟨by omega, by omega⟩ ⟨by omega, by omega⟩ (by omega) n0 (by omega : n < 1000000000)
  have hlen : (l ++ dig 11 n).length = l.length + (dig 11 n).length := List.length_append
  have hln := e4 h2 (by omega)
  rw [if_pos (by omega)] at hln
  refine ⟨sz', S', Ln', M', R', y', e1, ⟨e2, by omega, by omega⟩, ⟨h4, by omega, by omega, g3⟩, fun q hq => ?_⟩
  obtain ⟨k1, k2, k3, k4⟩ := h8 q hq
  exact ⟨(g4 q (by omega)).1.trans k1, (g4 q (by omega)).2.trans k2, (g5 q (by omega) (by omega) (by omega)).trans k3, (g6 q (by omega) (by omega)).trans k4⟩
theorem kb_make (h : KB z sz S0 Ln0 R0 M0 S Ln R M x y l) (hl : l.length ≤ 15) :
    ∃ S' Ln' M' R', fJ4_toString_0e30d ad sz S Ln R M x = some (sz, sz + 2, S', Ln', M', R') ∧ PC z S0 Ln0 R0 M0 (sz + 2) S' Ln' R' M' sz l l.length l.length := by
  obtain ⟨⟨h1, h2, h3⟩, ⟨h4, h5, h6, h7⟩, h8⟩ := h
  obtain ⟨S', Ln', M', R', e1, e2, e3⟩ := t_make (ad := ad) h1 h6 h7 (by omega) (by omega)
  exact ⟨S', Ln', M', R', e1, e2, ⟨by omega, by omega⟩, h8.tr (fun q hq => e3 q hq) (by omega), Nat.le_refl _, Nat.le_refl _⟩
theorem kb_z (h : KB z sz S0 Ln0 R0 M0 S Ln R M x y l) (hC : CST ad S0 Ln0 R0 M0) (hA : AD ad o) (ho : o ≤ z) {k : Nat} (hk : k < 21) : S (ad (16 + k)) = 1 := ((hC.bz hA h.2.2 ho).1 k hk).1.1
abbrev gT5 : Type := Nat × Nat × (Nat → Nat) × (Nat → Nat) × gM × gR
theorem pc_launch (hC : CST ad S Ln R M) (hA : AD ad o) (ho : o ≤ sz) {a : Int} (a0 : 0 ≤ a) (a1 : a < 100) : ∃ S' Ln' M' R' sz' s l, (∀ K : gT5 → Option (Int × (Nat → Nat) × (Nat → Nat) × gM × gR), (bd (fJ4_init_da8c8 ad (sz + 1) (ua S sz 2) (ua Ln sz 0) (ua R sz gNo) (ua M sz (gN 2)) sz) fun q0 => rf q0.2.1 (some (ad 28)) 1 fun b1 => bd (fJ4_append_15ec4 ad q0.1 q0.2.1 q0.2.2.1 q0.2.2.2.2 q0.2.2.2.1 sz b1) fun q1 => bd (fJ4_append_bf812 ad q1.2.1 q1.2.2.1 q1.2.2.2.1 q1.2.2.2.2.2 q1.2.2.2.2.1 q1.1 a) fun q2 => rf q2.2.2.1 (some (ad 29)) 1 fun b3 => bd (fJ4_append_15ec4 ad q2.2.1 q2.2.2.1 q2.2.2.2.1 q2.2.2.2.2.2 q2.2.2.2.2.1 q2.1 b3) fun q3 => bd (fJ4_toString_0e30d ad q3.2.1 q3.2.2.1 q3.2.2.2.1 q3.2.2.2.2.2 q3.2.2.2.2.1 q3.1) fun q4 => K q4) = K (s, sz', S', Ln', M', R')) ∧ PC sz S Ln R M sz' S' Ln' R' M' s l 9 10 := by
  have w1 : (kS 12).length = 7 := rfl
  have w2 := dig_2 a0 a1
  have w3 : (kS 13).length = 1 := rfl
  obtain ⟨S0, Ln0, M0, R0, e0, k0⟩ := kb_new (ad := ad) (S := S) (Ln := Ln) (R := R) (M := M) (sz := sz)
  have z1 := kb_z k0 hC hA ho (k := 12) (by decide)
  obtain ⟨sz1, S1, Ln1, M1, R1, y1, e1, k1⟩ := kb_str (ad := ad) k0 hC hA ho (k := 12) (by decide) (by have hk : (kS 12).length = 7 := rfl; simp only [List.length_append, List.length_nil, hk]; omega)
  obtain ⟨sz2, S2, Ln2, M2, R2, y2, e2, k2⟩ := kb_int (ad := ad) k1 hC hA ho a0 a1 (by simp only [List.length_append, List.length_nil]; omega)
  have z3 := kb_z k2 hC hA ho (k := 13) (by decide)
  obtain ⟨sz3, S3, Ln3, M3, R3, y3, e3, k3⟩ := kb_str (ad := ad) k2 hC hA ho (k := 13) (by decide) (by have hk : (kS 13).length = 1 := rfl; simp only [List.length_append, List.length_nil, hk]; omega)
  have hl := k3.1.2.2
  obtain ⟨S9, Ln9, M9, R9, e9, ⟨p1, p2, p3, p4, p5⟩⟩ := kb_make (ad := ad) k3 (by simp only [List.length_append, List.length_nil]; omega)
  simp only [List.length_append, List.length_nil] at p4 p5
  refine ⟨S9, Ln9, M9, R9, _, _, _, fun K => ?_, p1, p2, p3, by simp only [List.length_append, List.length_nil]; omega, by simp only [List.length_append, List.length_nil]; omega⟩
  rw [e0, bd_s]
  dsimp only
  rw [rf_s (show S0 (ad 28) = 1 from z1), show ad 28 = ad (16 + 12) from rfl, e1, bd_s]
  dsimp only
  rw [e2, bd_s]
  dsimp only
  rw [rf_s (show S2 (ad 29) = 1 from z3), show ad 29 = ad (16 + 13) from rfl, e3, bd_s]
  dsimp only
  rw [e9, bd_s]
theorem pc_climb (hC : CST ad S Ln R M) (hA : AD ad o) (ho : o ≤ sz) {a c : Int} (a0 : 0 ≤ a) (a1 : a < 100) (c0 : 0 ≤ c) (c1 : c < 100) : ∃ S' Ln' M' R' sz' s l, (∀ K : gT5 → Option (Int × (Nat → Nat) × (Nat → Nat) × gM × gR), (bd (fJ4_init_da8c8 ad (sz + 1) (ua S sz 2) (ua Ln sz 0) (ua R sz gNo) (ua M sz (gN 2)) sz) fun q0 => rf q0.2.1 (some (ad 30)) 1 fun b1 => bd (fJ4_append_15ec4 ad q0.1 q0.2.1 q0.2.2.1 q0.2.2.2.2 q0.2.2.2.1 sz b1) fun q1 => bd (fJ4_append_bf812 ad q1.2.1 q1.2.2.1 q1.2.2.2.1 q1.2.2.2.2.2 q1.2.2.2.2.1 q1.1 a) fun q2 => rf q2.2.2.1 (some (ad 31)) 1 fun b3 => bd (fJ4_append_15ec4 ad q2.2.1 q2.2.2.1 q2.2.2.2.1 q2.2.2.2.2.2 q2.2.2.2.2.1 q2.1 b3) fun q3 => bd (fJ4_append_bf812 ad q3.2.1 q3.2.2.1 q3.2.2.2.1 q3.2.2.2.2.2 q3.2.2.2.2.1 q3.1 c) fun q4 => rf q4.2.2.1 (some (ad 29)) 1 fun b5 => bd (fJ4_append_15ec4 ad q4.2.1 q4.2.2.1 q4.2.2.2.1 q4.2.2.2.2.2 q4.2.2.2.2.1 q4.1 b5) fun q5 => bd (fJ4_toString_0e30d ad q5.2.1 q5.2.2.1 q5.2.2.2.1 q5.2.2.2.2.2 q5.2.2.2.2.1 q5.1) fun q6 => K q6) = K (s, sz', S', Ln', M', R')) ∧ PC sz S Ln R M sz' S' Ln' R' M' s l 10 12 := by
  have w1 : (kS 14).length = 6 := rfl
  have w2 := dig_2 a0 a1
  have w3 : (kS 15).length = 1 := rfl
  have w4 := dig_2 c0 c1
  have w5 : (kS 13).length = 1 := rfl
  obtain ⟨S0, Ln0, M0, R0, e0, k0⟩ := kb_new (ad := ad) (S := S) (Ln := Ln) (R := R) (M := M) (sz := sz)
  have z1 := kb_z k0 hC hA ho (k := 14) (by decide)
  obtain ⟨sz1, S1, Ln1, M1, R1, y1, e1, k1⟩ := kb_str (ad := ad) k0 hC hA ho (k := 14) (by decide) (by have hk : (kS 14).length = 6 := rfl; simp only [List.length_append, List.length_nil, hk]; omega)
  obtain ⟨sz2, S2, Ln2, M2, R2, y2, e2, k2⟩ := kb_int (ad := ad) k1 hC hA ho a0 a1 (by simp only [List.length_append, List.length_nil]; omega)
  have z3 := kb_z k2 hC hA ho (k := 15) (by decide)
  obtain ⟨sz3, S3, Ln3, M3, R3, y3, e3, k3⟩ := kb_str (ad := ad) k2 hC hA ho (k := 15) (by decide) (by have hk : (kS 15).length = 1 := rfl; simp only [List.length_append, List.length_nil, hk]; omega)
  obtain ⟨sz4, S4, Ln4, M4, R4, y4, e4, k4⟩ := kb_int (ad := ad) k3 hC hA ho c0 c1 (by simp only [List.length_append, List.length_nil]; omega)
  have z5 := kb_z k4 hC hA ho (k := 13) (by decide)
  obtain ⟨sz5, S5, Ln5, M5, R5, y5, e5, k5⟩ := kb_str (ad := ad) k4 hC hA ho (k := 13) (by decide) (by have hk : (kS 13).length = 1 := rfl; simp only [List.length_append, List.length_nil, hk]; omega)
  have hl := k5.1.2.2
  obtain ⟨S9, Ln9, M9, R9, e9, ⟨p1, p2, p3, p4, p5⟩⟩ := kb_make (ad := ad) k5 (by simp only [List.length_append, List.length_nil]; omega)
  simp only [List.length_append, List.length_nil] at p4 p5
  refine ⟨S9, Ln9, M9, R9, _, _, _, fun K => ?_, p1, p2, p3, by simp only [List.length_append, List.length_nil]; omega, by simp only [List.length_append, List.length_nil]; omega⟩
  rw [e0, bd_s]
  dsimp only
  rw [rf_s (show S0 (ad 30) = 1 from z1), show ad 30 = ad (16 + 14) from rfl, e1, bd_s]
  dsimp only
  rw [e2, bd_s]
  dsimp only
  rw [rf_s (show S2 (ad 31) = 1 from z3), show ad 31 = ad (16 + 15) from rfl, e3, bd_s]
  dsimp only
  rw [e4, bd_s]
  dsimp only
  rw [rf_s (show S4 (ad 29) = 1 from z5), show ad 29 = ad (16 + 13) from rfl, e5, bd_s]
  dsimp only
  rw [e9, bd_s]
theorem pc_flye (hC : CST ad S Ln R M) (hA : AD ad o) (ho : o ≤ sz) {a c : Int} (a0 : 0 ≤ a) (a1 : a < 100) (c0 : 0 ≤ c) (c1 : c < 100) : ∃ S' Ln' M' R' sz' s l, (∀ K : gT5 → Option (Int × (Nat → Nat) × (Nat → Nat) × gM × gR), (bd (fJ4_init_da8c8 ad (sz + 1) (ua S sz 2) (ua Ln sz 0) (ua R sz gNo) (ua M sz (gN 2)) sz) fun q0 => rf q0.2.1 (some (ad 32)) 1 fun b1 => bd (fJ4_append_15ec4 ad q0.1 q0.2.1 q0.2.2.1 q0.2.2.2.2 q0.2.2.2.1 sz b1) fun q1 => bd (fJ4_append_bf812 ad q1.2.1 q1.2.2.1 q1.2.2.2.1 q1.2.2.2.2.2 q1.2.2.2.2.1 q1.1 a) fun q2 => rf q2.2.2.1 (some (ad 33)) 1 fun b3 => bd (fJ4_append_15ec4 ad q2.2.1 q2.2.2.1 q2.2.2.2.1 q2.2.2.2.2.2 q2.2.2.2.2.1 q2.1 b3) fun q3 => bd (fJ4_append_bf812 ad q3.2.1 q3.2.2.1 q3.2.2.2.1 q3.2.2.2.2.2 q3.2.2.2.2.1 q3.1 c) fun q4 => bd (fJ4_toString_0e30d ad q4.2.1 q4.2.2.1 q4.2.2.2.1 q4.2.2.2.2.2 q4.2.2.2.2.1 q4.1) fun q5 => K q5) = K (s, sz', S', Ln', M', R')) ∧ PC sz S Ln R M sz' S' Ln' R' M' s l 8 10 := by
  have w1 : (kS 16).length = 4 := rfl
  have w2 := dig_2 a0 a1
  have w3 : (kS 17).length = 2 := rfl
  have w4 := dig_2 c0 c1
  obtain ⟨S0, Ln0, M0, R0, e0, k0⟩ := kb_new (ad := ad) (S := S) (Ln := Ln) (R := R) (M := M) (sz := sz)
  have z1 := kb_z k0 hC hA ho (k := 16) (by decide)
  obtain ⟨sz1, S1, Ln1, M1, R1, y1, e1, k1⟩ := kb_str (ad := ad) k0 hC hA ho (k := 16) (by decide) (by have hk : (kS 16).length = 4 := rfl; simp only [List.length_append, List.length_nil, hk]; omega)
  obtain ⟨sz2, S2, Ln2, M2, R2, y2, e2, k2⟩ := kb_int (ad := ad) k1 hC hA ho a0 a1 (by simp only [List.length_append, List.length_nil]; omega)
  have z3 := kb_z k2 hC hA ho (k := 17) (by decide)
  obtain ⟨sz3, S3, Ln3, M3, R3, y3, e3, k3⟩ := kb_str (ad := ad) k2 hC hA ho (k := 17) (by decide) (by have hk : (kS 17).length = 2 := rfl; simp only [List.length_append, List.length_nil, hk]; omega)
  obtain ⟨sz4, S4, Ln4, M4, R4, y4, e4, k4⟩ := kb_int (ad := ad) k3 hC hA ho c0 c1 (by simp only [List.length_append, List.length_nil]; omega)
  have hl := k4.1.2.2
  obtain ⟨S9, Ln9, M9, R9, e9, ⟨p1, p2, p3, p4, p5⟩⟩ := kb_make (ad := ad) k4 (by simp only [List.length_append, List.length_nil]; omega)
  simp only [List.length_append, List.length_nil] at p4 p5
  refine ⟨S9, Ln9, M9, R9, _, _, _, fun K => ?_, p1, p2, p3, by simp only [List.length_append, List.length_nil]; omega, by simp only [List.length_append, List.length_nil]; omega⟩
  rw [e0, bd_s]
  dsimp only
  rw [rf_s (show S0 (ad 32) = 1 from z1), show ad 32 = ad (16 + 16) from rfl, e1, bd_s]
  dsimp only
  rw [e2, bd_s]
  dsimp only
  rw [rf_s (show S2 (ad 33) = 1 from z3), show ad 33 = ad (16 + 17) from rfl, e3, bd_s]
  dsimp only
  rw [e4, bd_s]
  dsimp only
  rw [e9, bd_s]
theorem pc_flys (hC : CST ad S Ln R M) (hA : AD ad o) (ho : o ≤ sz) {a c : Int} (a0 : 0 ≤ a) (a1 : a < 100) (c0 : 0 ≤ c) (c1 : c < 100) : ∃ S' Ln' M' R' sz' s l, (∀ K : gT5 → Option (Int × (Nat → Nat) × (Nat → Nat) × gM × gR), (bd (fJ4_init_da8c8 ad (sz + 1) (ua S sz 2) (ua Ln sz 0) (ua R sz gNo) (ua M sz (gN 2)) sz) fun q0 => rf q0.2.1 (some (ad 32)) 1 fun b1 => bd (fJ4_append_15ec4 ad q0.1 q0.2.1 q0.2.2.1 q0.2.2.2.2 q0.2.2.2.1 sz b1) fun q1 => bd (fJ4_append_bf812 ad q1.2.1 q1.2.2.1 q1.2.2.2.1 q1.2.2.2.2.2 q1.2.2.2.2.1 q1.1 a) fun q2 => rf q2.2.2.1 (some (ad 34)) 1 fun b3 => bd (fJ4_append_15ec4 ad q2.2.1 q2.2.2.1 q2.2.2.2.1 q2.2.2.2.2.2 q2.2.2.2.2.1 q2.1 b3) fun q3 => bd (fJ4_append_bf812 ad q3.2.1 q3.2.2.1 q3.2.2.2.1 q3.2.2.2.2.2 q3.2.2.2.2.1 q3.1 c) fun q4 => rf q4.2.2.1 (some (ad 35)) 1 fun b5 => bd (fJ4_append_15ec4 ad q4.2.1 q4.2.2.1 q4.2.2.2.1 q4.2.2.2.2.2 q4.2.2.2.2.1 q4.1 b5) fun q5 => bd (fJ4_toString_0e30d ad q5.2.1 q5.2.2.1 q5.2.2.2.1 q5.2.2.2.2.2 q5.2.2.2.2.1 q5.1) fun q6 => K q6) = K (s, sz', S', Ln', M', R')) ∧ PC sz S Ln R M sz' S' Ln' R' M' s l 12 14 := by
  have w1 : (kS 16).length = 4 := rfl
  have w2 := dig_2 a0 a1
  have w3 : (kS 18).length = 2 := rfl
  have w4 := dig_2 c0 c1
  have w5 : (kS 19).length = 4 := rfl
  obtain ⟨S0, Ln0, M0, R0, e0, k0⟩ := kb_new (ad := ad) (S := S) (Ln := Ln) (R := R) (M := M) (sz := sz)
  have z1 := kb_z k0 hC hA ho (k := 16) (by decide)
  obtain ⟨sz1, S1, Ln1, M1, R1, y1, e1, k1⟩ := kb_str (ad := ad) k0 hC hA ho (k := 16) (by decide) (by have hk : (kS 16).length = 4 := rfl; simp only [List.length_append, List.length_nil, hk]; omega)
  obtain ⟨sz2, S2, Ln2, M2, R2, y2, e2, k2⟩ := kb_int (ad := ad) k1 hC hA ho a0 a1 (by simp only [List.length_append, List.length_nil]; omega)
  have z3 := kb_z k2 hC hA ho (k := 18) (by decide)
  obtain ⟨sz3, S3, Ln3, M3, R3, y3, e3, k3⟩ := kb_str (ad := ad) k2 hC hA ho (k := 18) (by decide) (by have hk : (kS 18).length = 2 := rfl; simp only [List.length_append, List.length_nil, hk]; omega)
  obtain ⟨sz4, S4, Ln4, M4, R4, y4, e4, k4⟩ := kb_int (ad := ad) k3 hC hA ho c0 c1 (by simp only [List.length_append, List.length_nil]; omega)
  have z5 := kb_z k4 hC hA ho (k := 19) (by decide)
  obtain ⟨sz5, S5, Ln5, M5, R5, y5, e5, k5⟩ := kb_str (ad := ad) k4 hC hA ho (k := 19) (by decide) (by have hk : (kS 19).length = 4 := rfl; simp only [List.length_append, List.length_nil, hk]; omega)
  have hl := k5.1.2.2
  obtain ⟨S9, Ln9, M9, R9, e9, ⟨p1, p2, p3, p4, p5⟩⟩ := kb_make (ad := ad) k5 (by simp only [List.length_append, List.length_nil]; omega)
  simp only [List.length_append, List.length_nil] at p4 p5
  refine ⟨S9, Ln9, M9, R9, _, _, _, fun K => ?_, p1, p2, p3, by simp only [List.length_append, List.length_nil]; omega, by simp only [List.length_append, List.length_nil]; omega⟩
  rw [e0, bd_s]
  dsimp only
  rw [rf_s (show S0 (ad 32) = 1 from z1), show ad 32 = ad (16 + 16) from rfl, e1, bd_s]
  dsimp only
  rw [e2, bd_s]
  dsimp only
  rw [rf_s (show S2 (ad 34) = 1 from z3), show ad 34 = ad (16 + 18) from rfl, e3, bd_s]
  dsimp only
  rw [e4, bd_s]
  dsimp only
  rw [rf_s (show S4 (ad 35) = 1 from z5), show ad 35 = ad (16 + 19) from rfl, e5, bd_s]
  dsimp only
  rw [e9, bd_s]
theorem pc_pilot (hC : CST ad S Ln R M) (hA : AD ad o) (ho : o ≤ sz) {c : Int} (c0 : 0 ≤ c) (c1 : c < 100) (c2 : 10 ≤ c) : ∃ S' Ln' M' R' sz' s l, (∀ K : gT5 → Option (Int × (Nat → Nat) × (Nat → Nat) × gM × gR), (bd (fJ4_init_da8c8 ad (sz + 1) (ua S sz 2) (ua Ln sz 0) (ua R sz gNo) (ua M sz (gN 2)) sz) fun q0 => rf q0.2.1 (some (ad 36)) 1 fun b1 => bd (fJ4_append_15ec4 ad q0.1 q0.2.1 q0.2.2.1 q0.2.2.2.2 q0.2.2.2.1 sz b1) fun q1 => bd (fJ4_append_bf812 ad q1.2.1 q1.2.2.1 q1.2.2.2.1 q1.2.2.2.2.2 q1.2.2.2.2.1 q1.1 c) fun q2 => bd (fJ4_toString_0e30d ad q2.2.1 q2.2.2.1 q2.2.2.2.1 q2.2.2.2.2.2 q2.2.2.2.2.1 q2.1) fun q3 => K q3) = K (s, sz', S', Ln', M', R')) ∧ PC sz S Ln R M sz' S' Ln' R' M' s l 8 8 := by
  have w1 : (kS 20).length = 6 := rfl
  have w2 := dig_22 c2 c1
  obtain ⟨S0, Ln0, M0, R0, e0, k0⟩ := kb_new (ad := ad) (S := S) (Ln := Ln) (R := R) (M := M) (sz := sz)
  have z1 := kb_z k0 hC hA ho (k := 20) (by decide)
  obtain ⟨sz1, S1, Ln1, M1, R1, y1, e1, k1⟩ := kb_str (ad := ad) k0 hC hA ho (k := 20) (by decide) (by have hk : (kS 20).length = 6 := rfl; simp only [List.length_append, List.length_nil, hk]; omega)
  obtain ⟨sz2, S2, Ln2, M2, R2, y2, e2, k2⟩ := kb_int (ad := ad) k1 hC hA ho c0 c1 (by simp only [List.length_append, List.length_nil]; omega)
  have hl := k2.1.2.2
  obtain ⟨S9, Ln9, M9, R9, e9, ⟨p1, p2, p3, p4, p5⟩⟩ := kb_make (ad := ad) k2 (by simp only [List.length_append, List.length_nil]; omega)
  simp only [List.length_append, List.length_nil] at p4 p5
  refine ⟨S9, Ln9, M9, R9, _, _, _, fun K => ?_, p1, p2, p3, by simp only [List.length_append, List.length_nil]; omega, by simp only [List.length_append, List.length_nil]; omega⟩
  rw [e0, bd_s]
  dsimp only
  rw [rf_s (show S0 (ad 36) = 1 from z1), show ad 36 = ad (16 + 20) from rfl, e1, bd_s]
  dsimp only
  rw [e2, bd_s]
  dsimp only
  rw [e9, bd_s]
end KB57
