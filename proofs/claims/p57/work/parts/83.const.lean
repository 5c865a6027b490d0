/-! PURE: the constants; a text that grows beside the contest -/
def kS : Nat → List Int
  | 0 => [112, 111, 105, 110, 116, 32, 78, 32, 78]
  | 1 => [116, 97, 115, 107, 32, 68]
  | 2 => [116, 104, 101, 114, 109, 97, 108, 32, 78, 32, 78, 32, 68]
  | 3 => [97, 114, 101, 97, 32, 78, 32, 78, 32, 78, 32, 78]
  | 4 => [112, 105, 108, 111, 116, 32, 78]
  | 5 => [108, 97, 117, 110, 99, 104, 32, 68]
  | 6 => [102, 108, 121, 32, 68, 32, 87, 78]
  | 7 => [99, 108, 105, 109, 98, 32, 68, 32, 78]
  | 8 => [101, 110, 100]
  | 9 => [110, 101, 115, 119]
  | 10 => [109, 32]
  | 11 => [32, 45]
  | 12 => [108, 97, 117, 110, 99, 104, 32]
  | 13 => [59]
  | 14 => [99, 108, 105, 109, 98, 32]
  | 15 => [32]
  | 16 => [102, 108, 121, 32]
  | 17 => [32, 101]
  | 18 => [32, 115]
  | 19 => [59, 101, 110, 100]
  | 20 => [112, 105, 108, 111, 116, 32]
  | _ => []
def CST (ad S Ln : Nat → Nat) (R : gR) (M : gM) : Prop := (∀ z : Nat, z < 21 → STR S Ln R M (ad (16 + z)) (ad (48 + z)) (kS z)) ∧ DGT ad S Ln M
def AD (ad : Nat → Nat) (o : Nat) : Prop := (ad 10 < o ∧ ad 11 < o) ∧ ∀ z : Nat, z < 21 → ad (16 + z) < o ∧ ad (48 + z) < o
def TS (ad : Nat → Nat) (sz : Nat) (S Ln : Nat → Nat) (R : gR) (M : gM) (o x y : Nat) (π : Int → Nat) (v : gV) (l : List Int) : Prop := SBL S Ln R M x y l ∧ (o + 308 ≤ x ∧ o + 308 ≤ y ∧ x < sz ∧ y < sz) ∧ R o 5 = some x ∧ CST ad S Ln R M ∧ AD ad o ∧ LyO S Ln R o π ∧ RpS M (o + 1) v ∧ v 4 ≤ 6
def MF (M M' : gM) (m : Nat) : Prop := (∀ c, c ≠ m → c ≠ m + 6 → M' c = M c) ∧ ∀ k, k ≠ 12 → M' m k = M m k
def MS (ad S Ln : Nat → Nat) (R : gR) (M : gM) (o m : Nat) (v : gV) (l : List Int) : Prop := LyM S Ln R m ∧ LNE M m l ∧ M (m + 1) = v ∧ CST ad S Ln R M ∧ AD ad o ∧ o + 308 ≤ m
theorem MF.tr {M M1 M2 : gM} {m : Nat} (h : MF M M1 m) (g : MF M1 M2 m) : MF M M2 m := ⟨fun c c0 c1 => by rw [g.1 c c0 c1, h.1 c c0 c1], fun k hk => by rw [g.2 k hk, h.2 k hk]⟩
theorem MF.rf {M : gM} {m : Nat} : MF M M m := ⟨fun _ _ _ => rfl, fun _ _ => rfl⟩
section PCS
variable {ad S S' Ln Ln' : Nat → Nat} {R R' : gR} {M M' : gM} {o m x y y' sz sz' : Nat} {π : Int → Nat} {v : gV} {l l' : List Int}
theorem CST.fr (h : CST ad S Ln R M) (hA : AD ad o) (e : ∀ q, q < o → S' q = S q ∧ Ln' q = Ln q ∧ M' q = M q ∧ R' q = R q) : CST ad S' Ln' R' M' := by
  obtain ⟨h1, ⟨d1, d2, d3, d4⟩, h2⟩ := h
  obtain ⟨⟨a0, a1⟩, a2⟩ := hA
  refine ⟨fun z hz => ?_, ⟨by rw [(e _ a0).1]; exact d1, by rw [(e _ a1).1]; exact d2, by rw [(e _ a0).2.1]; exact d3, by rw [(e _ a1).2.1]; exact d4⟩, fun r r0 r1 => by rw [(e _ a0).2.2.1, (e _ a1).2.2.1]; exact h2 r r0 r1⟩
  obtain ⟨⟨b1, b2, b3, b4, b5⟩, c, k⟩ := h1 z hz
  obtain ⟨g1, g2⟩ := a2 z hz
  exact ⟨⟨by rw [(e _ g1).1]; exact b1, by rw [(e _ g1).2.2.2]; exact b2, by rw [(e _ g2).1]; exact b3, by rw [(e _ g2).2.1]; exact b4, by rw [(e _ g1).2.2.1]; exact b5⟩, c, fun i hi => by rw [(e _ g2).2.2.1]; exact k i hi⟩
theorem TS.gr (h : TS ad sz S Ln R M o x y π v l) (g : GR sz sz' x y y' S S' Ln Ln' M M' R R') (hB : SBL S' Ln' R' M' x y' l') : TS ad sz' S' Ln' R' M' o x y' π v l' := by
  obtain ⟨h1, ⟨p1, p2, p3, p4⟩, h3, h4, h5, h6, h7, h8⟩ := h
  obtain ⟨g1, g2, g3, g4, g5, g6⟩ := g
  refine ⟨hB, ⟨p1, by omega, by omega, g3⟩, by rw [g6 o (by omega) (by omega)]; exact h3, h4.fr h5 (fun q hq => ⟨(g4 q (by omega)).1, (g4 q (by omega)).2, g5 q (by omega) (by omega) (by omega), g6 q (by omega) (by omega)⟩), h5, h6.f2 (fun q hq => g4 q (by omega)) (fun q hq => g6 q (by omega) (by omega)), h7.fr (fun q _ _ => g5 q (by omega) (by omega) (by omega)) h8, h8⟩
theorem ts_chr (h : TS ad sz S Ln R M o x y π v l) (hl : l.length < 100) {c : Int} (c0 : 0 ≤ c) (c1 : c < 128) :
    ∃ sz' S' Ln' M' R' y', fJ4_append_cf468 ad sz S Ln R M x c = some (x, sz', S', Ln', M', R') ∧ TS ad sz' S' Ln' R' M' o x y' π v (l ++ [c]) ∧ GR sz sz' x y y' S S' Ln Ln' M M' R R' := by
  obtain ⟨sz', S', Ln', M', R', y', e1, e2, e3⟩ := b_chr (ad := ad) h.1 h.2.1.2.2.1 h.2.1.2.2.2 hl c0 c1
  exact ⟨sz', S', Ln', M', R', y', e1, h.gr e3 e2, e3⟩
theorem ts_int (h : TS ad sz S Ln R M o x y π v l) (hl : l.length ≤ 90) {n : Int} (h0 : 0 ≤ n) (h1 : n < 1000000000) :
    ∃ sz' S' Ln' M' R' y', fJ4_append_bf812 ad sz S Ln R M x n = some (x, sz', S', Ln', M', R') ∧ TS ad sz' S' Ln' R' M' o x y' π v (l ++ dig 11 n) ∧ GR sz sz' x y y' S S' Ln Ln' M M' R R' := by
  obtain ⟨p1, p2, p3, p4⟩ := h.2.1
  have hA := h.2.2.2.2.1.1
  obtain ⟨sz', S', Ln', M', R', y', e1, e2, e3⟩ := b_int h.2.2.2.1.2 h.1 p3 p4 (by omega) (by omega) hl h0 h1
  exact ⟨sz', S', Ln', M', R', y', e1, h.gr e3 e2, e3⟩
theorem ts_str (h : TS ad sz S Ln R M o x y π v l) {z : Nat} (hz : z < 21) (hl : l.length + (kS z).length ≤ 100) :
    ∃ sz' S' Ln' M' R' y', fJ4_append_15ec4 ad sz S Ln R M x (ad (16 + z)) = some (x, sz', S', Ln', M', R') ∧ TS ad sz' S' Ln' R' M' o x y' π v (l ++ kS z) ∧ GR sz sz' x y y' S S' Ln Ln' M M' R R' := by
  obtain ⟨p1, p2, p3, p4⟩ := h.2.1
  have hA := h.2.2.2.2.1.2 z hz
  obtain ⟨sz', S', Ln', M', R', y', e1, e2, e3⟩ := b_str (ad := ad) (h.2.2.2.1.1 z hz) h.1 p3 p4 (by omega) hl
  exact ⟨sz', S', Ln', M', R', y', e1, h.gr e3 e2, e3⟩
theorem ts_set0 (h : TS ad sz S Ln R M o x y π v l) :
    ∃ M', fJ4_setLength_d00df ad sz S Ln R M x 0 = some (sz, S, Ln, M', R) ∧ TS ad sz S Ln R M' o x y π v [] ∧ GR sz sz x y y S S Ln Ln M M' R R := by
  obtain ⟨M', e1, e2, e3⟩ := b_set0 (ad := ad) h.1 h.2.1.2.2.1 h.2.1.2.2.2
  exact ⟨M', e1, h.gr e3 e2, e3⟩
theorem ts_5 {α : Type} {f : Nat → Option α} (h : TS ad sz S Ln R M o x y π v l) : rf S (R o 5) 2 f = f x := rf_o h.2.2.1 h.1.1.1
theorem ts_z {α : Type} {f : Nat → Option α} (h : TS ad sz S Ln R M o x y π v l) {z : Nat} (hz : z < 21) : rf S (some (ad (16 + z))) 1 f = f (ad (16 + z)) := rf_o rfl (h.2.2.2.1.1 z hz).1.1
theorem ts_len (h : TS ad sz S Ln R M o x y π v l) : fJ4_length_8abf5 ad S Ln R M x = some (l.length : Int) := by
  rw [show fJ4_length_8abf5 ad S Ln R M x = some (M x 3) from rfl, h.1.2.1.2]
theorem ts_g (h : TS ad sz S Ln R M o x y π v l) {p k : Int} (p0 : 0 ≤ p) (p1 : p < v 4) (k0 : 0 ≤ k) (k1 : k < 9) : M (o + 1 + 20 + p.toNat) k = gl v p k := s_u h.2.2.2.2.2.2.1 p0 p1 k0 k1
theorem MS.mf (h : MS ad S Ln R M o m v l) (g : MF M M' m) (hl : LNE M' m l') : MS ad S Ln R M' o m v l' := by
  obtain ⟨h1, h2, h3, h4, h5, h6⟩ := h
  exact ⟨h1, hl, by rw [g.1 (m + 1) (by omega) (by omega)]; exact h3, h4.fr h5 (fun q hq => ⟨rfl, rfl, g.1 q (by omega) (by omega), rfl⟩), h5, h6⟩
theorem ms_z {α : Type} {f : Nat → Option α} (h : MS ad S Ln R M o m v l) {z : Nat} (hz : z < 21) : rf S (some (ad (16 + z))) 1 f = f (ad (16 + z)) := rf_o rfl (h.2.2.2.1.1 z hz).1.1
theorem dig_1 {n : Int} (h1 : n < 10) : (dig 11 n).length = 1 := by
  unfold dig
  rw [if_pos h1]
  rfl
/-- the line of a pilot -/
def sgn (s : Int) : Int := if s = 1 then 102 else if s = 2 then 108 else 33
def lnF (v : gV) (p : Int) : List Int := dig 11 p ++ [sgn (gl v p 1)] ++ dig 11 (gl v p 2) ++ [44] ++ dig 11 (gl v p 3) ++ [32] ++ dig 11 (gl v p 4) ++ [109, 32] ++ dig 11 (gl v p 7) ++ [47] ++ dig 11 (v 1)
def lnP (v : gV) (p : Int) : List Int := if gl v p 1 = 0 then dig 11 p ++ [45] else if gl v p 6 = 0 then lnF v p else lnF v p ++ [32, 45] ++ dig 11 (gl v p 6)
theorem lnF_len {b : Int} (hI : IvS b v) {p : Int} (p0 : 0 ≤ p) (p1 : p < v 4) : (lnF v p).length ≤ 46 := by
  have h4 := hI.2.2.2.1
  have h1 := hI.1.2.1
  have hu := (hI.2.2.2.2.2.2 p p0 p1).2.2.2.2.2.2.1
  have d0 := @dig_1 p (by omega)
  have d1 := @dig_1 (v 1) (by omega)
  have d7 := @dig_1 (gl v p 7) (by omega)
  have d2 := (@dig_len (gl v p 2) 11).2
  have d3 := (@dig_len (gl v p 3) 11).2
  have d4 := (@dig_len (gl v p 4) 11).2
  unfold lnF
  simp only [List.length_append, List.length_cons, List.length_nil, d0, d1, d7]
  omega
theorem lnP_len {b : Int} (hI : IvS b v) {p : Int} (p0 : 0 ≤ p) (p1 : p < v 4) : (lnP v p).length ≤ 60 := by
  have hF := lnF_len hI p0 p1
  have d0 := (@dig_len p 11).2
  have d6 := (@dig_len (gl v p 6) 11).2
  unfold lnP
  split
  · simp only [List.length_append, List.length_cons, List.length_nil]
    omega
  · split
    · omega
    · simp only [List.length_append, List.length_cons, List.length_nil]
      omega
end PCS
