/-! PURE: what holds while the text grows -/
section PGW
variable {S S' Ln Ln' : Nat → Nat} {R R' : gR} {M M' : gM} {e o m a : Nat} {π : Int → Nat} {b : Int}
theorem LyO.f2 (hO : LyO S Ln R o π) (h : ∀ q, q < o + 289 → S' q = S q ∧ Ln' q = Ln q) (r : ∀ q, q < o + 289 → R' q = R q) : LyO S' Ln' R' o π := by
  obtain ⟨a1, a2, a3, a4, a5, a6⟩ := hO
  exact ⟨by rw [(h o (by omega)).1]; exact a1, by rw [r o (by omega)]; exact a2, a3.f2 (fun q _ _ => h q (by omega)) (fun q _ _ => r q (by omega)), a4.f2 (fun q _ _ => h q (by omega)) (fun q _ _ => r q (by omega)), a5.f2 (fun q _ _ => h q (by omega)) (fun q _ _ => r q (by omega)), a6.f2 (fun q _ _ => h q (by omega)) (fun q _ _ => r q (by omega))⟩
theorem LyM.f2 (hM : LyM S Ln R m) (h : ∀ q, m ≤ q → q < m + 9 → S' q = S q ∧ Ln' q = Ln q) (r : R' m = R m) : LyM S' Ln' R' m := by
  unfold LyM
  rw [r, (h m (by omega) (by omega)).1, (h (m + 1) (by omega) (by omega)).1, (h (m + 2) (by omega) (by omega)).1, (h (m + 3) (by omega) (by omega)).1, (h (m + 4) (by omega) (by omega)).1, (h (m + 5) (by omega) (by omega)).1, (h (m + 6) (by omega) (by omega)).1, (h (m + 7) (by omega) (by omega)).1, (h (m + 8) (by omega) (by omega)).1,
    (h (m + 1) (by omega) (by omega)).2, (h (m + 2) (by omega) (by omega)).2, (h (m + 3) (by omega) (by omega)).2, (h (m + 4) (by omega) (by omega)).2, (h (m + 5) (by omega) (by omega)).2, (h (m + 6) (by omega) (by omega)).2, (h (m + 7) (by omega) (by omega)).2, (h (m + 8) (by omega) (by omega)).2]
  exact hM
/-- the memory agrees where the contest and the model lie -/
theorem INV.f2 (hO : LyO S Ln R o π) (hN : INV M o m π b) (h : ∀ q, (o ≤ q ∧ q < o + 289) ∨ (m ≤ q ∧ q < m + 5) → M' q = M q) : INV M' o m π b := by
  obtain ⟨n1, n2, n3, n4, n5, n6, n7⟩ := hN
  have h0 := h m (by omega)
  have h1 := h (m + 1) (by omega)
  have h3 := h (m + 3) (by omega)
  have h4 := h (m + 4) (by omega)
  have hw : ∀ q, pW M' m q = pW M m q := fun q => by unfold pW; rw [h4]
  refine ⟨by rw [h1]; exact n1.fr (fun x _ _ => h x (by omega)) n2.1.2.2.2.1.2, by rw [h1]; exact n2, by rw [h (o + 79) (by omega), h0]; exact n3, by rw [h0]; exact n4, fun q q0 q1 => ?_, by rw [h o (by omega), h0]; exact n6, fun hh => ?_⟩
  · rw [h0] at q1
    rw [hw]
    obtain ⟨l1, l2, l3, l4⟩ := hO.2.2.2.2.2.2.2.2.2.1 q q0 (by omega)
    obtain ⟨r1, r2, r3⟩ := n5 q q0 q1
    exact ⟨r1.fr (fun x _ _ => h x (by omega)) r2.2.2.2.1.2, r2, r3⟩
  · rw [h0] at hh
    rw [h3]
    obtain ⟨r1, r2, r3⟩ := n7 hh
    exact ⟨r1.fr (fun x _ _ => h x (by omega)) r2.2.2.2.1.2, r2, r3⟩
end PGW
