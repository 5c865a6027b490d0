/-! The law's loop; its body from the entry -/
section LWL
variable {G : gE} {C : gC} {P : gP}
theorem law_end (hC : OKC G C RL cL_law 9 (some .boolean) 1400 603072 7198826 P noX) (hP : ∀ sz S Ln M R, P (some (.int (iI 1))) sz S Ln M R) {kk sz : Nat} {S Ln : Nat → Nat} {M : gM} {R : gR} (h1 : kk ≤ 603072) (h2 : 256 * kk ≤ 7198826) : JJ G C kk (256 * kk) sz S Ln M R 2988 [] [] := by
  refine jj_iconst hC dL_law_2988 ?_
  exact jj_zret hC (z := 1) ⟨by decide, by decide⟩ h1 h2 dL_law_2989 (hP _ _ _ _ _)
theorem law_loop (hC : OKC G C RL cL_law 9 (some .boolean) 1400 603072 7198826 P noX) (hP : ∀ sz S Ln M R, P (some (.int (iI 1))) sz S Ln M R) {e o L : Nat} (hL : L ≤ 2560) : ∀ (f : Nat) (i0 b : Int) (kk sz : Nat) (S Ln : Nat → Nat) (M : gM) (R : gR), WI G.2.2.2.2 S Ln R M e o b → Ln e = L → 0 ≤ i0 → i0 ≤ 2565 → (L : Int) - i0 < 5 * f → b + 15 * f + 16 ≤ 10000 → kk + 40 * (f + 1) ≤ 603072 → 256 * (kk + 40 * (f + 1)) ≤ 7198826 →
    JJ G C kk (256 * kk) sz S Ln M R 28 [(0, .ref e), (1, .ref o), (2, .ref (o + 310)), (3, .ref (o + 319)), (4, .ref (o + 319 + 1)), (5, .int (iI i0))] [] := by
  intro f
  induction f with
  | zero =>
    intro i0 b kk sz S Ln M R hW hLe h0 h1 hf hb hk hn
    obtain ⟨π, y, ⟨hO, hM, -⟩, -, -, -, -, -, -, k29, k21, k22⟩ := hW
    exact xL_step hC (by omega) (by omega) k29 hO.1 hM.1.1 k21 k22 ⟨by omega, by omega⟩ (w_end (ad := G.2.2.2.2) (by omega) (by omega)) (fun t ht => by cases ht) (fun _ => law_end hC hP (by omega) (by omega))
  | succ f ih =>
    intro i0 b kk sz S Ln M R hW hLe h0 h1 hf hb hk hn
    have hW9 := hW
    obtain ⟨π, y, ⟨hO, hM, -⟩, -, -, -, -, -, -, k29, k21, k22⟩ := hW
    by_cases h : i0 + 5 ≤ (L : Int)
    · refine jj_lt (fun hlt => ?_)
      obtain ⟨S', Ln', M', R', e1, hW', hLe'⟩ := w_step hW9 (by omega) hlt ⟨h0, by rw [hLe]; exact h, by omega⟩
      refine xL_step hC (by omega) (by omega) k29 hO.1 hM.1.1 k21 k22 ⟨by omega, by omega⟩ e1 (fun t ht sz1 hJ => ?_) (fun h => by cases h)
      obtain rfl := Sum.inl.inj ht
      exact ih (i0 + 5) (b + 15) (kk + 40) sz1 S' Ln' M' R' hW' (hLe'.trans hLe) (by omega) (by omega) (by omega) (by omega) (by omega) (by omega)
    · exact xL_step hC (by omega) (by omega) k29 hO.1 hM.1.1 k21 k22 ⟨by omega, by omega⟩ (w_end (ad := G.2.2.2.2) (by omega) (by omega)) (fun t ht => by cases ht) (fun _ => law_end hC hP (by omega) (by omega))
theorem law_body (hC : OKC G C RL cL_law 9 (some .boolean) 1400 603072 7198826 P noX) (hP : ∀ sz S Ln M R, P (some (.int (iI 1))) sz S Ln M R) {e o L : Nat} (hL : L ≤ 2560) {S Ln : Nat → Nat} {M : gM} {R : gR} (he : e < o) (h29 : S e = 29) (hLe : Ln e = L) (hCS : CST G.2.2.2.2 S Ln R M) (hA : AD G.2.2.2.2 o) :
    JJ G C 0 0 o S Ln M R 0 [(0, .ref e)] [] := by
  obtain ⟨S', Ln', M', R', e1, hW, hLe'⟩ := w_start e he h29 hCS hA
  refine xL_pre hC h29 e1 (fun _ => ?_)
  exact law_loop hC hP hL 513 0 0 400 (o + 321) S' Ln' M' R' hW (hLe'.trans hLe) (Int.le_refl _) (by decide) (by omega) (by decide) (by decide) (by decide)
end LWL
