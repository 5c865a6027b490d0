/-! p57: the law's loop; its body from the entry -/
section LWL
variable {G : gE} {C : gC} {P : gP}
theorem law_end (hC : OKC G C RL cL_law 5 (some .boolean) 1400 600312 7291746 P noX) (hP : ∀ sz S Ln M R, P (some (.int (iI 1))) sz S Ln M R) {kk sz : Nat} {S Ln : Nat → Nat} {M : gM} {R : gR} (h1 : kk ≤ 600312) (h2 : 256 * kk ≤ 7291746) : JJ G C kk (256 * kk) sz S Ln M R 246 [] [] := by
  refine jj_iconst hC dL_law_246 ?_
  refine jj_goto (tgt := 251) hC dL_law_247 rfl ?_
  exact jj_zret hC (z := 1) ⟨by decide, by decide⟩ h1 h2 dL_law_251 (hP _ _ _ _ _)
theorem LI.x {ad S Ln : Nat → Nat} {R : gR} {M : gM} {o a0 : Nat} {π : Int → Nat} {b : Int} {v : gV} {n : Int} {w : Int → gV} {sz : Nat} (h : LI ad S Ln R M o a0 π b v n w) (hlt : ∀ a, S a ≠ 0 → a < sz) : o + 310 ≤ sz := by
  have h1 : S (o + 308 + 1) = 23 := h.2.2.2.1.2.2.1
  have := hlt _ (by rw [h1]; decide)
  omega
theorem law_tail (hC : OKC G C RL cL_law 5 (some .boolean) 1400 600312 7291746 P noX) (hP : ∀ sz S Ln M R, P (some (.int (iI 1))) sz S Ln M R) {kk sz : Nat} {S Ln : Nat → Nat} {M : gM} {R : gR} {o a0 : Nat} {π : Int → Nat} {b : Int} {v : gV} {n : Int} {w : Int → gV} (h : LI G.2.2.2.2 S Ln R M o a0 π b v n w) (hb : b + 5 ≤ 10000) (hk : kk + 600 ≤ 28000) (h12 : S o = 12) : JJ G C kk (256 * kk) sz S Ln M R 125 [(1, .ref o)] [] := by
  refine jj_lt (fun hlt => ?_)
  have ho := h.x hlt
  have h4 : 4 ≤ v 4 := h.2.1.1
  obtain ⟨j, S1, Ln1, M1, R1, e1, ⟨j0, j1⟩, I1, N1, V1⟩ := G_s5 (ad := G.2.2.2.2) h ho
  refine xL_s5 hC (by omega) (by omega) h12 e1 (fun t ht sz1 hJ => ?_)
  subst ht
  obtain ⟨k1, k2, k3, -⟩ := hJ
  refine jj_lt (fun hlt1 => ?_)
  have ho1 := I1.x hlt1
  have ha1 : sz < sz1 := hlt1 sz (by rw [k1]; decide)
  obtain ⟨i, S2, Ln2, M2, R2, e2, ⟨i0, i1⟩, W2, N2, V2⟩ := G_s6 (ad := G.2.2.2.2) I1 ho1 ha1 N1 V1 j0 j1
  refine xL_s6 hC (by omega) (by omega) k3 k1 k2 e2 (fun t ht sz2 hJ => ?_)
  subst ht
  obtain ⟨k4, k5, k6, k7⟩ := hJ
  refine jj_lt (fun hlt2 => ?_)
  have ha2 : sz < sz2 := hlt2 sz (by rw [k6]; decide)
  obtain ⟨S3, Ln3, M3, R3, π3, w3, e3, W3, N3⟩ := G_s7 (ad := G.2.2.2.2) W2 hb h4 (by omega) ha2 N2 V2 i0 i1
  refine xL_s7 hC (by omega) (by omega) k5 k6 k4 e3 (fun t ht sz3 hJ => ?_)
  subst ht
  obtain ⟨k8, k9, -⟩ := hJ
  refine jj_lt (fun hlt3 => ?_)
  have ha3 : sz < sz3 := hlt3 sz (by rw [k9]; decide)
  obtain ⟨S4, Ln4, M4, R4, e4⟩ := G_s8 (ad := G.2.2.2.2) W3 (by omega) ha3 N3
  refine xL_s8 hC (by omega) (by omega) k8 k9 e4 (fun t ht sz4 hJ => ?_)
  exact law_end hC hP (by omega) (by omega)
theorem law_loop (hC : OKC G C RL cL_law 5 (some .boolean) 1400 600312 7291746 P noX) (hP : ∀ sz S Ln M R, P (some (.int (iI 1))) sz S Ln M R) {o a0 : Nat} : ∀ (f : Nat) (k b : Int) (kk sz : Nat) (S Ln : Nat → Nat) (M : gM) (R : gR) (π : Int → Nat) (v : gV) (n : Int) (w : Int → gV), LI G.2.2.2.2 S Ln R M o a0 π b v n w → S o = 12 → k + (f : Int) = 9 → 0 ≤ k → b + 30 * f + 40 ≤ 10000 → kk + 600 * f + 1000 ≤ 28000 →
    JJ G C kk (256 * kk) sz S Ln M R 20 [(0, .ref a0), (1, .ref o), (2, .int (iI k))] [] := by
  intro f
  induction f with
  | zero =>
    intro k b kk sz S Ln M R π v n w h h12 hf k0 hb hk
    refine xL_s1 hC (by omega) (by omega) h.2.1.2.2 h12 ⟨by omega, by omega⟩ (G_end (ad := G.2.2.2.2) (by omega)) (fun t ht => by cases ht) (fun t ht => by cases ht) (fun t ht sz1 hJ => ?_)
    obtain rfl := Sum.inr.inj (Sum.inr.inj ht)
    exact law_tail hC hP h (by omega) (by omega) h12
  | succ f ih =>
    intro k b kk sz S Ln M R π v n w h h12 hf k0 hb hk
    have hkf : kk ≤ 27000 := by omega
    have hm : ∀ c : Nat, c ≤ 1000 → kk + c ≤ 600312 ∧ 256 * (kk + c) ≤ 7291746 := fun c hc => ⟨by omega, by omega⟩
    refine jj_lt (fun hlt => ?_)
    have ho := h.x hlt
    have hw1 : w32 (k + 1) = k + 1 := w32_i (by omega) (by omega)
    obtain ⟨r, S1, Ln1, M1, R1, π1, v1, n1, w1, I1, N1, hc⟩ := G_s1 (ad := G.2.2.2.2) h (by omega) ho k0 (by omega)
    rcases hc with ⟨r0, hv, e1⟩ | ⟨r0, n10, hv, h4, e1⟩
    · refine xL_s1 hC (hm 300 (by decide)).1 (hm 300 (by decide)).2 h.2.1.2.2 h12 ⟨by omega, by omega⟩ e1 (fun t ht sz1 hJ => ?_) (fun t ht => by cases ht) (fun t ht => by cases ht)
      obtain rfl := Sum.inl.inj ht
      obtain ⟨k1, k2, k3, k4, -⟩ := hJ
      refine jj_lt (fun hlt1 => ?_)
      have ho1 := I1.x hlt1
      have ha1 : sz < sz1 := hlt1 sz (by rw [k1]; decide)
      obtain ⟨S2, Ln2, M2, R2, e2, I2⟩ := G_s2 (ad := G.2.2.2.2) (k := k) (r := r) I1 (a := sz) (by rw [hv]; exact N1) ha1 ho1
      refine xL_s2 hC (hm 400 (by decide)).1 (hm 400 (by decide)).2 k3 k4 ⟨by omega, by omega⟩ k1 k2 e2 (fun t ht sz2 hJ => ?_)
      subst ht
      obtain ⟨k5, k6, k7, -⟩ := hJ
      refine xL_s3 hC (hm 500 (by decide)).1 (hm 500 (by decide)).2 k5 k6 ⟨by omega, by omega⟩ k7 k2 (G_s3a (ad := G.2.2.2.2) r0) (fun t ht sz3 hJ => ?_) (fun t ht => by cases ht)
      obtain rfl := Sum.inl.inj ht
      dsimp only
      rw [hw1]
      exact ih (k + 1) (b + 30) (kk + 300 + 100 + 100) sz3 S2 Ln2 M2 R2 π1 v1 n1 w1 I2 k6 (by omega) (by omega) (by omega) (by omega)
    · refine xL_s1 hC (hm 300 (by decide)).1 (hm 300 (by decide)).2 h.2.1.2.2 h12 ⟨by omega, by omega⟩ e1 (fun t ht => by cases ht) (fun t ht sz1 hJ => ?_) (fun t ht => by cases ht)
      obtain rfl := Sum.inl.inj (Sum.inr.inj ht)
      obtain ⟨k1, k2, k3, k4, -⟩ := hJ
      rcases G_s3b (ad := G.2.2.2.2) (sz := sz1) (k := k) I1 r0 k0 (by omega) n10 hv h4 N1 with e3 | ⟨M2, e3, I2, N2⟩
      · refine xL_s3 hC (hm 400 (by decide)).1 (hm 400 (by decide)).2 k3 k4 ⟨by omega, by omega⟩ k1 k2 e3 (fun t ht sz3 hJ => ?_) (fun t ht => by cases ht)
        obtain rfl := Sum.inl.inj ht
        dsimp only
        rw [hw1]
        exact ih (k + 1) (b + 30) (kk + 300 + 100) sz3 S1 Ln1 M1 R1 π1 v1 n1 w1 I1 k4 (by omega) (by omega) (by omega) (by omega)
      · refine xL_s3 hC (hm 400 (by decide)).1 (hm 400 (by decide)).2 k3 k4 ⟨by omega, by omega⟩ k1 k2 e3 (fun t ht => by cases ht) (fun t ht sz3 hJ => ?_)
        obtain rfl := Sum.inr.inj ht
        refine jj_lt (fun hlt3 => ?_)
        have ho3 := I2.x hlt3
        have ha3 : sz < sz3 := hlt3 sz (by rw [k1]; decide)
        obtain ⟨S4, Ln4, M4, R4, e4, I4⟩ := G_s4 (ad := G.2.2.2.2) (k := k) I2 N2 ha3 ho3
        refine xL_s4 hC (hm 500 (by decide)).1 (hm 500 (by decide)).2 k3 k4 ⟨by omega, by omega⟩ k1 e4 (fun t ht sz4 hJ => ?_)
        subst ht
        dsimp only
        rw [hw1]
        exact ih (k + 1) (b + 30) (kk + 300 + 100 + 100) sz4 S4 Ln4 M4 R4 π1 v (n1 - 1) w1 I4 hJ.2.2.1 (by omega) (by omega) (by omega) (by omega)
theorem law_body (hC : OKC G C RL cL_law 5 (some .boolean) 1400 600312 7291746 P noX) (hP : ∀ sz S Ln M R, P (some (.int (iI 1))) sz S Ln M R) {e o : Nat} {S Ln : Nat → Nat} {M : gM} {R : gR} (he : e < o) (h29 : S e = 29) (hCS : CST G.2.2.2.2 S Ln R M) (hA : AD G.2.2.2.2 o) :
    JJ G C 0 0 o S Ln M R 0 [(0, .ref e)] [] := by
  obtain ⟨S1, Ln1, M1, R1, π, v, n, w, e1, hI⟩ := G_s0 (ad := G.2.2.2.2) hCS hA he h29
  refine xL_s0 (kk := 0) hC (by decide) (by decide) h29 e1 (fun t ht sz1 hJ => ?_)
  subst ht
  exact law_loop hC hP 9 0 23 500 sz1 S1 Ln1 M1 R1 π v n w hI hJ.1 (by decide) (Int.le_refl _) (by decide) (by decide)
end LWL
