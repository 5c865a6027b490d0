/-! PURE: the law's case 45 -/
section PK5
variable {ad S Ln : Nat → Nat} {R : gR} {M M' : gM} {e o m a t : Nat} {π : Int → Nat} {v : gV} {b : Int}
/-- nothing has changed but what the invariant doesn't ask for -/
theorem inv_g (hO : LyO S Ln R o π) (hN : INV M o m π b) (h1 : ∀ j, 0 ≤ j → j < 113 → M' (m + 1) j = M (m + 1) j) (hR : RpS M' (o + 1) (M (m + 1))) (h4 : M' m 4 = M m 4) (h9 : M' m 9 = M m 9) (h6 : M' o 6 = M o 6) (hm4 : M' (m + 4) = M (m + 4)) (hm3 : M' (m + 3) = M (m + 3)) (hf : ∀ c, (o + 27 ≤ c ∧ c < o + 53) ∨ (o + 79 ≤ c ∧ c < o + 289) → M' c = M c) : INV M' o m π b := by
  obtain ⟨n1, ⟨n2, n2'⟩, n3, n4, n5, n6, n7⟩ := hN
  have hw : ∀ q, pW M' m q = pW M m q := fun q => by unfold pW; rw [hm4]
  refine ⟨hR.ve n2 h1, ⟨n2.ve h1, n2'.ve n2.2.2.2.1.1 h1⟩, by rw [hf (o + 79) (by omega), h4]; exact n3, by rw [h4]; exact n4, fun q q0 q1 => ?_, by rw [h6, h9]; exact n6, fun h => ?_⟩
  · rw [h4] at q1
    rw [hw]
    obtain ⟨l1, l2, l3, l4⟩ := hO.2.2.2.2.2.2.2.2.2.1 q q0 (by omega)
    obtain ⟨r1, r2, r3⟩ := n5 q q0 q1
    exact ⟨r1.fr (fun x x0 x1 => hf x (by omega)) r2.2.2.2.1.2, r2, r3⟩
  · rw [h9] at h
    obtain ⟨r1, r2, r3⟩ := n7 h
    rw [hm3]
    exact ⟨r1.fr (fun x x0 x1 => hf x (by omega)) r2.2.2.2.1.2, r2, r3⟩
/-- a program was done -/
theorem inv_r {π1 : Int → Nat} {R1 : gR} {M1 : gM} (hN : INV M o m π b) (hb : b + 15 ≤ 10000) (hO1 : LyO S Ln R1 o π1) (hR : RpS M1 (o + 1) (M' (m + 1))) (hI : IvS (b + 15) (M' (m + 1))) (hZ : IvZ (M' (m + 1))) (hH : RpH M1 (o + 79) π1 (kpN (M m 4)) (kpW (M m 4) (pW M m) (M (m + 1))))
    (hc : ∀ c, c < o + 289 → M' c = M1 c) (h4 : M' m 4 = kpN (M m 4)) (h3 : ∀ q, 0 ≤ q → q < kpN (M m 4) → ∀ j, 0 ≤ j → j < 113 → pW M' m q j = kpW (M m 4) (pW M m) (M (m + 1)) q j) (h9 : M' m 9 = M m 9) (h6 : M1 o 6 = M o 6) (hm3 : M' (m + 3) = M (m + 3)) (hf : ∀ c, o + 27 ≤ c ∧ c < o + 53 → M1 c = M c) : INV M' o m π1 (b + 15) := by
  obtain ⟨n1, ⟨n2, n2'⟩, n3, n4, n5, n6, n7⟩ := hN
  have hkb := kpN_b n4.1 n4.2
  refine ⟨hR.fr (fun x x0 x1 => hc x (by omega)) hI.2.2.2.1.2, ⟨hI, hZ⟩, by rw [hc _ (by omega), h4]; exact hH.1, by rw [h4]; exact hkb, fun q q0 q1 => ?_, by rw [hc o (by omega), h6, h9]; exact n6, fun h => ?_⟩
  · rw [h4] at q1
    have hk := kpW_4 (n := M m 4) (w := pW M m) (v := M (m + 1)) (fun q q0 q1 => (n5 q q0 q1).2) n2 n4.1 n4.2 n2' q q0 q1
    have hIk := hk.1.mono (show b ≤ b + 15 by omega) hb
    obtain ⟨l1, l2, l3, l4⟩ := hO1.2.2.2.2.2.2.2.2.2.1 q q0 (by omega)
    exact ⟨((hH.2 q q0 q1).fr (fun x x0 x1 => hc x (by omega)) hk.1.2.2.2.1.2).ve hIk (h3 q q0 q1), hIk.ve (h3 q q0 q1), hk.2.ve hk.1.2.2.2.1.1 (h3 q q0 q1)⟩
  · rw [h9] at h
    obtain ⟨r1, r2, r3⟩ := n7 h
    rw [hm3]
    exact ⟨r1.fr (fun x x0 x1 => by rw [hc x (by omega), hf x (by omega)]) r2.2.2.2.1.2, r2.mono (by omega) hb, r3⟩
def OKR (S Ln : Nat → Nat) (R : gR) (M : gM) (o m a t : Nat) (b : Int) (R1 : gR) (M1 : gM) : Prop := (∃ π1, LyO S Ln R1 o π1 ∧ INV M1 o m π1 (b + 15)) ∧ SCR M1 t m ∧ EI M1 o m ∧ (∀ q, q ≠ o + 80 → R1 q = R q) ∧ (∀ c, (c < o ∨ (t + 19 ≤ c ∧ c < m) ∨ m + 9 ≤ c ∨ c = m + 6) → c ≠ a → M1 c = M c) ∧ M1 m 12 = M m 12
theorem scr_0 {M1 : gM} (h1 : M1 t 1 = 0) (h2 : M1 m 15 = 0) : SCR M1 t m := ⟨by rw [h1, h2], by rw [h2]; decide, fun i i0 i1 => by omega⟩
theorem k_c45 (hY : HY S Ln R M e o m a π b) (hb15 : b + 15 ≤ 10000) (hT : LyT S Ln R o t) (ht : o + 289 ≤ t ∧ t + 19 ≤ m) (hS : SCR M t m) (hE : EI M o m) (hC : CST ad S Ln R M) (hA : AD ad o) {sz : Nat} {i0 : Int} :
    ∃ M' R', fL_c45 ad sz S Ln R M e o m a (a + 1) i0 = some (.inl (w32 (i0 + 5), S, Ln, M', R')) ∧ OKR S Ln R M o m a t b R' M' := by
  obtain ⟨hO, hM, hd, hla, he, hN, hb⟩ := hY
  obtain ⟨s1, s2, s3⟩ := hS
  obtain ⟨⟨E1, E2⟩, E3, E4⟩ := hE
  have hN9 := hN
  obtain ⟨n1, ⟨n2, n2'⟩, n3, n4, n5, n6, n7⟩ := hN
  obtain ⟨p1, p2, p3, p4⟩ := pgm_wf (T := M (m + 7)) s2.1
  have hH : HiO M o π (M m 4) (pW M m) b := ⟨⟨n3, fun q q0 q1 => (n5 q q0 q1).1⟩, n4, fun q q0 q1 => (n5 q q0 q1).2⟩
  obtain ⟨res, f1, fbad, fok⟩ := c_run (ad := ad) (T := M (m + 7)) (v := M (m + 1)) hO hT ht.1 s1 s2 (fun i i0 i1 => (s3 i i0 i1).1) hC hA n1 n2 n2' hb15 hH
  unfold fL_c45 fL_run
  rw [f1, bd_s]
  have mr : ∀ (R1 : gR) (M1 : gM), R1 m = R m → (∀ q, q < o → R1 q = R q) → (∀ q, q < o → M1 q = M q) → (∀ q, m ≤ q → q ≤ m + 8 → M1 q = M q) → _ := fun R1 M1 hr hr0 h0 hm => m_run (ad := ad) (o := o) (b := b) (n := M m 15) (T := M (m + 7)) (M := M1) (R := R1) (hM.fr hr) (by rw [hm m (by omega) (by omega)]) s2 (fun i _ _ => by rw [hm (m + 7) (by omega) (by omega)]) (hC.fr hA (fun q hq => ⟨rfl, rfl, h0 q hq, hr0 q hq⟩)) hA (by omega) (by rw [hm (m + 1) (by omega) (by omega)]; exact n2) (by rw [hm (m + 1) (by omega) (by omega)]; exact n2') hb15 (by rw [hm m (by omega) (by omega)]; exact n4)
  by_cases hok : (pgm (M (m + 7)) (M m 15) 15 0).1 = 1
  · obtain ⟨fs, ff⟩ := fok hok
    rcases rn_or _ (M (m + 1)) b p1 n2 n2' (by omega) with ⟨u0, hu0⟩ | ⟨j0, hj0⟩
    · obtain ⟨M1, R1, π1, rfl, g1, g2, g3, g4, g5, g6⟩ := fs u0 hu0
      rw [se_l]
      dsimp only
      rw [gd_t (by rw [hla.1]; decide), nam_d, bd_s]
      dsimp only
      have hM2 : ∀ q, m ≤ q → q ≤ m + 8 → wr M1 a 0 ((pgm (M (m + 7)) (M m 15) 15 0).2.2.length : Int) q = M q := fun q q0 q1 => by rw [wr_a (by omega), g6 q (by omega)]
      have hm2 := hM2 m (by omega) (by omega)
      have hm21 := hM2 (m + 1) (by omega) (by omega)
      have hm24 : ∀ q, pW (wr M1 a 0 ((pgm (M (m + 7)) (M m 15) 15 0).2.2.length : Int)) m q = pW M m q := fun q => by unfold pW; rw [hM2 (m + 4) (by omega) (by omega)]
      obtain ⟨-, mo⟩ := mr R1 (wr M1 a 0 ((pgm (M (m + 7)) (M m 15) 15 0).2.2.length : Int)) (g4 m (by omega)) (fun q hq => g4 q (by omega)) (fun q hq => by rw [wr_a (by omega), g6 q (by omega)]) hM2
      rw [hm2, hm21] at mo
      rcases mo hok with ⟨M3, q1, q2, ⟨q3, q3'⟩, q4, q5, q6, q7, q8, q9⟩ | ⟨j, M3, q1, q2, -⟩
      · obtain ⟨M1', R1', π1', x0, x1, x2, x3, x4, x5, x6⟩ := fs (M3 (m + 1)) q2
        have y0 := Sum.inl.inj x0
        have yM : M1 = M1' := congrArg (fun z => z.2.1) y0
        have yR : R1 = R1' := congrArg (fun z => z.2.2) y0
        subst yM yR
        have hc3 : ∀ c, c < m → M3 c = M1 c := fun c hc => by rw [q8 c (by omega) (by omega) (by omega) (by omega) (by omega) (by omega), wr_a (by omega)]
        have ho : M1 o = M o := x6 o (by omega)
        have hk9 : ∀ k, k ≠ 4 → k ≠ 5 → k ≠ 8 → k ≠ 15 → k ≠ 16 → k ≠ 17 → M3 m k = M m k := q9
        rw [q1, bd_s]
        dsimp only
        rw [show fX10_thrown ad S Ln R1 M3 m = some (M3 m 5) from rfl, bd_s, q4, if_pos rfl, if_neg (by decide), gd_t (by rw [hla.1]; decide)]
        have ha0 : M3 a 0 = ((pgm (M (m + 7)) (M m 15) 15 0).2.2.length : Int) := by rw [q8 a (by omega) (by omega) (by omega) (by omega) (by omega) (by omega), wr_s]
        simp only [ha0, i_lcmp_0]
        refine ⟨M3, R1, if_pos trivial, ⟨π1', x1, inv_r hN9 hb15 x1 x2 q3 q3' x3 (fun c hc => hc3 c (by omega)) q5 (fun q q0 q1' j j0 j1 => ?_) (hk9 9 (by decide) (by decide) (by decide) (by decide) (by decide) (by decide)) (by rw [ho]) (by rw [q8 _ (by omega) (by omega) (by omega) (by omega) (by omega) (by omega)]; exact hM2 _ (by omega) (by omega)) (fun c hc => x6 c (by omega))⟩, scr_0 (by rw [hc3 t (by omega)]; exact x5) q7, ⟨⟨?_, ?_⟩, ?_, ?_⟩, x4, fun c hc ca => ?_, hk9 12 (by decide) (by decide) (by decide) (by decide) (by decide) (by decide)⟩
        · rw [q6 q q0 q1' j j0 j1]
          unfold kpW
          simp only [hm24]
        · rw [hc3 o (by omega), ho, hk9 6 (by decide) (by decide) (by decide) (by decide) (by decide) (by decide)]; exact E1
        · rw [hk9 6 (by decide) (by decide) (by decide) (by decide) (by decide) (by decide)]; exact E2
        · rw [hc3 o (by omega), ho, hk9 7 (by decide) (by decide) (by decide) (by decide) (by decide) (by decide)]; exact E3
        · rw [hk9 7 (by decide) (by decide) (by decide) (by decide) (by decide) (by decide)]; exact E4
        · rw [q8 c (by omega) (by omega) (by omega) (by omega) (by omega) (by omega), wr_a ca, x6 c (by omega)]
      · obtain ⟨M1', x0, -⟩ := ff j q2
        cases x0
    · obtain ⟨M1, rfl, g1, g2, g3, g4⟩ := ff j0 hj0
      rw [se_r]
      dsimp only
      rw [if_neg (by decide), if_pos rfl, bd_s]
      dsimp only
      have hM2 : ∀ q, m ≤ q → q ≤ m + 8 → M1 q = M q := fun q q0 q1 => g4 q (by omega)
      have hm2 := hM2 m (by omega) (by omega)
      have hm21 := hM2 (m + 1) (by omega) (by omega)
      obtain ⟨-, mo⟩ := mr R M1 rfl (fun _ _ => rfl) (fun q hq => g4 q (by omega)) hM2
      rw [hm2, hm21] at mo
      rcases mo hok with ⟨M3, q1, q2, -⟩ | ⟨j, M3, q1, q2, q3, q4, q5, q6, q7, q8⟩
      · obtain ⟨M1', R1', π1', x0, -⟩ := fs _ q2
        cases x0
      · obtain ⟨M1', x0, x1, x2, x3, x4⟩ := ff j q2
        have yM : M1 = M1' := congrArg (fun z => z.2.1) (Sum.inr.inj x0)
        subst yM
        have hc3 : ∀ c, c < m → M3 c = M1 c := fun c hc => q7 c (by omega) (by omega) (by omega) (by omega) (by omega)
        have hk8 : ∀ k, k ≠ 5 → k ≠ 7 → k ≠ 8 → k ≠ 15 → k ≠ 16 → k ≠ 17 → M3 m k = M m k := q8
        rw [q1, bd_s]
        dsimp only
        rw [show fX10_thrown ad S Ln R M3 m = some (M3 m 5) from rfl, bd_s, q3, if_pos rfl, if_pos (by decide)]
        have hN3 : INV M3 o m π b := inv_g hO hN9 q5 (x1.fr (fun q q0 q1 => hc3 q (by omega)) n2.2.2.2.1.2) (hk8 4 (by decide) (by decide) (by decide) (by decide) (by decide) (by decide)) (hk8 9 (by decide) (by decide) (by decide) (by decide) (by decide) (by decide)) (by rw [hc3 o (by omega), x3, us_n (by decide)]) (by rw [q7 _ (by omega) (by omega) (by omega) (by omega) (by omega)]; exact hM2 _ (by omega) (by omega)) (by rw [q7 _ (by omega) (by omega) (by omega) (by omega) (by omega)]; exact hM2 _ (by omega) (by omega)) (fun c hc => by rw [hc3 c (by omega), x4 c (by omega)])
        refine ⟨M3, R, rfl, ⟨π, hO, hN3.mono (by omega) hb15⟩, scr_0 (by rw [hc3 t (by omega)]; exact x2) q6, ⟨⟨?_, ?_⟩, ?_, ?_⟩, fun _ _ => rfl, fun c hc ca => ?_, hk8 12 (by decide) (by decide) (by decide) (by decide) (by decide) (by decide)⟩
        · rw [hc3 o (by omega), x3, us_n (by decide), hk8 6 (by decide) (by decide) (by decide) (by decide) (by decide) (by decide)]; exact E1
        · rw [hk8 6 (by decide) (by decide) (by decide) (by decide) (by decide) (by decide)]; exact E2
        · rw [hc3 o (by omega), x3, us_s, q4]
        · rw [q4]; omega
        · rw [q7 c (by omega) (by omega) (by omega) (by omega) (by omega), x4 c (by omega)]
  · obtain ⟨M1, rfl, g2, g3, g4⟩ := fbad hok
    rw [se_r]
    dsimp only
    rw [if_pos rfl, bd_s]
    dsimp only
    have hM2 : ∀ q, m ≤ q → q ≤ m + 8 → M1 q = M q := fun q q0 q1 => g4 q (by omega) (by omega)
    have hm2 := hM2 m (by omega) (by omega)
    obtain ⟨mo, -⟩ := mr R M1 rfl (fun _ _ => rfl) (fun q hq => g4 q (by omega) (by omega)) hM2
    rw [hm2] at mo
    obtain ⟨M3, q1, q2, q3, q4, q5, q6⟩ := mo hok
    have hc3 : ∀ c, c < m → M3 c = M1 c := fun c hc => q5 c (by omega) (by omega)
    have hcM : ∀ c, c ≠ o → c ≠ m → c ≠ m + 8 → (c < t ∨ t + 19 ≤ c) → M3 c = M c := fun c c0 c1 c2 hc => by rw [q5 c c1 c2, g4 c c0 hc]
    have hk6 : ∀ k, k ≠ 5 → k ≠ 6 → k ≠ 15 → k ≠ 16 → k ≠ 17 → M3 m k = M m k := q6
    rw [q1, bd_s]
    dsimp only
    rw [show fX10_thrown ad S Ln R M3 m = some (M3 m 5) from rfl, bd_s, q2, if_pos rfl, if_pos (by decide)]
    have hv : M3 (m + 1) = M (m + 1) := hcM _ (by omega) (by omega) (by omega) (by omega)
    have hN3 : INV M3 o m π b := inv_g hO hN9 (fun j _ _ => by rw [hv]) (n1.fr (fun q q0 q1 => hcM q (by omega) (by omega) (by omega) (by omega)) n2.2.2.2.1.2) (hk6 4 (by decide) (by decide) (by decide) (by decide) (by decide)) (hk6 9 (by decide) (by decide) (by decide) (by decide) (by decide)) (by rw [hc3 o (by omega), g3, us_n (by decide)]) (hcM _ (by omega) (by omega) (by omega) (by omega)) (hcM _ (by omega) (by omega) (by omega) (by omega)) (fun c hc => hcM c (by omega) (by omega) (by omega) (by omega))
    refine ⟨M3, R, rfl, ⟨π, hO, hN3.mono (by omega) hb15⟩, scr_0 (by rw [hc3 t (by omega)]; exact g2) q4, ⟨⟨?_, ?_⟩, ?_, ?_⟩, fun _ _ => rfl, fun c hc ca => hcM c (by omega) (by omega) (by omega) (by omega), hk6 12 (by decide) (by decide) (by decide) (by decide) (by decide)⟩
    · rw [hc3 o (by omega), g3, us_s, q3]
    · rw [q3]; omega
    · rw [hc3 o (by omega), g3, us_n (by decide), hk6 7 (by decide) (by decide) (by decide) (by decide) (by decide)]; exact E3
    · rw [hk6 7 (by decide) (by decide) (by decide) (by decide) (by decide)]; exact E4
end PK5
