/-! PURE: what holds between two calls -/
def pW (M : gM) (m : Nat) (q : Int) : gV := fun j => M (m + 4) (113 * q + j)
def INV (M : gM) (o m : Nat) (π : Int → Nat) (b : Int) : Prop := RpS M (o + 1) (M (m + 1)) ∧ (IvS b (M (m + 1)) ∧ IvZ (M (m + 1))) ∧ M (o + 79) 1 = M m 4 ∧ (0 ≤ M m 4 ∧ M m 4 ≤ 8) ∧ (∀ q, 0 ≤ q → q < M m 4 → RpS M (π q) (pW M m q) ∧ IvS b (pW M m q) ∧ IvZ (pW M m q)) ∧ M o 6 = M m 9 ∧ (M m 9 ≠ 0 → RpS M (o + 27) (M (m + 3)) ∧ IvS b (M (m + 3)) ∧ IvZ (M (m + 3)))
section VEQ
variable {v w : gV} {b : Int}
theorem vE_m (e : ∀ k, 0 ≤ k → k < 113 → w k = v k) : mE v w := fun k k0 k1 _ _ => e k k0 (by omega)
theorem IvS.ve (hI : IvS b v) (e : ∀ k, 0 ≤ k → k < 113 → w k = v k) : IvS b w := by
  have e4 := e 4 (by decide) (by decide)
  have hp := hI.2.2.2.1
  refine ⟨IvC_c (vE_m e) hI.1, IvA_c (vE_m e) hI.2.1, IvB_c (vE_m e) hI.2.2.1, by rw [e4]; exact hp, by rw [e 6 (by decide) (by decide)]; exact hI.2.2.2.2.1, hI.2.2.2.2.2.1, fun p p0 p1 => ?_⟩
  rw [e4] at p1
  exact (hI.2.2.2.2.2.2 p p0 p1).c (vE_m e) hI.1 (fun k k0 k1 => e _ (by omega) (by omega))
theorem IvZ.ve (hZ : IvZ v) (h4 : 0 ≤ v 4) (e : ∀ k, 0 ≤ k → k < 113 → w k = v k) : IvZ w := fun p k p0 p1 k0 k1 => by
  rw [e 4 (by decide) (by decide)] at p0
  rw [show gl w p k = gl v p k from e _ (by omega) (by omega)]
  exact hZ p k p0 p1 k0 k1
theorem RpS.ve {M : gM} {a : Nat} (h : RpS M a v) (hI : IvS b v) (e : ∀ k, 0 ≤ k → k < 113 → w k = v k) : RpS M a w :=
  h.x hI (vE_m e) (e 4 (by decide) (by decide)) (e 6 (by decide) (by decide)) (fun p k p0 p1 k0 k1 => e _ (by omega) (by have := hI.2.2.2.1; omega))
theorem IvZ.mp (hZ : IvZ v) (h4 : w 4 = v 4) (eg : ∀ p k : Int, 0 ≤ p → 0 ≤ k → k < 9 → gl w p k = gl v p k) (h0 : 0 ≤ v 4) : IvZ w := fun p k p0 p1 k0 k1 => by
  rw [h4] at p0
  rw [eg p k (by omega) k0 k1]
  exact hZ p k p0 p1 k0 k1
theorem IvZ.sU {u : gV} {p : Int} (hZ : IvZ v) (p0 : 0 ≤ p) (p1 : p < v 4) : IvZ (sU v p u) := fun q k q0 q1 k0 k1 => by
  rw [sU_lo p0 (by decide)] at q0
  rw [sU_n (by omega) k0 k1]
  exact hZ q k q0 q1 k0 k1
theorem IvZ.pl {r : Int} (hZ : IvZ v) (h0 : 0 ≤ v 4) : IvZ (plR v r) := fun q k q0 q1 k0 k1 => by
  rw [plR_4] at q0
  rw [plR_g h0 (by omega) k0 k1, if_neg (fun h => by omega)]
  exact hZ q k (by omega) q1 k0 k1
theorem IvP.to {u : gV} (hI : IvS b v) (hu : IvP b v u) (h2 : 2 ≤ v 1) : IvP b v (toU u (v (7 + 2 * v 23)) (v (8 + 2 * v 23))) := by
  have hC := hI.1
  have hb := hI.2.2.2.2.2.1
  have hc0 := hC.2.2.2.1 0 (by omega) (by omega)
  rw [show (23 : Int) + 0 = 23 by rfl] at hc0
  have hpt := hC.2.2.1 (v 23) hc0.1 hc0.2
  obtain ⟨f0, f1, f2, f4, f5, f6, f7, f8, q1, q2, q3, q4⟩ := hu
  refine ⟨f0, by show (0 : Int) ≤ 1 ∧ (1 : Int) ≤ 3; decide, hpt, by show (0 : Int) ≤ 1000 ∧ (1000 : Int) ≤ 3000; decide, by show (0 : Int) ≤ 0 ∧ (0 : Int) ≤ 60 * b; omega, by show (0 : Int) ≤ 0 ∧ (0 : Int) ≤ 600 * b; omega, by show (0 : Int) ≤ 1 ∧ (1 : Int) ≤ 6; decide, f8, fun _ => ⟨h2, by show (1 : Int) ≤ 1; decide⟩, fun _ => by show (1 : Int) < v 1; omega, fun _ => ⟨by show (0 : Int) < 1000; decide, ?_⟩, fun h => absurd (show (1 : Int) = 3 from h) (by decide)⟩
  show 0 < dst v (v (23 + 1)) (v (7 + 2 * v 23)) (v (8 + 2 * v 23))
  have hl := leg_120 hC (k := 0) (by omega) (by omega)
  have : dst v (v (23 + 1)) (v (7 + 2 * v 23)) (v (8 + 2 * v 23)) = leg v 0 := by
    show apt v (v 24) (v 23) = apt v (v 23) (v 24)
    exact apt_c
  omega
theorem IvS.launch (hI : IvS b v) {p : Int} (ht : tLaunch v p = 0) : IvS b (sU v p (toU (gl v p) (v (7 + 2 * v 23)) (v (8 + 2 * v 23)))) := by
  unfold tLaunch at ht
  split at ht
  · split at ht
    · split at ht
      · rename_i h1 h2 h3
        exact hI.set h1.1 (Int.le_refl _) hI.2.2.2.2.2.1.2 (IvP.to hI (hI.2.2.2.2.2.2 p h1.1 h1.2) h3)
      · exact absurd ht (by decide)
    · exact absurd ht (by decide)
  · exact absurd ht (by decide)
theorem IvS.fly (hI : IvS b v) (hb : b + 1 ≤ 10000) {p d k : Int} (ht : tFly v p d k = 0) : IvS (b + 1) (sU v p (kmN v (gl v p) d k.toNat)) := by
  obtain ⟨g1, g2, g3, g4, g5⟩ := tFly_0 ht
  have hk : ((k.toNat : Nat) : Int) = k := by omega
  have hu := hI.2.2.2.2.2.2 p g1.1 g1.2
  obtain ⟨a1, a2, a3, a4, a5, a6, a7⟩ := kmN_b (n := k.toNat) hI.1 hu.f (by omega) (by rw [hk]; exact g4) (by rw [hk]; exact g5) k.toNat (Nat.le_refl _)
  have h5 := hu.2.2.2.2.1
  have h6 := hu.2.2.2.2.2.1
  have h8 := hu.2.2.2.2.2.2.2.1
  exact hI.set g1.1 (by omega) hb (IvP.of a1 (by omega) (by omega) (by rw [a5]; omega))
theorem IvS.climb (hI : IvS b v) (hb : b + 1 ≤ 10000) {p k : Int} (ht : tClimb v p k = 0) : IvS (b + 1) (sU v p (rsH (gl v p) (str v (gl v p 2) (gl v p 3) (v 2).toNat) k (v 5))) := by
  obtain ⟨g1, g2, g3⟩ := tClimb_0 ht
  have hA := hI.2.1
  have hst := str_b hA (x := gl v p 2) (y := gl v p 3) (v 2).toNat (by have := hA.1; omega)
  have hu := hI.2.2.2.2.2.2 p g1.1 g1.2
  obtain ⟨f0, f1, f2, f4, f5, f6, f7, f8, q1, q2, q3, q4⟩ := hu
  generalize hq : str v (gl v p 2) (gl v p 3) (v 2).toNat = s at hst
  have hm0 : 0 ≤ 60 * s * k := Int.mul_nonneg (by omega) (by omega)
  have h4 : rsH (gl v p) s k (v 5) 4 = if gl v p 4 < v 5 then (if v 5 < gl v p 4 + 60 * s * k then v 5 else gl v p 4 + 60 * s * k) else gl v p 4 := rfl
  have hb4 : gl v p 4 ≤ rsH (gl v p) s k (v 5) 4 ∧ rsH (gl v p) s k (v 5) 4 ≤ 3000 := by
    have := hA.2.1
    rw [h4]
    split
    · split <;> omega
    · omega
  have g9 := q3 g3
  exact hI.set g1.1 (by omega) hb ⟨f0, f1, f2, by omega, by show 0 ≤ gl v p 5 + k ∧ gl v p 5 + k ≤ 60 * (b + 1); omega, by show 0 ≤ gl v p 6 ∧ gl v p 6 ≤ 600 * (b + 1); omega, f7, by show 0 ≤ gl v p 8 ∧ gl v p 8 ≤ 1500 * (b + 1); omega, q1, q2, fun _ => ⟨by omega, g9.2⟩, fun h => by
    have h' : gl v p 1 = 3 := h
    omega⟩
end VEQ
section PAM
variable {ad S Ln : Nat → Nat} {R : gR} {M : gM} {o m : Nat} {π : Int → Nat} {b : Int}
theorem LyM.fr {R1 : gR} (h : LyM S Ln R m) (e : R1 m = R m) : LyM S Ln R1 m := by
  unfold LyM
  rw [e]
  exact h
/-- an act that is done -/
theorem act_ok {P P' : gV → Prop} {R1 : gR} {M1 M3 : gM} {a : Nat} {z : Int} (hd : o + 289 ≤ m ∧ m + 9 ≤ a) (hN : INV M o m π b) (hb : b + 1 ≤ 10000) (hA : OA S Ln R M o (M (m + 1)) (M m 4) (pW M m) P R1 M1)
    (h1 : P' (M3 (m + 1))) (h2 : M3 m 4 = kpN (M m 4)) (h3 : ∀ q, 0 ≤ q → q < kpN (M m 4) → ∀ j, 0 ≤ j → j < 113 → pW M3 m q j = kpW (M m 4) (pW M m) (M (m + 1)) q j) (h4 : ∀ k, k ≠ 4 → k ≠ 5 → M3 m k = M m k) (h5 : ∀ c, (c < m ∨ m + 6 ≤ c ∨ c = m + 3) → M3 c = wr M1 a 0 z c) (hP : ∀ v1, P' v1 → P v1 ∧ IvS (b + 1) v1 ∧ IvZ v1) :
    ∃ π1, LyO S Ln R1 o π1 ∧ INV M3 o m π1 (b + 1) ∧ ∀ c, (c < o + 1 ∨ (o + 289 ≤ c ∧ c < m) ∨ m + 6 ≤ c) → c ≠ a → M3 c = M c := by
  obtain ⟨π1, p1, p2, p3, p4, p5⟩ := hA
  obtain ⟨n1, n2, n3, n4, n5, n6, n7⟩ := hN
  have hfr : ∀ c, c < o + 289 → M3 c = M1 c := fun c hc => by rw [h5 c (by omega), wr_a (by omega)]
  have hkb := kpN_b n4.1 n4.2
  obtain ⟨q1, q2, q3⟩ := hP _ h1
  have hm3 : M3 (m + 3) = M (m + 3) := by rw [h5 (m + 3) (by omega), wr_a (by omega), p5 (m + 3) (by omega)]
  refine ⟨π1, p1, ⟨(p2 _ q1).fr (fun x x0 x1 => hfr x (by omega)) q2.2.2.2.1.2, ⟨q2, q3⟩, by rw [hfr _ (by omega), p3.1, h2], by rw [h2]; exact hkb, fun q q0 q1' => ?_, ?_, fun h => ?_⟩, fun c hc ha => by rw [h5 c (by omega), wr_a ha, p5 c (by omega)]⟩
  · rw [h2] at q1'
    have hk := kpW_4 (n := M m 4) (w := pW M m) (v := M (m + 1)) (fun q q0 q1 => (n5 q q0 q1).2) n2.1 n4.1 n4.2 n2.2 q q0 q1'
    have hIk := hk.1.mono (show b ≤ b + 1 by omega) hb
    obtain ⟨l1, l2, l3, l4⟩ := p1.2.2.2.2.2.2.2.2.2.1 q q0 (by omega)
    exact ⟨((p3.2 q q0 q1').fr (fun x x0 x1 => hfr x (by omega)) hk.1.2.2.2.1.2).ve hIk (h3 q q0 q1'), hIk.ve (h3 q q0 q1'), hk.2.ve hk.1.2.2.2.1.1 (h3 q q0 q1')⟩
  · rw [hfr o (by omega), p5 o (by omega), h4 9 (by decide) (by decide)]; exact n6
  · rw [h4 9 (by decide) (by decide)] at h
    obtain ⟨r1, r2, r3⟩ := n7 h
    rw [hm3]
    exact ⟨r1.fr (fun x x0 x1 => by rw [hfr x (by omega), p5 x (by omega)]) r2.2.2.2.1.2, r2.mono (by omega) hb, r3⟩
/-- the model throws: nothing has changed -/
theorem same_ok {M3 : gM} (hO : LyO S Ln R o π) (hd : o + 289 ≤ m) (hN : INV M o m π b) (h1 : M3 (m + 1) = M (m + 1)) (h2 : M3 m 4 = M m 4) (h3 : M3 (m + 4) = M (m + 4)) (h4 : M3 m 9 = M m 9) (h5 : ∀ c, (c < o + 289 ∨ c = m + 3) → M3 c = M c) : INV M3 o m π b := by
  obtain ⟨n1, n2, n3, n4, n5, n6, n7⟩ := hN
  have hw : ∀ q, pW M3 m q = pW M m q := fun q => by unfold pW; rw [h3]
  refine ⟨by rw [h1]; exact n1.fr (fun x x0 x1 => h5 x (by omega)) n2.1.2.2.2.1.2, by rw [h1]; exact n2, by rw [h5 _ (by omega), h2]; exact n3, by rw [h2]; exact n4, fun q q0 q1 => ?_, by rw [h5 o (by omega), h4]; exact n6, fun h => ?_⟩
  · rw [h2] at q1
    rw [hw]
    obtain ⟨l1, l2, l3, l4⟩ := hO.2.2.2.2.2.2.2.2.2.1 q q0 (by omega)
    obtain ⟨r1, r2, r3⟩ := n5 q q0 q1
    exact ⟨r1.fr (fun x x0 x1 => h5 x (by omega)) r2.2.2.2.1.2, r2, r3⟩
  · rw [h4] at h
    obtain ⟨r1, r2, r3⟩ := n7 h
    rw [h5 (m + 3) (by omega)]
    exact ⟨r1.fr (fun x x0 x1 => h5 x (by omega)) r2.2.2.2.1.2, r2, r3⟩
theorem INV.mono {b' : Int} (hN : INV M o m π b) (h : b ≤ b') (h' : b' ≤ 10000) : INV M o m π b' := by
  obtain ⟨n1, n2, n3, n4, n5, n6, n7⟩ := hN
  exact ⟨n1, ⟨n2.1.mono h h', n2.2⟩, n3, n4, fun q q0 q1 => ⟨(n5 q q0 q1).1, (n5 q q0 q1).2.1.mono h h', (n5 q q0 q1).2.2⟩, n6, fun hh => ⟨(n7 hh).1, (n7 hh).2.1.mono h h', (n7 hh).2.2⟩⟩
end PAM
