/-! PURE: the law's cases that act -/
theorem i_lcmp_0 {x : Int} : i_lcmp x x = 0 := by
  unfold i_lcmp
  rw [if_neg (by omega), if_pos rfl]
/-- the law's answer to an act -/
def LO (S Ln : Nat → Nat) (R : gR) (M : gM) (o a : Nat) (v : gV) (n : Int) (w : Int → gV) (P : gV → Prop) (t rv : Int) (fl : Option (Int × gM × gR)) : Prop := (t = 0 → ∃ M1 R1, fl = some (0, wr M1 a 0 rv, R1) ∧ OA S Ln R M o v n w P R1 M1) ∧ (t ≠ 0 → fl = some (t, M, R))
/-- the model's answer to an act -/
def MA (M : gM) (m : Nat) (t rv : Int) (P : gV → Prop) (e : Option (Int × gM)) : Prop := ∃ M3, e = some (if t = 0 then rv else 0, M3) ∧ M3 m 5 = t ∧ (∀ k, k ≠ 4 → k ≠ 5 → M3 m k = M m k) ∧
      (t = 0 → P (M3 (m + 1)) ∧ M3 m 4 = kpN (M m 4) ∧ ∀ q, 0 ≤ q → q < kpN (M m 4) → ∀ j, 0 ≤ j → j < 113 → pW M3 m q j = kpW (M m 4) (pW M m) (M (m + 1)) q j) ∧ (t ≠ 0 → M3 (m + 1) = M (m + 1) ∧ M3 m 4 = M m 4 ∧ M3 (m + 4) = M (m + 4)) ∧ ∀ c, (c < m ∨ m + 6 ≤ c ∨ c = m + 3) → M3 c = M c
def HY (S Ln : Nat → Nat) (R : gR) (M : gM) (e o m a : Nat) (π : Int → Nat) (b : Int) : Prop := LyO S Ln R o π ∧ LyM S Ln R m ∧ (o + 289 ≤ m ∧ m + 9 ≤ a) ∧ (Ln a = 1 ∧ Ln (a + 1) = 1) ∧ e < o ∧ INV M o m π b ∧ b + 1 ≤ 10000
def OKS (S Ln : Nat → Nat) (R : gR) (M : gM) (o m a : Nat) (b : Int) (R1 : gR) (M1 : gM) : Prop := (∃ π1, LyO S Ln R1 o π1 ∧ INV M1 o m π1 (b + 1)) ∧ (∀ q, q ≠ o + 80 → R1 q = R q) ∧ (∀ c, (c < o + 1 ∨ (o + 289 ≤ c ∧ c < m) ∨ m + 6 ≤ c) → c ≠ a → c ≠ a + 1 → M1 c = M c) ∧ ∀ k, k ≠ 4 → k ≠ 5 → M1 m k = M m k
section PLC
variable {ad S Ln : Nat → Nat} {R : gR} {M : gM} {e o m a : Nat} {π : Int → Nat} {b : Int}
theorem P_addPoint {v : gV} (hI : IvS b v) (hZ : IvZ v) (hb : b + 1 ≤ 10000) (x y : Int) (ht : tPt v x y = 0) : ∀ v1 : gV, (fun v1 => v1 = ptR v x y) v1 → (fun v1 => v1 = ptR v x y) v1 ∧ IvS (b + 1) v1 ∧ IvZ v1 := by
  have h8 : v 0 < 8 ∧ (0 ≤ x ∧ x ≤ 60) ∧ 0 ≤ y ∧ y ≤ 60 := by
    have := hI.1.1
    unfold tPt at ht
    split at ht
    · split at ht
      · exact absurd ht (by decide)
      · rename_i h1 h2
        exact ⟨by omega, h1⟩
    · exact absurd ht (by decide)
  have i8 := hI.1.1
  intro v1 h
  subst h
  exact ⟨rfl, (hI.pt h8.1 h8.2.1 h8.2.2).mono (by omega) hb, hZ.mp (ptR_n (by decide) (by omega) (by omega)) (fun p k p0 k0 k1 => ptR_n (by omega) (by omega) (by omega)) hI.2.2.2.1.1⟩
theorem P_addTaskPoint {v : gV} (hI : IvS b v) (hZ : IvZ v) (hb : b + 1 ≤ 10000) (i : Int) (ht : tSt v i = 0) : ∀ v1 : gV, (fun v1 => v1 = stR v i) v1 → (fun v1 => v1 = stR v i) v1 ∧ IvS (b + 1) v1 ∧ IvZ v1 := by
  have h8 : (0 ≤ i ∧ i < v 0) ∧ (bI (pln v) = 1 ∧ v 1 ≠ 6) ∧ ¬ (0 < v 1 ∧ apt v (v (22 + v 1)) i = 0) := by
    unfold tSt at ht
    split at ht
    · split at ht
      · split at ht
        · exact absurd ht (by decide)
        · rename_i h1 h2 h3
          exact ⟨h1, h2, h3⟩
      · exact absurd ht (by decide)
    · exact absurd ht (by decide)
  have i6 := hI.1.2.1
  intro v1 h
  subst h
  exact ⟨rfl, (hI.st (bI_1.mp h8.2.1.1) (by have := h8.2.1.2; omega) h8.1 h8.2.2).mono (by omega) hb, hZ.mp (stR_n (by decide) (by omega)) (fun p k p0 k0 k1 => stR_n (by omega) (by omega)) hI.2.2.2.1.1⟩
theorem P_clearTask {v : gV} (hI : IvS b v) (hZ : IvZ v) (hb : b + 1 ≤ 10000) (ht : tDr v = 0) : ∀ v1 : gV, (fun v1 => v1 1 = 0 ∧ ∀ k, k ≠ 1 → ¬ (23 ≤ k ∧ k < 29) → v1 k = v k) v1 → (fun v1 => v1 1 = 0 ∧ ∀ k, k ≠ 1 → ¬ (23 ≤ k ∧ k < 29) → v1 k = v k) v1 ∧ IvS (b + 1) v1 ∧ IvZ v1 := by
  have hp : pln v := by
    have := bI_r (pln v)
    unfold tDr at ht
    exact bI_1.mp (by omega)
  intro v1 h
  exact ⟨h, (hI.dr hp h.1 h.2).mono (by omega) hb, hZ.mp (h.2 4 (by decide) (by decide)) (fun p k p0 k0 k1 => h.2 _ (by omega) (by omega)) hI.2.2.2.1.1⟩
theorem P_addThermal {v : gV} (hI : IvS b v) (hZ : IvZ v) (hb : b + 1 ≤ 10000) (x y s : Int) (ht : tTh v x y s = 0) : ∀ v1 : gV, (fun v1 => v1 = thR v x y s) v1 → (fun v1 => v1 = thR v x y s) v1 ∧ IvS (b + 1) v1 ∧ IvZ v1 := by
  have h8 : v 2 < 6 ∧ ((0 ≤ x ∧ x ≤ 60) ∧ 0 ≤ y ∧ y ≤ 60) ∧ 1 ≤ s ∧ s ≤ 5 := by
    have := hI.2.1.1
    unfold tTh at ht
    split at ht
    · split at ht
      · exact absurd ht (by decide)
      · rename_i h1 h2
        exact ⟨by omega, h1⟩
    · exact absurd ht (by decide)
  have i8 := hI.2.1.1
  intro v1 h
  subst h
  exact ⟨rfl, (hI.th h8.1 h8.2.1.1 h8.2.1.2 h8.2.2).mono (by omega) hb, hZ.mp (thR_n (by decide) (by omega) (by omega) (by omega)) (fun p k p0 k0 k1 => thR_n (by omega) (by omega) (by omega) (by omega)) hI.2.2.2.1.1⟩
theorem P_setCloudBase {v : gV} (hI : IvS b v) (hZ : IvZ v) (hb : b + 1 ≤ 10000) (z : Int) (ht : tBa z = 0) : ∀ v1 : gV, (fun v1 => v1 = us v 5 z) v1 → (fun v1 => v1 = us v 5 z) v1 ∧ IvS (b + 1) v1 ∧ IvZ v1 := by
  have h8 : 500 ≤ z ∧ z ≤ 3000 := by
    unfold tBa at ht
    split at ht
    · assumption
    · exact absurd ht (by decide)
  intro v1 h
  subst h
  exact ⟨rfl, (hI.ba h8).mono (by omega) hb, hZ.mp (us_n (by decide)) (fun p k p0 k0 k1 => us_n (by omega)) hI.2.2.2.1.1⟩
theorem P_addArea {v : gV} (hI : IvS b v) (hZ : IvZ v) (hb : b + 1 ≤ 10000) (x y X Y : Int) (ht : tAr v x y X Y = 0) : ∀ v1 : gV, (fun v1 => v1 = arR v x y X Y) v1 → (fun v1 => v1 = arR v x y X Y) v1 ∧ IvS (b + 1) v1 ∧ IvZ v1 := by
  have h8 : v 3 < 3 ∧ ((0 ≤ x ∧ x ≤ 60) ∧ 0 ≤ y ∧ y ≤ 60) ∧ (x ≤ X ∧ X ≤ 60) ∧ y ≤ Y ∧ Y ≤ 60 := by
    have := hI.2.2.1.1
    unfold tAr at ht
    split at ht
    · split at ht
      · exact absurd ht (by decide)
      · rename_i h1 h2
        exact ⟨by omega, h1⟩
    · exact absurd ht (by decide)
  have i8 := hI.2.2.1.1
  intro v1 h
  subst h
  exact ⟨rfl, (hI.ar h8.1 ⟨h8.2.1.1.1, h8.2.2.1⟩ ⟨h8.2.1.2.1, h8.2.2.2⟩).mono (by omega) hb, hZ.mp (arR_n (by decide) (by omega) (by omega) (by omega) (by omega)) (fun p k p0 k0 k1 => arR_n (by omega) (by omega) (by omega) (by omega) (by omega)) hI.2.2.2.1.1⟩
theorem P_addPilot {v : gV} (hI : IvS b v) (hZ : IvZ v) (hb : b + 1 ≤ 10000) (r : Int) (ht : tPl v r = 0) : ∀ v1 : gV, (fun v1 => v1 = plR v r) v1 → (fun v1 => v1 = plR v r) v1 ∧ IvS (b + 1) v1 ∧ IvZ v1 := by
  have h8 : (20 ≤ r ∧ r ≤ 60) ∧ v 4 < 6 := by
    have := hI.2.2.2.1
    unfold tPl at ht
    split at ht
    · split at ht
      · exact absurd ht (by decide)
      · rename_i h1 h2
        exact ⟨h1, by omega⟩
    · exact absurd ht (by decide)
  intro v1 h
  subst h
  exact ⟨rfl, (IvS.pl hI hZ h8.2 h8.1).mono (by omega) hb, hZ.pl hI.2.2.2.1.1⟩
theorem P_launch {v : gV} (hI : IvS b v) (hZ : IvZ v) (hb : b + 1 ≤ 10000) (p : Int) (ht : tLaunch v p = 0) : ∀ v1 : gV, (fun v1 => v1 = sU v p (toU (gl v p) (v (7 + 2 * v 23)) (v (8 + 2 * v 23)))) v1 → (fun v1 => v1 = sU v p (toU (gl v p) (v (7 + 2 * v 23)) (v (8 + 2 * v 23)))) v1 ∧ IvS (b + 1) v1 ∧ IvZ v1 := by
  have h8 : 0 ≤ p ∧ p < v 4 := by
    unfold tLaunch at ht
    split at ht
    · assumption
    · exact absurd ht (by decide)
  intro v1 h
  subst h
  exact ⟨rfl, (hI.launch ht).mono (by omega) hb, hZ.sU h8.1 h8.2⟩
theorem P_fly {v : gV} (hI : IvS b v) (hZ : IvZ v) (hb : b + 1 ≤ 10000) (p d k : Int) (ht : tFly v p d k = 0) : ∀ v1 : gV, (fun v1 => v1 = sU v p (kmN v (gl v p) d k.toNat)) v1 → (fun v1 => v1 = sU v p (kmN v (gl v p) d k.toNat)) v1 ∧ IvS (b + 1) v1 ∧ IvZ v1 := by
  have h8 := (tFly_0 ht).1
  intro v1 h
  subst h
  exact ⟨rfl, hI.fly hb ht, hZ.sU h8.1 h8.2⟩
theorem P_climb {v : gV} (hI : IvS b v) (hZ : IvZ v) (hb : b + 1 ≤ 10000) (p k : Int) (ht : tClimb v p k = 0) : ∀ v1 : gV, (fun v1 => v1 = sU v p (rsH (gl v p) (str v (gl v p 2) (gl v p 3) (v 2).toNat) k (v 5))) v1 → (fun v1 => v1 = sU v p (rsH (gl v p) (str v (gl v p 2) (gl v p 3) (v 2).toNat) k (v 5))) v1 ∧ IvS (b + 1) v1 ∧ IvZ v1 := by
  have h8 := (tClimb_0 ht).1
  intro v1 h
  subst h
  exact ⟨rfl, hI.climb hb ht, hZ.sU h8.1 h8.2⟩
theorem P_endDay {v : gV} (hI : IvS b v) (hZ : IvZ v) (hb : b + 1 ≤ 10000) (ht : tEnd v = 0) : ∀ v1 : gV, (fun v1 => mE v v1 ∧ v1 4 = v 4 ∧ v1 6 = v 6 + 1 ∧ ∀ p k : Int, 0 ≤ p → 0 ≤ k → k < 9 → gl v1 p k = if p < v 4 then clU v p k else gl v p k) v1 → (fun v1 => mE v v1 ∧ v1 4 = v 4 ∧ v1 6 = v 6 + 1 ∧ ∀ p k : Int, 0 ≤ p → p < v 4 → 0 ≤ k → k < 9 → gl v1 p k = clU v p k) v1 ∧ IvS (b + 1) v1 ∧ IvZ v1 := by
  intro v1 h
  have hg : ∀ p k : Int, 0 ≤ p → p < v 4 → 0 ≤ k → k < 9 → gl v1 p k = clU v p k := fun p k p0 p1 k0 k1 => by rw [h.2.2.2 p k p0 k0 k1, if_pos p1]
  refine ⟨⟨h.1, h.2.1, h.2.2.1, hg⟩, hI.close hb h.1 h.2.1 h.2.2.1 hg, fun p k p0 p1 k0 k1 => ?_⟩
  have h4 := hI.2.2.2.1
  rw [h.2.1] at p0
  rw [h.2.2.2 p k (by omega) k0 k1, if_neg (by omega)]
  exact hZ p k p0 p1 k0 k1
end PLC
