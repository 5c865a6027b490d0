/-! PURE: the contest's acts -/
def LyO (S Ln : Nat → Nat) (R : gR) (o : Nat) (π : Int → Nat) : Prop := S o = 12 ∧ (R o 0 = some (o + 1) ∧ R o 1 = some (o + 27) ∧ R o 2 = some (o + 53) ∧ R o 3 = some (o + 79)) ∧ LyS S Ln R (o + 1) ∧ LyS S Ln R (o + 27) ∧ LyS S Ln R (o + 53) ∧ LyH S Ln R (o + 79) π
def HiO (M : gM) (o : Nat) (π : Int → Nat) (n : Int) (w : Int → gV) (b : Int) : Prop := RpH M (o + 79) π n w ∧ (0 ≤ n ∧ n ≤ 8) ∧ ∀ q, 0 ≤ q → q < n → IvS b (w q) ∧ IvZ (w q)
/-- after an act: one more row is kept, the row is one of P -/
def OA (S Ln : Nat → Nat) (R : gR) (M : gM) (o : Nat) (v : gV) (n : Int) (w : Int → gV) (P : gV → Prop) (R1 : gR) (M1 : gM) : Prop := ∃ π1, LyO S Ln R1 o π1 ∧ (∀ v1, P v1 → RpS M1 (o + 1) v1) ∧ RpH M1 (o + 79) π1 (kpN n) (kpW n w v) ∧ (∀ q, q ≠ o + 80 → R1 q = R q) ∧ ∀ q, (q < o + 1 ∨ (o + 27 ≤ q ∧ q < o + 79) ∨ o + 289 ≤ q) → M1 q = M q
section PAC
variable {ad S Ln : Nat → Nat} {R : gR} {M : gM} {o : Nat} {π : Int → Nat} {v : gV} {b n : Int} {w : Int → gV}
theorem o_0 {α : Type} {f : Nat → Option α} (hO : LyO S Ln R o π) : rf S (R o 0) 11 f = f (o + 1) := rf_o hO.2.1.1 hO.2.2.1.1
theorem o_1 {α : Type} {f : Nat → Option α} (hO : LyO S Ln R o π) : rf S (R o 1) 11 f = f (o + 27) := rf_o hO.2.1.2.1 hO.2.2.2.1.1
theorem o_2 {α : Type} {f : Nat → Option α} (hO : LyO S Ln R o π) : rf S (R o 2) 11 f = f (o + 53) := rf_o hO.2.1.2.2.1 hO.2.2.2.2.1.1
theorem o_3 {α : Type} {f : Nat → Option α} (hO : LyO S Ln R o π) : rf S (R o 3) 9 f = f (o + 79) := rf_o hO.2.1.2.2.2 hO.2.2.2.2.2.1
theorem LyO.fr {R1 : gR} {π1 : Int → Nat} (hO : LyO S Ln R o π) (hH : LyH S Ln R1 (o + 79) π1) (hr : ∀ q, q ≠ o + 79 + 1 → R1 q = R q) : LyO S Ln R1 o π1 :=
  ⟨hO.1, by rw [hr o (by omega)]; exact hO.2.1, hO.2.2.1.fr fun q q0 q1 => hr q (by omega), hO.2.2.2.1.fr fun q q0 q1 => hr q (by omega), hO.2.2.2.2.1.fr fun q q0 q1 => hr q (by omega), hH⟩
theorem kpW_4 (hw : ∀ q, 0 ≤ q → q < n → IvS b (w q) ∧ IvZ (w q)) (hI : IvS b v) (n0 : 0 ≤ n) (n8 : n ≤ 8) (hZ : IvZ v) : ∀ q, 0 ≤ q → q < kpN n → IvS b (kpW n w v q) ∧ IvZ (kpW n w v q) := by
  intro q q0 q1
  unfold kpN at q1
  unfold kpW
  by_cases h8 : n < 8
  · rw [if_pos h8] at q1
    rw [if_pos h8]
    by_cases e : q = n
    · show IvS b (if q = n then v else w q) ∧ IvZ (if q = n then v else w q)
      rw [if_pos e]; exact ⟨hI, hZ⟩
    · show IvS b (if q = n then v else w q) ∧ IvZ (if q = n then v else w q)
      rw [if_neg e]; exact hw q q0 (by omega)
  · rw [if_neg h8] at q1
    rw [if_neg h8]
    by_cases e : q = 7
    · show IvS b (if q = 7 then v else w (q + 1)) ∧ IvZ (if q = 7 then v else w (q + 1))
      rw [if_pos e]; exact ⟨hI, hZ⟩
    · show IvS b (if q = 7 then v else w (q + 1)) ∧ IvZ (if q = 7 then v else w (q + 1))
      rw [if_neg e]; exact hw (q + 1) (by omega) (by omega)
theorem kpN_b (n0 : 0 ≤ n) (n8 : n ≤ 8) : 0 ≤ kpN n ∧ kpN n ≤ 8 := by unfold kpN; split <;> omega
/-- a row kept, then an act on the state -/
theorem O_do {f : gR → gM → Option (Int × gM)} {rv : Int} {P : gV → Prop} (hO : LyO S Ln R o π) (hR : RpS M (o + 1) v) (hI : IvS b v) (hZ : IvZ v) (hH : HiO M o π n w b)
    (hf : ∀ R0 M0, LyS S Ln R0 (o + 1) → RpS M0 (o + 1) v → ∃ M1, f R0 M0 = some (rv, M1) ∧ (∀ v1, P v1 → RpS M1 (o + 1) v1) ∧ ∀ q, q < o + 1 ∨ o + 27 ≤ q → M1 q = M0 q) :
    ∃ M0 R1 M1, fX4_keep ad S Ln R M (o + 79) (o + 1) = some (M0, R1) ∧ R1 o 0 = some (o + 1) ∧ LyS S Ln R1 (o + 1) ∧ f R1 M0 = some (rv, M1) ∧ OA S Ln R M o v n w P R1 M1 := by
  obtain ⟨M0, R1, π1, k1, k2, k3, k4, k5⟩ := h_keep (ad := ad) hO.2.2.2.2.2 hO.2.2.1 (by omega) hR hI hH.1 (fun q q0 q1 => (hH.2.2 q q0 q1).1.2.2.2.1.2) hH.2.1.1 hH.2.1.2
  have hO1 := hO.fr k2 k4
  obtain ⟨M1, f1, f2, f3⟩ := hf R1 M0 hO1.2.2.1 (hR.fr (fun q q0 q1 => k5 q (by omega)) hI.2.2.2.1.2)
  refine ⟨M0, R1, M1, k1, hO1.2.1.1, hO1.2.2.1, f1, π1, hO1, f2, ⟨by rw [f3 _ (by omega)]; exact k3.1, fun q q0 q1 => ?_⟩, k4, fun q hq => by rw [f3 q (by omega), k5 q (by omega)]⟩
  obtain ⟨l1, l2, l3, l4⟩ := k2.2.2.2.2.1 q q0 (by have := kpN_b hH.2.1.1 hH.2.1.2; omega)
  exact (k3.2 q q0 q1).fr (fun x x0 x1 => f3 x (by omega)) (kpW_4 hH.2.2 hI hH.2.1.1 hH.2.1.2 hZ q q0 q1).1.2.2.2.1.2
def exA (t : Int) : String := if t = 1 then "java/lang/IllegalArgumentException" else "java/lang/IllegalStateException"
def exB (t : Int) : String := if t = 1 then "java/lang/IndexOutOfBoundsException" else if t = 2 then "java/lang/IllegalStateException" else "java/lang/UnsupportedOperationException"
def exC (t : Int) : String := if t = 1 then "java/lang/IndexOutOfBoundsException" else if t = 2 then "java/lang/IllegalArgumentException" else if t = 3 then "java/lang/IllegalStateException" else "java/lang/UnsupportedOperationException"
theorem rfs_0 : fX9_refuse ad S Ln R M 4 = some (.inl ()) := rfl
theorem rfs_A {t : Int} (h : t = 1 ∨ t = 2) : fX9_refuse ad S Ln R M (rcA t) = some (.inr (exA t)) := by rcases h with h | h <;> subst h <;> rfl
theorem rfs_B {t : Int} (h : t = 1 ∨ t = 2 ∨ t = 3) : fX9_refuse ad S Ln R M (rcB t) = some (.inr (exB t)) := by rcases h with h | h | h <;> subst h <;> rfl
theorem rfs_C {t : Int} (h : t = 1 ∨ t = 2 ∨ t = 3 ∨ t = 4) : fX9_refuse ad S Ln R M (rcC t) = some (.inr (exC t)) := by rcases h with h | h | h | h <;> subst h <;> rfl
theorem rfs_D {t : Int} (h : t = 1) : fX9_refuse ad S Ln R M (rcD t) = some (.inr "java/lang/IllegalStateException") := by subst h; rfl
theorem tPt_r {x y : Int} : tPt v x y = 0 ∨ tPt v x y = 1 ∨ tPt v x y = 2 := by unfold tPt; split; split; exact Or.inr (Or.inr rfl); exact Or.inl rfl; exact Or.inr (Or.inl rfl)
theorem tTh_r {x y s : Int} : tTh v x y s = 0 ∨ tTh v x y s = 1 ∨ tTh v x y s = 2 := by unfold tTh; split; split; exact Or.inr (Or.inr rfl); exact Or.inl rfl; exact Or.inr (Or.inl rfl)
theorem tAr_r {x y X Y : Int} : tAr v x y X Y = 0 ∨ tAr v x y X Y = 1 ∨ tAr v x y X Y = 2 := by unfold tAr; split; split; exact Or.inr (Or.inr rfl); exact Or.inl rfl; exact Or.inr (Or.inl rfl)
theorem tPl_r {r : Int} : tPl v r = 0 ∨ tPl v r = 1 ∨ tPl v r = 2 := by unfold tPl; split; split; exact Or.inr (Or.inr rfl); exact Or.inl rfl; exact Or.inr (Or.inl rfl)
theorem tSt_r {i : Int} : tSt v i = 0 ∨ tSt v i = 1 ∨ tSt v i = 2 ∨ tSt v i = 3 := by unfold tSt; split; split; split; exact Or.inr (Or.inr (Or.inr rfl)); exact Or.inl rfl; exact Or.inr (Or.inr (Or.inl rfl)); exact Or.inr (Or.inl rfl)
theorem tLaunch_r {p : Int} : tLaunch v p = 0 ∨ tLaunch v p = 1 ∨ tLaunch v p = 2 ∨ tLaunch v p = 3 := by unfold tLaunch; split; split; split; exact Or.inl rfl; exact Or.inr (Or.inr (Or.inr rfl)); exact Or.inr (Or.inr (Or.inl rfl)); exact Or.inr (Or.inl rfl)
theorem tFly_r {p d k : Int} : tFly v p d k = 0 ∨ tFly v p d k = 1 ∨ tFly v p d k = 2 ∨ tFly v p d k = 3 ∨ tFly v p d k = 4 := by unfold tFly; split; split; split; split; exact Or.inl rfl; exact Or.inr (Or.inr (Or.inr (Or.inr rfl))); exact Or.inr (Or.inr (Or.inr (Or.inl rfl))); exact Or.inr (Or.inr (Or.inl rfl)); exact Or.inr (Or.inl rfl)
theorem tClimb_r {p k : Int} : tClimb v p k = 0 ∨ tClimb v p k = 1 ∨ tClimb v p k = 2 ∨ tClimb v p k = 3 ∨ tClimb v p k = 4 := by unfold tClimb; split; split; split; split; exact Or.inr (Or.inr (Or.inr (Or.inr rfl))); exact Or.inl rfl; exact Or.inr (Or.inr (Or.inr (Or.inl rfl))); exact Or.inr (Or.inr (Or.inl rfl)); exact Or.inr (Or.inl rfl)
theorem tEnd_r : tEnd v = 0 ∨ tEnd v = 1 := by have := bI_r (pln v ∨ 0 < inP v 1 (v 4).toNat); unfold tEnd; omega
theorem tDr_r : tDr v = 0 ∨ tDr v = 1 := by have := bI_r (pln v); unfold tDr; omega
theorem tBa_r {z : Int} : tBa z = 0 ∨ tBa z = 1 := by unfold tBa; split; exact Or.inl rfl; exact Or.inr rfl
theorem O_addPoint (hO : LyO S Ln R o π) (hR : RpS M (o + 1) v) (hI : IvS b v) (hZ : IvZ v) (hH : HiO M o π n w b) (x y : Int) :
    (tPt v x y = 0 → ∃ M1 R1, fX9_addPoint ad S Ln R M o x y = some (.inl (v 0, M1, R1)) ∧ OA S Ln R M o v n w (fun v1 => v1 = ptR v x y) R1 M1) ∧ (tPt v x y ≠ 0 → fX9_addPoint ad S Ln R M o x y = some (.inr (exA (tPt v x y), M, R))) := by
  unfold fX9_addPoint
  rw [o_0 hO, s_rPoint hO.2.2.1 hR hI, bd_s]
  refine ⟨fun ht => ?_, fun ht => ?_⟩
  · have h8 : v 0 < 8 := by
      have := hI.1.1
      unfold tPt at ht
      split at ht
      · split at ht
        · exact absurd ht (by decide)
        · omega
      · exact absurd ht (by decide)
    obtain ⟨M0, R1, M1, k1, k2, k3, k4, k5⟩ := O_do (ad := ad) (f := fun R0 M0 => fX2_putPoint ad S Ln R0 M0 (o + 1 + 1) x y) (rv := v 0) (P := fun v1 => v1 = ptR v x y) hO hR hI hZ hH (fun R0 M0 h1 h2 => by
      obtain ⟨M1, f1, f2, f3⟩ := s_putPoint (ad := ad) h1 h2 hI h8 x y
      exact ⟨M1, f1, fun v1 h => h ▸ f2, fun q hq => f3 q (by omega)⟩)
    rw [ht, show rcA 0 = 4 from rfl, rfs_0, bd_s, se_l, o_3 hO, o_0 hO, k1, bd_s]
    dsimp only
    rw [rf_o k2 hO.2.2.1.1, s_c k3]
    exact ⟨M1, R1, by rw [show fX2_putPoint ad S Ln R1 M0 (o + 1 + 1) x y = some (v 0, M1) from k4]; rfl, k5⟩
  · rw [rfs_A (tPt_r.resolve_left ht), bd_s, se_r]
theorem O_addTaskPoint (hO : LyO S Ln R o π) (hR : RpS M (o + 1) v) (hI : IvS b v) (hZ : IvZ v) (hH : HiO M o π n w b) (i : Int) :
    (tSt v i = 0 → ∃ M1 R1, fX9_addTaskPoint ad S Ln R M o i = some (.inl (v 1 + 1, M1, R1)) ∧ OA S Ln R M o v n w (fun v1 => v1 = stR v i) R1 M1) ∧ (tSt v i ≠ 0 → fX9_addTaskPoint ad S Ln R M o i = some (.inr (exB (tSt v i), M, R))) := by
  unfold fX9_addTaskPoint
  rw [o_0 hO, s_rStop hO.2.2.1 hR hI, bd_s]
  refine ⟨fun ht => ?_, fun ht => ?_⟩
  · have h8 : (0 ≤ i ∧ i < v 0) ∧ v 1 < 6 := by
      have := hI.1.2.1
      unfold tSt at ht
      split at ht
      · split at ht
        · rename_i h1 h2
          exact ⟨h1, by omega⟩
        · exact absurd ht (by decide)
      · exact absurd ht (by decide)
    obtain ⟨M0, R1, M1, k1, k2, k3, k4, k5⟩ := O_do (ad := ad) (f := fun R0 M0 => fX2_putStop ad S Ln R0 M0 (o + 1 + 1) i) (rv := v 1 + 1) (P := fun v1 => v1 = stR v i) hO hR hI hZ hH (fun R0 M0 h1 h2 => by
      obtain ⟨M1, f1, f2, f3⟩ := s_putStop (ad := ad) h1 h2 hI h8.2 h8.1
      exact ⟨M1, f1, fun v1 h => h ▸ f2, fun q hq => f3 q (by omega)⟩)
    rw [ht, show rcB 0 = 4 from rfl, rfs_0, bd_s, se_l, o_3 hO, o_0 hO, k1, bd_s]
    dsimp only
    rw [rf_o k2 hO.2.2.1.1, s_c k3]
    exact ⟨M1, R1, by rw [show fX2_putStop ad S Ln R1 M0 (o + 1 + 1) i = some (v 1 + 1, M1) from k4]; rfl, k5⟩
  · rw [rfs_B (tSt_r.resolve_left ht), bd_s, se_r]
theorem O_clearTask (hO : LyO S Ln R o π) (hR : RpS M (o + 1) v) (hI : IvS b v) (hZ : IvZ v) (hH : HiO M o π n w b) :
    (tDr v = 0 → ∃ M1 R1, fX9_clearTask ad S Ln R M o = some (.inl (v 1, M1, R1)) ∧ OA S Ln R M o v n w (fun v1 => v1 1 = 0 ∧ ∀ k, k ≠ 1 → ¬ (23 ≤ k ∧ k < 29) → v1 k = v k) R1 M1) ∧ (tDr v ≠ 0 → fX9_clearTask ad S Ln R M o = some (.inr ("java/lang/IllegalStateException", M, R))) := by
  unfold fX9_clearTask
  rw [o_0 hO, s_allWaiting hO.2.2.1 hR hI, bd_s]
  refine ⟨fun ht => ?_, fun ht => ?_⟩
  · have h1 : bI (pln v) = 1 := by unfold tDr at ht; omega
    obtain ⟨M0, R1, M1, k1, k2, k3, k4, k5⟩ := O_do (ad := ad) (f := fun R0 M0 => fX2_dropStops ad S Ln R0 M0 (o + 1 + 1)) (rv := v 1) (P := fun v1 => v1 1 = 0 ∧ ∀ k, k ≠ 1 → ¬ (23 ≤ k ∧ k < 29) → v1 k = v k) hO hR hI hZ hH (fun R0 M0 h1 h2 => by
      obtain ⟨M1, f1, f2, f3⟩ := s_dropStops (ad := ad) h1 h2 hI
      exact ⟨M1, f1, fun v1 h => f3 v1 h.1 h.2, fun q hq => f2 q (by omega)⟩)
    rw [h1, if_pos (by decide), o_3 hO, o_0 hO, k1, bd_s]
    dsimp only
    rw [rf_o k2 hO.2.2.1.1, s_c k3]
    exact ⟨M1, R1, by rw [show fX2_dropStops ad S Ln R1 M0 (o + 1 + 1) = some (v 1, M1) from k4]; rfl, k5⟩
  · have h1 : bI (pln v) = 0 := by have := bI_r (pln v); unfold tDr at ht; omega
    rw [h1, if_neg (by decide)]
theorem O_addThermal (hO : LyO S Ln R o π) (hR : RpS M (o + 1) v) (hI : IvS b v) (hZ : IvZ v) (hH : HiO M o π n w b) (x y s : Int) :
    (tTh v x y s = 0 → ∃ M1 R1, fX9_addThermal ad S Ln R M o x y s = some (.inl (v 2 + 1, M1, R1)) ∧ OA S Ln R M o v n w (fun v1 => v1 = thR v x y s) R1 M1) ∧ (tTh v x y s ≠ 0 → fX9_addThermal ad S Ln R M o x y s = some (.inr (exA (tTh v x y s), M, R))) := by
  unfold fX9_addThermal
  rw [o_0 hO, s_rThermal hO.2.2.1 hR hI, bd_s]
  refine ⟨fun ht => ?_, fun ht => ?_⟩
  · have h8 : v 2 < 6 := by
      have := hI.2.1.1
      unfold tTh at ht
      split at ht
      · split at ht
        · exact absurd ht (by decide)
        · omega
      · exact absurd ht (by decide)
    obtain ⟨M0, R1, M1, k1, k2, k3, k4, k5⟩ := O_do (ad := ad) (f := fun R0 M0 => fX0_putThermal ad S Ln R0 M0 (o + 1 + 6) x y s) (rv := v 2 + 1) (P := fun v1 => v1 = thR v x y s) hO hR hI hZ hH (fun R0 M0 h1 h2 => by
      obtain ⟨M1, f1, f2, f3⟩ := s_putThermal (ad := ad) h1 h2 hI h8 x y s
      exact ⟨M1, f1, fun v1 h => h ▸ f2, fun q hq => f3 q (by omega)⟩)
    rw [ht, show rcA 0 = 4 from rfl, rfs_0, bd_s, se_l, o_3 hO, o_0 hO, k1, bd_s]
    dsimp only
    rw [rf_o k2 hO.2.2.1.1, s_a k3]
    exact ⟨M1, R1, by rw [show fX0_putThermal ad S Ln R1 M0 (o + 1 + 6) x y s = some (v 2 + 1, M1) from k4]; rfl, k5⟩
  · rw [rfs_A (tTh_r.resolve_left ht), bd_s, se_r]
theorem O_setCloudBase (hO : LyO S Ln R o π) (hR : RpS M (o + 1) v) (hI : IvS b v) (hZ : IvZ v) (hH : HiO M o π n w b) (z : Int) :
    (tBa z = 0 → ∃ M1 R1, fX9_setCloudBase ad S Ln R M o z = some (.inl (v 5, M1, R1)) ∧ OA S Ln R M o v n w (fun v1 => v1 = us v 5 z) R1 M1) ∧ (tBa z ≠ 0 → fX9_setCloudBase ad S Ln R M o z = some (.inr ("java/lang/IllegalArgumentException", M, R))) := by
  unfold fX9_setCloudBase fX9_setCloudBase_B14
  refine ⟨fun ht => ?_, fun ht => ?_⟩
  · have h8 : 500 ≤ z ∧ z ≤ 3000 := by
      unfold tBa at ht
      split at ht
      · assumption
      · exact absurd ht (by decide)
    obtain ⟨M0, R1, M1, k1, k2, k3, k4, k5⟩ := O_do (ad := ad) (f := fun R0 M0 => some (M0 (o + 1 + 6) 4, wr M0 (o + 1 + 6) 4 z)) (rv := v 5) (P := fun v1 => v1 = us v 5 z) hO hR hI hZ hH (fun R0 M0 h1 h2 => by
      refine ⟨wr M0 (o + 1 + 6) 4 z, by rw [h2.2.1.2.1], fun v1 h => h ▸ s_base h2 hI z, fun q hq => wr_a (by omega)⟩)
    rw [if_neg (by omega), if_pos (by omega), o_3 hO, o_0 hO, k1, bd_s]
    dsimp only
    rw [rf_o k2 hO.2.2.1.1, s_a k3, rf_o k2 hO.2.2.1.1, s_a k3, nam_d]
    have e := Option.some.inj (show some (M0 (o + 1 + 6) 4, wr M0 (o + 1 + 6) 4 z) = some (v 5, M1) from k4)
    have e1 : M0 (o + 1 + 6) 4 = v 5 := congrArg Prod.fst e
    have e2 : wr M0 (o + 1 + 6) 4 z = M1 := congrArg Prod.snd e
    exact ⟨M1, R1, by rw [e1, e2], k5⟩
  · unfold tBa at ht
    split at ht
    · exact absurd rfl ht
    · rename_i h
      by_cases h1 : z < 500
      · rw [if_pos h1]
      · rw [if_neg h1, if_neg (by omega)]
theorem O_addArea (hO : LyO S Ln R o π) (hR : RpS M (o + 1) v) (hI : IvS b v) (hZ : IvZ v) (hH : HiO M o π n w b) (x y X Y : Int) :
    (tAr v x y X Y = 0 → ∃ M1 R1, fX9_addArea ad S Ln R M o x y X Y = some (.inl (v 3 + 1, M1, R1)) ∧ OA S Ln R M o v n w (fun v1 => v1 = arR v x y X Y) R1 M1) ∧ (tAr v x y X Y ≠ 0 → fX9_addArea ad S Ln R M o x y X Y = some (.inr (exA (tAr v x y X Y), M, R))) := by
  unfold fX9_addArea
  rw [o_0 hO, s_rArea hO.2.2.1 hR hI, bd_s]
  refine ⟨fun ht => ?_, fun ht => ?_⟩
  · have h8 : v 3 < 3 := by
      have := hI.2.2.1.1
      unfold tAr at ht
      split at ht
      · split at ht
        · exact absurd ht (by decide)
        · omega
      · exact absurd ht (by decide)
    obtain ⟨M0, R1, M1, k1, k2, k3, k4, k5⟩ := O_do (ad := ad) (f := fun R0 M0 => fX1_putArea ad S Ln R0 M0 (o + 1 + 10) x y X Y) (rv := v 3 + 1) (P := fun v1 => v1 = arR v x y X Y) hO hR hI hZ hH (fun R0 M0 h1 h2 => by
      obtain ⟨M1, f1, f2, f3⟩ := s_putArea (ad := ad) h1 h2 hI h8 x y X Y
      exact ⟨M1, f1, fun v1 h => h ▸ f2, fun q hq => f3 q (by omega)⟩)
    rw [ht, show rcA 0 = 4 from rfl, rfs_0, bd_s, se_l, o_3 hO, o_0 hO, k1, bd_s]
    dsimp only
    rw [rf_o k2 hO.2.2.1.1, s_b k3]
    exact ⟨M1, R1, by rw [show fX1_putArea ad S Ln R1 M0 (o + 1 + 10) x y X Y = some (v 3 + 1, M1) from k4]; rfl, k5⟩
  · rw [rfs_A (tAr_r.resolve_left ht), bd_s, se_r]
theorem O_addPilot (hO : LyO S Ln R o π) (hR : RpS M (o + 1) v) (hI : IvS b v) (hZ : IvZ v) (hH : HiO M o π n w b) (r : Int) :
    (tPl v r = 0 → ∃ M1 R1, fX9_addPilot ad S Ln R M o r = some (.inl (v 4, M1, R1)) ∧ OA S Ln R M o v n w (fun v1 => v1 = plR v r) R1 M1) ∧ (tPl v r ≠ 0 → fX9_addPilot ad S Ln R M o r = some (.inr (exA (tPl v r), M, R))) := by
  unfold fX9_addPilot
  rw [o_0 hO, s_rPilot hR hI, bd_s]
  refine ⟨fun ht => ?_, fun ht => ?_⟩
  · have h8 : (20 ≤ r ∧ r ≤ 60) ∧ v 4 < 6 := by
      have := hI.2.2.2.1
      unfold tPl at ht
      split at ht
      · split at ht
        · exact absurd ht (by decide)
        · rename_i h1 h2
          exact ⟨h1, by omega⟩
      · exact absurd ht (by decide)
    obtain ⟨M0, R1, M1, k1, k2, k3, k4, k5⟩ := O_do (ad := ad) (f := fun R0 M0 => fX8_putPilot ad S Ln R0 M0 (o + 1) r) (rv := v 4) (P := fun v1 => v1 = plR v r) hO hR hI hZ hH (fun R0 M0 h1 h2 => by
      obtain ⟨M1, f1, f2, f3⟩ := s_putPilot (ad := ad) h1 h2 hI hZ h8.2 h8.1
      exact ⟨M1, f1, fun v1 h => h ▸ f2, fun q hq => f3 q (by omega)⟩)
    rw [ht, show rcA 0 = 4 from rfl, rfs_0, bd_s, se_l, o_3 hO, o_0 hO, k1, bd_s]
    dsimp only
    rw [rf_o k2 hO.2.2.1.1]
    exact ⟨M1, R1, by rw [show fX8_putPilot ad S Ln R1 M0 (o + 1) r = some (v 4, M1) from k4]; rfl, k5⟩
  · rw [rfs_A (tPl_r.resolve_left ht), bd_s, se_r]
theorem O_launch (hO : LyO S Ln R o π) (hR : RpS M (o + 1) v) (hI : IvS b v) (hZ : IvZ v) (hH : HiO M o π n w b) (p : Int) :
    (tLaunch v p = 0 → ∃ M1 R1, fX9_launch ad S Ln R M o p = some (.inl (inP (sU v p (toU (gl v p) (v (7 + 2 * v 23)) (v (8 + 2 * v 23)))) 1 (v 4).toNat, M1, R1)) ∧ OA S Ln R M o v n w (fun v1 => v1 = sU v p (toU (gl v p) (v (7 + 2 * v 23)) (v (8 + 2 * v 23)))) R1 M1) ∧ (tLaunch v p ≠ 0 → fX9_launch ad S Ln R M o p = some (.inr (exB (tLaunch v p), M, R))) := by
  unfold fX9_launch
  rw [o_0 hO, s_rLaunch hO.2.2.1 hR hI, bd_s]
  refine ⟨fun ht => ?_, fun ht => ?_⟩
  · have h8 : (0 ≤ p ∧ p < v 4) ∧ 2 ≤ v 1 := by
      unfold tLaunch at ht
      split at ht
      · split at ht
        · split at ht
          · rename_i h1 h2 h3
            exact ⟨h1, h3⟩
          · exact absurd ht (by decide)
        · exact absurd ht (by decide)
      · exact absurd ht (by decide)
    obtain ⟨M0, R1, M1, k1, k2, k3, k4, k5⟩ := O_do (ad := ad) (f := fun R0 M0 => fX8_start ad S Ln R0 M0 (o + 1) p) (rv := inP (sU v p (toU (gl v p) (v (7 + 2 * v 23)) (v (8 + 2 * v 23)))) 1 (v 4).toNat) (P := fun v1 => v1 = sU v p (toU (gl v p) (v (7 + 2 * v 23)) (v (8 + 2 * v 23)))) hO hR hI hZ hH (fun R0 M0 h1 h2 => by
      have h4 := hI.2.2.2.1
      obtain ⟨M1, f1, f2, f3⟩ := f_start (ad := ad) h1 h2 hI h8.1.1 h8.1.2 h8.2
      exact ⟨M1, f1, fun v1 h => h ▸ h2.set hI h8.1.1 h8.1.2 f2 (by show (0 : Int) ≤ 1; decide) f3, fun q hq => f3 q (by omega)⟩)
    rw [ht, show rcB 0 = 4 from rfl, rfs_0, bd_s, se_l, o_3 hO, o_0 hO, k1, bd_s]
    dsimp only
    rw [rf_o k2 hO.2.2.1.1]
    exact ⟨M1, R1, by rw [show fX8_start ad S Ln R1 M0 (o + 1) p = some (_, M1) from k4]; rfl, k5⟩
  · rw [rfs_B (tLaunch_r.resolve_left ht), bd_s, se_r]
theorem tFly_0 {p d k : Int} (ht : tFly v p d k = 0) : (0 ≤ p ∧ p < v 4) ∧ ((0 ≤ d ∧ d ≤ 3) ∧ 1 ≤ k ∧ k ≤ 60) ∧ gl v p 1 = 1 ∧ (0 ≤ gl v p 2 + k * stX d ∧ gl v p 2 + k * stX d ≤ 60) ∧ 0 ≤ gl v p 3 + k * stY d ∧ gl v p 3 + k * stY d ≤ 60 := by
  unfold tFly at ht
  split at ht
  · split at ht
    · split at ht
      · split at ht
        · rename_i h1 h2 h3 h4
          exact ⟨h1, h2, h3, h4⟩
        · exact absurd ht (by decide)
      · exact absurd ht (by decide)
    · exact absurd ht (by decide)
  · exact absurd ht (by decide)
theorem tClimb_0 {p k : Int} (ht : tClimb v p k = 0) : (0 ≤ p ∧ p < v 4) ∧ (1 ≤ k ∧ k ≤ 30) ∧ gl v p 1 = 1 := by
  unfold tClimb at ht
  split at ht
  · split at ht
    · split at ht
      · rename_i h1 h2 h3
        exact ⟨h1, h2, h3⟩
      · exact absurd ht (by decide)
    · exact absurd ht (by decide)
  · exact absurd ht (by decide)
theorem O_fly (hO : LyO S Ln R o π) (hR : RpS M (o + 1) v) (hI : IvS b v) (hZ : IvZ v) (hH : HiO M o π n w b) (p d k : Int) :
    (tFly v p d k = 0 → ∃ M1 R1, fX9_fly ad S Ln R M o p d k = some (.inl (kmC v (gl v p) d k.toNat, M1, R1)) ∧ OA S Ln R M o v n w (fun v1 => v1 = sU v p (kmN v (gl v p) d k.toNat)) R1 M1) ∧ (tFly v p d k ≠ 0 → fX9_fly ad S Ln R M o p d k = some (.inr (exC (tFly v p d k), M, R))) := by
  unfold fX9_fly
  rw [o_0 hO, s_rFlight hO.2.2.1 hR hI, bd_s]
  refine ⟨fun ht => ?_, fun ht => ?_⟩
  · obtain ⟨g1, g2, g3, g4, g5⟩ := tFly_0 ht
    have hk : ((k.toNat : Nat) : Int) = k := by omega
    obtain ⟨M0, R1, M1, k1, k2, k3, k4, k5⟩ := O_do (ad := ad) (f := fun R0 M0 => fX8_glide ad S Ln R0 M0 (o + 1) p d k) (rv := kmC v (gl v p) d k.toNat) (P := fun v1 => v1 = sU v p (kmN v (gl v p) d k.toNat)) hO hR hI hZ hH (fun R0 M0 h1 h2 => by
      have h4 := hI.2.2.2.1
      obtain ⟨M1, f1, f2, f3⟩ := f_glide (ad := ad) (d := d) (n := k.toNat) h1 h2 hI g1.1 g1.2 (by omega) g3 (by rw [hk]; exact g4) (by rw [hk]; exact g5)
      rw [hk] at f1
      have hkm := kmN_b (n := k.toNat) hI.1 (hI.2.2.2.2.2.2 p g1.1 g1.2).f (by omega) (by rw [hk]; exact g4) (by rw [hk]; exact g5) k.toNat (Nat.le_refl _)
      exact ⟨M1, f1, fun v1 h => h ▸ h2.set hI g1.1 g1.2 f2 hkm.1.2.1.1 f3, fun q hq => f3 q (by omega)⟩)
    rw [ht, show rcC 0 = 4 from rfl, rfs_0, bd_s, se_l, o_3 hO, o_0 hO, k1, bd_s]
    dsimp only
    rw [rf_o k2 hO.2.2.1.1]
    exact ⟨M1, R1, by rw [show fX8_glide ad S Ln R1 M0 (o + 1) p d k = some (_, M1) from k4]; rfl, k5⟩
  · rw [rfs_C (tFly_r.resolve_left ht), bd_s, se_r]
theorem O_climb (hO : LyO S Ln R o π) (hR : RpS M (o + 1) v) (hI : IvS b v) (hZ : IvZ v) (hH : HiO M o π n w b) (p k : Int) :
    (tClimb v p k = 0 → ∃ M1 R1, fX9_climb ad S Ln R M o p k = some (.inl (rsH (gl v p) (str v (gl v p 2) (gl v p 3) (v 2).toNat) k (v 5) 4, M1, R1)) ∧ OA S Ln R M o v n w (fun v1 => v1 = sU v p (rsH (gl v p) (str v (gl v p 2) (gl v p 3) (v 2).toNat) k (v 5))) R1 M1) ∧ (tClimb v p k ≠ 0 → fX9_climb ad S Ln R M o p k = some (.inr (exC (tClimb v p k), M, R))) := by
  unfold fX9_climb
  rw [o_0 hO, s_rClimb hO.2.2.1 hR hI, bd_s]
  refine ⟨fun ht => ?_, fun ht => ?_⟩
  · obtain ⟨g1, g2, g3⟩ := tClimb_0 ht
    obtain ⟨M0, R1, M1, k1, k2, k3, k4, k5⟩ := O_do (ad := ad) (f := fun R0 M0 => fX8_soar ad S Ln R0 M0 (o + 1) p k) (rv := rsH (gl v p) (str v (gl v p 2) (gl v p 3) (v 2).toNat) k (v 5) 4) (P := fun v1 => v1 = sU v p (rsH (gl v p) (str v (gl v p 2) (gl v p 3) (v 2).toNat) k (v 5))) hO hR hI hZ hH (fun R0 M0 h1 h2 => by
      have h4 := hI.2.2.2.1
      obtain ⟨M1, f1, f2, f3⟩ := f_soar (ad := ad) h1 h2 hI g1.1 g1.2 g2.1 g2.2
      exact ⟨M1, f1, fun v1 h => h ▸ h2.set hI g1.1 g1.2 f2 (by show 0 ≤ gl v p 1; omega) f3, fun q hq => f3 q (by omega)⟩)
    rw [ht, show rcC 0 = 4 from rfl, rfs_0, bd_s, se_l, o_3 hO, o_0 hO, k1, bd_s]
    dsimp only
    rw [rf_o k2 hO.2.2.1.1]
    exact ⟨M1, R1, by rw [show fX8_soar ad S Ln R1 M0 (o + 1) p k = some (_, M1) from k4]; rfl, k5⟩
  · rw [rfs_C (tClimb_r.resolve_left ht), bd_s, se_r]
theorem O_endDay (hO : LyO S Ln R o π) (hR : RpS M (o + 1) v) (hI : IvS b v) (hZ : IvZ v) (hH : HiO M o π n w b) (hb : b + 1 ≤ 10000) :
    (tEnd v = 0 → ∃ M1 R1, fX9_endDay ad S Ln R M o = some (.inl (inP v 3 (v 4).toNat, M1, R1)) ∧ OA S Ln R M o v n w (fun v1 => mE v v1 ∧ v1 4 = v 4 ∧ v1 6 = v 6 + 1 ∧ ∀ p k : Int, 0 ≤ p → p < v 4 → 0 ≤ k → k < 9 → gl v1 p k = clU v p k) R1 M1) ∧ (tEnd v ≠ 0 → fX9_endDay ad S Ln R M o = some (.inr ("java/lang/IllegalStateException", M, R))) := by
  unfold fX9_endDay
  rw [o_0 hO, s_rEnd hO.2.2.1 hR hI, bd_s]
  refine ⟨fun ht => ?_, fun ht => ?_⟩
  · obtain ⟨M0, R1, M1, k1, k2, k3, k4, k5⟩ := O_do (ad := ad) (f := fun R0 M0 => fX8_closeDay ad S Ln R0 M0 (o + 1)) (rv := inP v 3 (v 4).toNat) (P := fun v1 => mE v v1 ∧ v1 4 = v 4 ∧ v1 6 = v 6 + 1 ∧ ∀ p k : Int, 0 ≤ p → p < v 4 → 0 ≤ k → k < 9 → gl v1 p k = clU v p k) hO hR hI hZ hH (fun R0 M0 h1 h2 => by
      obtain ⟨M1, f1, f2, f3⟩ := f_close (ad := ad) h1 h2 hI hb
      exact ⟨M1, f1, fun v1 h => f3 v1 h.1 h.2.1 h.2.2.1 h.2.2.2, fun q hq => f2 q (by omega)⟩)
    rw [ht, show rcD 0 = 4 from rfl, rfs_0, bd_s, se_l, o_3 hO, o_0 hO, k1, bd_s]
    dsimp only
    rw [rf_o k2 hO.2.2.1.1]
    exact ⟨M1, R1, by rw [show fX8_closeDay ad S Ln R1 M0 (o + 1) = some (_, M1) from k4]; rfl, k5⟩
  · rw [rfs_D (tEnd_r.resolve_left ht), bd_s, se_r]
end PAC
