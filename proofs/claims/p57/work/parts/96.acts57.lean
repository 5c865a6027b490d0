/-! p57: what holds between two calls; the acts -/
/-- a pilot that waits has reached nothing, one that has landed is at height 0, a penalty is a number of tens -/
def IvX (v : gV) : Prop := ∀ p : Int, 0 ≤ p → p < v 4 → (gl v p 1 = 0 → gl v p 7 = 0) ∧ (gl v p 1 = 2 → gl v p 4 = 0) ∧ gl v p 6 % 10 = 0
def CW (S Ln : Nat → Nat) (R : gR) (M : gM) (o : Nat) (π : Int → Nat) (b : Int) (v : gV) (n : Int) (w : Int → gV) : Prop := LyO S Ln R o π ∧ RpS M (o + 1) v ∧ (IvS b v ∧ IvZ v ∧ IvX v) ∧ HiO M o π n w b ∧ ∀ q, 0 ≤ q → q < n → IvX (w q)
def FA (o : Nat) (M M' : gM) : Prop := ∀ c, (c < o + 1 ∨ (o + 27 ≤ c ∧ c < o + 79) ∨ o + 289 ≤ c) → M' c = M c
def FQ (o : Nat) (R R' : gR) : Prop := ∀ q, q ≠ o + 80 → R' q = R q
/-- an act is refused, and nothing has changed; or it is done, and one more row is kept -/
def AR (S Ln : Nat → Nat) (R : gR) (M : gM) (o : Nat) (b : Int) (v : gV) (n : Int) (w : Int → gV) (lo : Int) (fl : Option (Int × gM × gR)) : Prop := ∃ r M' R', fl = some (r, M', R') ∧ ((-900004 ≤ r ∧ r ≤ -900001 ∧ M' = M ∧ R' = R) ∨ (lo ≤ r ∧ r ≤ 3000 ∧ (∃ π' v', CW S Ln R' M' o π' (b + 1) v' (kpN n) (kpW n w v) ∧ v 4 ≤ v' 4) ∧ FA o M M' ∧ FQ o R R'))
theorem IvX.mp {v w : gV} (hX : IvX v) (h4 : w 4 = v 4) (eg : ∀ p k : Int, 0 ≤ p → 0 ≤ k → k < 9 → gl w p k = gl v p k) : IvX w := fun p p0 p1 => by
  rw [h4] at p1
  rw [eg p 1 p0 (by decide) (by decide), eg p 7 p0 (by decide) (by decide), eg p 4 p0 (by decide) (by decide), eg p 6 p0 (by decide) (by decide)]
  exact hX p p0 p1
theorem IvX.sU {v u : gV} {p : Int} (hX : IvX v) (p0 : 0 ≤ p) (hu : (u 1 = 0 → u 7 = 0) ∧ (u 1 = 2 → u 4 = 0) ∧ u 6 % 10 = 0) : IvX (sU v p u) := fun q q0 q1 => by
  rw [sU_lo p0 (by decide)] at q1
  by_cases e : q = p
  · subst e
    rw [sU_s (by decide) (by decide), sU_s (by decide) (by decide), sU_s (by decide) (by decide), sU_s (by decide) (by decide)]
    exact hu
  · rw [sU_n e (by decide) (by decide), sU_n e (by decide) (by decide), sU_n e (by decide) (by decide), sU_n e (by decide) (by decide)]
    exact hX q q0 q1
theorem kmN_x {v u : gV} {d : Int} (h : (u 1 = 0 → u 7 = 0) ∧ (u 1 = 2 → u 4 = 0) ∧ u 6 % 10 = 0) : ∀ n : Nat, (kmN v u d n 1 = 0 → kmN v u d n 7 = 0) ∧ (kmN v u d n 1 = 2 → kmN v u d n 4 = 0) ∧ kmN v u d n 6 % 10 = 0 := by
  intro n
  induction n with
  | zero => exact h
  | succ n ih =>
    by_cases e : kmN v u d n 1 = 1
    · rw [kmN_t e]
      obtain ⟨k0, k2, k3, k4, k5, k6, k7, k8, k1⟩ := @kmU_k v (kmN v u d n) d
      have hb := bI_r (rst v (kmN v u d n 2 + stX d) (kmN v u d n 3 + stY d))
      generalize (if kmN v u d n 4 - snk (kmN v u d n) < 0 then 0 else kmN v u d n 4 - snk (kmN v u d n)) = B at k4 k1
      refine ⟨fun q => ?_, fun q => ?_, by rw [k6]; omega⟩
      · rw [k1] at q
        split at q
        · exact absurd q (by decide)
        · split at q <;> exact absurd q (by decide)
      · rw [k1] at q
        rw [k4]
        split at q
        · exact absurd q (by decide)
        · split at q
          · assumption
          · exact absurd q (by decide)
    · rw [kmN_f e]; exact ih
theorem kmC_b {v u : gV} {d : Int} : ∀ n : Nat, 0 ≤ kmC v u d n ∧ kmC v u d n ≤ n := by
  intro n
  induction n with
  | zero => exact ⟨Int.le_refl _, Int.le_refl _⟩
  | succ n ih =>
    by_cases e : kmN v u d n 1 = 1
    · rw [kmC_t e]; omega
    · rw [kmC_f e]; omega
theorem kmC_1 {v u : gV} {d : Int} (h : u 1 = 1) : ∀ n : Nat, 1 ≤ kmC v u d (n + 1) := by
  intro n
  induction n with
  | zero => rw [kmC_t (n := 0) h]; exact Int.le_refl _
  | succ n ih =>
    by_cases e : kmN v u d (n + 1) 1 = 1
    · rw [kmC_t e]; omega
    · rw [kmC_f e]; exact ih
theorem kpW_X {v : gV} {n : Int} {w : Int → gV} (hw : ∀ q, 0 ≤ q → q < n → IvX (w q)) (hX : IvX v) (n0 : 0 ≤ n) (n8 : n ≤ 8) : ∀ q, 0 ≤ q → q < kpN n → IvX (kpW n w v q) := by
  intro q q0 q1
  unfold kpN at q1
  unfold kpW
  by_cases h8 : n < 8
  · rw [if_pos h8] at q1
    rw [if_pos h8]
    by_cases e : q = n
    · show IvX (if q = n then v else w q)
      rw [if_pos e]; exact hX
    · show IvX (if q = n then v else w q)
      rw [if_neg e]; exact hw q q0 (by omega)
  · rw [if_neg h8] at q1
    rw [if_neg h8]
    by_cases e : q = 7
    · show IvX (if q = 7 then v else w (q + 1))
      rw [if_pos e]; exact hX
    · show IvX (if q = 7 then v else w (q + 1))
      rw [if_neg e]; exact hw (q + 1) (by omega) (by omega)
theorem kpW_l {v : gV} {n : Int} {w : Int → gV} (n8 : n ≤ 8) : kpW n w v (kpN n - 1) = v := by
  unfold kpW kpN
  by_cases h8 : n < 8
  · rw [if_pos h8, if_pos h8]
    exact if_pos (by omega)
  · rw [if_neg h8, if_neg h8]
    exact if_pos (by omega)
section PA57
variable {ad S Ln : Nat → Nat} {R : gR} {M : gM} {o : Nat} {π : Int → Nat} {v : gV} {b n : Int} {w : Int → gV}
theorem CW.mono {b' : Int} (hW : CW S Ln R M o π b v n w) (h : b ≤ b') (hb : b' ≤ 10000) : CW S Ln R M o π b' v n w := by
  obtain ⟨hO, hR, ⟨hI, hZ, hX⟩, hH, hHX⟩ := hW
  exact ⟨hO, hR, ⟨hI.mono h hb, hZ, hX⟩, ⟨hH.1, hH.2.1, fun q q0 q1 => ⟨(hH.2.2 q q0 q1).1.mono h hb, (hH.2.2 q q0 q1).2⟩⟩, hHX⟩
/-- other cells may change -/
theorem CW.fr {M' : gM} (hW : CW S Ln R M o π b v n w) (h : ∀ c, o + 1 ≤ c → c < o + 27 → M' c = M c) (h2 : ∀ c, o + 79 ≤ c → c < o + 289 → M' c = M c) : CW S Ln R M' o π b v n w := by
  obtain ⟨hO, hR, hI, hH, hHX⟩ := hW
  refine ⟨hO, hR.fr (fun q q0 q1 => h q (by omega) (by omega)) hI.1.2.2.2.1.2, hI, ⟨⟨by rw [h2 _ (by omega) (by omega)]; exact hH.1.1, fun q q0 q1 => ?_⟩, hH.2⟩, hHX⟩
  obtain ⟨l1, l2, l3, l4⟩ := hO.2.2.2.2.2.2.2.2.2.1 q q0 (by have := hH.2.1; omega)
  exact (hH.1.2 q q0 q1).fr (fun x x0 x1 => h2 x (by omega) (by omega)) (hH.2.2 q q0 q1).1.2.2.2.1.2
theorem CW.sc {M' : gM} (hW : CW S Ln R M o π b v n w) (h : SC M M' o) : CW S Ln R M' o π b v n w := by
  obtain ⟨hO, hR, hI, hH, hHX⟩ := hW
  refine ⟨hO, hR.sc9 hI.1 h, hI, ⟨⟨by rw [h _ (by omega) (by omega) (by omega) (by omega)]; exact hH.1.1, fun q q0 q1 => ?_⟩, hH.2⟩, hHX⟩
  obtain ⟨l1, l2, l3, l4⟩ := hO.2.2.2.2.2.2.2.2.2.1 q q0 (by have := hH.2.1; omega)
  exact (hH.1.2 q q0 q1).fr (fun x x0 x1 => h x (by omega) (by omega) (by omega) (by omega)) (hH.2.2 q q0 q1).1.2.2.2.1.2
theorem AR.mk {t rv lo : Int} {P : gV → Prop} {fl : Option (Int × gM × gR)} (hW : CW S Ln R M o π b v n w) (hb : b + 1 ≤ 10000) (h : (t = 0 → ∃ M1 R1, fl = some (rv, M1, R1) ∧ OA S Ln R M o v n w P R1 M1) ∧ (t ≠ 0 → ∃ r, fl = some (r, M, R) ∧ -900004 ≤ r ∧ r ≤ -900001)) (hv : t = 0 → ∃ v1, (P v1 ∧ IvS (b + 1) v1 ∧ IvZ v1) ∧ IvX v1 ∧ v 4 ≤ v1 4 ∧ lo ≤ rv ∧ rv ≤ 3000) : AR S Ln R M o b v n w lo fl := by
  obtain ⟨hO, hR, ⟨hI, hZ, hX⟩, hH, hHX⟩ := hW
  by_cases ht : t = 0
  · obtain ⟨M1, R1, e, π1, p1, p2, p3, p4, p5⟩ := h.1 ht
    obtain ⟨v1, ⟨q1, q2, q3⟩, q4, q5, q6, q7⟩ := hv ht
    refine ⟨rv, M1, R1, e, Or.inr ⟨q6, q7, ⟨π1, v1, ⟨p1, p2 v1 q1, ⟨q2, q3, q4⟩, ⟨p3, kpN_b hH.2.1.1 hH.2.1.2, fun q q0 q1 => ?_⟩, kpW_X hHX hX hH.2.1.1 hH.2.1.2⟩, q5⟩, fun c hc => p5 c hc, p4⟩⟩
    have := kpW_4 hH.2.2 hI hH.2.1.1 hH.2.1.2 hZ q q0 q1
    exact ⟨this.1.mono (by omega) hb, this.2⟩
  · obtain ⟨r, e, r0, r1⟩ := h.2 ht
    exact ⟨r, M, R, e, Or.inl ⟨r0, r1, rfl, rfl⟩⟩
theorem W_addPoint (hO : LyO S Ln R o π) (hR : RpS M (o + 1) v) (hI : IvS b v) (hZ : IvZ v) (hH : HiO M o π n w b) (x y : Int) : (tPt v x y = 0 → ∃ M1 R1, fL_addPoint ad S Ln R M o x y = some (v 0, M1, R1) ∧ OA S Ln R M o v n w (fun v1 => v1 = ptR v x y) R1 M1) ∧ (tPt v x y ≠ 0 → ∃ r, fL_addPoint ad S Ln R M o x y = some (r, M, R) ∧ -900004 ≤ r ∧ r ≤ -900001) := by
  obtain ⟨h0, h1⟩ := O_addPoint (ad := ad) hO hR hI hZ hH x y
  unfold fL_addPoint
  refine ⟨fun ht => ?_, fun ht => ?_⟩
  · obtain ⟨M1, R1, e1, hA⟩ := h0 ht
    exact ⟨M1, R1, by rw [e1, bd_s, se_l], hA⟩
  · rw [h1 ht, bd_s, se_r]
    rcases tPt_r.resolve_left ht with h | h <;> rw [h]
    · exact ⟨-900001, rfl, by decide, by decide⟩
    · exact ⟨-900002, rfl, by decide, by decide⟩
theorem W_addTaskPoint (hO : LyO S Ln R o π) (hR : RpS M (o + 1) v) (hI : IvS b v) (hZ : IvZ v) (hH : HiO M o π n w b) (i : Int) : (tSt v i = 0 → ∃ M1 R1, fL_addTaskPoint ad S Ln R M o i = some (v 1 + 1, M1, R1) ∧ OA S Ln R M o v n w (fun v1 => v1 = stR v i) R1 M1) ∧ (tSt v i ≠ 0 → ∃ r, fL_addTaskPoint ad S Ln R M o i = some (r, M, R) ∧ -900004 ≤ r ∧ r ≤ -900001) := by
  obtain ⟨h0, h1⟩ := O_addTaskPoint (ad := ad) hO hR hI hZ hH i
  unfold fL_addTaskPoint
  refine ⟨fun ht => ?_, fun ht => ?_⟩
  · obtain ⟨M1, R1, e1, hA⟩ := h0 ht
    exact ⟨M1, R1, by rw [e1, bd_s, se_l], hA⟩
  · rw [h1 ht, bd_s, se_r]
    rcases tSt_r.resolve_left ht with h | h | h <;> rw [h]
    · exact ⟨-900001, rfl, by decide, by decide⟩
    · exact ⟨-900002, rfl, by decide, by decide⟩
    · exact ⟨-900003, rfl, by decide, by decide⟩
theorem W_clearTask (hO : LyO S Ln R o π) (hR : RpS M (o + 1) v) (hI : IvS b v) (hZ : IvZ v) (hH : HiO M o π n w b)  : (tDr v = 0 → ∃ M1 R1, fL_clearTask ad S Ln R M o  = some (v 1, M1, R1) ∧ OA S Ln R M o v n w (fun v1 => v1 1 = 0 ∧ ∀ k, k ≠ 1 → ¬ (23 ≤ k ∧ k < 29) → v1 k = v k) R1 M1) ∧ (tDr v ≠ 0 → ∃ r, fL_clearTask ad S Ln R M o  = some (r, M, R) ∧ -900004 ≤ r ∧ r ≤ -900001) := by
  obtain ⟨h0, h1⟩ := O_clearTask (ad := ad) hO hR hI hZ hH 
  unfold fL_clearTask
  refine ⟨fun ht => ?_, fun ht => ?_⟩
  · obtain ⟨M1, R1, e1, hA⟩ := h0 ht
    exact ⟨M1, R1, by rw [e1, bd_s, se_l], hA⟩
  · rw [h1 ht, bd_s, se_r]
    exact ⟨-900001, rfl, by decide, by decide⟩
theorem W_addThermal (hO : LyO S Ln R o π) (hR : RpS M (o + 1) v) (hI : IvS b v) (hZ : IvZ v) (hH : HiO M o π n w b) (x y s : Int) : (tTh v x y s = 0 → ∃ M1 R1, fL_addThermal ad S Ln R M o x y s = some (v 2 + 1, M1, R1) ∧ OA S Ln R M o v n w (fun v1 => v1 = thR v x y s) R1 M1) ∧ (tTh v x y s ≠ 0 → ∃ r, fL_addThermal ad S Ln R M o x y s = some (r, M, R) ∧ -900004 ≤ r ∧ r ≤ -900001) := by
  obtain ⟨h0, h1⟩ := O_addThermal (ad := ad) hO hR hI hZ hH x y s
  unfold fL_addThermal
  refine ⟨fun ht => ?_, fun ht => ?_⟩
  · obtain ⟨M1, R1, e1, hA⟩ := h0 ht
    exact ⟨M1, R1, by rw [e1, bd_s, se_l], hA⟩
  · rw [h1 ht, bd_s, se_r]
    rcases tTh_r.resolve_left ht with h | h <;> rw [h]
    · exact ⟨-900001, rfl, by decide, by decide⟩
    · exact ⟨-900002, rfl, by decide, by decide⟩
theorem W_setCloudBase (hO : LyO S Ln R o π) (hR : RpS M (o + 1) v) (hI : IvS b v) (hZ : IvZ v) (hH : HiO M o π n w b) (z : Int) : (tBa z = 0 → ∃ M1 R1, fL_setCloudBase ad S Ln R M o z = some (v 5, M1, R1) ∧ OA S Ln R M o v n w (fun v1 => v1 = us v 5 z) R1 M1) ∧ (tBa z ≠ 0 → ∃ r, fL_setCloudBase ad S Ln R M o z = some (r, M, R) ∧ -900004 ≤ r ∧ r ≤ -900001) := by
  obtain ⟨h0, h1⟩ := O_setCloudBase (ad := ad) hO hR hI hZ hH z
  unfold fL_setCloudBase
  refine ⟨fun ht => ?_, fun ht => ?_⟩
  · obtain ⟨M1, R1, e1, hA⟩ := h0 ht
    exact ⟨M1, R1, by rw [e1, bd_s, se_l], hA⟩
  · rw [h1 ht, bd_s, se_r]
    exact ⟨-900001, rfl, by decide, by decide⟩
theorem W_addArea (hO : LyO S Ln R o π) (hR : RpS M (o + 1) v) (hI : IvS b v) (hZ : IvZ v) (hH : HiO M o π n w b) (x y X Y : Int) : (tAr v x y X Y = 0 → ∃ M1 R1, fL_addArea ad S Ln R M o x y X Y = some (v 3 + 1, M1, R1) ∧ OA S Ln R M o v n w (fun v1 => v1 = arR v x y X Y) R1 M1) ∧ (tAr v x y X Y ≠ 0 → ∃ r, fL_addArea ad S Ln R M o x y X Y = some (r, M, R) ∧ -900004 ≤ r ∧ r ≤ -900001) := by
  obtain ⟨h0, h1⟩ := O_addArea (ad := ad) hO hR hI hZ hH x y X Y
  unfold fL_addArea
  refine ⟨fun ht => ?_, fun ht => ?_⟩
  · obtain ⟨M1, R1, e1, hA⟩ := h0 ht
    exact ⟨M1, R1, by rw [e1, bd_s, se_l], hA⟩
  · rw [h1 ht, bd_s, se_r]
    rcases tAr_r.resolve_left ht with h | h <;> rw [h]
    · exact ⟨-900001, rfl, by decide, by decide⟩
    · exact ⟨-900002, rfl, by decide, by decide⟩
theorem W_addPilot (hO : LyO S Ln R o π) (hR : RpS M (o + 1) v) (hI : IvS b v) (hZ : IvZ v) (hH : HiO M o π n w b) (g : Int) : (tPl v g = 0 → ∃ M1 R1, fL_addPilot ad S Ln R M o g = some (v 4, M1, R1) ∧ OA S Ln R M o v n w (fun v1 => v1 = plR v g) R1 M1) ∧ (tPl v g ≠ 0 → ∃ r, fL_addPilot ad S Ln R M o g = some (r, M, R) ∧ -900004 ≤ r ∧ r ≤ -900001) := by
  obtain ⟨h0, h1⟩ := O_addPilot (ad := ad) hO hR hI hZ hH g
  unfold fL_addPilot
  refine ⟨fun ht => ?_, fun ht => ?_⟩
  · obtain ⟨M1, R1, e1, hA⟩ := h0 ht
    exact ⟨M1, R1, by rw [e1, bd_s, se_l], hA⟩
  · rw [h1 ht, bd_s, se_r]
    rcases tPl_r.resolve_left ht with h | h <;> rw [h]
    · exact ⟨-900001, rfl, by decide, by decide⟩
    · exact ⟨-900002, rfl, by decide, by decide⟩
theorem W_launch (hO : LyO S Ln R o π) (hR : RpS M (o + 1) v) (hI : IvS b v) (hZ : IvZ v) (hH : HiO M o π n w b) (p : Int) : (tLaunch v p = 0 → ∃ M1 R1, fL_launch ad S Ln R M o p = some (inP (sU v p (toU (gl v p) (v (7 + 2 * v 23)) (v (8 + 2 * v 23)))) 1 (v 4).toNat, M1, R1) ∧ OA S Ln R M o v n w (fun v1 => v1 = sU v p (toU (gl v p) (v (7 + 2 * v 23)) (v (8 + 2 * v 23)))) R1 M1) ∧ (tLaunch v p ≠ 0 → ∃ r, fL_launch ad S Ln R M o p = some (r, M, R) ∧ -900004 ≤ r ∧ r ≤ -900001) := by
  obtain ⟨h0, h1⟩ := O_launch (ad := ad) hO hR hI hZ hH p
  unfold fL_launch
  refine ⟨fun ht => ?_, fun ht => ?_⟩
  · obtain ⟨M1, R1, e1, hA⟩ := h0 ht
    exact ⟨M1, R1, by rw [e1, bd_s, se_l], hA⟩
  · rw [h1 ht, bd_s, se_r]
    rcases tLaunch_r.resolve_left ht with h | h | h <;> rw [h]
    · exact ⟨-900001, rfl, by decide, by decide⟩
    · exact ⟨-900002, rfl, by decide, by decide⟩
    · exact ⟨-900003, rfl, by decide, by decide⟩
theorem W_fly (hO : LyO S Ln R o π) (hR : RpS M (o + 1) v) (hI : IvS b v) (hZ : IvZ v) (hH : HiO M o π n w b) (p d k : Int) : (tFly v p d k = 0 → ∃ M1 R1, fL_fly ad S Ln R M o p d k = some (kmC v (gl v p) d k.toNat, M1, R1) ∧ OA S Ln R M o v n w (fun v1 => v1 = sU v p (kmN v (gl v p) d k.toNat)) R1 M1) ∧ (tFly v p d k ≠ 0 → ∃ r, fL_fly ad S Ln R M o p d k = some (r, M, R) ∧ -900004 ≤ r ∧ r ≤ -900001) := by
  obtain ⟨h0, h1⟩ := O_fly (ad := ad) hO hR hI hZ hH p d k
  unfold fL_fly
  refine ⟨fun ht => ?_, fun ht => ?_⟩
  · obtain ⟨M1, R1, e1, hA⟩ := h0 ht
    exact ⟨M1, R1, by rw [e1, bd_s, se_l], hA⟩
  · rw [h1 ht, bd_s, se_r]
    rcases tFly_r.resolve_left ht with h | h | h | h <;> rw [h]
    · exact ⟨-900001, rfl, by decide, by decide⟩
    · exact ⟨-900002, rfl, by decide, by decide⟩
    · exact ⟨-900003, rfl, by decide, by decide⟩
    · exact ⟨-900004, rfl, by decide, by decide⟩
theorem W_climb (hO : LyO S Ln R o π) (hR : RpS M (o + 1) v) (hI : IvS b v) (hZ : IvZ v) (hH : HiO M o π n w b) (p k : Int) : (tClimb v p k = 0 → ∃ M1 R1, fL_climb ad S Ln R M o p k = some (rsH (gl v p) (str v (gl v p 2) (gl v p 3) (v 2).toNat) k (v 5) 4, M1, R1) ∧ OA S Ln R M o v n w (fun v1 => v1 = sU v p (rsH (gl v p) (str v (gl v p 2) (gl v p 3) (v 2).toNat) k (v 5))) R1 M1) ∧ (tClimb v p k ≠ 0 → ∃ r, fL_climb ad S Ln R M o p k = some (r, M, R) ∧ -900004 ≤ r ∧ r ≤ -900001) := by
  obtain ⟨h0, h1⟩ := O_climb (ad := ad) hO hR hI hZ hH p k
  unfold fL_climb
  refine ⟨fun ht => ?_, fun ht => ?_⟩
  · obtain ⟨M1, R1, e1, hA⟩ := h0 ht
    exact ⟨M1, R1, by rw [e1, bd_s, se_l], hA⟩
  · rw [h1 ht, bd_s, se_r]
    rcases tClimb_r.resolve_left ht with h | h | h | h <;> rw [h]
    · exact ⟨-900001, rfl, by decide, by decide⟩
    · exact ⟨-900002, rfl, by decide, by decide⟩
    · exact ⟨-900003, rfl, by decide, by decide⟩
    · exact ⟨-900004, rfl, by decide, by decide⟩
theorem W_endDay (hO : LyO S Ln R o π) (hR : RpS M (o + 1) v) (hI : IvS b v) (hZ : IvZ v) (hH : HiO M o π n w b) (hb : b + 1 ≤ 10000)  : (tEnd v = 0 → ∃ M1 R1, fL_endDay ad S Ln R M o  = some (inP v 3 (v 4).toNat, M1, R1) ∧ OA S Ln R M o v n w (fun v1 => mE v v1 ∧ v1 4 = v 4 ∧ v1 6 = v 6 + 1 ∧ ∀ p k : Int, 0 ≤ p → p < v 4 → 0 ≤ k → k < 9 → gl v1 p k = clU v p k) R1 M1) ∧ (tEnd v ≠ 0 → ∃ r, fL_endDay ad S Ln R M o  = some (r, M, R) ∧ -900004 ≤ r ∧ r ≤ -900001) := by
  obtain ⟨h0, h1⟩ := O_endDay (ad := ad) hO hR hI hZ hH hb 
  unfold fL_endDay
  refine ⟨fun ht => ?_, fun ht => ?_⟩
  · obtain ⟨M1, R1, e1, hA⟩ := h0 ht
    exact ⟨M1, R1, by rw [e1, bd_s, se_l], hA⟩
  · rw [h1 ht, bd_s, se_r]
    exact ⟨-900001, rfl, by decide, by decide⟩
theorem A_addPoint (hW : CW S Ln R M o π b v n w) (hb : b + 1 ≤ 10000) (x y : Int) : AR S Ln R M o b v n w 0 (fL_addPoint ad S Ln R M o x y) := by
  have hW9 := hW
  obtain ⟨hO, hR, ⟨hI, hZ, hX⟩, hH, hHX⟩ := hW
  refine AR.mk hW9 hb (W_addPoint hO hR hI hZ hH x y) (fun ht => ?_)
  have i0 := hI.1.1
  exact ⟨_, P_addPoint hI hZ hb x y ht _ rfl, hX.mp (ptR_n (by decide) (by omega) (by omega)) (fun p k p0 k0 k1 => ptR_n (by omega) (by omega) (by omega)), Int.le_of_eq (ptR_n (by decide) (by omega) (by omega)).symm, by omega, by omega⟩
theorem A_addTaskPoint (hW : CW S Ln R M o π b v n w) (hb : b + 1 ≤ 10000) (i : Int) : AR S Ln R M o b v n w 0 (fL_addTaskPoint ad S Ln R M o i) := by
  have hW9 := hW
  obtain ⟨hO, hR, ⟨hI, hZ, hX⟩, hH, hHX⟩ := hW
  refine AR.mk hW9 hb (W_addTaskPoint hO hR hI hZ hH i) (fun ht => ?_)
  have i0 := hI.1.2.1
  exact ⟨_, P_addTaskPoint hI hZ hb i ht _ rfl, hX.mp (stR_n (by decide) (by omega)) (fun p k p0 k0 k1 => stR_n (by omega) (by omega)), Int.le_of_eq (stR_n (by decide) (by omega)).symm, by omega, by omega⟩
theorem A_clearTask (hW : CW S Ln R M o π b v n w) (hb : b + 1 ≤ 10000)  : AR S Ln R M o b v n w 0 (fL_clearTask ad S Ln R M o ) := by
  have hW9 := hW
  obtain ⟨hO, hR, ⟨hI, hZ, hX⟩, hH, hHX⟩ := hW
  refine AR.mk hW9 hb (W_clearTask hO hR hI hZ hH ) (fun ht => ?_)
  have i0 := hI.1.2.1
  exact ⟨us v 1 0, P_clearTask hI hZ hb ht (us v 1 0) ⟨us_s, fun k k1 _ => us_n k1⟩, hX.mp (us_n (by decide)) (fun p k p0 k0 k1 => us_n (by omega)), Int.le_of_eq (us_n (by decide)).symm, by omega, by omega⟩
theorem A_addThermal (hW : CW S Ln R M o π b v n w) (hb : b + 1 ≤ 10000) (x y s : Int) : AR S Ln R M o b v n w 0 (fL_addThermal ad S Ln R M o x y s) := by
  have hW9 := hW
  obtain ⟨hO, hR, ⟨hI, hZ, hX⟩, hH, hHX⟩ := hW
  refine AR.mk hW9 hb (W_addThermal hO hR hI hZ hH x y s) (fun ht => ?_)
  have i0 := hI.2.1.1
  exact ⟨_, P_addThermal hI hZ hb x y s ht _ rfl, hX.mp (thR_n (by decide) (by omega) (by omega) (by omega)) (fun p k p0 k0 k1 => thR_n (by omega) (by omega) (by omega) (by omega)), Int.le_of_eq (thR_n (by decide) (by omega) (by omega) (by omega)).symm, by omega, by omega⟩
theorem A_setCloudBase (hW : CW S Ln R M o π b v n w) (hb : b + 1 ≤ 10000) (z : Int) : AR S Ln R M o b v n w 0 (fL_setCloudBase ad S Ln R M o z) := by
  have hW9 := hW
  obtain ⟨hO, hR, ⟨hI, hZ, hX⟩, hH, hHX⟩ := hW
  refine AR.mk hW9 hb (W_setCloudBase hO hR hI hZ hH z) (fun ht => ?_)
  have i0 := hI.2.1.2.1
  exact ⟨_, P_setCloudBase hI hZ hb z ht _ rfl, hX.mp (us_n (by decide)) (fun p k p0 k0 k1 => us_n (by omega)), Int.le_of_eq (us_n (by decide)).symm, by omega, by omega⟩
theorem A_addArea (hW : CW S Ln R M o π b v n w) (hb : b + 1 ≤ 10000) (x y X Y : Int) : AR S Ln R M o b v n w 0 (fL_addArea ad S Ln R M o x y X Y) := by
  have hW9 := hW
  obtain ⟨hO, hR, ⟨hI, hZ, hX⟩, hH, hHX⟩ := hW
  refine AR.mk hW9 hb (W_addArea hO hR hI hZ hH x y X Y) (fun ht => ?_)
  have i0 := hI.2.2.1.1
  have h3 : v 3 < 3 := by
    unfold tAr at ht
    split at ht
    · split at ht
      · exact absurd ht (by decide)
      · omega
    · exact absurd ht (by decide)
  exact ⟨_, P_addArea hI hZ hb x y X Y ht _ rfl, hX.mp (arR_n (by decide) (by omega) (by omega) (by omega) (by omega)) (fun p k p0 k0 k1 => arR_n (by omega) (by omega) (by omega) (by omega) (by omega)), Int.le_of_eq (arR_n (by decide) (by omega) (by omega) (by omega) (by omega)).symm, by omega, by omega⟩
theorem A_addPilot (hW : CW S Ln R M o π b v n w) (hb : b + 1 ≤ 10000) (g : Int) : AR S Ln R M o b v n w 0 (fL_addPilot ad S Ln R M o g) := by
  have hW9 := hW
  obtain ⟨hO, hR, ⟨hI, hZ, hX⟩, hH, hHX⟩ := hW
  refine AR.mk hW9 hb (W_addPilot hO hR hI hZ hH g) (fun ht => ?_)
  have i0 := hI.2.2.2.1
  have h6 : v 4 ≠ 6 := fun e => by
    unfold tPl at ht
    split at ht
    · exact absurd ht (by decide)
    · exact absurd ht (by decide)
  refine ⟨_, P_addPilot hI hZ hb g ht _ rfl, fun p p0 p1 => ?_, by rw [plR_4]; omega, by omega, by omega⟩
  rw [plR_4] at p1
  rw [plR_g i0.1 p0 (by decide) (by decide), plR_g i0.1 p0 (by decide) (by decide), plR_g i0.1 p0 (by decide) (by decide), plR_g i0.1 p0 (by decide) (by decide), if_neg (fun q => absurd q.2 (by decide)), if_neg (fun q => absurd q.2 (by decide)), if_neg (fun q => absurd q.2 (by decide)), if_neg (fun q => absurd q.2 (by decide))]
  by_cases e : p < v 4
  · exact hX p p0 e
  · rw [hZ p 1 (by omega) (by omega) (by decide) (by decide), hZ p 7 (by omega) (by omega) (by decide) (by decide), hZ p 4 (by omega) (by omega) (by decide) (by decide), hZ p 6 (by omega) (by omega) (by decide) (by decide)]
    decide
theorem A_launch (hW : CW S Ln R M o π b v n w) (hb : b + 1 ≤ 10000) (p : Int) : AR S Ln R M o b v n w 0 (fL_launch ad S Ln R M o p) := by
  have hW9 := hW
  obtain ⟨hO, hR, ⟨hI, hZ, hX⟩, hH, hHX⟩ := hW
  refine AR.mk hW9 hb (W_launch hO hR hI hZ hH p) (fun ht => ?_)
  have i4 := hI.2.2.2.1
  have hp : 0 ≤ p ∧ p < v 4 := by
    unfold tLaunch at ht
    split at ht
    · assumption
    · exact absurd ht (by decide)
  have hi := @inP_b (sU v p (toU (gl v p) (v (7 + 2 * v 23)) (v (8 + 2 * v 23)))) 1 (v 4).toNat
  exact ⟨_, P_launch hI hZ hb p ht _ rfl, hX.sU hp.1 ⟨fun q => absurd q (by show ¬ (1 : Int) = 0; decide), fun q => absurd q (by show ¬ (1 : Int) = 2; decide), by show (0 : Int) % 10 = 0; decide⟩, Int.le_of_eq (sU_lo hp.1 (by decide)).symm, hi.1, by omega⟩
theorem A_fly (hW : CW S Ln R M o π b v n w) (hb : b + 1 ≤ 10000) (p d k : Int) : AR S Ln R M o b v n w 1 (fL_fly ad S Ln R M o p d k) := by
  have hW9 := hW
  obtain ⟨hO, hR, ⟨hI, hZ, hX⟩, hH, hHX⟩ := hW
  refine AR.mk hW9 hb (W_fly hO hR hI hZ hH p d k) (fun ht => ?_)
  have i4 := hI.2.2.2.1
  obtain ⟨g1, g2, g3, g4, g5⟩ := tFly_0 ht
  have hc := @kmC_b v (gl v p) d k.toNat
  have h1 := @kmC_1 v (gl v p) d g3 (k.toNat - 1)
  rw [show k.toNat - 1 + 1 = k.toNat by omega] at h1
  exact ⟨_, P_fly hI hZ hb p d k ht _ rfl, hX.sU g1.1 (kmN_x (hX p g1.1 g1.2) _), Int.le_of_eq (sU_lo g1.1 (by decide)).symm, h1, by omega⟩
theorem A_climb (hW : CW S Ln R M o π b v n w) (hb : b + 1 ≤ 10000) (p k : Int) : AR S Ln R M o b v n w 0 (fL_climb ad S Ln R M o p k) := by
  have hW9 := hW
  obtain ⟨hO, hR, ⟨hI, hZ, hX⟩, hH, hHX⟩ := hW
  refine AR.mk hW9 hb (W_climb hO hR hI hZ hH p k) (fun ht => ?_)
  have i4 := hI.2.2.2.1
  obtain ⟨g1, g2, g3⟩ := tClimb_0 ht
  have hP := P_climb hI hZ hb p k ht _ rfl
  have h4 := (hP.2.1.2.2.2.2.2.2 p g1.1 (by rw [sU_lo g1.1 (by decide)]; exact g1.2)).2.2.2.1
  rw [sU_s (by decide) (by decide)] at h4
  have e1 : ∀ q s z, rsH (gl v p) q s z 1 = gl v p 1 := fun q s z => rfl
  have e6 : ∀ q s z, rsH (gl v p) q s z 6 = gl v p 6 := fun q s z => rfl
  refine ⟨_, hP, hX.sU g1.1 ⟨fun q => ?_, fun q => ?_, ?_⟩, Int.le_of_eq (sU_lo g1.1 (by decide)).symm, h4.1, h4.2⟩
  · rw [e1] at q; omega
  · rw [e1] at q; omega
  · rw [e6]; exact (hX p g1.1 g1.2).2.2
theorem A_endDay (hW : CW S Ln R M o π b v n w) (hb : b + 1 ≤ 10000)  : AR S Ln R M o b v n w 0 (fL_endDay ad S Ln R M o ) := by
  have hW9 := hW
  obtain ⟨hO, hR, ⟨hI, hZ, hX⟩, hH, hHX⟩ := hW
  refine AR.mk hW9 hb (W_endDay hO hR hI hZ hH hb ) (fun ht => ?_)
  have i4 := hI.2.2.2.1
  have hi := @inP_b v 3 (v 4).toNat
  have hg : ∀ p k : Int, 0 ≤ p → 0 ≤ k → k < 9 → gl (fun j => if j = 6 then v 6 + 1 else if 59 ≤ j then (if (j - 59) / 9 < v 4 then clU v ((j - 59) / 9) ((j - 59) % 9) else v j) else v j) p k = if p < v 4 then clU v p k else gl v p k := fun p k p0 k0 k1 => by
    unfold gl
    show (if 59 + 9 * p + k = 6 then v 6 + 1 else if 59 ≤ 59 + 9 * p + k then (if (59 + 9 * p + k - 59) / 9 < v 4 then clU v ((59 + 9 * p + k - 59) / 9) ((59 + 9 * p + k - 59) % 9) else v (59 + 9 * p + k)) else v (59 + 9 * p + k)) = _
    rw [if_neg (by omega), if_pos (by omega), show (59 + 9 * p + k - 59) / 9 = p by omega, show (59 + 9 * p + k - 59) % 9 = k by omega]
  refine ⟨fun j => if j = 6 then v 6 + 1 else if 59 ≤ j then (if (j - 59) / 9 < v 4 then clU v ((j - 59) / 9) ((j - 59) % 9) else v j) else v j, P_endDay hI hZ hb ht _ ⟨fun k k0 k1 _ k6 => ?_, ?_, ?_, hg⟩, fun p p0 p1 => ?_, ?_, hi.1, by omega⟩
  · show (if k = 6 then _ else if 59 ≤ k then _ else v k) = v k
    rw [if_neg k6, if_neg (by omega)]
  · rfl
  · rfl
  · have p1' : p < v 4 := p1
    rw [hg p 1 p0 (by decide) (by decide), hg p 7 p0 (by decide) (by decide), hg p 4 p0 (by decide) (by decide), hg p 6 p0 (by decide) (by decide), if_pos p1', if_pos p1', if_pos p1', if_pos p1']
    exact ⟨fun _ => rfl, fun _ => rfl, by show (0 : Int) % 10 = 0; decide⟩
  · exact Int.le_refl _
theorem W_undo (hW : CW S Ln R M o π b v n w) (h1 : 1 ≤ n) : ∃ M', fL_undo ad S Ln R M o = some (n - 1, M') ∧ CW S Ln R M' o π b (w (n - 1)) (n - 1) w ∧ FA o M M' := by
  obtain ⟨hO, hR, ⟨hI, hZ, hX⟩, ⟨hH, hn, hHI⟩, hHX⟩ := hW
  obtain ⟨rn, ln, p0, p1⟩ := hO.2.2.2.2.2.2.2.2.2.1 (n - 1) (by omega) (by omega)
  have r1 := hH.2 (n - 1) (by omega) (by omega)
  obtain ⟨r2, r3⟩ := hHI (n - 1) (by omega) (by omega)
  obtain ⟨hs, hs1, hl1, hr0, hra, hrd⟩ := hO.2.2.2.2.2
  have hf : ∀ q, q ≠ o + 79 → wr M (o + 79) 1 (n - 1) q = M q := fun q hq => wr_a hq
  obtain ⟨M1, e1, e2, e3⟩ := f_copy (ad := ad) (M := wr M (o + 79) 1 (n - 1)) hO.2.2.1 ln (r1.fr (fun x x0 x1 => hf x (by omega)) r2.2.2.2.1.2) r2 (by omega)
  have hclass : fX4_takeBack ad S Ln R M (o + 79) (o + 1) = some M1 := by
    unfold fX4_takeBack
    rw [hH.1, if_neg (by omega), w32_i (by omega) (by omega), nam_d, rf_o hr0 hs1, wr_s, gd_t (by rw [hl1]; omega), rf_o rn ln.1, e1, bd_s]
  have hM1c : ∀ q, (q < o + 1 ∨ o + 27 ≤ q) → q ≠ o + 79 → M1 q = M q := fun q hq hq' => by rw [e3 q (by omega), hf q hq']
  have hM79 : M1 (o + 79) 1 = n - 1 := by rw [e3 _ (by omega), wr_s]
  refine ⟨M1, ?_, ⟨hO, e2, ⟨r2, r3, hHX (n - 1) (by omega) (by omega)⟩, ⟨⟨hM79, fun q q0 q1 => ?_⟩, by omega, fun q q0 q1 => hHI q q0 (by omega)⟩, fun q q0 q1 => hHX q q0 (by omega)⟩, fun c hc => hM1c c (by omega) (by omega)⟩
  · unfold fL_undo fX9_undo
    rw [o_3 hO, hH.1, if_pos (by omega), o_3 hO, o_0 hO, hclass, bd_s, o_3 hO, hM79, bd_s, se_l]
  · obtain ⟨l1, l2, l3, l4⟩ := hra q q0 (by omega)
    exact (hH.2 q q0 (by omega)).fr (fun x x0 x1 => hM1c x (by omega) (by omega)) (hHI q q0 (by omega)).1.2.2.2.1.2
theorem W_undo0 (hW : CW S Ln R M o π b v 0 w) : fL_undo ad S Ln R M o = some (-900001, M) := by
  obtain ⟨hO, hR, hI, ⟨hH, hn, hHI⟩, hHX⟩ := hW
  unfold fL_undo fX9_undo
  rw [o_3 hO, hH.1, if_neg (by decide), bd_s, se_r]
  rfl
theorem W_save (hW : CW S Ln R M o π b v n w) : ∃ M', fX9_save ad S Ln R M o = some M' ∧ CW S Ln R M' o π b v n w ∧ RpS M' (o + 27) v ∧ M' o 6 = 1 ∧ (∀ k, k ≠ 6 → M' o k = M o k) ∧ ∀ c, c ≠ o → (c < o + 27 ∨ o + 53 ≤ c) → M' c = M c := by
  have hW9 := hW
  obtain ⟨hO, hR, ⟨hI, hZ, hX⟩, hH, hHX⟩ := hW
  obtain ⟨M1, e1, e2, e3⟩ := f_copy (ad := ad) hO.2.2.2.1 hO.2.2.1 hR hI (by omega)
  have hf : ∀ c, c ≠ o → (c < o + 27 ∨ o + 53 ≤ c) → wr M1 o 6 1 c = M c := fun c c0 hc => by rw [wr_a c0, e3 c hc]
  refine ⟨wr M1 o 6 1, ?_, hW9.fr (fun c c0 c1 => hf c (by omega) (by omega)) (fun c c0 c1 => hf c (by omega) (by omega)), e2.fr (fun x x0 x1 => wr_a (by omega)) hI.2.2.2.1.2, wr_s, fun k hk => by rw [wr_k hk, e3 o (by omega)], hf⟩
  unfold fX9_save
  rw [o_1 hO, o_0 hO, e1, bd_s, nam_d]
/-- the state that was saved comes back -/
theorem W_restore {vs : gV} (hW : CW S Ln R M o π b v n w) (h6 : M o 6 = 1) (hs : RpS M (o + 27) vs) (hIs : IvS b vs ∧ IvZ vs ∧ IvX vs) : ∃ M', fL_restore ad S Ln R M o = some (0, M') ∧ CW S Ln R M' o π b vs 0 w := by
  obtain ⟨hO, hR, ⟨hI, hZ, hX⟩, ⟨hH, hn, hHI⟩, hHX⟩ := hW
  obtain ⟨M1, e1, e2, e3⟩ := f_copy (ad := ad) hO.2.2.1 hO.2.2.2.1 hs hIs.1 (by omega)
  refine ⟨wr M1 (o + 79) 1 0, ?_, ⟨hO, e2.fr (fun x x0 x1 => wr_a (by omega)) hIs.1.2.2.2.1.2, hIs, ⟨⟨wr_s, fun q q0 q1 => absurd q0 (by omega)⟩, by decide, fun q q0 q1 => absurd q0 (by omega)⟩, fun q q0 q1 => absurd q0 (by omega)⟩⟩
  unfold fL_restore fX9_restore
  rw [h6, if_pos (by decide), o_0 hO, o_1 hO, e1, bd_s, o_3 hO, nam_d, bd_s, se_l]
end PA57
