/-! PURE: the law's cases that act -/
theorem i_lcmp_0 {x : Int} : i_lcmp x x = 0 := by
  unfold i_lcmp
  rw [if_neg (by omega), if_pos rfl]
/-- the law's answer to an act -/
def LO (S Ln : Nat → Nat) (R : gR) (M : gM) (o a : Nat) (v : gV) (n : Int) (w : Int → gV) (P : gV → Prop) (t rv : Int) (fl : Option (Int × gM × gR)) : Prop := (t = 0 → ∃ M1 R1, fl = some (0, wr M1 a 0 rv, R1) ∧ OA S Ln R M o v n w P R1 M1) ∧ (t ≠ 0 → fl = some (t, M, R))
/-- the model's answer to an act -/
def MA (M : gM) (m : Nat) (t rv : Int) (P : gV → Prop) (e : Option (Int × gM)) : Prop := ∃ M3, e = some (if t = 0 then rv else 0, M3) ∧ M3 m 5 = t ∧ (∀ k, k ≠ 4 → k ≠ 5 → M3 m k = M m k) ∧
      (t = 0 → P (M3 (m + 1)) ∧ M3 m 4 = kpN (M m 4) ∧ ∀ q, 0 ≤ q → q < kpN (M m 4) → ∀ j, 0 ≤ j → j < 113 → pW M3 m q j = kpW (M m 4) (pW M m) (M (m + 1)) q j) ∧ (t ≠ 0 → M3 (m + 1) = M (m + 1) ∧ M3 m 4 = M m 4 ∧ M3 (m + 4) = M (m + 4)) ∧ ∀ c, (c < m ∨ m + 6 ≤ c ∨ c = m + 3) → M3 c = M c
def HY (S Ln : Nat → Nat) (R : gR) (M : gM) (e o m a : Nat) (π : Int → Nat) (b : Int) : Prop := LyO S Ln R o π ∧ LyM S Ln R m ∧ (o + 289 ≤ m ∧ m + 9 ≤ a) ∧ (Ln a = 1 ∧ Ln (a + 1) = 1) ∧ e < o ∧ INV M o m π b ∧ b + 1 ≤ 10000
def OKS (S Ln : Nat → Nat) (R : gR) (M : gM) (o m a : Nat) (b : Int) (R1 : gR) (M1 : gM) : Prop := (∃ π1, LyO S Ln R1 o π1 ∧ INV M1 o m π1 (b + 1)) ∧ (∀ q, q ≠ o + 80 → R1 q = R q) ∧ (∀ c, (c < o + 1 ∨ (o + 289 ≤ c ∧ c < m) ∨ m + 6 ≤ c) → c ≠ a → c ≠ a + 1 → M1 c = M c) ∧ ∀ k, k ≠ 4 → k ≠ 5 → M1 m k = M m k
section PLC
variable {ad S Ln : Nat → Nat} {R : gR} {M : gM} {e o m a : Nat} {π : Int → Nat} {b : Int}
theorem act_case {α : Type} {t rv : Int} {P P' : gV → Prop} {fl : Option (Int × gM × gR)} {g : gM → gR → Option (Int × gM)} {B : gM → gR → Option α} (hY : HY S Ln R M e o m a π b) (hl : LO S Ln R M o a (M (m + 1)) (M m 4) (pW M m) P t rv fl)
    (hg : ∀ M1 R1, LyM S Ln R1 m → M1 (m + 1) = M (m + 1) → M1 m = M m → M1 e = M e → MA M1 m t rv P' (g M1 R1)) (hP : t = 0 → ∀ v1, P' v1 → P v1 ∧ IvS (b + 1) v1 ∧ IvZ v1) :
    ∃ M' R', (bd fl fun q2 => bd (g q2.2.1 q2.2.2) fun q4 => bd (fX10_thrown ad S Ln q2.2.2 q4.2 m) fun q5 => if q5 = q2.1 then (if ¬ q2.1 = 0 then B q4.2 q2.2.2 else (gd ((0 : Int) ≤ 0 ∧ 0 < (Ln a : Int)) (if (i_lcmp (q4.2 a 0) q4.1) = 0 then B q4.2 q2.2.2 else none))) else none) = B M' R' ∧ OKS S Ln R M o m a b R' M' := by
  obtain ⟨hO, hM, hd, hla, he, hN, hb⟩ := hY
  by_cases ht : t = 0
  · obtain ⟨M1, R1, e1, hA⟩ := hl.1 ht
    have hA9 := hA
    obtain ⟨π1, p1, p2, p3, p4, p5⟩ := hA
    have hm : ∀ c, m ≤ c → c ≠ a → wr M1 a 0 rv c = M c := fun c hc hca => by rw [wr_a hca, p5 c (by omega)]
    obtain ⟨M3, c1, c2, c3, c4, c5, c6⟩ := hg (wr M1 a 0 rv) R1 (hM.fr (p4 m (by omega))) (hm _ (by omega) (by omega)) (hm _ (by omega) (by omega)) (by rw [wr_a (by omega), p5 e (by omega)])
    have hm0 := hm m (by omega) (by omega)
    have hm1 := hm (m + 1) (by omega) (by omega)
    have hm4 := hm (m + 4) (by omega) (by omega)
    have hpw : pW (wr M1 a 0 rv) m = pW M m := by unfold pW; rw [hm4]
    rw [hm0, hm1, hpw] at c4
    obtain ⟨d1, d2, d3⟩ := c4 ht
    obtain ⟨π2, k1, k2, k3⟩ := act_ok hd hN hb hA9 d1 d2 d3 (fun k k0 k1 => by rw [c3 k k0 k1, hm0]) c6 (hP ht)
    refine ⟨M3, R1, ?_, ⟨π2, k1, k2⟩, p4, fun c hc ha _ => k3 c hc ha, fun k k0 k1 => by rw [c3 k k0 k1, hm0]⟩
    rw [e1, bd_s]
    dsimp only
    rw [c1, bd_s]
    dsimp only
    rw [show fX10_thrown ad S Ln R1 M3 m = some (M3 m 5) from rfl, bd_s, c2, if_pos ht, if_neg (by decide), gd_t (by rw [hla.1]; decide)]
    simp only [if_pos ht, show M3 a 0 = rv by rw [c6 a (by omega), wr_s], i_lcmp_0]
    exact if_pos trivial
  · have e1 := hl.2 ht
    obtain ⟨M3, c1, c2, c3, c4, c5, c6⟩ := hg M R hM rfl rfl rfl
    obtain ⟨d1, d2, d3⟩ := c5 ht
    have hN3 := same_ok hO hd.1 hN d1 d2 d3 (c3 9 (by decide) (by decide)) (fun c hc => c6 c (by omega))
    refine ⟨M3, R, ?_, ⟨π, hO, hN3.mono (by omega) hb⟩, fun _ _ => rfl, fun c hc _ _ => c6 c (by omega), c3⟩
    rw [e1, bd_s]
    dsimp only
    rw [c1, bd_s]
    dsimp only
    rw [show fX10_thrown ad S Ln R M3 m = some (M3 m 5) from rfl, bd_s, c2, if_pos rfl, if_pos ht]

theorem L_addPoint {v : gV} {n : Int} {w : Int → gV} (hla : Ln a = 1) (hO : LyO S Ln R o π) (hR : RpS M (o + 1) v) (hI : IvS b v) (hZ : IvZ v) (hH : HiO M o π n w b) (x y : Int) : LO S Ln R M o a v n w (fun v1 => v1 = ptR v x y) (tPt v x y) (v 0) (fL_addPoint ad S Ln R M o x y a) := by
  obtain ⟨h0, h1⟩ := O_addPoint (ad := ad) hO hR hI hZ hH x y
  unfold fL_addPoint
  refine ⟨fun ht => ?_, fun ht => ?_⟩
  · obtain ⟨M1, R1, e1, hA⟩ := h0 ht
    refine ⟨M1, R1, ?_, hA⟩
    rw [e1, bd_s, se_l, gd_t (by rw [hla]; decide)]
    rfl
  · rw [h1 ht, bd_s, se_r]
    rcases tPt_r.resolve_left ht with h | h <;> rw [h] <;> rfl
theorem M_addPoint {v : gV} (hM : LyM S Ln R m) (hv : M (m + 1) = v) (hI : IvS b v) (hn : 0 ≤ M m 4 ∧ M m 4 ≤ 8) (x y : Int) : MA M m (tPt v x y) (v 0) (fun v1 => v1 = ptR v x y) (fX10_addPoint ad S Ln R M m x y) := by
  unfold fX10_addPoint MA
  refine m_act (ad := ad) (t := tPt v x y) (rv := v 0) (P := fun v1 => v1 = ptR v x y) (f := fun M1 => fX10_points ad S Ln R M1 m x y) hM hn (fun M1 h1 => ?_)
  obtain ⟨M2, e1, e2, e3, e5⟩ := m_points (ad := ad) hM (h1.trans hv) hI x y
  exact ⟨M2, e1, e2, fun ht => by rw [e3, if_pos ht], fun ht => by rw [e3, if_neg ht, hv], fun c c0 c1 _ => e5 c c0 c1⟩
theorem P_addPoint {v : gV} (hI : IvS b v) (hZ : IvZ v) (hb : b + 1 ≤ 10000) (x y : Int) (ht : tPt v x y = 0) : ∀ v1 : gV, (fun v1 => v1 = ptR v x y) v1 → (fun v1 => v1 = ptR v x y) v1 ∧ IvS (b + 1) v1 ∧ IvZ v1 := by
  have h8 : v 0 < 8 ∧ (0 ≤ x ∧ x ≤ 60) ∧ 0 ≤ y ∧ y ≤ 60 := by
    have := hI.1.1
    unfold tPt at ht
    split at ht
    · split at ht
      · exact absurd ht (by decide)
      · rename_i h1 h2
        exact ⟨by omega, h1⟩
    · exact absurd ht (by decide)
  have i8 := hI.1.1
  intro v1 h
  subst h
  exact ⟨rfl, (hI.pt h8.1 h8.2.1 h8.2.2).mono (by omega) hb, hZ.mp (ptR_n (by decide) (by omega) (by omega)) (fun p k p0 k0 k1 => ptR_n (by omega) (by omega) (by omega)) hI.2.2.2.1.1⟩
theorem L_addTaskPoint {v : gV} {n : Int} {w : Int → gV} (hla : Ln a = 1) (hO : LyO S Ln R o π) (hR : RpS M (o + 1) v) (hI : IvS b v) (hZ : IvZ v) (hH : HiO M o π n w b) (i : Int) : LO S Ln R M o a v n w (fun v1 => v1 = stR v i) (tSt v i) (v 1 + 1) (fL_addTaskPoint ad S Ln R M o i a) := by
  obtain ⟨h0, h1⟩ := O_addTaskPoint (ad := ad) hO hR hI hZ hH i
  unfold fL_addTaskPoint
  refine ⟨fun ht => ?_, fun ht => ?_⟩
  · obtain ⟨M1, R1, e1, hA⟩ := h0 ht
    refine ⟨M1, R1, ?_, hA⟩
    rw [e1, bd_s, se_l, gd_t (by rw [hla]; decide)]
    rfl
  · rw [h1 ht, bd_s, se_r]
    rcases tSt_r.resolve_left ht with h | h | h <;> rw [h] <;> rfl
theorem M_addTaskPoint {v : gV} (hM : LyM S Ln R m) (hv : M (m + 1) = v) (hI : IvS b v) (hn : 0 ≤ M m 4 ∧ M m 4 ≤ 8) (i : Int) : MA M m (tSt v i) (v 1 + 1) (fun v1 => v1 = stR v i) (fX10_addTaskPoint ad S Ln R M m i) := by
  unfold fX10_addTaskPoint MA
  refine m_act (ad := ad) (t := tSt v i) (rv := v 1 + 1) (P := fun v1 => v1 = stR v i) (f := fun M1 => fX10_tasks ad S Ln R M1 m i) hM hn (fun M1 h1 => ?_)
  obtain ⟨M2, e1, e2, e3, e5⟩ := m_tasks (ad := ad) hM (h1.trans hv) hI i
  exact ⟨M2, e1, e2, fun ht => by rw [e3, if_pos ht], fun ht => by rw [e3, if_neg ht, hv], fun c c0 c1 _ => e5 c c0 c1⟩
theorem P_addTaskPoint {v : gV} (hI : IvS b v) (hZ : IvZ v) (hb : b + 1 ≤ 10000) (i : Int) (ht : tSt v i = 0) : ∀ v1 : gV, (fun v1 => v1 = stR v i) v1 → (fun v1 => v1 = stR v i) v1 ∧ IvS (b + 1) v1 ∧ IvZ v1 := by
  have h8 : (0 ≤ i ∧ i < v 0) ∧ (bI (pln v) = 1 ∧ v 1 ≠ 6) ∧ ¬ (0 < v 1 ∧ apt v (v (22 + v 1)) i = 0) := by
    unfold tSt at ht
    split at ht
    · split at ht
      · split at ht
        · exact absurd ht (by decide)
        · rename_i h1 h2 h3
          exact ⟨h1, h2, h3⟩
      · exact absurd ht (by decide)
    · exact absurd ht (by decide)
  have i6 := hI.1.2.1
  intro v1 h
  subst h
  exact ⟨rfl, (hI.st (bI_1.mp h8.2.1.1) (by have := h8.2.1.2; omega) h8.1 h8.2.2).mono (by omega) hb, hZ.mp (stR_n (by decide) (by omega)) (fun p k p0 k0 k1 => stR_n (by omega) (by omega)) hI.2.2.2.1.1⟩
theorem L_clearTask {v : gV} {n : Int} {w : Int → gV} (hla : Ln a = 1) (hO : LyO S Ln R o π) (hR : RpS M (o + 1) v) (hI : IvS b v) (hZ : IvZ v) (hH : HiO M o π n w b) : LO S Ln R M o a v n w (fun v1 => v1 1 = 0 ∧ ∀ k, k ≠ 1 → ¬ (23 ≤ k ∧ k < 29) → v1 k = v k) (tDr v) (v 1) (fL_clearTask ad S Ln R M o  a) := by
  obtain ⟨h0, h1⟩ := O_clearTask (ad := ad) hO hR hI hZ hH 
  unfold fL_clearTask
  refine ⟨fun ht => ?_, fun ht => ?_⟩
  · obtain ⟨M1, R1, e1, hA⟩ := h0 ht
    refine ⟨M1, R1, ?_, hA⟩
    rw [e1, bd_s, se_l, gd_t (by rw [hla]; decide)]
    rfl
  · rw [h1 ht, bd_s, se_r]
    rw [tDr_r.resolve_left ht]
    rfl
theorem M_clearTask {v : gV} (hM : LyM S Ln R m) (hv : M (m + 1) = v) (hI : IvS b v) (hn : 0 ≤ M m 4 ∧ M m 4 ≤ 8) : MA M m (tDr v) (v 1) (fun v1 => v1 1 = 0 ∧ ∀ k, k ≠ 1 → ¬ (23 ≤ k ∧ k < 29) → v1 k = v k) (fX10_clearTask ad S Ln R M m ) := by
  unfold fX10_clearTask MA
  refine m_act (ad := ad) (t := tDr v) (rv := v 1) (P := fun v1 => v1 1 = 0 ∧ ∀ k, k ≠ 1 → ¬ (23 ≤ k ∧ k < 29) → v1 k = v k) (f := fun M1 => fX10_clears ad S Ln R M1 m ) hM hn (fun M1 h1 => ?_)
  obtain ⟨M2, e1, e2, e3, e4, e5⟩ := m_clears (ad := ad) hM (h1.trans hv) hI
  exact ⟨M2, e1, e2, e3, fun ht => (e4 ht).trans hv.symm, fun c c0 c1 _ => e5 c c0 c1⟩
theorem P_clearTask {v : gV} (hI : IvS b v) (hZ : IvZ v) (hb : b + 1 ≤ 10000) (ht : tDr v = 0) : ∀ v1 : gV, (fun v1 => v1 1 = 0 ∧ ∀ k, k ≠ 1 → ¬ (23 ≤ k ∧ k < 29) → v1 k = v k) v1 → (fun v1 => v1 1 = 0 ∧ ∀ k, k ≠ 1 → ¬ (23 ≤ k ∧ k < 29) → v1 k = v k) v1 ∧ IvS (b + 1) v1 ∧ IvZ v1 := by
  have hp : pln v := by
    have := bI_r (pln v)
    unfold tDr at ht
    exact bI_1.mp (by omega)
  intro v1 h
  exact ⟨h, (hI.dr hp h.1 h.2).mono (by omega) hb, hZ.mp (h.2 4 (by decide) (by decide)) (fun p k p0 k0 k1 => h.2 _ (by omega) (by omega)) hI.2.2.2.1.1⟩
theorem L_addThermal {v : gV} {n : Int} {w : Int → gV} (hla : Ln a = 1) (hO : LyO S Ln R o π) (hR : RpS M (o + 1) v) (hI : IvS b v) (hZ : IvZ v) (hH : HiO M o π n w b) (x y s : Int) : LO S Ln R M o a v n w (fun v1 => v1 = thR v x y s) (tTh v x y s) (v 2 + 1) (fL_addThermal ad S Ln R M o x y s a) := by
  obtain ⟨h0, h1⟩ := O_addThermal (ad := ad) hO hR hI hZ hH x y s
  unfold fL_addThermal
  refine ⟨fun ht => ?_, fun ht => ?_⟩
  · obtain ⟨M1, R1, e1, hA⟩ := h0 ht
    refine ⟨M1, R1, ?_, hA⟩
    rw [e1, bd_s, se_l, gd_t (by rw [hla]; decide)]
    rfl
  · rw [h1 ht, bd_s, se_r]
    rcases tTh_r.resolve_left ht with h | h <;> rw [h] <;> rfl
theorem M_addThermal {v : gV} (hM : LyM S Ln R m) (hv : M (m + 1) = v) (hI : IvS b v) (hn : 0 ≤ M m 4 ∧ M m 4 ≤ 8) (x y s : Int) : MA M m (tTh v x y s) (v 2 + 1) (fun v1 => v1 = thR v x y s) (fX10_addThermal ad S Ln R M m x y s) := by
  unfold fX10_addThermal MA
  refine m_act (ad := ad) (t := tTh v x y s) (rv := v 2 + 1) (P := fun v1 => v1 = thR v x y s) (f := fun M1 => fX10_thermals ad S Ln R M1 m x y s) hM hn (fun M1 h1 => ?_)
  obtain ⟨M2, e1, e2, e3, e5⟩ := m_thermals (ad := ad) hM (h1.trans hv) hI x y s
  exact ⟨M2, e1, e2, fun ht => by rw [e3, if_pos ht], fun ht => by rw [e3, if_neg ht, hv], fun c c0 c1 _ => e5 c c0 c1⟩
theorem P_addThermal {v : gV} (hI : IvS b v) (hZ : IvZ v) (hb : b + 1 ≤ 10000) (x y s : Int) (ht : tTh v x y s = 0) : ∀ v1 : gV, (fun v1 => v1 = thR v x y s) v1 → (fun v1 => v1 = thR v x y s) v1 ∧ IvS (b + 1) v1 ∧ IvZ v1 := by
  have h8 : v 2 < 6 ∧ ((0 ≤ x ∧ x ≤ 60) ∧ 0 ≤ y ∧ y ≤ 60) ∧ 1 ≤ s ∧ s ≤ 5 := by
    have := hI.2.1.1
    unfold tTh at ht
    split at ht
    · split at ht
      · exact absurd ht (by decide)
      · rename_i h1 h2
        exact ⟨by omega, h1⟩
    · exact absurd ht (by decide)
  have i8 := hI.2.1.1
  intro v1 h
  subst h
  exact ⟨rfl, (hI.th h8.1 h8.2.1.1 h8.2.1.2 h8.2.2).mono (by omega) hb, hZ.mp (thR_n (by decide) (by omega) (by omega) (by omega)) (fun p k p0 k0 k1 => thR_n (by omega) (by omega) (by omega) (by omega)) hI.2.2.2.1.1⟩
theorem L_setCloudBase {v : gV} {n : Int} {w : Int → gV} (hla : Ln a = 1) (hO : LyO S Ln R o π) (hR : RpS M (o + 1) v) (hI : IvS b v) (hZ : IvZ v) (hH : HiO M o π n w b) (z : Int) : LO S Ln R M o a v n w (fun v1 => v1 = us v 5 z) (tBa z) (v 5) (fL_setCloudBase ad S Ln R M o z a) := by
  obtain ⟨h0, h1⟩ := O_setCloudBase (ad := ad) hO hR hI hZ hH z
  unfold fL_setCloudBase
  refine ⟨fun ht => ?_, fun ht => ?_⟩
  · obtain ⟨M1, R1, e1, hA⟩ := h0 ht
    refine ⟨M1, R1, ?_, hA⟩
    rw [e1, bd_s, se_l, gd_t (by rw [hla]; decide)]
    rfl
  · rw [h1 ht, bd_s, se_r]
    rw [tBa_r.resolve_left ht]
    rfl
theorem M_setCloudBase {v : gV} (hM : LyM S Ln R m) (hv : M (m + 1) = v) (hI : IvS b v) (hn : 0 ≤ M m 4 ∧ M m 4 ≤ 8) (z : Int) : MA M m (tBa z) (v 5) (fun v1 => v1 = us v 5 z) (fX10_setCloudBase ad S Ln R M m z) := by
  unfold fX10_setCloudBase MA
  refine m_act (ad := ad) (t := tBa z) (rv := v 5) (P := fun v1 => v1 = us v 5 z) (f := fun M1 => fX10_bases ad S Ln R M1 m z) hM hn (fun M1 h1 => ?_)
  obtain ⟨M2, e1, e2, e3, e5⟩ := m_bases (ad := ad) hM (h1.trans hv) z
  exact ⟨M2, e1, e2, fun ht => by rw [e3, if_pos ht], fun ht => by rw [e3, if_neg ht, hv], fun c c0 c1 _ => e5 c c0 c1⟩
theorem P_setCloudBase {v : gV} (hI : IvS b v) (hZ : IvZ v) (hb : b + 1 ≤ 10000) (z : Int) (ht : tBa z = 0) : ∀ v1 : gV, (fun v1 => v1 = us v 5 z) v1 → (fun v1 => v1 = us v 5 z) v1 ∧ IvS (b + 1) v1 ∧ IvZ v1 := by
  have h8 : 500 ≤ z ∧ z ≤ 3000 := by
    unfold tBa at ht
    split at ht
    · assumption
    · exact absurd ht (by decide)
  intro v1 h
  subst h
  exact ⟨rfl, (hI.ba h8).mono (by omega) hb, hZ.mp (us_n (by decide)) (fun p k p0 k0 k1 => us_n (by omega)) hI.2.2.2.1.1⟩
theorem L_addArea {v : gV} {n : Int} {w : Int → gV} (hla : Ln a = 1) (hO : LyO S Ln R o π) (hR : RpS M (o + 1) v) (hI : IvS b v) (hZ : IvZ v) (hH : HiO M o π n w b) (x y X Y : Int) : LO S Ln R M o a v n w (fun v1 => v1 = arR v x y X Y) (tAr v x y X Y) (v 3 + 1) (fL_addArea ad S Ln R M o x y X Y a) := by
  obtain ⟨h0, h1⟩ := O_addArea (ad := ad) hO hR hI hZ hH x y X Y
  unfold fL_addArea
  refine ⟨fun ht => ?_, fun ht => ?_⟩
  · obtain ⟨M1, R1, e1, hA⟩ := h0 ht
    refine ⟨M1, R1, ?_, hA⟩
    rw [e1, bd_s, se_l, gd_t (by rw [hla]; decide)]
    rfl
  · rw [h1 ht, bd_s, se_r]
    rcases tAr_r.resolve_left ht with h | h <;> rw [h] <;> rfl
theorem M_addArea {v : gV} (hM : LyM S Ln R m) (hv : M (m + 1) = v) (hI : IvS b v) (hn : 0 ≤ M m 4 ∧ M m 4 ≤ 8) (x y X Y : Int) : MA M m (tAr v x y X Y) (v 3 + 1) (fun v1 => v1 = arR v x y X Y) (fX10_addArea ad S Ln R M m x y X Y) := by
  unfold fX10_addArea MA
  refine m_act (ad := ad) (t := tAr v x y X Y) (rv := v 3 + 1) (P := fun v1 => v1 = arR v x y X Y) (f := fun M1 => fX10_areas ad S Ln R M1 m x y X Y) hM hn (fun M1 h1 => ?_)
  obtain ⟨M2, e1, e2, e3, e5⟩ := m_areas (ad := ad) hM (h1.trans hv) hI x y X Y
  exact ⟨M2, e1, e2, fun ht => by rw [e3, if_pos ht], fun ht => by rw [e3, if_neg ht, hv], fun c c0 c1 _ => e5 c c0 c1⟩
theorem P_addArea {v : gV} (hI : IvS b v) (hZ : IvZ v) (hb : b + 1 ≤ 10000) (x y X Y : Int) (ht : tAr v x y X Y = 0) : ∀ v1 : gV, (fun v1 => v1 = arR v x y X Y) v1 → (fun v1 => v1 = arR v x y X Y) v1 ∧ IvS (b + 1) v1 ∧ IvZ v1 := by
  have h8 : v 3 < 3 ∧ ((0 ≤ x ∧ x ≤ 60) ∧ 0 ≤ y ∧ y ≤ 60) ∧ (x ≤ X ∧ X ≤ 60) ∧ y ≤ Y ∧ Y ≤ 60 := by
    have := hI.2.2.1.1
    unfold tAr at ht
    split at ht
    · split at ht
      · exact absurd ht (by decide)
      · rename_i h1 h2
        exact ⟨by omega, h1⟩
    · exact absurd ht (by decide)
  have i8 := hI.2.2.1.1
  intro v1 h
  subst h
  exact ⟨rfl, (hI.ar h8.1 ⟨h8.2.1.1.1, h8.2.2.1⟩ ⟨h8.2.1.2.1, h8.2.2.2⟩).mono (by omega) hb, hZ.mp (arR_n (by decide) (by omega) (by omega) (by omega) (by omega)) (fun p k p0 k0 k1 => arR_n (by omega) (by omega) (by omega) (by omega) (by omega)) hI.2.2.2.1.1⟩
theorem L_addPilot {v : gV} {n : Int} {w : Int → gV} (hla : Ln a = 1) (hO : LyO S Ln R o π) (hR : RpS M (o + 1) v) (hI : IvS b v) (hZ : IvZ v) (hH : HiO M o π n w b) (r : Int) : LO S Ln R M o a v n w (fun v1 => v1 = plR v r) (tPl v r) (v 4) (fL_addPilot ad S Ln R M o r a) := by
  obtain ⟨h0, h1⟩ := O_addPilot (ad := ad) hO hR hI hZ hH r
  unfold fL_addPilot
  refine ⟨fun ht => ?_, fun ht => ?_⟩
  · obtain ⟨M1, R1, e1, hA⟩ := h0 ht
    refine ⟨M1, R1, ?_, hA⟩
    rw [e1, bd_s, se_l, gd_t (by rw [hla]; decide)]
    rfl
  · rw [h1 ht, bd_s, se_r]
    rcases tPl_r.resolve_left ht with h | h <;> rw [h] <;> rfl
theorem M_addPilot {v : gV} (hM : LyM S Ln R m) (hv : M (m + 1) = v) (hI : IvS b v) (hn : 0 ≤ M m 4 ∧ M m 4 ≤ 8) (r : Int) : MA M m (tPl v r) (v 4) (fun v1 => v1 = plR v r) (fX10_addPilot ad S Ln R M m r) := by
  unfold fX10_addPilot MA
  refine m_act (ad := ad) (t := tPl v r) (rv := v 4) (P := fun v1 => v1 = plR v r) (f := fun M1 => fX10_pilots ad S Ln R M1 m r) hM hn (fun M1 h1 => ?_)
  obtain ⟨M2, e1, e2, e3, e5⟩ := m_pilots (ad := ad) hM (h1.trans hv) hI r
  exact ⟨M2, e1, e2, fun ht => by rw [e3, if_pos ht], fun ht => by rw [e3, if_neg ht, hv], fun c c0 c1 _ => e5 c c0 c1⟩
theorem P_addPilot {v : gV} (hI : IvS b v) (hZ : IvZ v) (hb : b + 1 ≤ 10000) (r : Int) (ht : tPl v r = 0) : ∀ v1 : gV, (fun v1 => v1 = plR v r) v1 → (fun v1 => v1 = plR v r) v1 ∧ IvS (b + 1) v1 ∧ IvZ v1 := by
  have h8 : (20 ≤ r ∧ r ≤ 60) ∧ v 4 < 6 := by
    have := hI.2.2.2.1
    unfold tPl at ht
    split at ht
    · split at ht
      · exact absurd ht (by decide)
      · rename_i h1 h2
        exact ⟨h1, by omega⟩
    · exact absurd ht (by decide)
  intro v1 h
  subst h
  exact ⟨rfl, (IvS.pl hI hZ h8.2 h8.1).mono (by omega) hb, hZ.pl hI.2.2.2.1.1⟩
theorem L_launch {v : gV} {n : Int} {w : Int → gV} (hla : Ln a = 1) (hO : LyO S Ln R o π) (hR : RpS M (o + 1) v) (hI : IvS b v) (hZ : IvZ v) (hH : HiO M o π n w b) (p : Int) : LO S Ln R M o a v n w (fun v1 => v1 = sU v p (toU (gl v p) (v (7 + 2 * v 23)) (v (8 + 2 * v 23)))) (tLaunch v p) (inP (sU v p (toU (gl v p) (v (7 + 2 * v 23)) (v (8 + 2 * v 23)))) 1 (v 4).toNat) (fL_launch ad S Ln R M o p a) := by
  obtain ⟨h0, h1⟩ := O_launch (ad := ad) hO hR hI hZ hH p
  unfold fL_launch
  refine ⟨fun ht => ?_, fun ht => ?_⟩
  · obtain ⟨M1, R1, e1, hA⟩ := h0 ht
    refine ⟨M1, R1, ?_, hA⟩
    rw [e1, bd_s, se_l, gd_t (by rw [hla]; decide)]
    rfl
  · rw [h1 ht, bd_s, se_r]
    rcases tLaunch_r.resolve_left ht with h | h | h <;> rw [h] <;> rfl
theorem M_launch {v : gV} (hM : LyM S Ln R m) (hv : M (m + 1) = v) (hI : IvS b v) (hn : 0 ≤ M m 4 ∧ M m 4 ≤ 8) (p : Int) : MA M m (tLaunch v p) (inP (sU v p (toU (gl v p) (v (7 + 2 * v 23)) (v (8 + 2 * v 23)))) 1 (v 4).toNat) (fun v1 => v1 = sU v p (toU (gl v p) (v (7 + 2 * v 23)) (v (8 + 2 * v 23)))) (fX10_launch ad S Ln R M m p) := by
  unfold fX10_launch MA
  refine m_act (ad := ad) (t := tLaunch v p) (rv := inP (sU v p (toU (gl v p) (v (7 + 2 * v 23)) (v (8 + 2 * v 23)))) 1 (v 4).toNat) (P := fun v1 => v1 = sU v p (toU (gl v p) (v (7 + 2 * v 23)) (v (8 + 2 * v 23)))) (f := fun M1 => fX10_launches ad S Ln R M1 m p) hM hn (fun M1 h1 => ?_)
  obtain ⟨M2, e1, e2, e3, e5⟩ := m_launches (ad := ad) (p := p) hM (h1.trans hv) hI
  exact ⟨M2, e1, e2, fun ht => by rw [e3, if_pos ht], fun ht => by rw [e3, if_neg ht, hv], fun c c0 c1 _ => e5 c c0 c1⟩
theorem P_launch {v : gV} (hI : IvS b v) (hZ : IvZ v) (hb : b + 1 ≤ 10000) (p : Int) (ht : tLaunch v p = 0) : ∀ v1 : gV, (fun v1 => v1 = sU v p (toU (gl v p) (v (7 + 2 * v 23)) (v (8 + 2 * v 23)))) v1 → (fun v1 => v1 = sU v p (toU (gl v p) (v (7 + 2 * v 23)) (v (8 + 2 * v 23)))) v1 ∧ IvS (b + 1) v1 ∧ IvZ v1 := by
  have h8 : 0 ≤ p ∧ p < v 4 := by
    unfold tLaunch at ht
    split at ht
    · assumption
    · exact absurd ht (by decide)
  intro v1 h
  subst h
  exact ⟨rfl, (hI.launch ht).mono (by omega) hb, hZ.sU h8.1 h8.2⟩
theorem L_fly {v : gV} {n : Int} {w : Int → gV} (hla : Ln a = 1) (hO : LyO S Ln R o π) (hR : RpS M (o + 1) v) (hI : IvS b v) (hZ : IvZ v) (hH : HiO M o π n w b) (p d k : Int) : LO S Ln R M o a v n w (fun v1 => v1 = sU v p (kmN v (gl v p) d k.toNat)) (tFly v p d k) (kmC v (gl v p) d k.toNat) (fL_fly ad S Ln R M o p d k a) := by
  obtain ⟨h0, h1⟩ := O_fly (ad := ad) hO hR hI hZ hH p d k
  unfold fL_fly
  refine ⟨fun ht => ?_, fun ht => ?_⟩
  · obtain ⟨M1, R1, e1, hA⟩ := h0 ht
    refine ⟨M1, R1, ?_, hA⟩
    rw [e1, bd_s, se_l, gd_t (by rw [hla]; decide)]
    rfl
  · rw [h1 ht, bd_s, se_r]
    rcases tFly_r.resolve_left ht with h | h | h | h <;> rw [h] <;> rfl
theorem M_fly {v : gV} (hM : LyM S Ln R m) (hv : M (m + 1) = v) (hI : IvS b v) (hn : 0 ≤ M m 4 ∧ M m 4 ≤ 8) (p d k : Int) : MA M m (tFly v p d k) (kmC v (gl v p) d k.toNat) (fun v1 => v1 = sU v p (kmN v (gl v p) d k.toNat)) (fX10_fly ad S Ln R M m p d k) := by
  unfold fX10_fly MA
  refine m_act (ad := ad) (t := tFly v p d k) (rv := kmC v (gl v p) d k.toNat) (P := fun v1 => v1 = sU v p (kmN v (gl v p) d k.toNat)) (f := fun M1 => fX10_flies ad S Ln R M1 m p d k) hM hn (fun M1 h1 => ?_)
  obtain ⟨M2, e1, e2, e3, e5⟩ := m_flies (ad := ad) (p := p) hM (h1.trans hv) hI d k
  exact ⟨M2, e1, e2, fun ht => by rw [e3, if_pos ht], fun ht => by rw [e3, if_neg ht, hv], fun c c0 c1 _ => e5 c c0 c1⟩
theorem P_fly {v : gV} (hI : IvS b v) (hZ : IvZ v) (hb : b + 1 ≤ 10000) (p d k : Int) (ht : tFly v p d k = 0) : ∀ v1 : gV, (fun v1 => v1 = sU v p (kmN v (gl v p) d k.toNat)) v1 → (fun v1 => v1 = sU v p (kmN v (gl v p) d k.toNat)) v1 ∧ IvS (b + 1) v1 ∧ IvZ v1 := by
  have h8 := (tFly_0 ht).1
  intro v1 h
  subst h
  exact ⟨rfl, hI.fly hb ht, hZ.sU h8.1 h8.2⟩
theorem L_climb {v : gV} {n : Int} {w : Int → gV} (hla : Ln a = 1) (hO : LyO S Ln R o π) (hR : RpS M (o + 1) v) (hI : IvS b v) (hZ : IvZ v) (hH : HiO M o π n w b) (p k : Int) : LO S Ln R M o a v n w (fun v1 => v1 = sU v p (rsH (gl v p) (str v (gl v p 2) (gl v p 3) (v 2).toNat) k (v 5))) (tClimb v p k) (rsH (gl v p) (str v (gl v p 2) (gl v p 3) (v 2).toNat) k (v 5) 4) (fL_climb ad S Ln R M o p k a) := by
  obtain ⟨h0, h1⟩ := O_climb (ad := ad) hO hR hI hZ hH p k
  unfold fL_climb
  refine ⟨fun ht => ?_, fun ht => ?_⟩
  · obtain ⟨M1, R1, e1, hA⟩ := h0 ht
    refine ⟨M1, R1, ?_, hA⟩
    rw [e1, bd_s, se_l, gd_t (by rw [hla]; decide)]
    rfl
  · rw [h1 ht, bd_s, se_r]
    rcases tClimb_r.resolve_left ht with h | h | h | h <;> rw [h] <;> rfl
theorem M_climb {v : gV} (hM : LyM S Ln R m) (hv : M (m + 1) = v) (hI : IvS b v) (hn : 0 ≤ M m 4 ∧ M m 4 ≤ 8) (p k : Int) : MA M m (tClimb v p k) (rsH (gl v p) (str v (gl v p 2) (gl v p 3) (v 2).toNat) k (v 5) 4) (fun v1 => v1 = sU v p (rsH (gl v p) (str v (gl v p 2) (gl v p 3) (v 2).toNat) k (v 5))) (fX10_climb ad S Ln R M m p k) := by
  unfold fX10_climb MA
  refine m_act (ad := ad) (t := tClimb v p k) (rv := rsH (gl v p) (str v (gl v p 2) (gl v p 3) (v 2).toNat) k (v 5) 4) (P := fun v1 => v1 = sU v p (rsH (gl v p) (str v (gl v p 2) (gl v p 3) (v 2).toNat) k (v 5))) (f := fun M1 => fX10_climbs ad S Ln R M1 m p k) hM hn (fun M1 h1 => ?_)
  obtain ⟨M2, e1, e2, e3, e5⟩ := m_climbs (ad := ad) (p := p) hM (h1.trans hv) hI k
  exact ⟨M2, e1, e2, fun ht => by rw [e3, if_pos ht], fun ht => by rw [e3, if_neg ht, hv], fun c c0 c1 _ => e5 c c0 c1⟩
theorem P_climb {v : gV} (hI : IvS b v) (hZ : IvZ v) (hb : b + 1 ≤ 10000) (p k : Int) (ht : tClimb v p k = 0) : ∀ v1 : gV, (fun v1 => v1 = sU v p (rsH (gl v p) (str v (gl v p 2) (gl v p 3) (v 2).toNat) k (v 5))) v1 → (fun v1 => v1 = sU v p (rsH (gl v p) (str v (gl v p 2) (gl v p 3) (v 2).toNat) k (v 5))) v1 ∧ IvS (b + 1) v1 ∧ IvZ v1 := by
  have h8 := (tClimb_0 ht).1
  intro v1 h
  subst h
  exact ⟨rfl, hI.climb hb ht, hZ.sU h8.1 h8.2⟩
theorem L_endDay {v : gV} {n : Int} {w : Int → gV} (hla : Ln a = 1) (hO : LyO S Ln R o π) (hR : RpS M (o + 1) v) (hI : IvS b v) (hZ : IvZ v) (hH : HiO M o π n w b) (hb : b + 1 ≤ 10000) : LO S Ln R M o a v n w (fun v1 => mE v v1 ∧ v1 4 = v 4 ∧ v1 6 = v 6 + 1 ∧ ∀ p k : Int, 0 ≤ p → p < v 4 → 0 ≤ k → k < 9 → gl v1 p k = clU v p k) (tEnd v) (inP v 3 (v 4).toNat) (fL_endDay ad S Ln R M o  a) := by
  obtain ⟨h0, h1⟩ := O_endDay (ad := ad) hO hR hI hZ hH hb 
  unfold fL_endDay
  refine ⟨fun ht => ?_, fun ht => ?_⟩
  · obtain ⟨M1, R1, e1, hA⟩ := h0 ht
    refine ⟨M1, R1, ?_, hA⟩
    rw [e1, bd_s, se_l, gd_t (by rw [hla]; decide)]
    rfl
  · rw [h1 ht, bd_s, se_r]
    rw [tEnd_r.resolve_left ht]
    rfl
theorem M_endDay {v : gV} (hM : LyM S Ln R m) (hv : M (m + 1) = v) (hI : IvS b v) (hn : 0 ≤ M m 4 ∧ M m 4 ≤ 8) : MA M m (tEnd v) (inP v 3 (v 4).toNat) (fun v1 => mE v v1 ∧ v1 4 = v 4 ∧ v1 6 = v 6 + 1 ∧ ∀ p k : Int, 0 ≤ p → 0 ≤ k → k < 9 → gl v1 p k = if p < v 4 then clU v p k else gl v p k) (fX10_endDay ad S Ln R M m ) := by
  unfold fX10_endDay MA
  refine m_act (ad := ad) (t := tEnd v) (rv := inP v 3 (v 4).toNat) (P := fun v1 => mE v v1 ∧ v1 4 = v 4 ∧ v1 6 = v 6 + 1 ∧ ∀ p k : Int, 0 ≤ p → 0 ≤ k → k < 9 → gl v1 p k = if p < v 4 then clU v p k else gl v p k) (f := fun M1 => fX10_finishes ad S Ln R M1 m ) hM hn (fun M1 h1 => ?_)
  obtain ⟨M2, e1, e2, e3, e4, e5⟩ := m_finishes (ad := ad) hM (h1.trans hv) hI
  exact ⟨M2, e1, e2, e3, fun ht => (e4 ht).trans hv.symm, e5⟩
theorem P_endDay {v : gV} (hI : IvS b v) (hZ : IvZ v) (hb : b + 1 ≤ 10000) (ht : tEnd v = 0) : ∀ v1 : gV, (fun v1 => mE v v1 ∧ v1 4 = v 4 ∧ v1 6 = v 6 + 1 ∧ ∀ p k : Int, 0 ≤ p → 0 ≤ k → k < 9 → gl v1 p k = if p < v 4 then clU v p k else gl v p k) v1 → (fun v1 => mE v v1 ∧ v1 4 = v 4 ∧ v1 6 = v 6 + 1 ∧ ∀ p k : Int, 0 ≤ p → p < v 4 → 0 ≤ k → k < 9 → gl v1 p k = clU v p k) v1 ∧ IvS (b + 1) v1 ∧ IvZ v1 := by
  intro v1 h
  have hg : ∀ p k : Int, 0 ≤ p → p < v 4 → 0 ≤ k → k < 9 → gl v1 p k = clU v p k := fun p k p0 p1 k0 k1 => by rw [h.2.2.2 p k p0 k0 k1, if_pos p1]
  refine ⟨⟨h.1, h.2.1, h.2.2.1, hg⟩, hI.close hb h.1 h.2.1 h.2.2.1 hg, fun p k p0 p1 k0 k1 => ?_⟩
  have h4 := hI.2.2.2.1
  rw [h.2.1] at p0
  rw [h.2.2.2 p k (by omega) k0 k1, if_neg (by omega)]
  exact hZ p k p0 p1 k0 k1
theorem k_c0 (hY : HY S Ln R M e o m a π b) {sz : Nat} {i0 : Int} (hi : 0 ≤ i0 ∧ i0 + 5 ≤ (Ln e : Int) ∧ (Ln e : Int) ≤ 1000000) : ∃ M' R', fL_c0 ad sz S Ln R M e o m a (a + 1) i0 = some (.inl (w32 (i0 + 5), S, Ln, M', R')) ∧ OKS S Ln R M o m a b R' M' := by
  have hY9 := hY
  obtain ⟨hO, hM, hd, hla, he, hN, hb⟩ := hY
  obtain ⟨n1, n2, n3, n4, n5, n6, n7⟩ := hN
  have hH : HiO M o π (M m 4) (pW M m) b := ⟨⟨n3, fun q q0 q1 => (n5 q q0 q1).1⟩, n4, fun q q0 q1 => (n5 q q0 q1).2⟩
  have g1 : (0 : Int) ≤ w32 (i0 + 1) ∧ w32 (i0 + 1) < (Ln e : Int) := by rw [w32_i (by omega) (by omega)]; omega
  have g2 : (0 : Int) ≤ w32 (i0 + 2) ∧ w32 (i0 + 2) < (Ln e : Int) := by rw [w32_i (by omega) (by omega)]; omega
  unfold fL_c0
  simp only [gd_t g1, gd_t g2]
  obtain ⟨M', R', e1, e2⟩ := act_case (ad := ad) (e := e) (g := fun M1 R1 => fX10_addPoint ad S Ln R1 M1 m (M1 e (w32 (i0 + 1))) (M1 e (w32 (i0 + 2)))) (B := fun M4 R4 => fL_c0_B341 ad S Ln R4 M4 e o m a (a + 1) i0) hY9
    (L_addPoint (ad := ad) hla.1 hO n1 n2.1 n2.2 hH (M e (w32 (i0 + 1))) (M e (w32 (i0 + 2))))
    (fun M1 R1 l1 l2 l3 l4 => by rw [l4]; exact M_addPoint l1 l2 n2.1 (by rw [l3]; exact n4) (M e (w32 (i0 + 1))) (M e (w32 (i0 + 2))))
    (fun ht => P_addPoint n2.1 n2.2 hb (M e (w32 (i0 + 1))) (M e (w32 (i0 + 2))) ht)
  exact ⟨M', R', e1, e2⟩
theorem k_c1 (hY : HY S Ln R M e o m a π b) {sz : Nat} {i0 : Int} (hi : 0 ≤ i0 ∧ i0 + 5 ≤ (Ln e : Int) ∧ (Ln e : Int) ≤ 1000000) : ∃ M' R', fL_c1 ad sz S Ln R M e o m a (a + 1) i0 = some (.inl (w32 (i0 + 5), S, Ln, M', R')) ∧ OKS S Ln R M o m a b R' M' := by
  have hY9 := hY
  obtain ⟨hO, hM, hd, hla, he, hN, hb⟩ := hY
  obtain ⟨n1, n2, n3, n4, n5, n6, n7⟩ := hN
  have hH : HiO M o π (M m 4) (pW M m) b := ⟨⟨n3, fun q q0 q1 => (n5 q q0 q1).1⟩, n4, fun q q0 q1 => (n5 q q0 q1).2⟩
  have g1 : (0 : Int) ≤ w32 (i0 + 1) ∧ w32 (i0 + 1) < (Ln e : Int) := by rw [w32_i (by omega) (by omega)]; omega
  unfold fL_c1
  simp only [gd_t g1]
  obtain ⟨M', R', e1, e2⟩ := act_case (ad := ad) (e := e) (g := fun M1 R1 => fX10_addTaskPoint ad S Ln R1 M1 m (M1 e (w32 (i0 + 1)))) (B := fun M4 R4 => fL_c1_B397 ad S Ln R4 M4 e o m a (a + 1) i0) hY9
    (L_addTaskPoint (ad := ad) hla.1 hO n1 n2.1 n2.2 hH (M e (w32 (i0 + 1))))
    (fun M1 R1 l1 l2 l3 l4 => by rw [l4]; exact M_addTaskPoint l1 l2 n2.1 (by rw [l3]; exact n4) (M e (w32 (i0 + 1))))
    (fun ht => P_addTaskPoint n2.1 n2.2 hb (M e (w32 (i0 + 1))) ht)
  exact ⟨M', R', e1, e2⟩
theorem k_c2 (hY : HY S Ln R M e o m a π b) {sz : Nat} {i0 : Int} (hi : 0 ≤ i0 ∧ i0 + 5 ≤ (Ln e : Int) ∧ (Ln e : Int) ≤ 1000000) : ∃ M' R', fL_c2 ad sz S Ln R M e o m a (a + 1) i0 = some (.inl (w32 (i0 + 5), S, Ln, M', R')) ∧ OKS S Ln R M o m a b R' M' := by
  have hY9 := hY
  obtain ⟨hO, hM, hd, hla, he, hN, hb⟩ := hY
  obtain ⟨n1, n2, n3, n4, n5, n6, n7⟩ := hN
  have hH : HiO M o π (M m 4) (pW M m) b := ⟨⟨n3, fun q q0 q1 => (n5 q q0 q1).1⟩, n4, fun q q0 q1 => (n5 q q0 q1).2⟩
  unfold fL_c2
  obtain ⟨M', R', e1, e2⟩ := act_case (ad := ad) (e := e) (g := fun M1 R1 => fX10_clearTask ad S Ln R1 M1 m) (B := fun M4 R4 => fL_c2_B441 ad S Ln R4 M4 e o m a (a + 1) i0) hY9
    (L_clearTask (ad := ad) hla.1 hO n1 n2.1 n2.2 hH)
    (fun M1 R1 l1 l2 l3 l4 => M_clearTask l1 l2 n2.1 (by rw [l3]; exact n4))
    (fun ht => P_clearTask n2.1 n2.2 hb ht)
  exact ⟨M', R', e1, e2⟩
theorem k_c3 (hY : HY S Ln R M e o m a π b) {sz : Nat} {i0 : Int} (hi : 0 ≤ i0 ∧ i0 + 5 ≤ (Ln e : Int) ∧ (Ln e : Int) ≤ 1000000) : ∃ M' R', fL_c3 ad sz S Ln R M e o m a (a + 1) i0 = some (.inl (w32 (i0 + 5), S, Ln, M', R')) ∧ OKS S Ln R M o m a b R' M' := by
  have hY9 := hY
  obtain ⟨hO, hM, hd, hla, he, hN, hb⟩ := hY
  obtain ⟨n1, n2, n3, n4, n5, n6, n7⟩ := hN
  have hH : HiO M o π (M m 4) (pW M m) b := ⟨⟨n3, fun q q0 q1 => (n5 q q0 q1).1⟩, n4, fun q q0 q1 => (n5 q q0 q1).2⟩
  have g1 : (0 : Int) ≤ w32 (i0 + 1) ∧ w32 (i0 + 1) < (Ln e : Int) := by rw [w32_i (by omega) (by omega)]; omega
  have g2 : (0 : Int) ≤ w32 (i0 + 2) ∧ w32 (i0 + 2) < (Ln e : Int) := by rw [w32_i (by omega) (by omega)]; omega
  have g3 : (0 : Int) ≤ w32 (i0 + 3) ∧ w32 (i0 + 3) < (Ln e : Int) := by rw [w32_i (by omega) (by omega)]; omega
  unfold fL_c3
  simp only [gd_t g1, gd_t g2, gd_t g3]
  obtain ⟨M', R', e1, e2⟩ := act_case (ad := ad) (e := e) (g := fun M1 R1 => fX10_addThermal ad S Ln R1 M1 m (M1 e (w32 (i0 + 1))) (M1 e (w32 (i0 + 2))) (M1 e (w32 (i0 + 3)))) (B := fun M4 R4 => fL_c3_B521 ad S Ln R4 M4 e o m a (a + 1) i0) hY9
    (L_addThermal (ad := ad) hla.1 hO n1 n2.1 n2.2 hH (M e (w32 (i0 + 1))) (M e (w32 (i0 + 2))) (M e (w32 (i0 + 3))))
    (fun M1 R1 l1 l2 l3 l4 => by rw [l4]; exact M_addThermal l1 l2 n2.1 (by rw [l3]; exact n4) (M e (w32 (i0 + 1))) (M e (w32 (i0 + 2))) (M e (w32 (i0 + 3))))
    (fun ht => P_addThermal n2.1 n2.2 hb (M e (w32 (i0 + 1))) (M e (w32 (i0 + 2))) (M e (w32 (i0 + 3))) ht)
  exact ⟨M', R', e1, e2⟩
theorem k_c4 (hY : HY S Ln R M e o m a π b) {sz : Nat} {i0 : Int} (hi : 0 ≤ i0 ∧ i0 + 5 ≤ (Ln e : Int) ∧ (Ln e : Int) ≤ 1000000) : ∃ M' R', fL_c4 ad sz S Ln R M e o m a (a + 1) i0 = some (.inl (w32 (i0 + 5), S, Ln, M', R')) ∧ OKS S Ln R M o m a b R' M' := by
  have hY9 := hY
  obtain ⟨hO, hM, hd, hla, he, hN, hb⟩ := hY
  obtain ⟨n1, n2, n3, n4, n5, n6, n7⟩ := hN
  have hH : HiO M o π (M m 4) (pW M m) b := ⟨⟨n3, fun q q0 q1 => (n5 q q0 q1).1⟩, n4, fun q q0 q1 => (n5 q q0 q1).2⟩
  have g1 : (0 : Int) ≤ w32 (i0 + 1) ∧ w32 (i0 + 1) < (Ln e : Int) := by rw [w32_i (by omega) (by omega)]; omega
  unfold fL_c4
  simp only [gd_t g1]
  obtain ⟨M', R', e1, e2⟩ := act_case (ad := ad) (e := e) (g := fun M1 R1 => fX10_setCloudBase ad S Ln R1 M1 m (M1 e (w32 (i0 + 1)))) (B := fun M4 R4 => fL_c4_B577 ad S Ln R4 M4 e o m a (a + 1) i0) hY9
    (L_setCloudBase (ad := ad) hla.1 hO n1 n2.1 n2.2 hH (M e (w32 (i0 + 1))))
    (fun M1 R1 l1 l2 l3 l4 => by rw [l4]; exact M_setCloudBase l1 l2 n2.1 (by rw [l3]; exact n4) (M e (w32 (i0 + 1))))
    (fun ht => P_setCloudBase n2.1 n2.2 hb (M e (w32 (i0 + 1))) ht)
  exact ⟨M', R', e1, e2⟩
theorem k_c5 (hY : HY S Ln R M e o m a π b) {sz : Nat} {i0 : Int} (hi : 0 ≤ i0 ∧ i0 + 5 ≤ (Ln e : Int) ∧ (Ln e : Int) ≤ 1000000) : ∃ M' R', fL_c5 ad sz S Ln R M e o m a (a + 1) i0 = some (.inl (w32 (i0 + 5), S, Ln, M', R')) ∧ OKS S Ln R M o m a b R' M' := by
  have hY9 := hY
  obtain ⟨hO, hM, hd, hla, he, hN, hb⟩ := hY
  obtain ⟨n1, n2, n3, n4, n5, n6, n7⟩ := hN
  have hH : HiO M o π (M m 4) (pW M m) b := ⟨⟨n3, fun q q0 q1 => (n5 q q0 q1).1⟩, n4, fun q q0 q1 => (n5 q q0 q1).2⟩
  have g1 : (0 : Int) ≤ w32 (i0 + 1) ∧ w32 (i0 + 1) < (Ln e : Int) := by rw [w32_i (by omega) (by omega)]; omega
  have g2 : (0 : Int) ≤ w32 (i0 + 2) ∧ w32 (i0 + 2) < (Ln e : Int) := by rw [w32_i (by omega) (by omega)]; omega
  have g3 : (0 : Int) ≤ w32 (i0 + 3) ∧ w32 (i0 + 3) < (Ln e : Int) := by rw [w32_i (by omega) (by omega)]; omega
  have g4 : (0 : Int) ≤ w32 (i0 + 4) ∧ w32 (i0 + 4) < (Ln e : Int) := by rw [w32_i (by omega) (by omega)]; omega
  unfold fL_c5
  simp only [gd_t g1, gd_t g2, gd_t g3, gd_t g4]
  obtain ⟨M', R', e1, e2⟩ := act_case (ad := ad) (e := e) (g := fun M1 R1 => fX10_addArea ad S Ln R1 M1 m (M1 e (w32 (i0 + 1))) (M1 e (w32 (i0 + 2))) (M1 e (w32 (i0 + 3))) (M1 e (w32 (i0 + 4)))) (B := fun M4 R4 => fL_c5_B669 ad S Ln R4 M4 e o m a (a + 1) i0) hY9
    (L_addArea (ad := ad) hla.1 hO n1 n2.1 n2.2 hH (M e (w32 (i0 + 1))) (M e (w32 (i0 + 2))) (M e (w32 (i0 + 3))) (M e (w32 (i0 + 4))))
    (fun M1 R1 l1 l2 l3 l4 => by rw [l4]; exact M_addArea l1 l2 n2.1 (by rw [l3]; exact n4) (M e (w32 (i0 + 1))) (M e (w32 (i0 + 2))) (M e (w32 (i0 + 3))) (M e (w32 (i0 + 4))))
    (fun ht => P_addArea n2.1 n2.2 hb (M e (w32 (i0 + 1))) (M e (w32 (i0 + 2))) (M e (w32 (i0 + 3))) (M e (w32 (i0 + 4))) ht)
  exact ⟨M', R', e1, e2⟩
theorem k_c6 (hY : HY S Ln R M e o m a π b) {sz : Nat} {i0 : Int} (hi : 0 ≤ i0 ∧ i0 + 5 ≤ (Ln e : Int) ∧ (Ln e : Int) ≤ 1000000) : ∃ M' R', fL_c6 ad sz S Ln R M e o m a (a + 1) i0 = some (.inl (w32 (i0 + 5), S, Ln, M', R')) ∧ OKS S Ln R M o m a b R' M' := by
  have hY9 := hY
  obtain ⟨hO, hM, hd, hla, he, hN, hb⟩ := hY
  obtain ⟨n1, n2, n3, n4, n5, n6, n7⟩ := hN
  have hH : HiO M o π (M m 4) (pW M m) b := ⟨⟨n3, fun q q0 q1 => (n5 q q0 q1).1⟩, n4, fun q q0 q1 => (n5 q q0 q1).2⟩
  have g1 : (0 : Int) ≤ w32 (i0 + 1) ∧ w32 (i0 + 1) < (Ln e : Int) := by rw [w32_i (by omega) (by omega)]; omega
  unfold fL_c6
  simp only [gd_t g1]
  obtain ⟨M', R', e1, e2⟩ := act_case (ad := ad) (e := e) (g := fun M1 R1 => fX10_addPilot ad S Ln R1 M1 m (M1 e (w32 (i0 + 1)))) (B := fun M4 R4 => fL_c6_B725 ad S Ln R4 M4 e o m a (a + 1) i0) hY9
    (L_addPilot (ad := ad) hla.1 hO n1 n2.1 n2.2 hH (M e (w32 (i0 + 1))))
    (fun M1 R1 l1 l2 l3 l4 => by rw [l4]; exact M_addPilot l1 l2 n2.1 (by rw [l3]; exact n4) (M e (w32 (i0 + 1))))
    (fun ht => P_addPilot n2.1 n2.2 hb (M e (w32 (i0 + 1))) ht)
  exact ⟨M', R', e1, e2⟩
theorem k_c7 (hY : HY S Ln R M e o m a π b) {sz : Nat} {i0 : Int} (hi : 0 ≤ i0 ∧ i0 + 5 ≤ (Ln e : Int) ∧ (Ln e : Int) ≤ 1000000) : ∃ M' R', fL_c7 ad sz S Ln R M e o m a (a + 1) i0 = some (.inl (w32 (i0 + 5), S, Ln, M', R')) ∧ OKS S Ln R M o m a b R' M' := by
  have hY9 := hY
  obtain ⟨hO, hM, hd, hla, he, hN, hb⟩ := hY
  obtain ⟨n1, n2, n3, n4, n5, n6, n7⟩ := hN
  have hH : HiO M o π (M m 4) (pW M m) b := ⟨⟨n3, fun q q0 q1 => (n5 q q0 q1).1⟩, n4, fun q q0 q1 => (n5 q q0 q1).2⟩
  have g1 : (0 : Int) ≤ w32 (i0 + 1) ∧ w32 (i0 + 1) < (Ln e : Int) := by rw [w32_i (by omega) (by omega)]; omega
  unfold fL_c7
  simp only [gd_t g1]
  obtain ⟨M', R', e1, e2⟩ := act_case (ad := ad) (e := e) (g := fun M1 R1 => fX10_launch ad S Ln R1 M1 m (M1 e (w32 (i0 + 1)))) (B := fun M4 R4 => fL_c7_B781 ad S Ln R4 M4 e o m a (a + 1) i0) hY9
    (L_launch (ad := ad) hla.1 hO n1 n2.1 n2.2 hH (M e (w32 (i0 + 1))))
    (fun M1 R1 l1 l2 l3 l4 => by rw [l4]; exact M_launch l1 l2 n2.1 (by rw [l3]; exact n4) (M e (w32 (i0 + 1))))
    (fun ht => P_launch n2.1 n2.2 hb (M e (w32 (i0 + 1))) ht)
  exact ⟨M', R', e1, e2⟩
theorem k_c8 (hY : HY S Ln R M e o m a π b) {sz : Nat} {i0 : Int} (hi : 0 ≤ i0 ∧ i0 + 5 ≤ (Ln e : Int) ∧ (Ln e : Int) ≤ 1000000) : ∃ M' R', fL_c8 ad sz S Ln R M e o m a (a + 1) i0 = some (.inl (w32 (i0 + 5), S, Ln, M', R')) ∧ OKS S Ln R M o m a b R' M' := by
  have hY9 := hY
  obtain ⟨hO, hM, hd, hla, he, hN, hb⟩ := hY
  obtain ⟨n1, n2, n3, n4, n5, n6, n7⟩ := hN
  have hH : HiO M o π (M m 4) (pW M m) b := ⟨⟨n3, fun q q0 q1 => (n5 q q0 q1).1⟩, n4, fun q q0 q1 => (n5 q q0 q1).2⟩
  have g1 : (0 : Int) ≤ w32 (i0 + 1) ∧ w32 (i0 + 1) < (Ln e : Int) := by rw [w32_i (by omega) (by omega)]; omega
  have g2 : (0 : Int) ≤ w32 (i0 + 2) ∧ w32 (i0 + 2) < (Ln e : Int) := by rw [w32_i (by omega) (by omega)]; omega
  have g3 : (0 : Int) ≤ w32 (i0 + 3) ∧ w32 (i0 + 3) < (Ln e : Int) := by rw [w32_i (by omega) (by omega)]; omega
  unfold fL_c8
  simp only [gd_t g1, gd_t g2, gd_t g3]
  obtain ⟨M', R', e1, e2⟩ := act_case (ad := ad) (e := e) (g := fun M1 R1 => fX10_fly ad S Ln R1 M1 m (M1 e (w32 (i0 + 1))) (M1 e (w32 (i0 + 2))) (M1 e (w32 (i0 + 3)))) (B := fun M4 R4 => fL_c8_B861 ad S Ln R4 M4 e o m a (a + 1) i0) hY9
    (L_fly (ad := ad) hla.1 hO n1 n2.1 n2.2 hH (M e (w32 (i0 + 1))) (M e (w32 (i0 + 2))) (M e (w32 (i0 + 3))))
    (fun M1 R1 l1 l2 l3 l4 => by rw [l4]; exact M_fly l1 l2 n2.1 (by rw [l3]; exact n4) (M e (w32 (i0 + 1))) (M e (w32 (i0 + 2))) (M e (w32 (i0 + 3))))
    (fun ht => P_fly n2.1 n2.2 hb (M e (w32 (i0 + 1))) (M e (w32 (i0 + 2))) (M e (w32 (i0 + 3))) ht)
  exact ⟨M', R', e1, e2⟩
theorem k_c9 (hY : HY S Ln R M e o m a π b) {sz : Nat} {i0 : Int} (hi : 0 ≤ i0 ∧ i0 + 5 ≤ (Ln e : Int) ∧ (Ln e : Int) ≤ 1000000) : ∃ M' R', fL_c9 ad sz S Ln R M e o m a (a + 1) i0 = some (.inl (w32 (i0 + 5), S, Ln, M', R')) ∧ OKS S Ln R M o m a b R' M' := by
  have hY9 := hY
  obtain ⟨hO, hM, hd, hla, he, hN, hb⟩ := hY
  obtain ⟨n1, n2, n3, n4, n5, n6, n7⟩ := hN
  have hH : HiO M o π (M m 4) (pW M m) b := ⟨⟨n3, fun q q0 q1 => (n5 q q0 q1).1⟩, n4, fun q q0 q1 => (n5 q q0 q1).2⟩
  have g1 : (0 : Int) ≤ w32 (i0 + 1) ∧ w32 (i0 + 1) < (Ln e : Int) := by rw [w32_i (by omega) (by omega)]; omega
  have g2 : (0 : Int) ≤ w32 (i0 + 2) ∧ w32 (i0 + 2) < (Ln e : Int) := by rw [w32_i (by omega) (by omega)]; omega
  unfold fL_c9
  simp only [gd_t g1, gd_t g2]
  obtain ⟨M', R', e1, e2⟩ := act_case (ad := ad) (e := e) (g := fun M1 R1 => fX10_climb ad S Ln R1 M1 m (M1 e (w32 (i0 + 1))) (M1 e (w32 (i0 + 2)))) (B := fun M4 R4 => fL_c9_B929 ad S Ln R4 M4 e o m a (a + 1) i0) hY9
    (L_climb (ad := ad) hla.1 hO n1 n2.1 n2.2 hH (M e (w32 (i0 + 1))) (M e (w32 (i0 + 2))))
    (fun M1 R1 l1 l2 l3 l4 => by rw [l4]; exact M_climb l1 l2 n2.1 (by rw [l3]; exact n4) (M e (w32 (i0 + 1))) (M e (w32 (i0 + 2))))
    (fun ht => P_climb n2.1 n2.2 hb (M e (w32 (i0 + 1))) (M e (w32 (i0 + 2))) ht)
  exact ⟨M', R', e1, e2⟩
theorem k_c10 (hY : HY S Ln R M e o m a π b) {sz : Nat} {i0 : Int} (hi : 0 ≤ i0 ∧ i0 + 5 ≤ (Ln e : Int) ∧ (Ln e : Int) ≤ 1000000) : ∃ M' R', fL_c10 ad sz S Ln R M e o m a (a + 1) i0 = some (.inl (w32 (i0 + 5), S, Ln, M', R')) ∧ OKS S Ln R M o m a b R' M' := by
  have hY9 := hY
  obtain ⟨hO, hM, hd, hla, he, hN, hb⟩ := hY
  obtain ⟨n1, n2, n3, n4, n5, n6, n7⟩ := hN
  have hH : HiO M o π (M m 4) (pW M m) b := ⟨⟨n3, fun q q0 q1 => (n5 q q0 q1).1⟩, n4, fun q q0 q1 => (n5 q q0 q1).2⟩
  unfold fL_c10
  obtain ⟨M', R', e1, e2⟩ := act_case (ad := ad) (e := e) (g := fun M1 R1 => fX10_endDay ad S Ln R1 M1 m) (B := fun M4 R4 => fL_c10_B973 ad S Ln R4 M4 e o m a (a + 1) i0) hY9
    (L_endDay (ad := ad) hla.1 hO n1 n2.1 n2.2 hH hb)
    (fun M1 R1 l1 l2 l3 l4 => M_endDay l1 l2 n2.1 (by rw [l3]; exact n4))
    (fun ht => P_endDay n2.1 n2.2 hb ht)
  exact ⟨M', R', e1, e2⟩
end PLC
