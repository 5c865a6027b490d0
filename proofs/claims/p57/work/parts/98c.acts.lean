/-! p57: the turn's act -/
/-- the turn's act, with what it makes on its way -/
def AT (sz : Nat) (S Ln : Nat → Nat) (R : gR) (M : gM) (o : Nat) (b' : Int) (v : gV) (fl : Option (Int × (Nat → Nat) × (Nat → Nat) × gM × gR)) : Prop := ∃ r S' Ln' M' R' π' v' n' w', fl = some (r, S', Ln', M', R') ∧ CW S' Ln' R' M' o π' b' v' n' w' ∧ v 4 ≤ v' 4 ∧ (-900004 ≤ r ∧ r ≤ 3000) ∧ ((r ≤ -900001 ∧ v' = v) ∨ (0 ≤ r ∧ 1 ≤ n' ∧ w' (n' - 1) = v)) ∧ (∀ q, q < sz → S' q = S q ∧ Ln' q = Ln q) ∧ (∀ q, q < sz → q ≠ o + 80 → R' q = R q) ∧ (∀ c, c < sz → (c < o ∨ (o + 27 ≤ c ∧ c < o + 53) ∨ o + 308 ≤ c) → M' c = M c) ∧ M' (o + 289) 1 = 0
theorem and_p (x : Int) : 0 ≤ i_and x 2147483647 := by
  unfold i_and
  have h : ((iI x &&& iI 2147483647).toBitVec).toNat ≤ 2147483647 := by
    rw [Int32.toBitVec_and, BitVec.toNat_and]
    exact Nat.and_le_right
  show 0 ≤ ((iI x &&& iI 2147483647).toBitVec).toInt
  rw [BitVec.toInt_eq_toNat_of_lt]
  · omega
  · show 2 * _ < 2 ^ 32
    omega
section AC57
variable {ad S Ln : Nat → Nat} {R : gR} {M : gM} {o sz : Nat} {π : Int → Nat} {b n lo : Int} {v : gV} {w : Int → gV}
theorem W_in {a : Nat} {i m : Int} (i0 : 0 ≤ i) (m0 : 0 < m) : ∃ z, fL_in ad S Ln R M a i m = some z ∧ 0 ≤ z ∧ z < m := by
  unfold fL_in
  have hc : ∃ c, fL_cell ad S Ln R M a i = some c := by
    unfold fL_cell
    split
    · exact ⟨_, rfl⟩
    · rw [gd_t (by omega)]
      exact ⟨_, rfl⟩
  obtain ⟨c, e⟩ := hc
  rw [e, bd_s, gd_t m0]
  have h := and_p c
  exact ⟨_, rfl, Int.tmod_nonneg _ h, Int.tmod_lt_of_pos _ m0⟩
theorem AT.congr {b' : Int} {f g : Option (Int × (Nat → Nat) × (Nat → Nat) × gM × gR)} (h : f = g) (h2 : AT sz S Ln R M o b' v g) : AT sz S Ln R M o b' v f := h ▸ h2
theorem AT.of {b' : Int} {fl : Option (Int × gM × gR)} (h : AH S Ln R M o b' v fl) (h0 : M (o + 289) 1 = 0) : AT sz S Ln R M o b' v (bd fl fun q => some (q.1, S, Ln, q.2.1, q.2.2)) := by
  obtain ⟨r, M', R', π', v', n', w', e, q2, q3, q4, q5, q6, q7, q8⟩ := h
  exact ⟨r, S, Ln, M', R', π', v', n', w', by rw [e, bd_s], q2, q3, q4, q5, fun _ _ => ⟨rfl, rfl⟩, fun q _ h => q6 q h, fun c _ hc => q7 c hc, q8 h0⟩
theorem AT.ar {fl : Option (Int × gM × gR)} (hW : CW S Ln R M o π b v n w) (hb : b + 30 ≤ 10000) (h0 : M (o + 289) 1 = 0) (l0 : 0 ≤ lo) (h : AR S Ln R M o b v n w lo fl) : AT sz S Ln R M o (b + 30) v (bd fl fun q => some (q.1, S, Ln, q.2.1, q.2.2)) := AT.of (AH.mono (AH.of hW (by omega) l0 h) (by omega) hb) h0
theorem AT.bz {b' : Int} {z : Nat} {S1 Ln1 : Nat → Nat} {R1 : gR} {M1 : gM} {fl : Option (Int × (Nat → Nat) × (Nat → Nat) × gM × gR)} (g : BZ sz S Ln R M S1 Ln1 R1 M1) (hz : sz ≤ z) (h : AT z S1 Ln1 R1 M1 o b' v fl) : AT sz S Ln R M o b' v fl := by
  obtain ⟨r, S', Ln', M', R', π', v', n', w', e, q2, q3, q4, q5, q6, q7, q8, q9⟩ := h
  refine ⟨r, S', Ln', M', R', π', v', n', w', e, q2, q3, q4, q5, fun q hq => ?_, fun q hq h => ?_, fun c hc h => ?_, q9⟩
  · rw [(q6 q (by omega)).1, (q6 q (by omega)).2]; exact ⟨(g q hq).1, (g q hq).2.1⟩
  · rw [q7 q (by omega) h]; exact (g q hq).2.2.2
  · rw [q8 c (by omega) h]; exact (g c hc).2.2.1
theorem CW.bz {S1 Ln1 : Nat → Nat} {R1 : gR} {M1 : gM} (hW : CW S Ln R M o π b v n w) (g : BZ sz S Ln R M S1 Ln1 R1 M1) (hs : o + 289 ≤ sz) : CW S1 Ln1 R1 M1 o π b v n w := by
  have h1 : CW S Ln R M1 o π b v n w := hW.fr (fun c c0 c1 => (g c (by omega)).2.2.1) (fun c c0 c1 => (g c (by omega)).2.2.1)
  obtain ⟨hO, hr⟩ := h1
  exact ⟨hO.f2 (fun q hq => ⟨(g q (by omega)).1, (g q (by omega)).2.1⟩) (fun q hq => (g q (by omega)).2.2.2), hr⟩
theorem LyT.bz {S1 Ln1 : Nat → Nat} {R1 : gR} {M1 : gM} {t : Nat} (hT : LyT S Ln R o t) (g : BZ sz S Ln R M S1 Ln1 R1 M1) (hs : t + 19 ≤ sz) (ho : o < t) : LyT S1 Ln1 R1 o t := by
  obtain ⟨t1, ⟨t2, t3, t4, t5⟩, ⟨t6, t7, t8⟩, ⟨t9, t10, t11⟩, t12⟩ := hT
  have gS : ∀ q, q < sz → S1 q = S q := fun q hq => (g q hq).1
  have gL : ∀ q, q < sz → Ln1 q = Ln q := fun q hq => (g q hq).2.1
  have gR : ∀ q, q < sz → R1 q = R q := fun q hq => (g q hq).2.2.2
  refine ⟨by rw [gR _ (by omega)]; exact t1, ⟨by rw [gS _ (by omega)]; exact t2, by rw [gS _ (by omega)]; exact t3, by rw [gS _ (by omega)]; exact t4, by rw [gS _ (by omega)]; exact t5⟩, ⟨by rw [gL _ (by omega)]; exact t6, by rw [gL _ (by omega)]; exact t7, by rw [gL _ (by omega)]; exact t8⟩, ⟨by rw [gR _ (by omega)]; exact t9, by rw [gR _ (by omega)]; exact t10, by rw [gR _ (by omega)]; exact t11⟩, fun i hi => ?_⟩
  rw [gR _ (by omega), gS _ (by omega), gL _ (by omega)]
  exact t12 i hi
/-- the second piece appended, the whole run -/
theorem A_453 {z sz1 sz2 x y s : Nat} {S0 Ln0 S1 Ln1 S2 Ln2 : Nat → Nat} {R0 R1 R2 : gR} {M0 M1 M2 : gM} {l l2 : List Int} {lo2 hi2 : Nat} (hW : CW S0 Ln0 R0 M0 o π b v n w) (hb : b + 30 ≤ 10000) (hT : LyT S0 Ln0 R0 o (o + 289)) (h0 : M0 (o + 289) 1 = 0) (hC : CST ad S0 Ln0 R0 M0) (hA : AD ad o) (ho : o + 310 ≤ z) (hK : KB z sz1 S0 Ln0 R0 M0 S1 Ln1 R1 M1 x y l) (hP : PC sz1 S1 Ln1 R1 M1 sz2 S2 Ln2 R2 M2 s l2 lo2 hi2) (hl : 9 ≤ l.length ∧ l.length ≤ 12) (hl2 : 8 ≤ lo2 ∧ hi2 ≤ 14) :
    AT z S0 Ln0 R0 M0 o (b + 30) v (fL_acts_B453 ad sz2 S2 Ln2 R2 M2 s x o) := by
  obtain ⟨⟨k1, k2, k3⟩, ⟨k4, k5, k6, k7⟩, k8⟩ := hK
  obtain ⟨p1, ⟨p2, p3⟩, p4, p5, p6⟩ := hP
  have hx := p4 x k6
  have hy := p4 y k7
  have hB : SBL S2 Ln2 R2 M2 x y l := by
    obtain ⟨⟨a1, a2, a3, a4⟩, ⟨c1, c3⟩, ⟨d1, d2⟩, hc⟩ := k1
    exact ⟨⟨by rw [hx.1]; exact a1, by rw [hx.2.2.2]; exact a2, by rw [hy.1]; exact a3, a4⟩, ⟨by rw [hx.2.2.1]; exact c1, by rw [hx.2.2.1]; exact c3⟩, by rw [hy.2.1]; exact ⟨d1, d2⟩, fun i hi => by rw [hy.2.2.1]; exact hc i hi⟩
  have hln2 : Ln2 y = 16 := hy.2.1.trans k2
  obtain ⟨sz3, S3, Ln3, M3, R3, y3, e1, e2, ⟨g1, g2, g3, g4, g5, g6⟩, e4⟩ := b_str2 (ad := ad) p1 hB (sz := sz2) (by omega) (by omega) ⟨by omega, by omega⟩ (by omega)
  have hlen : (l ++ l2).length = l.length + l2.length := List.length_append
  have hln := e4 hln2 (by omega)
  rw [if_neg (by omega)] at hln
  obtain ⟨S4, Ln4, M4, R4, f1, f2, f3⟩ := t_make (ad := ad) e2 (sz := sz3) (by omega) g3 (by omega) (by omega)
  have hZ : BZ z S0 Ln0 R0 M0 S4 Ln4 R4 M4 := by
    refine (k8.tr p4 (by omega)).tr (z1 := z) (fun q hq => ?_) (Nat.le_refl _)
    obtain ⟨q1, q2, q3, q4⟩ := f3 q (by omega)
    rw [q1, q2, q3, q4, (g4 q (by omega)).1, (g4 q (by omega)).2, g5 q (by omega) (by omega) (by omega), g6 q (by omega) (by omega)]
    exact ⟨rfl, rfl, rfl, rfl⟩
  have hD := A_does (ad := ad) (hW.bz hZ (by omega)) (by omega) (hT.bz hZ (by omega) (by omega)) (by rw [(hZ _ (by omega)).2.2.1]; exact h0) (hC.bz hA hZ (by omega)) hA f2 ⟨by omega, by omega⟩ (by omega)
  unfold fL_acts_B453
  rw [e1, bd_s]
  dsimp only
  rw [f1, bd_s]
  dsimp only
  exact AT.bz hZ (Nat.le_refl _) (AT.of (AH.mono hD (by omega) hb) (by rw [(hZ _ (by omega)).2.2.1]; exact h0))
/-- the first piece appended -/
theorem A_343 {z sz1 sz2 x y s : Nat} {S0 Ln0 S1 Ln1 S2 Ln2 : Nat → Nat} {R0 R1 R2 : gR} {M0 M1 M2 : gM} {l2 : List Int} {lo2 hi2 : Nat} (hW : CW S0 Ln0 R0 M0 o π b v n w) (hb : b + 30 ≤ 10000) (hT : LyT S0 Ln0 R0 o (o + 289)) (h0 : M0 (o + 289) 1 = 0) (hC : CST ad S0 Ln0 R0 M0) (hA : AD ad o) (ho : o + 310 ≤ z) (hK : KB z sz1 S0 Ln0 R0 M0 S1 Ln1 R1 M1 x y []) (hP : PC sz1 S1 Ln1 R1 M1 sz2 S2 Ln2 R2 M2 s l2 lo2 hi2) (hl2 : 9 ≤ lo2 ∧ hi2 ≤ 12) {a d c : Int} (a0 : 0 ≤ a) (a1 : a < 7) (c0 : 0 ≤ c) (c1 : c < 30) (hz : z ≤ sz1) :
    AT z S0 Ln0 R0 M0 o (b + 30) v (fL_acts_B343 ad sz2 S2 Ln2 R2 M2 a d c s x o) := by
  obtain ⟨⟨k1, k2, k3⟩, ⟨k4, k5, k6, k7⟩, k8⟩ := hK
  obtain ⟨p1, ⟨p2, p3⟩, p4, p5, p6⟩ := hP
  have hx := p4 x k6
  have hy := p4 y k7
  have hB : SBL S2 Ln2 R2 M2 x y [] := by
    obtain ⟨⟨a1, a2, a3, a4⟩, ⟨c1, c3⟩, ⟨d1, d2⟩, hc⟩ := k1
    exact ⟨⟨by rw [hx.1]; exact a1, by rw [hx.2.2.2]; exact a2, by rw [hy.1]; exact a3, a4⟩, ⟨by rw [hx.2.2.1]; exact c1, by rw [hx.2.2.1]; exact c3⟩, by rw [hy.2.1]; exact ⟨d1, d2⟩, fun i hi => by rw [hy.2.2.1]; exact hc i hi⟩
  have hln2 : Ln2 y = 16 := hy.2.1.trans k2
  have hnil : (([] : List Int)).length = 0 := rfl
  obtain ⟨sz3, S3, Ln3, M3, R3, y3, e1, e2, ⟨g1, g2, g3, g4, g5, g6⟩, e4⟩ := b_str2 (ad := ad) p1 hB (sz := sz2) (by omega) (by omega) ⟨by omega, by omega⟩ (by omega)
  have hlen : (([] : List Int) ++ l2).length = l2.length := rfl
  have hln := e4 hln2 (by omega)
  rw [if_pos (by omega)] at hln
  have hZ : BZ z S0 Ln0 R0 M0 S3 Ln3 R3 M3 := by
    refine (k8.tr p4 (by omega)).tr (z1 := z) (fun q hq => ?_) (Nat.le_refl _)
    rw [(g4 q (by omega)).1, (g4 q (by omega)).2, g5 q (by omega) (by omega) (by omega), g6 q (by omega) (by omega)]
    exact ⟨rfl, rfl, rfl, rfl⟩
  have hK3 : KB z sz3 S0 Ln0 R0 M0 S3 Ln3 R3 M3 x y3 ([] ++ l2) := ⟨⟨e2, by omega, by omega⟩, ⟨k4, by omega, by omega, g3⟩, hZ⟩
  have hC3 : CST ad S3 Ln3 R3 M3 := hC.bz hA hZ (by omega)
  unfold fL_acts_B343
  simp only [nam_d]
  rw [e1, bd_s]
  dsimp only
  rw [gd_t (by decide)]
  split
  · rw [gd_t (by decide)]
    split
    · obtain ⟨S4, Ln4, M4, R4, sz4, s4, l4, hk, hp⟩ := pc_pilot (ad := ad) (sz := sz3) hC3 hA (by omega) (c := 20 + c) (by omega) (by omega) (by omega)
      rw [w32_i (z := 20 + c) (by omega) (by omega)]
      refine AT.congr (hk _) ?_
      exact A_453 hW hb hT h0 hC hA ho hK3 hp (by omega) (by omega)
    · obtain ⟨S4, Ln4, M4, R4, sz4, s4, l4, hk, hp⟩ := pc_flys (ad := ad) (sz := sz3) hC3 hA (by omega) (a := a) (c := c) (by omega) (by omega) (by omega) (by omega)
      refine AT.congr (hk _) ?_
      exact A_453 hW hb hT h0 hC hA ho hK3 hp (by omega) (by omega)
  · obtain ⟨S4, Ln4, M4, R4, sz4, s4, l4, hk, hp⟩ := pc_flye (ad := ad) (sz := sz3) hC3 hA (by omega) (a := a) (c := c) (by omega) (by omega) (by omega) (by omega)
    refine AT.congr (hk _) ?_
    exact A_453 hW hb hT h0 hC hA ho hK3 hp (by omega) (by omega)
/-- the turn's act -/
theorem A_acts (hW : CW S Ln R M o π b v n w) (hb : b + 30 ≤ 10000) (h4 : 4 ≤ v 4) (hT : LyT S Ln R o (o + 289)) (h0 : M (o + 289) 1 = 0) (hC : CST ad S Ln R M) (hA : AD ad o) (ho : o + 310 ≤ sz) {e : Nat} {i : Int} (i0 : 0 ≤ i) (i1 : i ≤ 1000) : AT sz S Ln R M o (b + 30) v (fL_acts ad sz S Ln R M o e i) := by
  obtain ⟨a, ea, a0, a1⟩ := W_in (ad := ad) (S := S) (Ln := Ln) (R := R) (M := M) (a := e) (i := i + 1) (m := 7) (by omega) (by decide)
  obtain ⟨d, ed, d0, d1⟩ := W_in (ad := ad) (S := S) (Ln := Ln) (R := R) (M := M) (a := e) (i := i + 2) (m := 62) (by omega) (by decide)
  obtain ⟨c, ec, c0, c1⟩ := W_in (ad := ad) (S := S) (Ln := Ln) (R := R) (M := M) (a := e) (i := i + 3) (m := 30) (by omega) (by decide)
  obtain ⟨k, ek, k0, k1⟩ := W_in (ad := ad) (S := S) (Ln := Ln) (R := R) (M := M) (a := e) (i := i) (m := 26) i0 (by decide)
  have h6 := hW.2.2.1.1.2.2.2.1
  have B151 : AT sz S Ln R M o (b + 30) v (fL_acts_B151 ad sz S Ln R M o a) := by
    unfold fL_acts_B151
    exact AT.ar hW hb h0 (Int.le_refl _) (A_addTaskPoint hW (by omega) a)
  have B217 : AT sz S Ln R M o (b + 30) v (fL_acts_B217 ad sz S Ln R M o a) := by
    unfold fL_acts_B217
    exact AT.ar hW hb h0 (Int.le_refl _) (A_launch hW (by omega) a)
  have B223 : AT sz S Ln R M o (b + 30) v (fL_acts_B223 ad sz S Ln R M o a d c) := by
    unfold fL_acts_B223
    rw [gd_t (by decide)]
    exact AT.ar hW hb h0 (by decide) (A_fly hW (by omega) a _ c)
  have B254 : AT sz S Ln R M o (b + 30) v (fL_acts_B254 ad sz S Ln R M o a c) := by
    unfold fL_acts_B254
    exact AT.ar hW hb h0 (Int.le_refl _) (A_climb hW (by omega) a c)
  have B235 : AT sz S Ln R M o (b + 30) v (fL_acts_B235 ad sz S Ln R M o a c) := by
    unfold fL_acts_B235
    have hm : i_max 1 (v 4) = v 4 := by
      unfold i_max
      rw [if_pos (by omega)]
    rw [gd_t (by decide), Q_pilotCount hW.1 hW.2.1, bd_s, hm, gd_t (by omega)]
    have g0 := Int.tmod_nonneg 5 a0
    have g1 := Int.tmod_nonneg (v 4) g0
    have g2 := Int.tmod_lt_of_pos (Int.tmod a 5) (show 0 < v 4 by omega)
    exact AT.of (A_heads hW hb g1 g2 c0 (by omega)) h0
  unfold fL_acts
  simp only [nam_d]
  rw [w32_i (z := i + 1) (by omega) (by omega), ea, bd_s, w32_i (z := i + 2) (by omega) (by omega), ed, bd_s, w32_i (z := i + 3) (by omega) (by omega), ec, bd_s, ek, bd_s]
  by_cases hk0 : k = 0
  · rw [if_pos hk0]
    exact AT.ar hW hb h0 (Int.le_refl _) (A_addPoint hW (by omega) d _)
  rw [if_neg hk0]
  by_cases hk1 : k = 1
  · rw [if_pos hk1]
    exact B151
  rw [if_neg hk1]
  by_cases hk2 : k = 2
  · rw [if_pos hk2]
    exact B151
  rw [if_neg hk2]
  by_cases hk3 : k = 3
  · rw [if_pos hk3]
    exact AT.ar hW hb h0 (Int.le_refl _) (A_clearTask hW (by omega))
  rw [if_neg hk3]
  by_cases hk4 : k = 4
  · rw [if_pos hk4]
    exact AT.ar hW hb h0 (Int.le_refl _) (A_addThermal hW (by omega) d c a)
  rw [if_neg hk4]
  by_cases hk5 : k = 5
  · rw [if_pos hk5]
    exact AT.ar hW hb h0 (Int.le_refl _) (A_setCloudBase hW (by omega) _)
  rw [if_neg hk5]
  by_cases hk6 : k = 6
  · rw [if_pos hk6]
    exact AT.ar hW hb h0 (Int.le_refl _) (A_addArea hW (by omega) d c _ _)
  rw [if_neg hk6]
  by_cases hk7 : k = 7
  · rw [if_pos hk7]
    exact AT.ar hW hb h0 (Int.le_refl _) (A_addPilot hW (by omega) _)
  rw [if_neg hk7]
  by_cases hk8 : k = 8
  · rw [if_pos hk8]
    exact B217
  rw [if_neg hk8]
  by_cases hk9 : k = 9
  · rw [if_pos hk9]
    exact B217
  rw [if_neg hk9]
  by_cases hk10 : k = 10
  · rw [if_pos hk10]
    exact B217
  rw [if_neg hk10]
  by_cases hk11 : k = 11
  · rw [if_pos hk11]
    exact B223
  rw [if_neg hk11]
  by_cases hk12 : k = 12
  · rw [if_pos hk12]
    exact B223
  rw [if_neg hk12]
  by_cases hk13 : k = 13
  · rw [if_pos hk13]
    exact B223
  rw [if_neg hk13]
  by_cases hk14 : k = 14
  · rw [if_pos hk14]
    exact B235
  rw [if_neg hk14]
  by_cases hk15 : k = 15
  · rw [if_pos hk15]
    exact B235
  rw [if_neg hk15]
  by_cases hk16 : k = 16
  · rw [if_pos hk16]
    exact B235
  rw [if_neg hk16]
  by_cases hk17 : k = 17
  · rw [if_pos hk17]
    exact B235
  rw [if_neg hk17]
  by_cases hk18 : k = 18
  · rw [if_pos hk18]
    exact B254
  rw [if_neg hk18]
  by_cases hk19 : k = 19
  · rw [if_pos hk19]
    exact B254
  rw [if_neg hk19]
  by_cases hk20 : k = 20
  · rw [if_pos hk20]
    exact B254
  rw [if_neg hk20]
  by_cases hk21 : k = 21
  · rw [if_pos hk21]
    exact AT.ar hW hb h0 (Int.le_refl _) (A_endDay hW (by omega))
  rw [if_neg hk21]
  obtain ⟨S1, Ln1, M1, R1, e1, hK⟩ := kb_new (ad := ad) (S := S) (Ln := Ln) (R := R) (M := M) (sz := sz)
  have hC1 : CST ad S1 Ln1 R1 M1 := hC.bz hA hK.2.2 (by omega)
  rw [e1, bd_s]
  dsimp only
  rw [gd_t (by decide)]
  split
  · obtain ⟨S2, Ln2, M2, R2, sz2, s2, l2, hk, hp⟩ := pc_climb (ad := ad) (sz := sz + 2) hC1 hA (by omega) (a := a) (c := c) (by omega) (by omega) (by omega) (by omega)
    refine AT.congr (hk _) ?_
    exact A_343 hW hb hT h0 hC hA ho hK hp (by omega) a0 a1 c0 c1 (by omega)
  · obtain ⟨S2, Ln2, M2, R2, sz2, s2, l2, hk, hp⟩ := pc_launch (ad := ad) (sz := sz + 2) hC1 hA (by omega) (a := a) (by omega) (by omega)
    refine AT.congr (hk _) ?_
    exact A_343 hW hb hT h0 hC hA ho hK hp (by omega) a0 a1 c0 c1 (by omega)
end AC57
