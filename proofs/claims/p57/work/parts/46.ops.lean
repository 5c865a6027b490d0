/-! PURE: a row with one pilot changed; what speaks only of the map -/
def sU (v : gV) (p : Int) (u : gV) : gV := fun k => if 59 + 9 * p ≤ k ∧ k < 68 + 9 * p then u (k - 59 - 9 * p) else v k
theorem sU_lo {v : gV} {p : Int} {u : gV} {k : Int} (hp : 0 ≤ p) (h : k < 59) : sU v p u k = v k := if_neg (by omega)
theorem sU_s {v u : gV} {p k : Int} (k0 : 0 ≤ k) (k1 : k < 9) : gl (sU v p u) p k = u k := by
  unfold gl sU
  rw [if_pos (by omega)]
  congr 1
  omega
theorem sU_n {v u : gV} {p q k : Int} (hq : q ≠ p) (k0 : 0 ≤ k) (k1 : k < 9) : gl (sU v p u) q k = gl v q k := by
  unfold gl sU
  exact if_neg (by omega)
theorem sU_x {v u u' : gV} {p : Int} (h : ∀ k, 0 ≤ k → k < 9 → u k = u' k) : sU v p u = sU v p u' := by
  funext k
  unfold sU
  split
  · exact h _ (by omega) (by omega)
  · rfl
theorem sU_us {v u : gV} {p k z : Int} (k0 : 0 ≤ k) (k1 : k < 9) : us (sU v p u) (59 + 9 * p + k) z = sU v p (us u k z) := by
  funext j
  unfold us sU
  by_cases h : j = 59 + 9 * p + k
  · rw [if_pos h, if_pos (by omega)]
    exact (if_pos (show j - 59 - 9 * p = k by omega)).symm
  · rw [if_neg h]
    split
    · exact (if_neg (show ¬ j - 59 - 9 * p = k by omega)).symm
    · rfl
theorem sU_id {v : gV} {p : Int} : sU v p (gl v p) = v := by
  funext k
  unfold sU gl
  split
  · congr 1; omega
  · rfl
theorem sU_sU {v u w : gV} {p : Int} : sU (sU v p u) p w = sU v p w := by
  funext k
  unfold sU
  split
  · rfl
  · rfl
section CNG
def mE (v w : gV) : Prop := ∀ k, 0 ≤ k → k < 59 → k ≠ 4 → k ≠ 6 → w k = v k
theorem mE_sU {v u : gV} {p : Int} (hp : 0 ≤ p) : mE v (sU v p u) := fun k _ hk _ _ => sU_lo hp hk
theorem mE.tr {u v w : gV} (h : mE u v) (g : mE v w) : mE u w := fun k kz k0 k1 k2 => (g k kz k0 k1 k2).trans (h k kz k0 k1 k2)
theorem mE_4 {v : gV} {z : Int} : mE v (us v 4 z) := fun k _ _ h _ => us_n h
theorem mE_6 {v : gV} {z : Int} : mE v (us v 6 z) := fun k _ _ _ h => us_n h
variable {v w : gV}
theorem dst_c (e : mE v w) {i : Int} (h0 : 0 ≤ i) (hi : i ≤ 20) {x y : Int} : dst w i x y = dst v i x y := by
  unfold dst
  rw [e (7 + 2 * i) (by omega) (by omega) (by omega) (by omega), e (8 + 2 * i) (by omega) (by omega) (by omega) (by omega)]
theorem leg_c (e : mE v w) (hC : IvC v) {k : Int} (h0 : 0 ≤ k) (h1 : k + 1 < v 1) : leg w k = leg v k := by
  have i6 := hC.2.1
  have i8 := hC.1
  have p1 := hC.2.2.2.1 k h0 (by omega)
  have p2 := hC.2.2.2.1 (k + 1) (by omega) h1
  rw [show (23 : Int) + (k + 1) = 24 + k by omega] at p2
  unfold leg apt
  rw [e (23 + k) (by omega) (by omega) (by omega) (by omega), e (24 + k) (by omega) (by omega) (by omega) (by omega), e (7 + 2 * v (24 + k)) (by omega) (by omega) (by omega) (by omega), e (8 + 2 * v (24 + k)) (by omega) (by omega) (by omega) (by omega), dst_c e (by omega) (by omega)]
theorem lgs_c (e : mE v w) (hC : IvC v) : ∀ n : Nat, (n : Int) < v 1 ∨ n = 0 → lgs w n = lgs v n := by
  intro n
  induction n with
  | zero => intro _; rfl
  | succ n ih =>
    intro h
    show lgs w n + leg w n = lgs v n + leg v n
    rw [ih (by omega), leg_c e hC (by omega) (by omega)]
theorem whl_c (e : mE v w) (hC : IvC v) : whl w = whl v := by
  have i6 := hC.2.1
  unfold whl
  rw [e 1 (by decide) (by decide) (by decide) (by decide)]
  exact lgs_c e hC _ (by omega)
theorem IvC_c (e : mE v w) (h : IvC v) : IvC w := by
  have i6 := h.2.1
  have i8 := h.1
  refine ⟨by rw [e 0 (by decide) (by decide) (by decide) (by decide)]; exact h.1, by rw [e 1 (by decide) (by decide) (by decide) (by decide)]; exact h.2.1, fun i h0 h1 => ?_, fun i h0 h1 => ?_, fun i h0 h1 => ?_⟩
  · rw [e 0 (by decide) (by decide) (by decide) (by decide)] at h1
    rw [e (7 + 2 * i) (by omega) (by omega) (by omega) (by omega), e (8 + 2 * i) (by omega) (by omega) (by omega) (by omega)]
    exact h.2.2.1 i h0 h1
  · rw [e 1 (by decide) (by decide) (by decide) (by decide)] at h1
    rw [e 0 (by decide) (by decide) (by decide) (by decide), e (23 + i) (by omega) (by omega) (by omega) (by omega)]
    exact h.2.2.2.1 i h0 h1
  · rw [e 1 (by decide) (by decide) (by decide) (by decide)] at h1
    rw [leg_c e h h0 h1]
    exact h.2.2.2.2 i h0 h1
theorem IvA_c (e : mE v w) (h : IvA v) : IvA w := by
  have i6 := h.1
  refine ⟨by rw [e 2 (by decide) (by decide) (by decide) (by decide)]; exact h.1, by rw [e 5 (by decide) (by decide) (by decide) (by decide)]; exact h.2.1, fun i h0 h1 => ?_⟩
  rw [e 2 (by decide) (by decide) (by decide) (by decide)] at h1
  rw [e (29 + 3 * i) (by omega) (by omega) (by omega) (by omega), e (30 + 3 * i) (by omega) (by omega) (by omega) (by omega), e (31 + 3 * i) (by omega) (by omega) (by omega) (by omega)]
  exact h.2.2 i h0 h1
theorem IvB_c (e : mE v w) (h : IvB v) : IvB w := by
  have i6 := h.1
  refine ⟨by rw [e 3 (by decide) (by decide) (by decide) (by decide)]; exact h.1, fun i h0 h1 => ?_⟩
  rw [e 3 (by decide) (by decide) (by decide) (by decide)] at h1
  rw [e (47 + 4 * i) (by omega) (by omega) (by omega) (by omega), e (48 + 4 * i) (by omega) (by omega) (by omega) (by omega), e (49 + 4 * i) (by omega) (by omega) (by omega) (by omega), e (50 + 4 * i) (by omega) (by omega) (by omega) (by omega)]
  exact h.2 i h0 h1
theorem str_c (e : mE v w) (h : IvA v) {x y : Int} : ∀ n : Nat, (n : Int) ≤ v 2 → str w x y n = str v x y n := by
  have i6 := h.1
  intro n
  induction n with
  | zero => intro _; rfl
  | succ n ih =>
    intro hn
    unfold str
    rw [ih (by omega), e (29 + 3 * (n : Int)) (by omega) (by omega) (by omega) (by omega), e (30 + 3 * (n : Int)) (by omega) (by omega) (by omega) (by omega), e (31 + 3 * (n : Int)) (by omega) (by omega) (by omega) (by omega)]
theorem rst_c (e : mE v w) (h : IvB v) {x y : Int} : rst w x y ↔ rst v x y := by
  have i6 := h.1
  constructor
  · rintro ⟨i, ⟨h0, h1⟩, hc⟩
    rw [e 3 (by decide) (by decide) (by decide) (by decide)] at h1
    unfold cov at hc
    rw [e (47 + 4 * i) (by omega) (by omega) (by omega) (by omega), e (48 + 4 * i) (by omega) (by omega) (by omega) (by omega), e (49 + 4 * i) (by omega) (by omega) (by omega) (by omega), e (50 + 4 * i) (by omega) (by omega) (by omega) (by omega)] at hc
    exact ⟨i, ⟨h0, h1⟩, hc⟩
  · rintro ⟨i, ⟨h0, h1⟩, hc⟩
    refine ⟨i, ⟨h0, by rw [e 3 (by decide) (by decide) (by decide) (by decide)]; exact h1⟩, ?_⟩
    unfold cov
    rw [e (47 + 4 * i) (by omega) (by omega) (by omega) (by omega), e (48 + 4 * i) (by omega) (by omega) (by omega) (by omega), e (49 + 4 * i) (by omega) (by omega) (by omega) (by omega), e (50 + 4 * i) (by omega) (by omega) (by omega) (by omega)]
    exact hc
theorem RpC_c (e : mE v w) (hI : IvC v) {M : gM} {c : Nat} (h : RpC M c v) : RpC M c w := by
  have i6 := hI.2.1
  have i8 := hI.1
  refine ⟨by rw [e 0 (by decide) (by decide) (by decide) (by decide)]; exact h.1, by rw [e 1 (by decide) (by decide) (by decide) (by decide)]; exact h.2.1, fun i h0 h1 => ?_, fun i h0 h1 => ?_, fun i h0 h1 => ?_⟩
  · rw [e 0 (by decide) (by decide) (by decide) (by decide)] at h1
    rw [e (7 + 2 * i) (by omega) (by omega) (by omega) (by omega), e (8 + 2 * i) (by omega) (by omega) (by omega) (by omega)]
    exact h.2.2.1 i h0 h1
  · rw [e 1 (by decide) (by decide) (by decide) (by decide)] at h1
    rw [e (23 + i) (by omega) (by omega) (by omega) (by omega)]
    exact h.2.2.2.1 i h0 h1
  · rw [e 1 (by decide) (by decide) (by decide) (by decide)] at h1
    rw [leg_c e hI h0 h1]
    exact h.2.2.2.2 i h0 h1
theorem RpA_c (e : mE v w) (hI : IvA v) {M : gM} {c : Nat} (h : RpA M c v) : RpA M c w := by
  have i6 := hI.1
  refine ⟨by rw [e 2 (by decide) (by decide) (by decide) (by decide)]; exact h.1, by rw [e 5 (by decide) (by decide) (by decide) (by decide)]; exact h.2.1, fun i h0 h1 => ?_⟩
  rw [e 2 (by decide) (by decide) (by decide) (by decide)] at h1
  rw [e (29 + 3 * i) (by omega) (by omega) (by omega) (by omega), e (30 + 3 * i) (by omega) (by omega) (by omega) (by omega), e (31 + 3 * i) (by omega) (by omega) (by omega) (by omega)]
  exact h.2.2 i h0 h1
theorem RpB_c (e : mE v w) (hI : IvB v) {M : gM} {c : Nat} (h : RpB M c v) : RpB M c w := by
  have i6 := hI.1
  refine ⟨by rw [e 3 (by decide) (by decide) (by decide) (by decide)]; exact h.1, fun i h0 h1 => ?_⟩
  rw [e 3 (by decide) (by decide) (by decide) (by decide)] at h1
  rw [e (47 + 4 * i) (by omega) (by omega) (by omega) (by omega), e (48 + 4 * i) (by omega) (by omega) (by omega) (by omega), e (49 + 4 * i) (by omega) (by omega) (by omega) (by omega), e (50 + 4 * i) (by omega) (by omega) (by omega) (by omega)]
  exact h.2 i h0 h1
theorem IvP.c {b : Int} {u u' : gV} (e : mE v w) (hC : IvC v) (h : IvP b v u) (eu : ∀ k, 0 ≤ k → k < 9 → u' k = u k) : IvP b w u' := by
  obtain ⟨h0, h1, h2, h4, h5, h6, h7, h8, q1, q2, q3, q4⟩ := h
  have i6 := hC.2.1
  have i8 := hC.1
  unfold IvP
  rw [eu 0 (by decide) (by decide), eu 1 (by decide) (by decide), eu 2 (by decide) (by decide), eu 3 (by decide) (by decide), eu 4 (by decide) (by decide), eu 5 (by decide) (by decide), eu 6 (by decide) (by decide), eu 7 (by decide) (by decide), eu 8 (by decide) (by decide), e 1 (by decide) (by decide) (by decide) (by decide)]
  refine ⟨h0, h1, h2, h4, h5, h6, h7, h8, q1, q2, fun hq => ?_, q4⟩
  have g1 := q1 (by omega)
  have g2 := q2 (Or.inl hq)
  have g3 := hC.2.2.2.1 (u 7) (by omega) g2
  rw [e (23 + u 7) (by omega) (by omega) (by omega) (by omega), dst_c e (by omega) (by omega)]
  exact q3 hq
theorem IvP.mono {b b' : Int} {u : gV} (h : IvP b v u) (hb : b ≤ b') : IvP b' v u := by
  obtain ⟨h0, h1, h2, h4, h5, h6, h7, h8, q⟩ := h
  exact ⟨h0, h1, h2, h4, by omega, by omega, h7, by omega, q⟩
theorem IvS.mono {b b' : Int} (h : IvS b v) (hb : b ≤ b') (hb' : b' ≤ 10000) : IvS b' v := by
  obtain ⟨h0, h1, h2, h3, h4, h5, h6⟩ := h
  exact ⟨h0, h1, h2, h3, by omega, by omega, fun p p0 p1 => (h6 p p0 p1).mono hb⟩
theorem acU_c {b : Int} {u : gV} (e : mE v w) (hC : IvC v) (hu : IvP b v u) : acU w u = acU v u := by
  obtain ⟨h0, h1, h2, h4, h5, h6, h7, h8, q1, q2, q3, q4⟩ := hu
  have i6 := hC.2.1
  have i8 := hC.1
  unfold acU
  by_cases e0 : u 1 = 0
  · rw [if_pos e0, if_pos e0]
  rw [if_neg e0, if_neg e0]
  by_cases e3 : u 1 = 3
  · rw [if_pos e3, if_pos e3]; exact whl_c e hC
  rw [if_neg e3, if_neg e3]
  have g1 := q1 e0
  have g2 := q2 (by omega)
  have g3 := hC.2.2.2.1 (u 7) (by omega) g2
  rw [lgs_c e hC (u 7 - 1).toNat (by omega), leg_c e hC (by omega) (by omega), e (23 + u 7) (by omega) (by omega) (by omega) (by omega), dst_c e (by omega) (by omega)]
theorem acU_x {u u' : gV} (eu : ∀ k, 0 ≤ k → k < 8 → u' k = u k) : acU v u' = acU v u := by
  unfold acU
  rw [eu 1 (by decide) (by decide), eu 2 (by decide) (by decide), eu 3 (by decide) (by decide), eu 7 (by decide) (by decide)]
theorem lms_c {m : Int} (e : ∀ p : Int, 0 ≤ p → gl w p 1 = gl v p 1 ∧ gl w p 5 = gl v p 5) : ∀ n : Nat, lms w m n = lms v m n := by
  intro n
  induction n with
  | zero => rfl
  | succ n ih =>
    unfold lms
    rw [ih, (e n (by omega)).1, (e n (by omega)).2]
theorem inP_c {s : Int} (e : ∀ p : Int, 0 ≤ p → gl w p 1 = gl v p 1) : ∀ n : Nat, inP w s n = inP v s n := by
  intro n
  induction n with
  | zero => rfl
  | succ n ih =>
    unfold inP
    rw [ih, e n (by omega)]
theorem scU_c {b : Int} {u : gV} (e : mE v w) (hC : IvC v) (hu : IvP b v u) (h4 : w 4 = v 4) (eg : ∀ p : Int, 0 ≤ p → gl w p 1 = gl v p 1 ∧ gl w p 5 = gl v p 5) : scU w u = scU v u := by
  unfold scU
  rw [acU_c e hC hu, whl_c e hC, h4, lms_c eg]
theorem scU_x {u u' : gV} (eu : ∀ k, 0 ≤ k → k < 8 → u' k = u k) : scU v u' = scU v u := by
  unfold scU
  rw [acU_x eu, eu 1 (by decide) (by decide), eu 5 (by decide) (by decide), eu 6 (by decide) (by decide)]
theorem kmU_c {u : gV} {d : Int} (e : mE v w) (hC : IvC v) (hB : IvB v) (h7 : 0 ≤ u 7 ∧ u 7 < v 1) : kmU w u d = kmU v u d := by
  have i6 := hC.2.1
  have i8 := hC.1
  have g3 := hC.2.2.2.1 (u 7) h7.1 h7.2
  have e1 : kmP w (mvU u d) = kmP v (mvU u d) := by
    unfold kmP
    rw [bI_c (rst_c e hB)]
  have e7 : kmP v (mvU u d) 7 = u 7 := rfl
  have e2 : kmR w (kmP v (mvU u d)) = kmR v (kmP v (mvU u d)) := by
    unfold kmR
    rw [e7, e (23 + u 7) (by omega) (by omega) (by omega) (by omega), dst_c e (by omega) (by omega)]
  unfold kmU kmS
  rw [e1, e2, e 1 (by decide) (by decide) (by decide) (by decide)]
end CNG
theorem RpS.set {M M' : gM} {a : Nat} {v u : gV} {b p : Int} (hR : RpS M a v) (hI : IvS b v) (h0 : 0 ≤ p) (h1 : p < v 4) (hg : RpG M' (a + 20 + p.toNat) u) (hu : 0 ≤ u 1) (hf : ∀ c, c ≠ a + 20 + p.toNat → M' c = M c) : RpS M' a (sU v p u) := by
  have hp := hI.2.2.2.1
  have e := mE_sU (v := v) (u := u) h0
  have e4 : sU v p u 4 = v 4 := sU_lo h0 (by decide)
  have e6 : sU v p u 6 = v 6 := sU_lo h0 (by decide)
  have hfr : ∀ q : Nat, q < a + 20 → M' q = M q := fun q hq => hf q (by omega)
  refine ⟨RpC_c e hI.1 (hR.1.fr fun q q0 q1 => hfr q (by omega)), RpA_c e hI.2.1 (hR.2.1.fr fun q q0 q1 => hfr q (by omega)), RpB_c e hI.2.2.1 (hR.2.2.1.fr fun q q0 q1 => hfr q (by omega)), ?_, ?_, ?_, ?_⟩
  · rw [hfr a (by omega), e4]; exact hR.2.2.2.1
  · rw [hfr a (by omega), e6]; exact hR.2.2.2.2.1
  · intro q q0 q1
    rw [e4] at q1
    by_cases hq : q = p
    · rw [hq]
      intro k k0 k1
      rw [sU_s k0 k1]
      exact hg k k0 k1
    · intro k k0 k1
      rw [sU_n hq k0 k1, hf (a + 20 + q.toNat) (by omega)]
      exact hR.2.2.2.2.2.1 q q0 q1 k k0 k1
  · intro q hq
    by_cases hc : a + 20 + q = a + 20 + p.toNat
    · rw [hc, hg 1 (by decide) (by decide)]; exact hu
    · rw [hf _ hc]; exact hR.2.2.2.2.2.2 q hq
theorem IvS.set {v u : gV} {b b' p : Int} (hI : IvS b v) (h0 : 0 ≤ p) (hb : b ≤ b') (hb' : b' ≤ 10000) (hu : IvP b' v u) : IvS b' (sU v p u) := by
  have e := mE_sU (v := v) (u := u) h0
  have h4 : sU v p u 4 = v 4 := sU_lo h0 (by decide)
  have h6 : sU v p u 6 = v 6 := sU_lo h0 (by decide)
  refine ⟨IvC_c e hI.1, IvA_c e hI.2.1, IvB_c e hI.2.2.1, by rw [h4]; exact hI.2.2.2.1, ?_, ?_, ?_⟩
  · have := hI.2.2.2.2.1; rw [h6]; omega
  · have := hI.2.2.2.2.2.1; omega
  · intro q q0 q1
    rw [h4] at q1
    by_cases hq : q = p
    · rw [hq]; exact hu.c e hI.1 (fun k k0 k1 => sU_s k0 k1)
    · exact ((hI.2.2.2.2.2.2 q q0 q1).mono hb).c e hI.1 (fun k k0 k1 => sU_n hq k0 k1)
/-! PURE: a flight of n kilometres -/
noncomputable def kmN (v u : gV) (d : Int) : Nat → gV
  | 0 => u
  | n + 1 => if kmN v u d n 1 = 1 then kmU v (kmN v u d n) d else kmN v u d n
noncomputable def kmC (v u : gV) (d : Int) : Nat → Int
  | 0 => 0
  | n + 1 => if kmN v u d n 1 = 1 then kmC v u d n + 1 else kmC v u d n
theorem kmN_t {v u : gV} {d : Int} {n : Nat} (h : kmN v u d n 1 = 1) : kmN v u d (n + 1) = kmU v (kmN v u d n) d := if_pos h
theorem kmN_f {v u : gV} {d : Int} {n : Nat} (h : kmN v u d n 1 ≠ 1) : kmN v u d (n + 1) = kmN v u d n := if_neg h
theorem kmC_t {v u : gV} {d : Int} {n : Nat} (h : kmN v u d n 1 = 1) : kmC v u d (n + 1) = kmC v u d n + 1 := if_pos h
theorem kmC_f {v u : gV} {d : Int} {n : Nat} (h : kmN v u d n 1 ≠ 1) : kmC v u d (n + 1) = kmC v u d n := if_neg h
theorem kmN_st {v u : gV} {d : Int} {n : Nat} (h : kmN v u d n 1 ≠ 1) : ∀ j : Nat, kmN v u d (n + j) = kmN v u d n ∧ kmC v u d (n + j) = kmC v u d n := by
  intro j
  induction j with
  | zero => exact ⟨rfl, rfl⟩
  | succ j ih =>
    have h' : kmN v u d (n + j) 1 ≠ 1 := by rw [ih.1]; exact h
    exact ⟨(kmN_f h').trans ih.1, (kmC_f h').trans ih.2⟩
theorem st_t {x n i s : Int} (hs : -1 ≤ s ∧ s ≤ 1) (h0 : 0 ≤ x) (h1 : x ≤ 60) (g0 : 0 ≤ x + n * s) (g1 : x + n * s ≤ 60) (i0 : 0 ≤ i) (i1 : i ≤ n) : 0 ≤ x + i * s ∧ x + i * s ≤ 60 := by
  have : s = -1 ∨ s = 0 ∨ s = 1 := by omega
  rcases this with e | e | e <;> subst e <;> omega
/-- a flight keeps the glider as it must be -/
theorem kmN_b {v u : gV} {d : Int} {n : Nat} (hC : IvC v) (hF : IvF v u) (h1 : u 1 ≠ 0) (hx : 0 ≤ u 2 + n * stX d ∧ u 2 + n * stX d ≤ 60) (hy : 0 ≤ u 3 + n * stY d ∧ u 3 + n * stY d ≤ 60) :
    ∀ i : Nat, i ≤ n → IvF v (kmN v u d i) ∧ kmN v u d i 1 ≠ 0 ∧ kmN v u d i 5 ≤ u 5 + i ∧ kmN v u d i 6 ≤ u 6 + 10 * i ∧ kmN v u d i 8 = u 8 ∧ kmN v u d i 0 = u 0 ∧ (kmN v u d i 1 = 1 → kmC v u d i = i ∧ kmN v u d i 2 = u 2 + i * stX d ∧ kmN v u d i 3 = u 3 + i * stY d) := by
  obtain ⟨f0, f1, ⟨f2, f3⟩, f4, f5, f6, f7, q⟩ := id hF
  intro i
  induction i with
  | zero =>
    intro _
    have ez : ∀ z s : Int, z = z + ((0 : Nat) : Int) * s := fun z s => by rw [show ((0 : Nat) : Int) = 0 by rfl, Int.zero_mul, Int.add_zero]
    refine ⟨hF, h1, ?_, ?_, rfl, rfl, fun _ => ⟨rfl, ez _ _, ez _ _⟩⟩
    · show u 5 ≤ _; omega
    · show u 6 ≤ _; omega
  | succ i ih =>
    intro hi
    obtain ⟨a1, a2, a3, a4, a5, a6, a7⟩ := ih (by omega)
    by_cases e : kmN v u d i 1 = 1
    · obtain ⟨b1, b2, b3⟩ := a7 e
      have ex : kmN v u d i 2 + stX d = u 2 + ((i + 1 : Nat) : Int) * stX d := by rw [b2, show ((i + 1 : Nat) : Int) = (i : Int) + 1 by omega, Int.add_mul, Int.one_mul, Int.add_assoc]
      have ey : kmN v u d i 3 + stY d = u 3 + ((i + 1 : Nat) : Int) * stY d := by rw [b3, show ((i + 1 : Nat) : Int) = (i : Int) + 1 by omega, Int.add_mul, Int.one_mul, Int.add_assoc]
      have gx := st_t (stX_b d) f2.1 f2.2 hx.1 hx.2 (i := ((i + 1 : Nat) : Int)) (by omega) (by omega)
      have gy := st_t (stY_b d) f3.1 f3.2 hy.1 hy.2 (i := ((i + 1 : Nat) : Int)) (by omega) (by omega)
      rw [← ex] at gx
      rw [← ey] at gy
      obtain ⟨c1, c2⟩ := kmU_F hC a1 e gx gy
      obtain ⟨k0, k2, k3, k4, k5, k6, k7, k8, k1⟩ := @kmU_k v (kmN v u d i) d
      have br := bI_r (rst v (kmN v u d i 2 + stX d) (kmN v u d i 3 + stY d))
      rw [kmN_t e, kmC_t e]
      refine ⟨c1, c2, ?_, ?_, ?_, ?_, fun _ => ⟨?_, ?_, ?_⟩⟩
      · rw [k5]; omega
      · rw [k6]; omega
      · rw [k8]; exact a5
      · rw [k0]; exact a6
      · rw [b1]; omega
      · rw [k2]; exact ex
      · rw [k3]; exact ey
    · rw [kmN_f e, kmC_f e]
      exact ⟨a1, a2, by omega, by omega, a5, a6, fun h => absurd h e⟩
section POP
variable {ad S Ln : Nat → Nat} {R : gR} {M : gM} {a : Nat} {v : gV} {b : Int}
theorem f_glide (hL : LyS S Ln R a) (hR : RpS M a v) (hI : IvS b v) {p d : Int} {n : Nat} (h0 : 0 ≤ p) (h1 : p < v 4) (hn : n ≤ 60) (e1 : gl v p 1 = 1) (hx : 0 ≤ gl v p 2 + n * stX d ∧ gl v p 2 + n * stX d ≤ 60) (hy : 0 ≤ gl v p 3 + n * stY d ∧ gl v p 3 + n * stY d ≤ 60) :
    ∃ M', fX8_glide ad S Ln R M a p d n = some (kmC v (gl v p) d n, M') ∧ RpG M' (a + 20 + p.toNat) (kmN v (gl v p) d n) ∧ ∀ c, c ≠ a + 20 + p.toNat → M' c = M c := by
  have hp := hI.2.2.2.1
  have hb := hI.2.2.2.2.2.1
  have hu := hI.2.2.2.2.2.2 p h0 h1
  have hkm := kmN_b hI.1 hu.f (by omega) hx hy
  have hu5 := hu.2.2.2.2.1.2
  have hu6 := hu.2.2.2.2.2.1.2
  unfold fX8_glide
  rw [s_hasPilot hR, bd_s, bI_t ⟨h0, h1⟩, if_pos (by decide), s_g hL h0 (by omega)]
  obtain ⟨r, e2, M', e3, e4, e5⟩ := lp_inv0 (b := fX8_glide_L21 ad S Ln R a d n (a + 20 + p.toNat)) n
    (fun i s => s.1 = (i : Int) ∧ RpG s.2 (a + 20 + p.toNat) (kmN v (gl v p) d i) ∧ (∀ c, c ≠ a + 20 + p.toNat → s.2 c = M c) ∧ kmC v (gl v p) d i = i)
    (fun r => ∃ M', r = .inl (kmC v (gl v p) d n, M') ∧ RpG M' (a + 20 + p.toNat) (kmN v (gl v p) d n) ∧ ∀ c, c ≠ a + 20 + p.toNat → M' c = M c)
    (s := ((0 : Int), M)) (by omega) ⟨rfl, fun k k0 k1 => s_u hR h0 h1 k0 k1, fun _ _ => rfl, rfl⟩
    (fun i s hi hs => by
      obtain ⟨s1, s2, s3, s4⟩ := hs
      obtain ⟨a1, a2, a3, a4, a5, a6, a7⟩ := hkm i (by omega)
      unfold fX8_glide_L21
      rw [if_neg (by omega), s2 1 (by decide) (by decide), gd_t (by have := a1.2.1; omega)]
      by_cases e : kmN v (gl v p) d i 1 = 1
      · left
        obtain ⟨M2, f1, f2, f3⟩ := f_km (ad := ad) (d := d) hL (hR.1.fr fun q q0 q1 => s3 q (by omega)) (hR.2.2.1.fr fun q q0 q1 => s3 q (by omega)) hI.1 hI.2.2.1 (by omega) s2 a1 e (by omega) (by omega)
        rw [if_neg (fun q => q e), f1, bd_s]
        refine ⟨_, rfl, ?_, ?_, ?_, ?_⟩
        · show w32 (s.1 + 1) = _
          rw [w32_i (by omega) (by omega)]; omega
        · rw [kmN_t e]; exact f2
        · intro c hc; show M2 c = M c; rw [f3 c hc]; exact s3 c hc
        · rw [kmC_t e, s4]; omega
      · right
        rw [if_pos e]
        obtain ⟨st1, st2⟩ := kmN_st e (n - i)
        rw [show i + (n - i) = n by omega] at st1 st2
        refine ⟨_, rfl, s.2, ?_, ?_, s3⟩
        · rw [st2, s4, s1]
        · rw [st1]; exact s2)
    (fun s hs => by
      obtain ⟨s1, s2, s3, s4⟩ := hs
      unfold fX8_glide_L21
      rw [if_pos (by omega)]
      exact ⟨_, rfl, s.2, by rw [s4, s1], s2, s3⟩)
  rw [e2, bd_s, e3, se_l]
  exact ⟨M', rfl, e4, e5⟩
theorem f_soar (hL : LyS S Ln R a) (hR : RpS M a v) (hI : IvS b v) {p m : Int} (h0 : 0 ≤ p) (h1 : p < v 4) (hm0 : 1 ≤ m) (hm1 : m ≤ 30) :
    ∃ M', fX8_soar ad S Ln R M a p m = some (rsH (gl v p) (str v (gl v p 2) (gl v p 3) (v 2).toNat) m (v 5) 4, M') ∧ RpG M' (a + 20 + p.toNat) (rsH (gl v p) (str v (gl v p 2) (gl v p 3) (v 2).toNat) m (v 5)) ∧ ∀ c, c ≠ a + 20 + p.toNat → M' c = M c := by
  have hp := hI.2.2.2.1
  have hb := hI.2.2.2.2.2.1
  obtain ⟨f0, f1, ⟨f2, f3⟩, f4, f5, q⟩ := hI.2.2.2.2.2.2 p h0 h1
  have hA := hI.2.1
  have hst := str_b hA (x := gl v p 2) (y := gl v p 3) (v 2).toNat (by have := hA.1; omega)
  have hg : RpG M (a + 20 + p.toNat) (gl v p) := fun k k0 k1 => s_u hR h0 h1 k0 k1
  unfold fX8_soar
  rw [s_hasPilot hR, bd_s, bI_t ⟨h0, h1⟩, if_pos (by decide), s_g hL h0 (by omega), s_a hL, hg 2 (by decide) (by decide), hg 3 (by decide) (by decide), a_strongest hL.2.2.2.1 hR.2.1 hA (by omega) (by omega) (by omega) (by omega), bd_s, s_a hL, hR.2.1.2.1]
  obtain ⟨M', e1, e2, e3⟩ := g_rise (ad := ad) (S := S) (Ln := Ln) (R := R) hg (q := str v (gl v p 2) (gl v p 3) (v 2).toNat) (m := m) (b := v 5) hst.1 hst.2 (by omega) hm1 hA.2.1.1 hA.2.1.2 f4.1 f4.2 f5.1 (by omega)
  rw [e1, bd_s, e2 4 (by decide) (by decide)]
  exact ⟨M', rfl, e2, e3⟩
theorem f_start (hL : LyS S Ln R a) (hR : RpS M a v) (hI : IvS b v) {p : Int} (h0 : 0 ≤ p) (h1 : p < v 4) (h2 : 2 ≤ v 1) :
    ∃ M', fX8_start ad S Ln R M a p = some (inP (sU v p (toU (gl v p) (v (7 + 2 * v 23)) (v (8 + 2 * v 23)))) 1 (v 4).toNat, M') ∧ RpG M' (a + 20 + p.toNat) (toU (gl v p) (v (7 + 2 * v 23)) (v (8 + 2 * v 23))) ∧ ∀ c, c ≠ a + 20 + p.toNat → M' c = M c := by
  have hp := hI.2.2.2.1
  have hb := hI.2.2.2.2.2.1
  have hC := hI.1
  have i8 := hC.1
  have i6 := hC.2.1
  have hc0 := hC.2.2.2.1 0 (by omega) (by omega)
  have hg : RpG M (a + 20 + p.toNat) (gl v p) := fun k k0 k1 => s_u hR h0 h1 k0 k1
  obtain ⟨⟨lc1, lc2, lc3, lc4, lc5⟩, ⟨ln1, ln2, ln3, ln4⟩, lr0, lr1, lr3, lr4⟩ := hL.2.2.1
  have r23 : M (a + 1 + 3) 0 = v 23 := by
    have := hR.1.2.2.2.1 0 (by omega) (by omega)
    rw [show (23 : Int) + 0 = 23 by rfl] at this
    exact this
  rw [show (23 : Int) + 0 = 23 by rfl] at hc0
  have rpt := hR.1.2.2.1 (v 23) hc0.1 hc0.2
  obtain ⟨M', e1, e2, e3⟩ := g_takeOff (ad := ad) (S := S) (Ln := Ln) (R := R) hg (v (7 + 2 * v 23)) (v (8 + 2 * v 23))
  have hR' := hR.set hI h0 h1 e2 (by show (0 : Int) ≤ 1; decide) e3
  have hu := hI.2.2.2.2.2.2 p h0 h1
  unfold fX8_start
  rw [s_hasPilot hR, bd_s, bI_t ⟨h0, h1⟩, if_neg (by decide), s_c hL, c_hasStop hR.1, bd_s, bI_t (show (0 : Int) ≤ 0 ∧ 0 < v 1 by omega), if_neg (by decide), s_c hL, s_c hL, rf_o lr3 lc4, gd_t (by rw [ln3]; omega), r23, c_hasPoint hR.1, bd_s, bI_t hc0, if_neg (by decide), s_c hL, rf_o lr3 lc4, gd_t (by rw [ln3]; omega), r23, s_g hL h0 (by omega), s_c hL, rf_o lr0 lc2, gd_t (by rw [ln1]; omega), s_c hL, rf_o lr1 lc3, gd_t (by rw [ln2]; omega), rpt.1, rpt.2, e1, bd_s]
  refine ⟨M', ?_, e2, e3⟩
  unfold fX8_start_B75
  have hI2 : IvS b (sU v p (toU (gl v p) (v (7 + 2 * v 23)) (v (8 + 2 * v 23)))) := by
    have hpt := hC.2.2.1 (v 23) hc0.1 hc0.2
    obtain ⟨f0, f1, f2, f4, f5, f6, f7, f8, q1, q2, q3, q4⟩ := hu
    refine hI.set h0 (Int.le_refl _) hb.2 ?_
    have t : ∀ k, toU (gl v p) (v (7 + 2 * v 23)) (v (8 + 2 * v 23)) k = if k = 0 then gl v p 0 else if k = 1 then 1 else if k = 2 then v (7 + 2 * v 23) else if k = 3 then v (8 + 2 * v 23) else if k = 4 then 1000 else if k = 7 then 1 else if k = 8 then gl v p 8 else 0 := fun k => rfl
    refine ⟨f0, by show (0 : Int) ≤ 1 ∧ (1 : Int) ≤ 3; decide, hpt, by show (0 : Int) ≤ 1000 ∧ (1000 : Int) ≤ 3000; decide, by show (0 : Int) ≤ 0 ∧ (0 : Int) ≤ 60 * b; omega, by show (0 : Int) ≤ 0 ∧ (0 : Int) ≤ 600 * b; omega, by show (0 : Int) ≤ 1 ∧ (1 : Int) ≤ 6; decide, f8, fun _ => ⟨h2, by show (1 : Int) ≤ 1; decide⟩, fun _ => by show (1 : Int) < v 1; omega, fun _ => ⟨by show (0 : Int) < 1000; decide, ?_⟩, fun h => absurd (show (1 : Int) = 3 from h) (by decide)⟩
    show 0 < dst v (v (23 + 1)) (v (7 + 2 * v 23)) (v (8 + 2 * v 23))
    have hl := leg_120 hC (k := 0) (by omega) (by omega)
    have : dst v (v (23 + 1)) (v (7 + 2 * v 23)) (v (8 + 2 * v 23)) = leg v 0 := by
      show apt v (v 24) (v 23) = apt v (v 23) (v 24)
      exact apt_c
    omega
  rw [s_count hL hR' hI2, bd_s]
  rw [sU_lo h0 (show (4 : Int) < 59 by decide)]
theorem f_put (hL : LyS S Ln R a) (hR : RpS M a v) (hI : IvS b v) (h6 : v 4 < 6) (r : Int) :
    ∃ M', fX8_putPilot ad S Ln R M a r = some (v 4, M') ∧ RpS M' a (us (sU v (v 4) (enU r)) 4 (v 4 + 1)) ∧ ∀ c, c < a ∨ a + 26 ≤ c → M' c = M c := by
  have hp := hI.2.2.2.1
  obtain ⟨M1, e1, e2, e3⟩ := g_enter (ad := ad) (S := S) (Ln := Ln) (R := R) (M := M) (g := a + 20 + (v 4).toNat) r
  unfold fX8_putPilot
  rw [hR.2.2.2.1, if_pos h6, s_g hL hp.1 h6, e1, bd_s, nam_d, e3 a (by omega), hR.2.2.2.1, wr_s, w32_i (z := v 4 + 1) (by omega) (by omega), w32_i (by omega) (by omega), show v 4 + 1 - 1 = v 4 by omega]
  refine ⟨_, rfl, ?_, fun c hc => by rw [wr_a (by omega), e3 c (by omega)]⟩
  have e : mE v (us (sU v (v 4) (enU r)) 4 (v 4 + 1)) := (mE_sU hp.1).tr mE_4
  have e4 : us (sU v (v 4) (enU r)) 4 (v 4 + 1) 4 = v 4 + 1 := us_s
  have e6 : us (sU v (v 4) (enU r)) 4 (v 4 + 1) 6 = v 6 := (us_n (by decide)).trans (sU_lo hp.1 (by decide))
  have hfr : ∀ q : Nat, q < a + 20 → q ≠ a → wr M1 a 4 (v 4 + 1) q = M q := fun q hq hn => by rw [wr_a hn]; exact e3 q (by omega)
  have eg : ∀ q k : Int, 0 ≤ q → 0 ≤ k → gl (us (sU v (v 4) (enU r)) 4 (v 4 + 1)) q k = gl (sU v (v 4) (enU r)) q k := fun q k q0 k0 => us_n (by omega)
  refine ⟨(RpC_c e hI.1 hR.1).fr fun q q0 q1 => hfr q (by omega) (by omega), (RpA_c e hI.2.1 hR.2.1).fr fun q q0 q1 => hfr q (by omega) (by omega), (RpB_c e hI.2.2.1 hR.2.2.1).fr fun q q0 q1 => hfr q (by omega) (by omega), ?_, ?_, ?_, ?_⟩
  · rw [wr_s, e4]
  · rw [wr_k (by decide), e3 a (by omega), e6]; exact hR.2.2.2.2.1
  · intro q q0 q1 k k0 k1
    rw [e4] at q1
    rw [eg q k q0 k0, wr_a (by omega)]
    by_cases hq : q = v 4
    · rw [hq, sU_s k0 k1]; exact e2 k k0 k1
    · rw [sU_n hq k0 k1, e3 (a + 20 + q.toNat) (by omega)]
      exact hR.2.2.2.2.2.1 q q0 (by omega) k k0 k1
  · intro q hq
    rw [wr_a (by omega)]
    by_cases hc : a + 20 + q = a + 20 + (v 4).toNat
    · rw [hc, e2 1 (by decide) (by decide)]; show (0 : Int) ≤ 0; decide
    · rw [e3 _ hc]; exact hR.2.2.2.2.2.2 q hq
end POP
