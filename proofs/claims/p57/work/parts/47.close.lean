/-! PURE: the end of a day; the forecast by flight -/
theorem RpS.x {M : gM} {a : Nat} {v w : gV} {b : Int} (h : RpS M a v) (hI : IvS b v) (e : mE v w) (h4 : w 4 = v 4) (h6 : w 6 = v 6) (eg : ∀ p k : Int, 0 ≤ p → p < v 4 → 0 ≤ k → k < 9 → gl w p k = gl v p k) : RpS M a w := by
  refine ⟨RpC_c e hI.1 h.1, RpA_c e hI.2.1 h.2.1, RpB_c e hI.2.2.1 h.2.2.1, h4 ▸ h.2.2.2.1, h6 ▸ h.2.2.2.2.1, fun p p0 p1 k k0 k1 => ?_, h.2.2.2.2.2.2⟩
  rw [h4] at p1
  rw [eg p k p0 p1 k0 k1]
  exact h.2.2.2.2.2.1 p p0 p1 k k0 k1
def clU (v : gV) (p : Int) : gV := fun k => if k = 0 then gl v p 0 else if k = 8 then gl v p 8 + scU v (gl v p) else 0
def totU (v : gV) (p : Int) : gV := us (gl v p) 8 (gl v p 8 + scU v (gl v p))
def totN (v : gV) : Nat → gV
  | 0 => v
  | n + 1 => sU (totN v n) n (totU v n)
def rsN (w : gV) : Nat → gV
  | 0 => w
  | n + 1 => sU (rsN w n) n (rsU (gl w n))
theorem totN_lo {v : gV} {k : Int} (hk : k < 59) : ∀ n : Nat, totN v n k = v k := by
  intro n
  induction n with
  | zero => rfl
  | succ n ih => exact (sU_lo (by omega) hk).trans ih
theorem rsN_lo {v : gV} {k : Int} (hk : k < 59) : ∀ n : Nat, rsN v n k = v k := by
  intro n
  induction n with
  | zero => rfl
  | succ n ih => exact (sU_lo (by omega) hk).trans ih
theorem totN_g {v : gV} {p k : Int} (p0 : 0 ≤ p) (k0 : 0 ≤ k) (k1 : k < 9) : ∀ n : Nat, gl (totN v n) p k = if p < n then totU v p k else gl v p k := by
  intro n
  induction n with
  | zero => rw [if_neg (by omega)]; rfl
  | succ n ih =>
    show gl (sU (totN v n) n (totU v n)) p k = _
    by_cases e : p = n
    · rw [e, sU_s k0 k1, if_pos (by omega)]
    · rw [sU_n e k0 k1, ih]
      by_cases h : p < n
      · rw [if_pos h, if_pos (by omega)]
      · rw [if_neg h, if_neg (by omega)]
theorem rsN_g {v : gV} {p k : Int} (p0 : 0 ≤ p) (k0 : 0 ≤ k) (k1 : k < 9) : ∀ n : Nat, gl (rsN v n) p k = if p < n then rsU (gl v p) k else gl v p k := by
  intro n
  induction n with
  | zero => rw [if_neg (by omega)]; rfl
  | succ n ih =>
    show gl (sU (rsN v n) n (rsU (gl v n))) p k = _
    by_cases e : p = n
    · rw [e, sU_s k0 k1, if_pos (by omega)]
    · rw [sU_n e k0 k1, ih]
      by_cases h : p < n
      · rw [if_pos h, if_pos (by omega)]
      · rw [if_neg h, if_neg (by omega)]
theorem totU_k {v : gV} {p k : Int} (h : k ≠ 8) : totU v p k = gl v p k := us_n h
theorem totU_8 {v : gV} {p : Int} : totU v p 8 = gl v p 8 + scU v (gl v p) := us_s
theorem totN_e {v : gV} (n : Nat) : mE v (totN v n) := fun _ _ hk _ _ => totN_lo hk n
theorem rsN_e {v : gV} (n : Nat) : mE v (rsN v n) := fun _ _ hk _ _ => rsN_lo hk n
theorem totN_7 {v : gV} {p k : Int} (p0 : 0 ≤ p) (k0 : 0 ≤ k) (k1 : k < 8) (n : Nat) : gl (totN v n) p k = gl v p k := by
  rw [totN_g p0 k0 (by omega)]
  split
  · exact totU_k (by omega)
  · rfl
theorem IvP.tot {v : gV} {b p : Int} (hI : IvS b v) (h0 : 0 ≤ p) (h1 : p < v 4) : IvP (b + 1) v (totU v p) := by
  have hu := hI.2.2.2.2.2.2 p h0 h1
  have hs := scU_b hI hu
  obtain ⟨f0, f1, f2, f4, f5, f6, f7, f8, q⟩ := hu
  exact ⟨f0, f1, f2, f4, by show 0 ≤ gl v p 5 ∧ gl v p 5 ≤ 60 * (b + 1); omega, by show 0 ≤ gl v p 6 ∧ gl v p 6 ≤ 600 * (b + 1); omega, f7, by rw [totU_8]; omega, q⟩
theorem IvS.tot {v : gV} {b : Int} (hI : IvS b v) (hb : b + 1 ≤ 10000) : ∀ n : Nat, (n : Int) ≤ v 4 → IvS (b + 1) (totN v n) := by
  intro n
  induction n with
  | zero => intro _; exact hI.mono (by omega) hb
  | succ n ih =>
    intro hn
    exact (ih (by omega)).set (by omega) (Int.le_refl _) hb ((IvP.tot hI (p := n) (by omega) (by omega)).c (totN_e n) hI.1 (fun _ _ _ => rfl))
theorem IvP.rest {v u : gV} {b : Int} (h : IvP b v u) (hb : 0 ≤ b) : IvP b v (rsU u) := by
  obtain ⟨f0, f1, f2, f4, f5, f6, f7, f8, q⟩ := h
  have z : ∀ c : Int, (0 : Int) = c → c ≠ 0 → False := fun c h g => g h.symm
  exact ⟨f0, by show (0 : Int) ≤ 0 ∧ (0 : Int) ≤ 3; decide, by show ((0 : Int) ≤ 0 ∧ (0 : Int) ≤ 60) ∧ (0 : Int) ≤ 0 ∧ (0 : Int) ≤ 60; decide, by show (0 : Int) ≤ 0 ∧ (0 : Int) ≤ 3000; decide, by show (0 : Int) ≤ 0 ∧ (0 : Int) ≤ 60 * b; omega, by show (0 : Int) ≤ 0 ∧ (0 : Int) ≤ 600 * b; omega, by show (0 : Int) ≤ 0 ∧ (0 : Int) ≤ 6; decide, f8,
    fun h => absurd rfl h, fun h => by rcases h with h | h <;> exact absurd (show (0 : Int) = _ from h) (by decide), fun h => absurd (show (0 : Int) = 1 from h) (by decide), fun h => absurd (show (0 : Int) = 3 from h) (by decide)⟩
theorem IvS.rests {v : gV} {b : Int} (hI : IvS b v) : ∀ n : Nat, (n : Int) ≤ v 4 → IvS b (rsN v n) := by
  have hb := hI.2.2.2.2.2.1
  intro n
  induction n with
  | zero => intro _; exact hI
  | succ n ih =>
    intro hn
    exact (ih (by omega)).set (by omega) (Int.le_refl _) hb.2 (((hI.2.2.2.2.2.2 n (by omega) (by omega)).rest hb.1).c (rsN_e n) hI.1 (fun _ _ _ => rfl))
theorem IvS.close {v w : gV} {b : Int} (hI : IvS b v) (hb : b + 1 ≤ 10000) (e : mE v w) (h4 : w 4 = v 4) (h6 : w 6 = v 6 + 1) (eg : ∀ p k : Int, 0 ≤ p → p < v 4 → 0 ≤ k → k < 9 → gl w p k = clU v p k) : IvS (b + 1) w := by
  have h7 := hI.2.2.2.2.1
  refine ⟨IvC_c e hI.1, IvA_c e hI.2.1, IvB_c e hI.2.2.1, by rw [h4]; exact hI.2.2.2.1, by omega, by have := hI.2.2.2.2.2.1; omega, fun p p0 p1 => ?_⟩
  rw [h4] at p1
  exact ((IvP.tot hI p0 p1).rest (by have := hI.2.2.2.2.2.1; omega)).c e hI.1 (fun k k0 k1 => (eg p k p0 p1 k0 k1))
section PCL
variable {ad S Ln : Nat → Nat} {R : gR} {M : gM} {a : Nat} {v : gV} {b : Int}
theorem f_close (hL : LyS S Ln R a) (hR : RpS M a v) (hI : IvS b v) (hb : b + 1 ≤ 10000) :
    ∃ M', fX8_closeDay ad S Ln R M a = some (inP v 3 (v 4).toNat, M') ∧ (∀ c, c < a ∨ a + 26 ≤ c → M' c = M c) ∧
      ∀ w, mE v w → w 4 = v 4 → w 6 = v 6 + 1 → (∀ p k : Int, 0 ≤ p → p < v 4 → 0 ≤ k → k < 9 → gl w p k = clU v p k) → RpS M' a w := by
  have hp := hI.2.2.2.1
  have hb0 := hI.2.2.2.2.2.1
  have hN : (((v 4).toNat : Nat) : Int) = v 4 := by omega
  have t4 : ∀ n, totN v n 4 = v 4 := fun n => totN_lo (by decide) n
  have r4 : ∀ w n, rsN w n 4 = w 4 := fun w n => rsN_lo (by decide) n
  unfold fX8_closeDay
  rw [s_count hL hR hI, bd_s]
  obtain ⟨r, e1, M1, e2, e3, e4⟩ := lp_inv0 (b := fX8_closeDay_L10 ad S Ln R a (inP v 3 (v 4).toNat)) (v 4).toNat
    (fun i s => s.1 = (i : Int) ∧ RpS s.2 a (totN v i) ∧ ∀ c, c < a ∨ a + 26 ≤ c → s.2 c = M c)
    (fun r => ∃ M', r = .inl M' ∧ RpS M' a (totN v (v 4).toNat) ∧ ∀ c, c < a ∨ a + 26 ≤ c → M' c = M c)
    (s := ((0 : Int), M)) (by omega) ⟨rfl, hR, fun _ _ => rfl⟩
    (fun i s hi hs => by
      obtain ⟨s1, s2, s3⟩ := hs
      left
      have hi4 : (i : Int) < v 4 := by omega
      have hIi := hI.tot hb i (by omega)
      have hg : RpG s.2 (a + 20 + (i : Int).toNat) (gl v i) := fun k k0 k1 => by
        rw [s_u s2 (by omega) (by rw [t4]; exact hi4) k0 k1, totN_g (by omega) k0 k1, if_neg (by omega)]
      have hu := (hI.2.2.2.2.2.2 i (by omega) hi4)
      have hu' : IvP (b + 1) (totN v i) (gl v i) := (hu.mono (by omega)).c (totN_e i) hI.1 (fun _ _ _ => rfl)
      have hsc := scU_b hI hu
      have hu8 := hu.2.2.2.2.2.2.2.1
      unfold fX8_closeDay_L10
      rw [s2.2.2.2.1, t4, if_neg (by omega), s1, s_g hL (by omega) (by omega), s_g hL (by omega) (by omega), s_score hL s2 hIi hg hu', bd_s, nam_d,
        scU_c (totN_e i) hI.1 hu (t4 i) (fun p p0 => ⟨totN_7 p0 (by decide) (by decide) i, totN_7 p0 (by decide) (by decide) i⟩), hg 8 (by decide) (by decide), w64_i (by omega) (by omega)]
      refine ⟨_, rfl, ?_, ?_, ?_⟩
      · show w32 ((i : Int) + 1) = _
        rw [w32_i (by omega) (by omega)]; omega
      · exact s2.set hIi (by omega) (by rw [t4]; exact hi4) (hg.wr 8 _) (by show 0 ≤ gl v i 1; exact hu.2.1.1) (fun c hc => wr_a hc)
      · intro c hc
        show wr s.2 (a + 20 + (i : Int).toNat) 8 _ c = _
        rw [wr_a (by omega)]; exact s3 c hc)
    (fun s hs => by
      obtain ⟨s1, s2, s3⟩ := hs
      unfold fX8_closeDay_L10
      rw [s2.2.2.2.1, t4, if_pos (by omega)]
      exact ⟨_, rfl, s.2, rfl, s2, s3⟩)
  rw [e1, bd_s, e2, se_l]
  have hIN := hI.tot hb (v 4).toNat (by omega)
  generalize hz : totN v (v 4).toNat = z at e3 hIN
  have z4 : z 4 = v 4 := by rw [← hz]; exact t4 _
  have z6 : z 6 = v 6 := by rw [← hz]; exact totN_lo (by decide) _
  have hze : mE v z := by rw [← hz]; exact totN_e _
  have hzg : ∀ p k : Int, 0 ≤ p → p < v 4 → 0 ≤ k → k < 9 → gl z p k = totU v p k := fun p k p0 p1 k0 k1 => by rw [← hz, totN_g p0 k0 k1, if_pos (by omega)]
  obtain ⟨r, f1, M2, f2, f3, f4⟩ := lp_inv0 (b := fX8_closeDay_L51 ad S Ln R a (inP v 3 (v 4).toNat)) (v 4).toNat
    (fun i s => s.1 = (i : Int) ∧ RpS s.2 a (rsN z i) ∧ ∀ c, c < a ∨ a + 26 ≤ c → s.2 c = M c)
    (fun r => ∃ M', r = .inl M' ∧ RpS M' a (rsN z (v 4).toNat) ∧ ∀ c, c < a ∨ a + 26 ≤ c → M' c = M c)
    (s := ((0 : Int), M1)) (by omega) ⟨rfl, e3, e4⟩
    (fun i s hi hs => by
      obtain ⟨s1, s2, s3⟩ := hs
      left
      have hi4 : (i : Int) < v 4 := by omega
      have hIi := hIN.rests i (by omega)
      have hg : RpG s.2 (a + 20 + (i : Int).toNat) (gl z i) := fun k k0 k1 => by
        rw [s_u s2 (by omega) (by rw [r4, z4]; exact hi4) k0 k1, rsN_g (by omega) k0 k1, if_neg (by omega)]
      obtain ⟨M', g1, g2, g3⟩ := g_rest (ad := ad) (S := S) (Ln := Ln) (R := R) hg
      unfold fX8_closeDay_L51
      rw [s2.2.2.2.1, r4, z4, if_neg (by omega), s1, s_g hL (by omega) (by omega), g1, bd_s]
      refine ⟨_, rfl, ?_, ?_, ?_⟩
      · show w32 ((i : Int) + 1) = _
        rw [w32_i (by omega) (by omega)]; omega
      · exact s2.set hIi (by omega) (by rw [r4, z4]; exact hi4) g2 (by show (0 : Int) ≤ 0; decide) g3
      · intro c hc
        show M' c = _
        rw [g3 c (by omega)]; exact s3 c hc)
    (fun s hs => by
      obtain ⟨s1, s2, s3⟩ := hs
      unfold fX8_closeDay_L51
      rw [s2.2.2.2.1, r4, z4, if_pos (by omega)]
      exact ⟨_, rfl, s.2, rfl, s2, s3⟩)
  rw [f1, bd_s, f2, se_l, nam_d]
  have hIR := hIN.rests (v 4).toNat (by omega)
  refine ⟨_, rfl, fun c hc => by rw [wr_a (by omega)]; exact f4 c hc, fun w hw h4 h6 hg => ?_⟩
  have y6 : M2 a 5 = v 6 := by rw [f3.2.2.2.2.1, rsN_lo (by decide), z6]
  have hx : RpS (wr M2 a 5 (w32 (M2 a 5 + 1))) a (us (rsN z (v 4).toNat) 6 (v 6 + 1)) := by
    have h7 := hI.2.2.2.2.1
    rw [y6, w32_i (by omega) (by omega)]
    have hfr : ∀ q : Nat, q ≠ a → wr M2 a 5 (v 6 + 1) q = M2 q := fun q hq => wr_a hq
    refine ⟨(RpC_c mE_6 hIR.1 f3.1).fr fun q q0 q1 => hfr q (by omega), (RpA_c mE_6 hIR.2.1 f3.2.1).fr fun q q0 q1 => hfr q (by omega), (RpB_c mE_6 hIR.2.2.1 f3.2.2.1).fr fun q q0 q1 => hfr q (by omega), ?_, ?_, ?_, ?_⟩
    · rw [wr_k (by decide), us_n (by decide)]; exact f3.2.2.2.1
    · rw [wr_s, us_s]
    · intro q q0 q1 k k0 k1
      rw [us_n (by decide)] at q1
      rw [hfr _ (by omega), show gl (us (rsN z (v 4).toNat) 6 (v 6 + 1)) q k = gl (rsN z (v 4).toNat) q k from us_n (by omega)]
      exact f3.2.2.2.2.2.1 q q0 q1 k k0 k1
    · intro q hq
      rw [hfr _ (by omega)]; exact f3.2.2.2.2.2.2 q hq
  have hIx : IvS (b + 1) (us (rsN z (v 4).toNat) 6 (v 6 + 1)) := by
    have h7 := hI.2.2.2.2.1
    refine ⟨IvC_c mE_6 hIR.1, IvA_c mE_6 hIR.2.1, IvB_c mE_6 hIR.2.2.1, by rw [us_n (by decide)]; exact hIR.2.2.2.1, by rw [us_s]; omega, by omega, fun p p0 p1 => ?_⟩
    rw [us_n (by decide)] at p1
    exact (hIR.2.2.2.2.2.2 p p0 p1).c mE_6 hIR.1 (fun k k0 k1 => us_n (by omega))
  refine hx.x hIx (fun k kz k0 k1 k2 => ?_) ?_ ?_ (fun p k p0 p1 k0 k1 => ?_)
  · rw [hw k kz k0 k1 k2, us_n k2, rsN_lo k0, hze k kz k0 k1 k2]
  · rw [h4, us_n (by decide), r4, z4]
  · rw [h6, us_s]
  · rw [us_n (by decide), r4, z4] at p1
    rw [hg p k p0 p1 k0 k1, show gl (us (rsN z (v 4).toNat) 6 (v 6 + 1)) p k = gl (rsN z (v 4).toNat) p k from us_n (by omega), rsN_g p0 k0 k1, if_pos (by omega)]
    unfold clU rsU
    rw [hzg p 0 p0 p1 (by decide) (by decide), hzg p 8 p0 p1 (by decide) (by decide), totU_8, totU_k (by decide)]
end PCL
/-- the direction to the next stop -/
def dir (v u : gV) : Int := if v (7 + 2 * v (23 + u 7)) = u 2 then (if v (8 + 2 * v (23 + u 7)) ≤ u 3 then 2 else 0) else (if v (7 + 2 * v (23 + u 7)) ≤ u 2 then 3 else 1)
theorem ab_d (x : Int) : (0 ≤ x ∧ ab x = x) ∨ (x < 0 ∧ ab x = -x) := by unfold ab; split <;> omega
theorem dir_s {v u : gV} (hp : ∀ i, i = v (23 + u 7) → (0 ≤ v (7 + 2 * i) ∧ v (7 + 2 * i) ≤ 60) ∧ 0 ≤ v (8 + 2 * i) ∧ v (8 + 2 * i) ≤ 60) (h2 : 0 ≤ u 2 ∧ u 2 ≤ 60) (h3 : 0 ≤ u 3 ∧ u 3 ≤ 60) (hd : 0 < dst v (v (23 + u 7)) (u 2) (u 3)) :
    dst v (v (23 + u 7)) (u 2 + stX (dir v u)) (u 3 + stY (dir v u)) = dst v (v (23 + u 7)) (u 2) (u 3) - 1 ∧ (0 ≤ u 2 + stX (dir v u) ∧ u 2 + stX (dir v u) ≤ 60) ∧ 0 ≤ u 3 + stY (dir v u) ∧ u 3 + stY (dir v u) ≤ 60 := by
  obtain ⟨hx, hy⟩ := hp _ rfl
  unfold dst at hd ⊢
  generalize hX : v (7 + 2 * v (23 + u 7)) = x at hx hd
  generalize hY : v (8 + 2 * v (23 + u 7)) = y at hy hd
  have hdir : dir v u = if x = u 2 then (if y ≤ u 3 then 2 else 0) else (if x ≤ u 2 then 3 else 1) := by unfold dir; rw [hX, hY]
  have a1 := ab_d (x - u 2)
  have a2 := ab_d (y - u 3)
  by_cases e : x = u 2
  · rw [if_pos e] at hdir
    by_cases e' : y ≤ u 3
    · rw [if_pos e'] at hdir
      rw [hdir, show stX 2 = 0 by decide, show stY 2 = -1 by decide]
      have a3 := ab_d (x - (u 2 + 0))
      have a4 := ab_d (y - (u 3 + -1))
      omega
    · rw [if_neg e'] at hdir
      rw [hdir, show stX 0 = 0 by decide, show stY 0 = 1 by decide]
      have a3 := ab_d (x - (u 2 + 0))
      have a4 := ab_d (y - (u 3 + 1))
      omega
  · rw [if_neg e] at hdir
    by_cases e' : x ≤ u 2
    · rw [if_pos e'] at hdir
      rw [hdir, show stX 3 = -1 by decide, show stY 3 = 0 by decide]
      have a3 := ab_d (x - (u 2 + -1))
      have a4 := ab_d (y - (u 3 + 0))
      omega
    · rw [if_neg e'] at hdir
      rw [hdir, show stX 1 = 1 by decide, show stY 1 = 0 by decide]
      have a3 := ab_d (x - (u 2 + 1))
      have a4 := ab_d (y - (u 3 + 0))
      omega
theorem IvF.lf {v u : gV} (hC : IvC v) (h : IvF v u) (e1 : u 1 = 1) : 1 ≤ lfU v u ∧ lfU v u ≤ 720 := by
  obtain ⟨h0, h1, h2, h4, h5, h6, h7, q1, q2, q3, q4⟩ := h
  have g1 := q1 (by omega)
  have g2 := q2 (Or.inl e1)
  have g3 := q3 e1
  obtain ⟨p1, p2⟩ := hC.2.2.2.1 (u 7) (by omega) g2
  have g8 := dst_120 hC p1 p2 h2.1.1 h2.1.2 h2.2.1 h2.2.2
  have g6 := lgs_m hC (m := (u 7).toNat) (n := (v 1 - 1).toNat) (by omega) (by omega)
  have g5 := lgs_b hC (u 7).toNat (by omega)
  have hw := whl_b hC
  unfold lfU
  unfold whl at hw ⊢
  omega
/-- a kilometre straight to the next stop -/
theorem kmU_d {v u : gV} (hC : IvC v) (h : IvF v u) (e1 : u 1 = 1) : IvF v (kmU v u (dir v u)) ∧ kmU v u (dir v u) 1 ≠ 0 ∧ (lfU v u = 1 → kmU v u (dir v u) 1 = 3) ∧
    (1 < lfU v u → snk u < u 4 → kmU v u (dir v u) 1 = 1 ∧ lfU v (kmU v u (dir v u)) = lfU v u - 1 ∧ kmU v u (dir v u) 4 = u 4 - snk u) ∧ (1 < lfU v u → u 4 ≤ snk u → kmU v u (dir v u) 1 = 2) := by
  obtain ⟨h0, h1, ⟨h2, h3⟩, h4, h5, h6, h7, q1, q2, q3, q4⟩ := id h
  have g1 := q1 (by omega)
  have g2 := q2 (Or.inl e1)
  have g3 := q3 e1
  obtain ⟨p1, p2⟩ := hC.2.2.2.1 (u 7) (by omega) g2
  obtain ⟨d1, d2, d3⟩ := dir_s (u := u) (fun i hi => by rw [hi]; exact hC.2.2.1 _ p1 p2) h2 h3 g3.2
  obtain ⟨f1, f2⟩ := kmU_F hC h e1 d2 d3
  obtain ⟨k0, k2, k3, k4, k5, k6, k7, k8, k1⟩ := @kmU_k v u (dir v u)
  have hs := snk_b h0.1 h0.2
  have i6 := hC.2.1
  have g6 := lgs_m hC (m := (u 7).toNat) (n := (v 1 - 1).toNat) (by omega) (by omega)
  have hlf : lfU v u = dst v (v (23 + u 7)) (u 2) (u 3) + (lgs v (v 1 - 1).toNat - lgs v (u 7).toNat) := rfl
  have hlf' : lfU v (kmU v u (dir v u)) = dst v (v (23 + kmU v u (dir v u) 7)) (kmU v u (dir v u) 2) (kmU v u (dir v u) 3) + (lgs v (v 1 - 1).toNat - lgs v (kmU v u (dir v u) 7).toNat) := rfl
  rw [k2, k3, k7] at hlf'
  rw [d1] at k1 k7 hlf'
  refine ⟨f1, f2, ?_⟩
  by_cases e : dst v (v (23 + u 7)) (u 2) (u 3) - 1 = 0
  · rw [bI_t e] at k1 k7 hlf'
    by_cases eL : u 7 + 1 = v 1
    · rw [if_pos eL] at k1
      have e9 : (v 1 - 1).toNat = (u 7).toNat := by omega
      rw [e9] at hlf
      exact ⟨fun _ => k1, fun h => by omega, fun h => by omega⟩
    · have hl := leg_120 hC (k := u 7) (by omega) (by omega)
      have g9 := lgs_m hC (m := (u 7).toNat + 1) (n := (v 1 - 1).toNat) (by omega) (by omega)
      have g7 : lgs v ((u 7).toNat + 1) = lgs v (u 7).toNat + leg v (u 7) := by
        show lgs v (u 7).toNat + leg v ((u 7).toNat : Int) = _
        rw [show ((u 7).toNat : Int) = u 7 by omega]
      have a1 := @ab_0 (v (7 + 2 * v (23 + u 7)) - (u 2 + stX (dir v u)))
      have a2 := @ab_0 (v (8 + 2 * v (23 + u 7)) - (u 3 + stY (dir v u)))
      have d1' := d1
      unfold dst at d1'
      have ez : ab (v (7 + 2 * v (23 + u 7)) - (u 2 + stX (dir v u))) + ab (v (8 + 2 * v (23 + u 7)) - (u 3 + stY (dir v u))) = 0 := by
        rw [d1']; exact e
      have b1 := ab_z.mp (show ab (v (7 + 2 * v (23 + u 7)) - (u 2 + stX (dir v u))) = 0 by omega)
      have b2 := ab_z.mp (show ab (v (8 + 2 * v (23 + u 7)) - (u 3 + stY (dir v u))) = 0 by omega)
      have c1 : u 2 + stX (dir v u) = v (7 + 2 * v (23 + u 7)) := by omega
      have c2 : u 3 + stY (dir v u) = v (8 + 2 * v (23 + u 7)) := by omega
      have c3 : dst v (v (23 + (u 7 + 1))) (u 2 + stX (dir v u)) (u 3 + stY (dir v u)) = leg v (u 7) := by
        rw [c1, c2, show (23 : Int) + (u 7 + 1) = 24 + u 7 by omega]
        show apt v (v (24 + u 7)) (v (23 + u 7)) = _
        rw [apt_c]
        rfl
      rw [c3, show (u 7 + 1).toNat = (u 7).toNat + 1 by omega, g7] at hlf'
      rw [if_neg eL] at k1
      refine ⟨fun h => by omega, fun _ hh => ⟨?_, by omega, ?_⟩, fun _ hh => ?_⟩
      · rw [k1, if_neg (by rw [if_neg (by omega)]; omega)]
      · rw [k4, if_neg (by omega)]
      · rw [k1, if_pos (by split <;> omega)]
  · rw [bI_f e, Int.add_zero] at k1 k7 hlf'
    rw [d1] at hlf'
    rw [if_neg (by omega)] at k1
    refine ⟨fun h => by omega, fun _ hh => ⟨?_, by omega, ?_⟩, fun _ hh => ?_⟩
    · rw [k1, if_neg (by rw [if_neg (by omega)]; omega)]
    · rw [k4, if_neg (by omega)]
    · rw [k1, if_pos (by split <;> omega)]
section PFF
variable {ad S Ln : Nat → Nat} {R : gR} {M : gM} {a : Nat} {v : gV} {b : Int}
theorem f_inFlight (hL : LyS S Ln R a) (hR : RpS M a v) (hI : IvS b v) {g : Nat} {u : gV} (hgs : g ≠ a + 19) (hg : RpG M g u) (hu : IvP b v u) (e1 : u 1 = 1) :
    ∃ M', fX8_finishesInFlight ad S Ln R M a g = some (bI ((lfU v u - 1) * snk u < u 4), M') ∧ ∀ c, c ≠ a + 19 → M' c = M c := by
  have hC := hI.1
  have hb0 := hI.2.2.2.2.2.1
  have hD := lfU_b hC hu e1
  have hs := snk_b hu.1.1 hu.1.2
  have hF := hu.f
  have hu5 := hu.2.2.2.2.1.2
  have hu6 := hu.2.2.2.2.2.1.2
  obtain ⟨M1, c1, c2, c3⟩ := g_copy (ad := ad) (S := S) (Ln := Ln) (R := R) (a := a + 19) (b := g) (M := M) hgs (by rw [hg 1 (by decide) (by decide)]; omega)
  have hg1 : RpG M1 (a + 19) u := fun k k0 k1 => by rw [c2 k k0 k1]; exact hg k k0 k1
  unfold fX8_finishesInFlight
  rw [s_sc hL, c1, bd_s]
  obtain ⟨r, e2, M2, w, e3, e4, e5, e6, e7⟩ := lp_inv0 (b := fX8_finishesInFlight_L10 ad S Ln R a) 10000
    (fun i s => s.1 = (i : Int) ∧ (∀ c, c ≠ a + 19 → s.2 c = M c) ∧ ∃ w, RpG s.2 (a + 19) w ∧ IvF v w ∧ w 5 ≤ u 5 + i ∧ w 6 ≤ u 6 + 10 * i ∧
      ((w 1 = 1 ∧ (lfU v w = lfU v u - i ∧ w 4 = u 4 - i * snk u ∧ w 0 = u 0)) ∨ (w 1 ≠ 1 ∧ (w 1 = 3 ↔ (lfU v u - 1) * snk u < u 4))))
    (fun r => ∃ M' w, r = .inl M' ∧ RpG M' (a + 19) w ∧ IvF v w ∧ (w 1 = 3 ↔ (lfU v u - 1) * snk u < u 4) ∧ ∀ c, c ≠ a + 19 → M' c = M c)
    (s := ((0 : Int), M1)) (by omega) ⟨rfl, c3, u, hg1, hF, by omega, by omega, Or.inl ⟨e1, by omega, by show u 4 = u 4 - (0 : Int) * snk u; rw [Int.zero_mul, Int.sub_zero], rfl⟩⟩
    (fun i s hi hs => by
      obtain ⟨s1, s2, w, s3, s4, s5, s6, s7⟩ := hs
      obtain ⟨h0, h1, ⟨h2, h3⟩, h4, h5, h6, h7, q1, q2, q3, q4⟩ := id s4
      unfold fX8_finishesInFlight_L10
      rw [if_neg (by omega), s_sc hL, s3 1 (by decide) (by decide), gd_t h1.1]
      rcases s7 with ⟨t1, t2, t3, t4⟩ | ⟨t1, t2⟩
      · left
        have g1 := q1 (by omega)
        have g2 := q2 (Or.inl t1)
        have hDw := s4.lf hC t1
        have hsw : snk w = snk u := by unfold snk; rw [t4]
        have hRC : RpC s.2 (a + 1) v := hR.1.fr fun q q0 q1 => s2 q (by omega)
        have hRB : RpB s.2 (a + 10) v := hR.2.2.1.fr fun q q0 q1 => s2 q (by omega)
        obtain ⟨k1, k2, k3, k4, k5⟩ := kmU_d hC s4 t1
        obtain ⟨M3, f1, f2, f3⟩ := f_km (ad := ad) (d := dir v w) hL hRC hRB hC hI.2.2.1 (by omega) s3 s4 t1 (by omega) (by omega)
        rw [if_pos t1, s_sc hL, s_c hL, s_sc hL, s_sc hL, s_sc hL, s3 7 (by decide) (by decide), s3 2 (by decide) (by decide), s3 3 (by decide) (by decide), c_dir hL.2.2.1 hRC hC (by omega) g2, bd_s]
        rw [show (if v (7 + 2 * v (23 + w 7)) = w 2 then (if v (8 + 2 * v (23 + w 7)) ≤ w 3 then (2 : Int) else 0) else (if v (7 + 2 * v (23 + w 7)) ≤ w 2 then 3 else 1)) = dir v w from rfl, f1, bd_s]
        obtain ⟨m0, m2, m3, m4, m5, m6, m7, m8, m1⟩ := @kmU_k v w (dir v w)
        have br := bI_r (rst v (w 2 + stX (dir v w)) (w 3 + stY (dir v w)))
        have hi1 : ((i + 1 : Nat) : Int) = (i : Int) + 1 := by omega
        refine ⟨_, rfl, ?_, ?_, _, f2, k1, ?_, ?_, ?_⟩
        · show w32 (s.1 + 1) = _
          rw [w32_i (by omega) (by omega)]; omega
        · intro c hc; show M3 c = M c; rw [f3 c hc]; exact s2 c hc
        · rw [m5]; omega
        · rw [m6]; omega
        · have hpos := (q3 t1).1
          by_cases eD : lfU v w = 1
          · right
            have hk := k3 eD
            refine ⟨by omega, fun _ => ?_, fun _ => hk⟩
            rw [show lfU v u - 1 = (i : Int) by omega]
            omega
          · by_cases eh : snk w < w 4
            · left
              obtain ⟨n1, n2, n3⟩ := k4 (by omega) eh
              refine ⟨n1, by omega, ?_, by rw [m0, t4]⟩
              rw [n3, hi1, Int.add_mul, Int.one_mul, hsw]; omega
            · right
              have hk := k5 (by omega) (by omega)
              refine ⟨by omega, fun h => by omega, fun h => ?_⟩
              have hm : ((i : Int) + 1) * snk u ≤ (lfU v u - 1) * snk u := Int.mul_le_mul_of_nonneg_right (by omega) (by omega)
              rw [Int.add_mul, Int.one_mul] at hm
              omega
      · right
        rw [if_neg t1]
        exact ⟨_, rfl, s.2, w, rfl, s3, s4, t2, s2⟩)
    (fun s hs => by
      obtain ⟨s1, s2, w, s3, s4, s5, s6, s7⟩ := hs
      unfold fX8_finishesInFlight_L10
      rw [if_pos (by omega)]
      rcases s7 with ⟨t1, t2, t3, t4⟩ | ⟨t1, t2⟩
      · have := s4.lf hC t1; omega
      · exact ⟨_, rfl, s.2, w, rfl, s3, s4, t2, s2⟩)
  rw [e2, bd_s, e3, se_l]
  refine ⟨M2, ?_, e7⟩
  unfold fX8_finishesInFlight_B75
  rw [s_sc hL, e4 1 (by decide) (by decide), gd_t e5.2.1.1]
  by_cases h : w 1 = 3
  · rw [if_neg (fun q => q h), bI_t (e6.mp h)]
  · rw [if_pos h, bI_f (fun q => h (e6.mpr q))]
end PFF
