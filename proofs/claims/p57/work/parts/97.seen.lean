/-! p57: what the law sees of a contest -/
theorem wr_ua {M : gM} {a : Nat} {f : Int → Int} {k z : Int} : wr (ua M a f) a k z = ua M a (us f k z) := by
  unfold wr
  rw [ua_s, ua_ua]
def phs (u : gV) : Int := if u 1 = 1 then 1 else if u 1 = 2 then 2 else if u 1 = 3 then 3 else 0
def pl4 (v : gV) (p : Int) (f : Int → Int) : Int → Int := us (us (us (us f (14 + 10 * p) (snk (gl v p))) (14 + 10 * p + 1) (phs (gl v p))) (14 + 10 * p + 2) (w32 (gl v p 8))) (14 + 10 * p + 3) (gl v p 7)
def pl9 (v : gV) (p : Int) (f : Int → Int) : Int → Int := us (us (us (us (us (pl4 v p f) (14 + 10 * p + 4) (gl v p 2)) (14 + 10 * p + 5) (gl v p 3)) (14 + 10 * p + 6) (gl v p 4)) (14 + 10 * p + 7) (gl v p 5)) (14 + 10 * p + 8) (gl v p 6)
def pil (v : gV) (p : Int) (f : Int → Int) : Int → Int := if gl v p 1 = 0 then pl4 v p f else pl9 v p f
def sA (v : gV) : Nat → Int → Int
  | 0 => us (us (us (us (us (us gNz 0 (v 0)) 1 (v 1)) 2 (v 4)) 3 (v 5)) 4 (v 6)) 5 (whl v)
  | t + 1 => us (sA v t) (6 + t) (v (23 + t))
def sB (v : gV) : Nat → Int → Int
  | 0 => sA v (v 1).toNat
  | p + 1 => pil v p (sB v p)
noncomputable def sC (v : gV) : Nat → Int → Int
  | 0 => sB v (v 4).toNat
  | t + 1 => us (sC v t) (80 + t) (cnt v t 61)
noncomputable def sF (v : gV) : Int → Int := sC v 45
section SE57
variable {ad S Ln : Nat → Nat} {R : gR} {M : gM} {o sz : Nat} {π : Int → Nat} {b : Int} {v : gV}
theorem se_B142 (hO : LyO S Ln R o π) (hR : ∀ f, RpS (ua M sz f) (o + 1) v) (hI : IvS b v) (hl : Ln sz = 130) {szz : Nat} {p : Int} (p0 : 0 ≤ p) (p1 : p < v 4) (f : Int → Int) :
    fL_seen_B142 ad szz S Ln R (ua M sz (us f (14 + 10 * p) (snk (gl v p)))) o sz p (14 + 10 * p) (phs (gl v p)) (14 + 10 * p + 1) sz = some (.inl (p + 1, ua M sz (pil v p f))) := by
  have i4 := hI.2.2.2.1
  have h1 := (hI.2.2.2.2.2.2 p p0 p1).2.1
  have hL : ∀ j : Int, 0 ≤ j → j ≤ 8 → (0 : Int) ≤ 14 + 10 * p + j ∧ 14 + 10 * p + j < (Ln sz : Int) := fun j j0 j1 => by rw [hl]; omega
  unfold fL_seen_B142
  rw [w32_i (z := 14 + 10 * p + 1) (by omega) (by omega), w32_i (z := 14 + 10 * p + 2) (by omega) (by omega), w32_i (z := 14 + 10 * p + 3) (by omega) (by omega), w32_i (z := 14 + 10 * p + 4) (by omega) (by omega), w32_i (z := 14 + 10 * p + 5) (by omega) (by omega), w32_i (z := 14 + 10 * p + 6) (by omega) (by omega), w32_i (z := 14 + 10 * p + 7) (by omega) (by omega), w32_i (z := 14 + 10 * p + 8) (by omega) (by omega)]
  rw [gd_t (hL 1 (by decide) (by decide)), nam_d, wr_ua, Q_total hO (hR _) hI p0 p1, bd_s, se_l, gd_t (hL 2 (by decide) (by decide)), nam_d, wr_ua, Q_reached hO (hR _) hI p0 p1, bd_s, se_l, gd_t (hL 3 (by decide) (by decide)), nam_d, wr_ua, gd_t (hL 1 (by decide) (by decide))]
  have e4 : us (us (us (us f (14 + 10 * p) (snk (gl v p))) (14 + 10 * p + 1) (phs (gl v p))) (14 + 10 * p + 2) (w32 (gl v p 8))) (14 + 10 * p + 3) (gl v p 7) = pl4 v p f := rfl
  have e5 : ua M sz (pl4 v p f) sz (14 + 10 * p + 1) = phs (gl v p) := by
    rw [ua_s]
    unfold pl4
    rw [us_n (by omega), us_n (by omega), us_s]
  rw [e4, e5]
  by_cases h : gl v p 1 = 0
  · have e6 : phs (gl v p) = 0 := by
      unfold phs
      rw [if_neg (by omega), if_neg (by omega), if_neg (by omega)]
    have e7 : pil v p f = pl4 v p f := if_pos h
    rw [if_pos (by omega), e7]
    unfold fL_seen_B225
    rw [w32_i (by omega) (by omega)]
  · have e6 : 0 < phs (gl v p) := by
      unfold phs
      by_cases a1 : gl v p 1 = 1
      · rw [if_pos a1]; decide
      · rw [if_neg a1]
        by_cases a2 : gl v p 1 = 2
        · rw [if_pos a2]; decide
        · rw [if_neg a2, if_pos (by omega)]; decide
    have e7 : pil v p f = pl9 v p f := if_neg h
    rw [if_neg (by omega), Q_x hO (hR _) hI p0 p1 h, bd_s, se_l, gd_t (hL 4 (by decide) (by decide)), nam_d, wr_ua, Q_y hO (hR _) hI p0 p1 h, bd_s, se_l, gd_t (hL 5 (by decide) (by decide)), nam_d, wr_ua, Q_height hO (hR _) hI p0 p1 h, bd_s, se_l, gd_t (hL 6 (by decide) (by decide)), nam_d, wr_ua, Q_minutes hO (hR _) hI p0 p1 h, bd_s, se_l, gd_t (hL 7 (by decide) (by decide)), nam_d, wr_ua, Q_penalty hO (hR _) hI p0 p1 h, bd_s, se_l, gd_t (hL 8 (by decide) (by decide)), nam_d, wr_ua, e7]
    unfold fL_seen_B225
    rw [w32_i (by omega) (by omega)]
    rfl
theorem se_L50 (hO : LyO S Ln R o π) (hR : ∀ f, RpS (ua M sz f) (o + 1) v) (hI : IvS b v) (hl : Ln sz = 130) {szz : Nat} :
    lp (fL_seen_L50 ad szz S Ln R o sz) FU (0, ua M sz (sA v 0)) = some (.inl (ua M sz (sB v 0))) := by
  have i1 := hI.1.2.1
  refine lp_up0 (v 1).toNat (fun t => ((t : Int), ua M sz (sA v t))) rfl (by omega) (fun t ht => ?_) ?_
  · unfold fL_seen_L50
    dsimp only
    have ec : ((t : Int) + 1) = ((t + 1 : Nat) : Int) := by omega
    rw [Q_taskLength hO (hR _), bd_s, if_neg (by omega), Q_taskPoint hO (hR _) hI ⟨by omega, by omega⟩, bd_s, se_l, w32_i (z := 6 + (t : Int)) (by omega) (by omega), gd_t (by rw [hl]; omega), nam_d, wr_ua, w32_i (by omega) (by omega), ec]
    rfl
  · unfold fL_seen_L50
    dsimp only
    rw [Q_taskLength hO (hR _), bd_s, if_pos (by omega)]
    rfl
theorem se_L77 (hO : LyO S Ln R o π) (hR : ∀ f, RpS (ua M sz f) (o + 1) v) (hI : IvS b v) (hl : Ln sz = 130) {szz : Nat} :
    lp (fL_seen_L77 ad szz S Ln R o sz) FU (0, ua M sz (sB v 0)) = some (.inl (ua M sz (sC v 0))) := by
  have i4 := hI.2.2.2.1
  refine lp_up0 (v 4).toNat (fun t => ((t : Int), ua M sz (sB v t))) rfl (by omega) (fun t ht => ?_) ?_
  · unfold fL_seen_L77
    dsimp only
    have p0 : (0 : Int) ≤ t := by omega
    have p1 : (t : Int) < v 4 := by omega
    have h1 := (hI.2.2.2.2.2.2 t p0 p1).2.1
    have ec : ((t + 1 : Nat) : Int) = (t : Int) + 1 := by omega
    have hB := se_B142 (ad := ad) (szz := szz) hO hR hI hl p0 p1 (sB v t)
    rw [ec]
    show _ = some (Sum.inl ((t : Int) + 1, ua M sz (pil v t (sB v t))))
    rw [Q_pilotCount hO (hR _), bd_s, if_neg (by omega), Q_sink hO (hR _) hI p0 p1, bd_s, se_l, w32_i (z := 10 * (t : Int)) (by omega) (by omega), w32_i (z := 14 + 10 * (t : Int)) (by omega) (by omega), w32_i (z := 14 + 10 * (t : Int) + 1) (by omega) (by omega), gd_t (by rw [hl]; omega), nam_d, wr_ua, Q_isFlying hO (hR _) hI p0 p1, bd_s, se_l]
    by_cases a1 : gl v t 1 = 1
    · rw [bI_t a1, if_neg (by decide)]
      rw [show phs (gl v t) = 1 from if_pos a1] at hB
      exact hB
    · rw [bI_f a1, if_pos rfl, Q_isLanded hO (hR _) hI p0 p1, bd_s, se_l]
      by_cases a2 : gl v t 1 = 2
      · rw [bI_t a2, if_neg (by decide)]
        rw [show phs (gl v t) = 2 from (if_neg a1).trans (if_pos a2)] at hB
        exact hB
      · rw [bI_f a2, if_pos rfl, Q_isFinished hO (hR _) hI p0 p1, bd_s, se_l]
        by_cases a3 : gl v t 1 = 3
        · rw [bI_t a3, if_neg (by decide)]
          rw [show phs (gl v t) = 3 from (if_neg a1).trans ((if_neg a2).trans (if_pos a3))] at hB
          exact hB
        · rw [bI_f a3, if_pos rfl]
          rw [show phs (gl v t) = 0 from (if_neg a1).trans ((if_neg a2).trans (if_neg a3))] at hB
          exact hB
  · unfold fL_seen_L77
    dsimp only
    rw [Q_pilotCount hO (hR _), bd_s, if_pos (by omega)]
    rfl
theorem se_L233 (hO : LyO S Ln R o π) (hR : ∀ f, RpS (ua M sz f) (o + 1) v) (hI : IvS b v) (hl : Ln sz = 130) {szz : Nat} :
    lp (fL_seen_L233 ad szz S Ln R o sz) FU (0, ua M sz (sC v 0)) = some (.inl (ua M sz (sF v))) := by
  refine lp_up0 45 (fun t => ((t : Int), ua M sz (sC v t))) rfl (by omega) (fun t ht => ?_) ?_
  · unfold fL_seen_L233
    dsimp only
    have ec : ((t : Int) + 1) = ((t + 1 : Nat) : Int) := by omega
    rw [if_neg (by omega), Q_row hO (hR _) hI ⟨by omega, by omega⟩, bd_s, se_l, w32_i (z := 80 + (t : Int)) (by omega) (by omega), gd_t (by rw [hl]; omega), nam_d, wr_ua, w32_i (by omega) (by omega), ec]
    rfl
  · unfold fL_seen_L233
    dsimp only
    rw [if_pos (by decide)]
    rfl
theorem W_seen {n : Int} {w : Int → gV} (hW : CW S Ln R M o π b v n w) (hsz : o + 310 ≤ sz) : fL_seen ad sz S Ln R M o = some (sz, sz + 1, ua S sz 20, ua Ln sz 130, ua M sz (sF v), ua R sz gNo) := by
  obtain ⟨hO, hR, ⟨hI, hZ, hX⟩, hH, hHX⟩ := hW
  have hO1 : LyO (ua S sz 20) (ua Ln sz 130) (ua R sz gNo) o π := hO.f2 (fun q hq => ⟨ua_n (by omega), ua_n (by omega)⟩) (fun q hq => ua_n (by omega))
  have hR1 : ∀ f, RpS (ua M sz f) (o + 1) v := fun f => hR.fr (fun q q0 q1 => ua_n (by omega)) hI.2.2.2.1.2
  have hl : ua Ln sz 130 sz = 130 := ua_s
  unfold fL_seen
  rw [show (130 : Int).toNat = 130 from rfl]
  simp only [nam_d]
  generalize ua S sz 20 = S1 at hO1
  generalize ua R sz gNo = R1 at hO1
  generalize ua Ln sz 130 = L1 at hO1 hl
  have hg : ∀ j : Int, 0 ≤ j → j ≤ 5 → (0 : Int) ≤ j ∧ j < (L1 sz : Int) := fun j j0 j1 => by rw [hl]; omega
  rw [Q_pointCount hO1 (hR1 _), bd_s, gd_t (hg 0 (by decide) (by decide)), wr_ua, Q_taskLength hO1 (hR1 _), bd_s, gd_t (hg 1 (by decide) (by decide)), wr_ua, Q_pilotCount hO1 (hR1 _), bd_s, gd_t (hg 2 (by decide) (by decide)), wr_ua, Q_cloudBase hO1 (hR1 _), bd_s, gd_t (hg 3 (by decide) (by decide)), wr_ua, Q_days hO1 (hR1 _), bd_s, gd_t (hg 4 (by decide) (by decide)), wr_ua, Q_whole hO1 (hR1 _) hI, bd_s, gd_t (hg 5 (by decide) (by decide)), wr_ua]
  have e0 : us (us (us (us (us (us gNz 0 (v 0)) 1 (v 1)) 2 (v 4)) 3 (v 5)) 4 (v 6)) 5 (whl v) = sA v 0 := rfl
  rw [e0, se_L50 hO1 hR1 hI hl, bd_s, se_l, se_L77 hO1 hR1 hI hl, bd_s, se_l, se_L233 hO1 hR1 hI hl, bd_s, se_l]
/-- two rows that hold the same -/
theorem W_alike {x y : Nat} (hx : Ln x = 130) (hy : Ln y = 130) (h : ∀ j : Int, 0 ≤ j → j < 130 → M x j = M y j) : fL_areAlike ad S Ln R M x y = some 1 := by
  unfold fL_areAlike
  rw [lp_up0 130 (fun t => (t : Int)) (r := .inl ()) (s := (0 : Int)) rfl (by omega) (fun t ht => ?_) ?_, bd_s, se_l]
  · unfold fL_areAlike_L2
    rw [if_pos (by rw [hx]; decide)]
  · unfold fL_areAlike_L2
    have ec : ((t : Int) + 1) = ((t + 1 : Nat) : Int) := by omega
    rw [if_neg (by rw [hx]; omega), gd_t (by rw [hx]; omega), gd_t (by rw [hy]; omega), if_pos (h t (by omega) (by omega)), w32_i (by omega) (by omega), ec]
end SE57
