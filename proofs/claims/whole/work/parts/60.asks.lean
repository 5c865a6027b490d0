/-! PURE: the law's cases that ask -/
theorem RpS.sc {M M' : gM} {a : Nat} {v : gV} (h : RpS M a v) (h6 : v 4 ≤ 6) (e : ∀ q : Nat, a ≤ q → q < a + 26 → q ≠ a + 15 → q ≠ a + 16 → q ≠ a + 18 → q ≠ a + 19 → M' q = M q) : RpS M' a v :=
  ⟨h.1.fr fun q q0 q1 => e q (by omega) (by omega) (by omega) (by omega) (by omega) (by omega), h.2.1.fr fun q q0 q1 => e q (by omega) (by omega) (by omega) (by omega) (by omega) (by omega), h.2.2.1.fr fun q q0 q1 => e q (by omega) (by omega) (by omega) (by omega) (by omega) (by omega), by rw [e a (by omega) (by omega) (by omega) (by omega) (by omega) (by omega)]; exact h.2.2.2.1, by rw [e a (by omega) (by omega) (by omega) (by omega) (by omega) (by omega)]; exact h.2.2.2.2.1,
    fun p p0 p1 => (h.2.2.2.2.2.1 p p0 p1).fr (e _ (by omega) (by omega) (by omega) (by omega) (by omega) (by omega)), fun q hq => by rw [e _ (by omega) (by omega) (by omega) (by omega) (by omega) (by omega)]; exact h.2.2.2.2.2.2 q hq⟩
def SC (M M1 : gM) (o : Nat) : Prop := ∀ c, c ≠ o + 16 → c ≠ o + 17 → c ≠ o + 19 → c ≠ o + 20 → M1 c = M c
def LQ (M : gM) (o a : Nat) (t rv : Int) (fl : Option (Int × gM)) : Prop := ∃ M0, SC M M0 o ∧ fl = some (t, if t = 0 then wr M0 a 0 rv else M0)
def MZQ (M : gM) (m : Nat) (t rv : Int) (e : Option (Int × gM)) : Prop := e = some (if t = 0 then rv else 0, wr M m 5 t)
theorem bI_01 {p : Prop} : bI p = 0 ∨ bI p = 1 := by have := bI_r p; omega
section PLQ
variable {ad S Ln : Nat → Nat} {R : gR} {M : gM} {e o m a : Nat} {π : Int → Nat} {b : Int}
theorem q_ok {M0 M1 : gM} {t : Int} (hY : HY S Ln R M e o m a π b) (hs : SC M M0 o) (h1 : M1 m = us (M m) 5 t) (h2 : ∀ c, c ≠ m → c ≠ a → c ≠ a + 1 → M1 c = M0 c) : OKS S Ln R M o m a b R M1 := by
  obtain ⟨hO, hM, hd, hla, he, hN, hb⟩ := hY
  obtain ⟨n1, n2, n3, n4, n5, n6, n7⟩ := hN
  have hf : ∀ c, c ≠ m → c ≠ a → c ≠ a + 1 → c ≠ o + 16 → c ≠ o + 17 → c ≠ o + 19 → c ≠ o + 20 → M1 c = M c := fun c c0 c1 c2 c3 c4 c5 c6 => by rw [h2 c c0 c1 c2, hs c c3 c4 c5 c6]
  have hk : ∀ k, k ≠ 5 → M1 m k = M m k := fun k hk => by rw [h1, us_n hk]
  have hv : M1 (m + 1) = M (m + 1) := hf _ (by omega) (by omega) (by omega) (by omega) (by omega) (by omega) (by omega)
  have hv3 : M1 (m + 3) = M (m + 3) := hf _ (by omega) (by omega) (by omega) (by omega) (by omega) (by omega) (by omega)
  have hv4 : M1 (m + 4) = M (m + 4) := hf _ (by omega) (by omega) (by omega) (by omega) (by omega) (by omega) (by omega)
  have hw : ∀ q, pW M1 m q = pW M m q := fun q => by unfold pW; rw [hv4]
  refine ⟨⟨π, hO, INV.mono ⟨?_, ?_, ?_, ?_, fun q q0 q1 => ?_, ?_, fun h => ?_⟩ (show b ≤ b + 1 by omega) hb⟩, fun _ _ => rfl, fun c hc c1 c2 => hf c (by omega) c1 c2 (by omega) (by omega) (by omega) (by omega), fun k k0 k1 => hk k k1⟩
  · rw [hv]; exact n1.sc n2.1.2.2.2.1.2 (fun q q0 q1 q2 q3 q4 q5 => hf q (by omega) (by omega) (by omega) (by omega) (by omega) (by omega) (by omega))
  · rw [hv]; exact n2
  · rw [hf _ (by omega) (by omega) (by omega) (by omega) (by omega) (by omega) (by omega), hk 4 (by decide)]; exact n3
  · rw [hk 4 (by decide)]; exact n4
  · rw [hk 4 (by decide)] at q1
    rw [hw]
    obtain ⟨l1, l2, l3, l4⟩ := hO.2.2.2.2.2.2.2.2.2.1 q q0 (by omega)
    obtain ⟨r1, r2, r3⟩ := n5 q q0 q1
    exact ⟨r1.fr (fun x x0 x1 => hf x (by omega) (by omega) (by omega) (by omega) (by omega) (by omega) (by omega)) r2.2.2.2.1.2, r2, r3⟩
  · rw [hf o (by omega) (by omega) (by omega) (by omega) (by omega) (by omega) (by omega), hk 9 (by decide)]; exact n6
  · rw [hk 9 (by decide)] at h
    obtain ⟨r1, r2, r3⟩ := n7 h
    rw [hv3]
    exact ⟨r1.fr (fun x x0 x1 => hf x (by omega) (by omega) (by omega) (by omega) (by omega) (by omega) (by omega)) r2.2.2.2.1.2, r2, r3⟩
theorem q_pre {t rv : Int} {fl : Option (Int × gM)} {g : gM → Option (Int × gM)} (hY : HY S Ln R M e o m a π b) (hl : LQ M o a t rv fl) (hg : ∀ M1 : gM, M1 (m + 1) = M (m + 1) → M1 m = M m → M1 e = M e → MZQ M1 m t rv (g M1)) :
    ∃ M1 M2, fl = some (t, M1) ∧ g M1 = some (if t = 0 then rv else 0, M2) ∧ M2 m 5 = t ∧ (t = 0 → M2 a 0 = rv) ∧ OKS S Ln R M o m a b R M2 := by
  obtain ⟨M0, h1, h2⟩ := hl
  have hY9 := hY
  obtain ⟨hO, hM, hd, hla, he, hN, hb⟩ := hY
  have hx : ∀ c, c ≠ a → (if t = 0 then wr M0 a 0 rv else M0) c = M0 c := fun c hc => by
    split
    · exact wr_a hc
    · rfl
  have hh : ∀ c, c ≠ a → c ≠ o + 16 → c ≠ o + 17 → c ≠ o + 19 → c ≠ o + 20 → (if t = 0 then wr M0 a 0 rv else M0) c = M c := fun c hc c1 c2 c3 c4 => by rw [hx c hc, h1 c c1 c2 c3 c4]
  have h3 := hg (if t = 0 then wr M0 a 0 rv else M0) (hh _ (by omega) (by omega) (by omega) (by omega) (by omega)) (hh _ (by omega) (by omega) (by omega) (by omega) (by omega)) (hh _ (by omega) (by omega) (by omega) (by omega) (by omega))
  refine ⟨_, _, h2, h3, wr_s, fun ht => ?_, q_ok hY9 h1 (by rw [wr_r, hh m (by omega) (by omega) (by omega) (by omega) (by omega)]) (fun c c0 c1 _ => by rw [wr_a c0, hx c c1])⟩
  rw [wr_a (by omega), if_pos ht, wr_s]
theorem q_case {α : Type} {t rv : Int} {fl : Option (Int × gM)} {g : gM → Option (Int × gM)} {B : gM → Option α} (hY : HY S Ln R M e o m a π b) (hl : LQ M o a t rv fl) (hg : ∀ M1 : gM, M1 (m + 1) = M (m + 1) → M1 m = M m → M1 e = M e → MZQ M1 m t rv (g M1)) :
    ∃ M', (bd fl fun q2 => bd (g q2.2) fun q4 => bd (fX10_thrown ad S Ln R q4.2 m) fun q5 => if q5 = q2.1 then (if ¬ q2.1 = 0 then B q4.2 else (gd ((0 : Int) ≤ 0 ∧ 0 < (Ln a : Int)) (if (i_lcmp (q4.2 a 0) q4.1) = 0 then B q4.2 else none))) else none) = B M' ∧ OKS S Ln R M o m a b R M' := by
  obtain ⟨M1, M2, h1, h2, h3, h4, h5⟩ := q_pre hY hl hg
  have hla := hY.2.2.2.1
  refine ⟨M2, ?_, h5⟩
  rw [h1, bd_s]
  dsimp only
  rw [h2, bd_s]
  dsimp only
  rw [show fX10_thrown ad S Ln R M2 m = some (M2 m 5) from rfl, bd_s, h3, if_pos rfl]
  by_cases ht : t = 0
  · rw [if_neg (fun q => q ht), gd_t (by rw [hla.1]; decide)]
    simp only [if_pos ht, h4 ht, i_lcmp_0]
    exact if_pos trivial
  · rw [if_pos ht]
theorem qb_case {α : Type} {t rv : Int} {fl : Option (Int × gM)} {g : gM → Option (Int × gM)} {B : gM → Option α} {C : gM → Int → Int → Option α} (hY : HY S Ln R M e o m a π b) (hC : ∀ M4 z, C M4 z z = B M4) (hr : rv = 0 ∨ rv = 1) (hl : LQ M o a t rv fl) (hg : ∀ M1 : gM, M1 (m + 1) = M (m + 1) → M1 m = M m → M1 e = M e → MZQ M1 m t rv (g M1)) :
    ∃ M', (bd fl fun q2 => bd (g q2.2) fun q4 => bd (fX10_thrown ad S Ln R q4.2 m) fun q5 => if q5 = q2.1 then (if ¬ q2.1 = 0 then B q4.2 else (gd ((0 : Int) ≤ 0 ∧ 0 < (Ln a : Int)) (if q4.1 = 0 then C q4.2 0 (q4.2 a 0) else C q4.2 1 (q4.2 a 0)))) else none) = B M' ∧ OKS S Ln R M o m a b R M' := by
  obtain ⟨M1, M2, h1, h2, h3, h4, h5⟩ := q_pre hY hl hg
  have hla := hY.2.2.2.1
  refine ⟨M2, ?_, h5⟩
  rw [h1, bd_s]
  dsimp only
  rw [h2, bd_s]
  dsimp only
  rw [show fX10_thrown ad S Ln R M2 m = some (M2 m 5) from rfl, bd_s, h3, if_pos rfl]
  by_cases ht : t = 0
  · rw [if_neg (fun q => q ht), gd_t (by rw [hla.1]; decide), h4 ht]
    rcases hr with hr | hr
    · rw [if_pos ht, if_pos hr, hr]; exact hC M2 0
    · rw [if_pos ht, if_neg (by omega), hr]; exact hC M2 1
  · rw [if_pos ht]
/-! the pilots asked for -/
def tK (v : gV) (p : Int) : Int := if 0 ≤ p ∧ p < v 4 then 0 else 1
def tF (v : gV) (p : Int) : Int := if 0 ≤ p ∧ p < v 4 then (if gl v p 1 = 0 then 2 else 0) else 1
def tN (v : gV) (p s : Int) : Int := if 0 ≤ p ∧ p < v 4 then (if gl v p 1 = s then 0 else 2) else 1
variable {v : gV}
theorem O_known (hO : LyO S Ln R o π) (hR : RpS M (o + 1) v) (hI : IvS b v) (p : Int) : fX9_knownPilot ad S Ln R M o p = some (if 0 ≤ p ∧ p < v 4 then .inl (o + 1 + 20 + p.toNat) else .inr "java/lang/IndexOutOfBoundsException") := by
  have hp := hI.2.2.2.1
  unfold fX9_knownPilot
  rw [o_0 hO, s_hasPilot hR, bd_s]
  by_cases h : 0 ≤ p ∧ p < v 4
  · rw [bI_t h, if_pos (by decide), if_pos h, o_0 hO, s_g hO.2.2.1 h.1 (by omega)]
  · rw [bI_f h, if_neg (by decide), if_neg h]
theorem O_launched (hO : LyO S Ln R o π) (hR : RpS M (o + 1) v) (hI : IvS b v) (p : Int) : fX9_launchedPilot ad S Ln R M o p = some (if 0 ≤ p ∧ p < v 4 then (if gl v p 1 = 0 then .inr "java/lang/IllegalStateException" else .inl (o + 1 + 20 + p.toNat)) else .inr "java/lang/IndexOutOfBoundsException") := by
  unfold fX9_launchedPilot
  rw [O_known hO hR hI, bd_s]
  by_cases h : 0 ≤ p ∧ p < v 4
  · have hu := hI.2.2.2.2.2.2 p h.1 h.2
    rw [if_pos h, if_pos h, se_l, s_u hR h.1 h.2 (by decide) (by decide), gd_t hu.2.1.1]
    by_cases h1 : gl v p 1 = 0
    · rw [if_neg (fun q => q h1), if_pos h1]
    · rw [if_pos h1, if_neg h1]
  · rw [if_neg h, if_neg h, se_r]
theorem O_inPhase (hO : LyO S Ln R o π) (hR : RpS M (o + 1) v) (hI : IvS b v) (p s : Int) : fX9_pilotInPhase ad S Ln R M o p s = some (if 0 ≤ p ∧ p < v 4 then (if gl v p 1 = s then .inl (o + 1 + 20 + p.toNat) else .inr "java/lang/IllegalStateException") else .inr "java/lang/IndexOutOfBoundsException") := by
  unfold fX9_pilotInPhase
  rw [O_known hO hR hI, bd_s]
  by_cases h : 0 ≤ p ∧ p < v 4
  · have hu := hI.2.2.2.2.2.2 p h.1 h.2
    rw [if_pos h, if_pos h, se_l, s_u hR h.1 h.2 (by decide) (by decide), gd_t hu.2.1.1]
    by_cases h1 : gl v p 1 = s
    · rw [if_pos h1, if_pos h1]
    · rw [if_neg h1, if_neg h1]
  · rw [if_neg h, if_neg h, se_r]
theorem SC.rf : SC M M o := fun _ _ _ _ _ => rfl
theorem M_isAt (hM : LyM S Ln R m) (hv : M (m + 1) = v) (hI : IvS b v) (p s : Int) : MZQ M m (tK v p) (bI (gl v p 1 = s)) (fX10_isAt ad S Ln R M m p s) := by
  have hp := hI.2.2.2.1
  have hv' : ∀ z, (wr M m 5 z) (m + 1) = v := fun z => by rw [wr_a (by omega)]; exact hv
  unfold MZQ fX10_isAt tK
  rw [m_isPilot hM hv hp, bd_s]
  by_cases h : 0 ≤ p ∧ p < v 4
  · rw [bI_t h, if_pos (by decide), if_pos h, if_pos rfl]
    unfold fX10_isAt_B14
    rw [m_isThrown, bd_s, thr_0]
    dsimp only
    rw [if_neg (by decide), m_of hM h.1 (by omega) (by decide) (by decide), bd_s, hv']
    by_cases h1 : gl v p 1 = s
    · rw [if_neg (fun q => q h1), bI_t h1]
    · rw [if_pos h1, bI_f h1]
  · rw [bI_f h, if_neg (by decide), if_neg h, if_neg (by decide)]
    unfold fX10_isAt_B14
    rw [m_isThrown, bd_s, thr_1]
    dsimp only
    rw [if_pos (by decide)]
theorem M_ofFlight (hM : LyM S Ln R m) (hv : M (m + 1) = v) (hI : IvS b v) (p : Int) {k : Int} (k0 : 0 ≤ k) (k1 : k < 9) : MZQ M m (tF v p) (gl v p k) (fX10_ofFlight ad S Ln R M m p k) := by
  have hp := hI.2.2.2.1
  have hv' : ∀ z, (wr M m 5 z) (m + 1) = v := fun z => by rw [wr_a (by omega)]; exact hv
  unfold MZQ fX10_ofFlight tF
  rw [m_isPilot hM hv hp, bd_s]
  by_cases h : 0 ≤ p ∧ p < v 4
  · rw [bI_t h, if_pos (by decide), if_pos h]
    unfold fX10_ofFlight_B14
    rw [m_isThrown, bd_s, thr_0]
    dsimp only
    rw [if_neg (by decide), m_of hM h.1 (by omega) (by decide) (by decide), bd_s, hv']
    by_cases h1 : gl v p 1 = 0
    · rw [if_neg (fun q => q h1), if_pos h1, if_neg (by decide)]
      unfold fX10_ofFlight_B36 fX10_ofFlight_B43
      rw [m_isThrown, bd_s, thr_1, wr_wr]
      dsimp only
      rw [if_neg (by decide)]
    · rw [if_pos h1, if_neg h1, if_pos rfl]
      unfold fX10_ofFlight_B36
      rw [m_isThrown, bd_s, thr_0, wr_wr]
      dsimp only
      rw [if_pos rfl, m_of hM h.1 (by omega) k0 k1, bd_s, hv']
  · rw [bI_f h, if_neg (by decide), if_neg h, if_neg (by decide)]
    unfold fX10_ofFlight_B14 fX10_ofFlight_B43
    rw [m_isThrown, bd_s, thr_1]
    dsimp only
    rw [if_pos (by decide)]
theorem M_isNoFlight (hM : LyM S Ln R m) (hv : M (m + 1) = v) (hI : IvS b v) (p : Int) : fX10_isNoFlight ad S Ln R M m p = some (if tN v p 1 = 0 then 0 else 1, wr M m 5 (tN v p 1)) := by
  have hp := hI.2.2.2.1
  have hv' : ∀ z, (wr M m 5 z) (m + 1) = v := fun z => by rw [wr_a (by omega)]; exact hv
  unfold fX10_isNoFlight tN
  rw [m_isPilot hM hv hp, bd_s]
  by_cases h : 0 ≤ p ∧ p < v 4
  · rw [bI_t h, if_pos (by decide), if_pos h]
    unfold fX10_isNoFlight_B14
    rw [m_isThrown, bd_s, thr_0]
    dsimp only
    rw [if_neg (by decide), m_of hM h.1 (by omega) (by decide) (by decide), bd_s, hv']
    by_cases h1 : gl v p 1 = 1
    · rw [if_pos h1, if_pos h1, if_pos rfl]
      unfold fX10_isNoFlight_B37
      rw [m_isThrown, bd_s, thr_0, wr_wr]
      dsimp only
      rw [if_pos rfl]
    · rw [if_neg h1, if_neg h1, if_neg (by decide)]
      unfold fX10_isNoFlight_B37 fX10_isNoFlight_B44
      rw [m_isThrown, bd_s, thr_1, wr_wr]
      dsimp only
      rw [if_neg (by decide)]
  · rw [bI_f h, if_neg (by decide), if_neg h, if_neg (by decide)]
    unfold fX10_isNoFlight_B14 fX10_isNoFlight_B44
    rw [m_isThrown, bd_s, thr_1]
    dsimp only
    rw [if_pos (by decide)]
theorem L_isFlying (hla : Ln a = 1) (hO : LyO S Ln R o π) (hR : RpS M (o + 1) v) (hI : IvS b v) (p : Int) : LQ M o a (tK v p) (bI (gl v p 1 = 1)) (fL_isFlying ad S Ln R M o p a) := by
  refine ⟨M, SC.rf, ?_⟩
  unfold fL_isFlying fX9_isFlying tK
  rw [O_known hO hR hI, bd_s]
  by_cases h : 0 ≤ p ∧ p < v 4
  · have hu := hI.2.2.2.2.2.2 p h.1 h.2
    rw [if_pos h, if_pos h, se_l, s_u hR h.1 h.2 (by decide) (by decide), gd_t hu.2.1.1, if_pos rfl]
    unfold fL_isFlying_B15
    by_cases h1 : gl v p 1 = 1
    · rw [if_neg (fun q => q h1), bd_s, se_l, if_neg (by decide), bI_t h1, gd_t (by rw [hla]; decide), nam_d]
    · rw [if_pos h1, bd_s, se_l, if_pos rfl, bI_f h1, gd_t (by rw [hla]; decide), nam_d]
  · rw [if_neg h, if_neg h, se_r, bd_s, se_r]
    rfl
theorem M_isFlying (hM : LyM S Ln R m) (hv : M (m + 1) = v) (hI : IvS b v) (p : Int) : MZQ M m (tK v p) (bI (gl v p 1 = 1)) (fX10_isFlying ad S Ln R M m p) := by
  unfold MZQ fX10_isFlying
  rw [show fX10_isAt ad S Ln R M m p 1 = _ from M_isAt hM hv hI p 1, bd_s]
theorem L_isLanded (hla : Ln a = 1) (hO : LyO S Ln R o π) (hR : RpS M (o + 1) v) (hI : IvS b v) (p : Int) : LQ M o a (tK v p) (bI (gl v p 1 = 2)) (fL_isLanded ad S Ln R M o p a) := by
  refine ⟨M, SC.rf, ?_⟩
  unfold fL_isLanded fX9_isLanded tK
  rw [O_known hO hR hI, bd_s]
  by_cases h : 0 ≤ p ∧ p < v 4
  · have hu := hI.2.2.2.2.2.2 p h.1 h.2
    rw [if_pos h, if_pos h, se_l, s_u hR h.1 h.2 (by decide) (by decide), gd_t hu.2.1.1, if_pos rfl]
    unfold fL_isLanded_B15
    by_cases h1 : gl v p 1 = 2
    · rw [if_neg (fun q => q h1), bd_s, se_l, if_neg (by decide), bI_t h1, gd_t (by rw [hla]; decide), nam_d]
    · rw [if_pos h1, bd_s, se_l, if_pos rfl, bI_f h1, gd_t (by rw [hla]; decide), nam_d]
  · rw [if_neg h, if_neg h, se_r, bd_s, se_r]
    rfl
theorem M_isLanded (hM : LyM S Ln R m) (hv : M (m + 1) = v) (hI : IvS b v) (p : Int) : MZQ M m (tK v p) (bI (gl v p 1 = 2)) (fX10_isLanded ad S Ln R M m p) := by
  unfold MZQ fX10_isLanded
  rw [show fX10_isAt ad S Ln R M m p 2 = _ from M_isAt hM hv hI p 2, bd_s]
theorem L_isFinished (hla : Ln a = 1) (hO : LyO S Ln R o π) (hR : RpS M (o + 1) v) (hI : IvS b v) (p : Int) : LQ M o a (tK v p) (bI (gl v p 1 = 3)) (fL_isFinished ad S Ln R M o p a) := by
  refine ⟨M, SC.rf, ?_⟩
  unfold fL_isFinished fX9_isFinished tK
  rw [O_known hO hR hI, bd_s]
  by_cases h : 0 ≤ p ∧ p < v 4
  · have hu := hI.2.2.2.2.2.2 p h.1 h.2
    rw [if_pos h, if_pos h, se_l, s_u hR h.1 h.2 (by decide) (by decide), gd_t hu.2.1.1, if_pos rfl]
    unfold fL_isFinished_B15
    by_cases h1 : gl v p 1 = 3
    · rw [if_neg (fun q => q h1), bd_s, se_l, if_neg (by decide), bI_t h1, gd_t (by rw [hla]; decide), nam_d]
    · rw [if_pos h1, bd_s, se_l, if_pos rfl, bI_f h1, gd_t (by rw [hla]; decide), nam_d]
  · rw [if_neg h, if_neg h, se_r, bd_s, se_r]
    rfl
theorem M_isFinished (hM : LyM S Ln R m) (hv : M (m + 1) = v) (hI : IvS b v) (p : Int) : MZQ M m (tK v p) (bI (gl v p 1 = 3)) (fX10_isFinished ad S Ln R M m p) := by
  unfold MZQ fX10_isFinished
  rw [show fX10_isAt ad S Ln R M m p 3 = _ from M_isAt hM hv hI p 3, bd_s]
theorem L_x (hla : Ln a = 1) (hO : LyO S Ln R o π) (hR : RpS M (o + 1) v) (hI : IvS b v) (p : Int) : LQ M o a (tF v p) (gl v p 2) (fL_x ad S Ln R M o p a) := by
  refine ⟨M, SC.rf, ?_⟩
  unfold fL_x fX9_x tF
  rw [O_launched hO hR hI, bd_s]
  by_cases h : 0 ≤ p ∧ p < v 4
  · rw [if_pos h, if_pos h]
    by_cases h1 : gl v p 1 = 0
    · rw [if_pos h1, if_pos h1, se_r, bd_s, se_r, if_neg (by decide), if_pos rfl, if_neg (by decide)]
    · rw [if_neg h1, if_neg h1, se_l, bd_s, se_l, gd_t (by rw [hla]; decide), nam_d, s_u hR h.1 h.2 (by decide) (by decide), if_pos rfl]
  · rw [if_neg h, if_neg h, se_r, bd_s, se_r]
    rfl
theorem M_x (hM : LyM S Ln R m) (hv : M (m + 1) = v) (hI : IvS b v) (p : Int) : MZQ M m (tF v p) (gl v p 2) (fX10_x ad S Ln R M m p) := by
  unfold MZQ fX10_x
  rw [show fX10_ofFlight ad S Ln R M m p 2 = _ from M_ofFlight hM hv hI p (by decide) (by decide), bd_s]
theorem L_y (hla : Ln a = 1) (hO : LyO S Ln R o π) (hR : RpS M (o + 1) v) (hI : IvS b v) (p : Int) : LQ M o a (tF v p) (gl v p 3) (fL_y ad S Ln R M o p a) := by
  refine ⟨M, SC.rf, ?_⟩
  unfold fL_y fX9_y tF
  rw [O_launched hO hR hI, bd_s]
  by_cases h : 0 ≤ p ∧ p < v 4
  · rw [if_pos h, if_pos h]
    by_cases h1 : gl v p 1 = 0
    · rw [if_pos h1, if_pos h1, se_r, bd_s, se_r, if_neg (by decide), if_pos rfl, if_neg (by decide)]
    · rw [if_neg h1, if_neg h1, se_l, bd_s, se_l, gd_t (by rw [hla]; decide), nam_d, s_u hR h.1 h.2 (by decide) (by decide), if_pos rfl]
  · rw [if_neg h, if_neg h, se_r, bd_s, se_r]
    rfl
theorem M_y (hM : LyM S Ln R m) (hv : M (m + 1) = v) (hI : IvS b v) (p : Int) : MZQ M m (tF v p) (gl v p 3) (fX10_y ad S Ln R M m p) := by
  unfold MZQ fX10_y
  rw [show fX10_ofFlight ad S Ln R M m p 3 = _ from M_ofFlight hM hv hI p (by decide) (by decide), bd_s]
theorem L_height (hla : Ln a = 1) (hO : LyO S Ln R o π) (hR : RpS M (o + 1) v) (hI : IvS b v) (p : Int) : LQ M o a (tF v p) (gl v p 4) (fL_height ad S Ln R M o p a) := by
  refine ⟨M, SC.rf, ?_⟩
  unfold fL_height fX9_height tF
  rw [O_launched hO hR hI, bd_s]
  by_cases h : 0 ≤ p ∧ p < v 4
  · rw [if_pos h, if_pos h]
    by_cases h1 : gl v p 1 = 0
    · rw [if_pos h1, if_pos h1, se_r, bd_s, se_r, if_neg (by decide), if_pos rfl, if_neg (by decide)]
    · rw [if_neg h1, if_neg h1, se_l, bd_s, se_l, gd_t (by rw [hla]; decide), nam_d, s_u hR h.1 h.2 (by decide) (by decide), if_pos rfl]
  · rw [if_neg h, if_neg h, se_r, bd_s, se_r]
    rfl
theorem M_height (hM : LyM S Ln R m) (hv : M (m + 1) = v) (hI : IvS b v) (p : Int) : MZQ M m (tF v p) (gl v p 4) (fX10_height ad S Ln R M m p) := by
  unfold MZQ fX10_height
  rw [show fX10_ofFlight ad S Ln R M m p 4 = _ from M_ofFlight hM hv hI p (by decide) (by decide), bd_s]
theorem L_minutes (hla : Ln a = 1) (hO : LyO S Ln R o π) (hR : RpS M (o + 1) v) (hI : IvS b v) (p : Int) : LQ M o a (tF v p) (gl v p 5) (fL_minutes ad S Ln R M o p a) := by
  refine ⟨M, SC.rf, ?_⟩
  unfold fL_minutes fX9_minutes tF
  rw [O_launched hO hR hI, bd_s]
  by_cases h : 0 ≤ p ∧ p < v 4
  · rw [if_pos h, if_pos h]
    by_cases h1 : gl v p 1 = 0
    · rw [if_pos h1, if_pos h1, se_r, bd_s, se_r, if_neg (by decide), if_pos rfl, if_neg (by decide)]
    · rw [if_neg h1, if_neg h1, se_l, bd_s, se_l, gd_t (by rw [hla]; decide), nam_d, s_u hR h.1 h.2 (by decide) (by decide), if_pos rfl]
  · rw [if_neg h, if_neg h, se_r, bd_s, se_r]
    rfl
theorem M_minutes (hM : LyM S Ln R m) (hv : M (m + 1) = v) (hI : IvS b v) (p : Int) : MZQ M m (tF v p) (gl v p 5) (fX10_minutes ad S Ln R M m p) := by
  unfold MZQ fX10_minutes
  rw [show fX10_ofFlight ad S Ln R M m p 5 = _ from M_ofFlight hM hv hI p (by decide) (by decide), bd_s]
theorem L_penalty (hla : Ln a = 1) (hO : LyO S Ln R o π) (hR : RpS M (o + 1) v) (hI : IvS b v) (p : Int) : LQ M o a (tF v p) (gl v p 6) (fL_penalty ad S Ln R M o p a) := by
  refine ⟨M, SC.rf, ?_⟩
  unfold fL_penalty fX9_penalty tF
  rw [O_launched hO hR hI, bd_s]
  by_cases h : 0 ≤ p ∧ p < v 4
  · rw [if_pos h, if_pos h]
    by_cases h1 : gl v p 1 = 0
    · rw [if_pos h1, if_pos h1, se_r, bd_s, se_r, if_neg (by decide), if_pos rfl, if_neg (by decide)]
    · rw [if_neg h1, if_neg h1, se_l, bd_s, se_l, gd_t (by rw [hla]; decide), nam_d, s_u hR h.1 h.2 (by decide) (by decide), if_pos rfl]
  · rw [if_neg h, if_neg h, se_r, bd_s, se_r]
    rfl
theorem M_penalty (hM : LyM S Ln R m) (hv : M (m + 1) = v) (hI : IvS b v) (p : Int) : MZQ M m (tF v p) (gl v p 6) (fX10_penalty ad S Ln R M m p) := by
  unfold MZQ fX10_penalty
  rw [show fX10_ofFlight ad S Ln R M m p 6 = _ from M_ofFlight hM hv hI p (by decide) (by decide), bd_s]
theorem L_sink (hla : Ln a = 1) (hO : LyO S Ln R o π) (hR : RpS M (o + 1) v) (hI : IvS b v) (p : Int) : LQ M o a (tK v p) (snk (gl v p)) (fL_sink ad S Ln R M o p a) := by
  refine ⟨M, SC.rf, ?_⟩
  unfold fL_sink fX9_sink tK
  rw [O_known hO hR hI, bd_s]
  by_cases h : 0 ≤ p ∧ p < v 4
  · have hu := hI.2.2.2.2.2.2 p h.1 h.2
    have hu0 := hu.1
    have hg : RpG M (o + 1 + 20 + p.toNat) (gl v p) := fun k k0 k1 => s_u hR h.1 h.2 k0 k1
    rw [if_pos h, if_pos h, se_l, g_sink (u := gl v p) hg (by omega), bd_s, bd_s, se_l, gd_t (by rw [hla]; decide), nam_d, if_pos rfl]
  · rw [if_neg h, if_neg h, se_r, bd_s, se_r]
    rfl
theorem M_sink (hM : LyM S Ln R m) (hv : M (m + 1) = v) (hI : IvS b v) (p : Int) : MZQ M m (tK v p) (snk (gl v p)) (fX10_sink ad S Ln R M m p) := by
  have hp := hI.2.2.2.1
  have hv' : ∀ z, (wr M m 5 z) (m + 1) = v := fun z => by rw [wr_a (by omega)]; exact hv
  unfold MZQ fX10_sink tK
  rw [m_isPilot hM hv hp, bd_s]
  by_cases h : 0 ≤ p ∧ p < v 4
  · have hu := hI.2.2.2.2.2.2 p h.1 h.2
    have hu0 := hu.1
    rw [bI_t h, if_pos (by decide), if_pos h, if_pos rfl]
    unfold fX10_sink_B14
    rw [m_isThrown, bd_s, thr_0]
    dsimp only
    rw [if_pos rfl, m_sink hM (hv' 0) h.1 (by omega) (by omega), bd_s]
  · rw [bI_f h, if_neg (by decide), if_neg h, if_neg (by decide)]
    unfold fX10_sink_B14
    rw [m_isThrown, bd_s, thr_1]
    dsimp only
    rw [if_neg (by decide)]
theorem L_achievedDistance (hla : Ln a = 1) (hO : LyO S Ln R o π) (hR : RpS M (o + 1) v) (hI : IvS b v) (p : Int) : LQ M o a (tK v p) (acU v (gl v p)) (fL_achievedDistance ad S Ln R M o p a) := by
  refine ⟨M, SC.rf, ?_⟩
  unfold fL_achievedDistance fX9_achievedDistance tK
  rw [o_0 hO, O_known hO hR hI, bd_s]
  by_cases h : 0 ≤ p ∧ p < v 4
  · have hu := hI.2.2.2.2.2.2 p h.1 h.2
    have hu0 := hu.1
    have hg : RpG M (o + 1 + 20 + p.toNat) (gl v p) := fun k k0 k1 => s_u hR h.1 h.2 k0 k1
    rw [if_pos h, if_pos h, se_l, s_done hO.2.2.1 hR hI hg hu, bd_s, bd_s, se_l, gd_t (by rw [hla]; decide), nam_d, if_pos rfl]
  · rw [if_neg h, if_neg h, se_r, bd_s, se_r]
    rfl
theorem M_achievedDistance (hM : LyM S Ln R m) (hv : M (m + 1) = v) (hI : IvS b v) (p : Int) : MZQ M m (tK v p) (acU v (gl v p)) (fX10_achievedDistance ad S Ln R M m p) := by
  have hp := hI.2.2.2.1
  have hv' : ∀ z, (wr M m 5 z) (m + 1) = v := fun z => by rw [wr_a (by omega)]; exact hv
  unfold MZQ fX10_achievedDistance tK
  rw [m_isPilot hM hv hp, bd_s]
  by_cases h : 0 ≤ p ∧ p < v 4
  · have hu := hI.2.2.2.2.2.2 p h.1 h.2
    have hu0 := hu.1
    rw [bI_t h, if_pos (by decide), if_pos h, if_pos rfl]
    unfold fX10_achievedDistance_B14
    rw [m_isThrown, bd_s, thr_0]
    dsimp only
    rw [if_pos rfl, m_achieved hM (hv' 0) hI h.1 h.2, bd_s]
  · rw [bI_f h, if_neg (by decide), if_neg h, if_neg (by decide)]
    unfold fX10_achievedDistance_B14
    rw [m_isThrown, bd_s, thr_1]
    dsimp only
    rw [if_neg (by decide)]
theorem L_dayScore (hla : Ln a = 1) (hO : LyO S Ln R o π) (hR : RpS M (o + 1) v) (hI : IvS b v) (p : Int) : LQ M o a (tK v p) (scU v (gl v p)) (fL_dayScore ad S Ln R M o p a) := by
  refine ⟨M, SC.rf, ?_⟩
  unfold fL_dayScore fX9_dayScore tK
  rw [o_0 hO, O_known hO hR hI, bd_s]
  by_cases h : 0 ≤ p ∧ p < v 4
  · have hu := hI.2.2.2.2.2.2 p h.1 h.2
    have hu0 := hu.1
    have hg : RpG M (o + 1 + 20 + p.toNat) (gl v p) := fun k k0 k1 => s_u hR h.1 h.2 k0 k1
    rw [if_pos h, if_pos h, se_l, s_score hO.2.2.1 hR hI hg hu, bd_s, bd_s, se_l, gd_t (by rw [hla]; decide), nam_d, if_pos rfl]
  · rw [if_neg h, if_neg h, se_r, bd_s, se_r]
    rfl
theorem M_dayScore (hM : LyM S Ln R m) (hv : M (m + 1) = v) (hI : IvS b v) (p : Int) : MZQ M m (tK v p) (scU v (gl v p)) (fX10_dayScore ad S Ln R M m p) := by
  have hp := hI.2.2.2.1
  have hv' : ∀ z, (wr M m 5 z) (m + 1) = v := fun z => by rw [wr_a (by omega)]; exact hv
  unfold MZQ fX10_dayScore tK
  rw [m_isPilot hM hv hp, bd_s]
  by_cases h : 0 ≤ p ∧ p < v 4
  · have hu := hI.2.2.2.2.2.2 p h.1 h.2
    have hu0 := hu.1
    rw [bI_t h, if_pos (by decide), if_pos h, if_pos rfl]
    unfold fX10_dayScore_B14
    rw [m_isThrown, bd_s, thr_0]
    dsimp only
    rw [if_pos rfl, m_score hM (hv' 0) hI h.1 h.2, bd_s]
  · rw [bI_f h, if_neg (by decide), if_neg h, if_neg (by decide)]
    unfold fX10_dayScore_B14
    rw [m_isThrown, bd_s, thr_1]
    dsimp only
    rw [if_neg (by decide)]
theorem L_total (hla : Ln a = 1) (hO : LyO S Ln R o π) (hR : RpS M (o + 1) v) (hI : IvS b v) (p : Int) : LQ M o a (tK v p) (gl v p 8) (fL_total ad S Ln R M o p a) := by
  refine ⟨M, SC.rf, ?_⟩
  unfold fL_total fX9_total tK
  rw [O_known hO hR hI, bd_s]
  by_cases h : 0 ≤ p ∧ p < v 4
  · have hu := hI.2.2.2.2.2.2 p h.1 h.2
    have hu0 := hu.1
    have hg : RpG M (o + 1 + 20 + p.toNat) (gl v p) := fun k k0 k1 => s_u hR h.1 h.2 k0 k1
    rw [if_pos h, if_pos h, se_l, s_u hR h.1 h.2 (by decide) (by decide), bd_s, se_l, gd_t (by rw [hla]; decide), nam_d, if_pos rfl]
  · rw [if_neg h, if_neg h, se_r, bd_s, se_r]
    rfl
theorem M_total (hM : LyM S Ln R m) (hv : M (m + 1) = v) (hI : IvS b v) (p : Int) : MZQ M m (tK v p) (gl v p 8) (fX10_total ad S Ln R M m p) := by
  have hp := hI.2.2.2.1
  have hv' : ∀ z, (wr M m 5 z) (m + 1) = v := fun z => by rw [wr_a (by omega)]; exact hv
  unfold MZQ fX10_total tK
  rw [m_isPilot hM hv hp, bd_s]
  by_cases h : 0 ≤ p ∧ p < v 4
  · have hu := hI.2.2.2.2.2.2 p h.1 h.2
    have hu0 := hu.1
    rw [bI_t h, if_pos (by decide), if_pos h, if_pos rfl]
    unfold fX10_total_B14
    rw [m_isThrown, bd_s, thr_0]
    dsimp only
    rw [if_pos rfl, m_of hM h.1 (by omega) (by decide) (by decide), bd_s, hv' ]
  · rw [bI_f h, if_neg (by decide), if_neg h, if_neg (by decide)]
    unfold fX10_total_B14
    rw [m_isThrown, bd_s, thr_1]
    dsimp only
    rw [if_neg (by decide)]
theorem L_reached (hla : Ln a = 1) (hO : LyO S Ln R o π) (hR : RpS M (o + 1) v) (hI : IvS b v) (p : Int) : LQ M o a (tK v p) (gl v p 7) (fL_reached ad S Ln R M o p a) := by
  refine ⟨M, SC.rf, ?_⟩
  unfold fL_reached fX9_reached tK
  rw [O_known hO hR hI, bd_s]
  by_cases h : 0 ≤ p ∧ p < v 4
  · have hu := hI.2.2.2.2.2.2 p h.1 h.2
    have hu0 := hu.1
    have hg : RpG M (o + 1 + 20 + p.toNat) (gl v p) := fun k k0 k1 => s_u hR h.1 h.2 k0 k1
    rw [if_pos h, if_pos h, se_l, s_u hR h.1 h.2 (by decide) (by decide), bd_s, se_l, gd_t (by rw [hla]; decide), nam_d, if_pos rfl]
  · rw [if_neg h, if_neg h, se_r, bd_s, se_r]
    rfl
theorem M_reached (hM : LyM S Ln R m) (hv : M (m + 1) = v) (hI : IvS b v) (p : Int) : MZQ M m (tK v p) (gl v p 7) (fX10_reached ad S Ln R M m p) := by
  have hp := hI.2.2.2.1
  have hv' : ∀ z, (wr M m 5 z) (m + 1) = v := fun z => by rw [wr_a (by omega)]; exact hv
  unfold MZQ fX10_reached tK
  rw [m_isPilot hM hv hp, bd_s]
  by_cases h : 0 ≤ p ∧ p < v 4
  · have hu := hI.2.2.2.2.2.2 p h.1 h.2
    have hu0 := hu.1
    rw [bI_t h, if_pos (by decide), if_pos h, if_pos rfl]
    unfold fX10_reached_B14
    rw [m_isThrown, bd_s, thr_0]
    dsimp only
    rw [if_pos rfl, m_of hM h.1 (by omega) (by decide) (by decide), bd_s, hv' ]
  · rw [bI_f h, if_neg (by decide), if_neg h, if_neg (by decide)]
    unfold fX10_reached_B14
    rw [m_isThrown, bd_s, thr_1]
    dsimp only
    rw [if_neg (by decide)]
theorem L_remainingDistance (hla : Ln a = 1) (hO : LyO S Ln R o π) (hR : RpS M (o + 1) v) (hI : IvS b v) (p : Int) : LQ M o a (tN v p 1) (lfU v (gl v p)) (fL_remainingDistance ad S Ln R M o p a) := by
  refine ⟨M, SC.rf, ?_⟩
  unfold fL_remainingDistance fX9_remainingDistance tN
  rw [o_0 hO, O_inPhase hO hR hI, bd_s]
  by_cases h : 0 ≤ p ∧ p < v 4
  · have hu := hI.2.2.2.2.2.2 p h.1 h.2
    have hg : RpG M (o + 1 + 20 + p.toNat) (gl v p) := fun k k0 k1 => s_u hR h.1 h.2 k0 k1
    rw [if_pos h, if_pos h]
    by_cases h1 : gl v p 1 = 1
    · rw [if_pos h1, if_pos h1, se_l, s_left hO.2.2.1 hR hI hg hu h1, bd_s, bd_s, se_l, gd_t (by rw [hla]; decide), nam_d, if_pos rfl]
    · rw [if_neg h1, if_neg h1, se_r, bd_s, se_r, if_neg (by decide), if_pos rfl, if_neg (by decide)]
  · rw [if_neg h, if_neg h, se_r, bd_s, se_r]
    rfl
theorem tN_0 {p s : Int} (h : tN v p s = 0) : (0 ≤ p ∧ p < v 4) ∧ gl v p 1 = s := by
  unfold tN at h
  split at h
  · split at h
    · rename_i h1 h2
      exact ⟨h1, h2⟩
    · exact absurd h (by decide)
  · exact absurd h (by decide)
theorem M_remainingDistance (hM : LyM S Ln R m) (hv : M (m + 1) = v) (hI : IvS b v) (p : Int) : MZQ M m (tN v p 1) (lfU v (gl v p)) (fX10_remainingDistance ad S Ln R M m p) := by
  have hv' : ∀ z, (wr M m 5 z) (m + 1) = v := fun z => by rw [wr_a (by omega)]; exact hv
  unfold MZQ fX10_remainingDistance
  rw [M_isNoFlight hM hv hI, bd_s]
  dsimp only
  by_cases ht : tN v p 1 = 0
  · obtain ⟨h, h1⟩ := tN_0 ht
    rw [if_pos ht, if_pos rfl, m_remaining hM (hv' _) hI h.1 h.2 h1, bd_s, if_pos ht]
  · rw [if_neg ht, if_neg (by decide), if_neg ht]
theorem L_canFinish (hla : Ln a = 1) (hO : LyO S Ln R o π) (hR : RpS M (o + 1) v) (hI : IvS b v) (p : Int) : LQ M o a (tN v p 1) (bI ((lfU v (gl v p) - 1) * snk (gl v p) < gl v p 4)) (fL_canFinish ad S Ln R M o p a) := by
  refine ⟨M, SC.rf, ?_⟩
  unfold fL_canFinish fX9_canFinish tN
  rw [o_0 hO, O_inPhase hO hR hI, bd_s]
  by_cases h : 0 ≤ p ∧ p < v 4
  · have hu := hI.2.2.2.2.2.2 p h.1 h.2
    have hg : RpG M (o + 1 + 20 + p.toNat) (gl v p) := fun k k0 k1 => s_u hR h.1 h.2 k0 k1
    rw [if_pos h, if_pos h]
    by_cases h1 : gl v p 1 = 1
    · rw [if_pos h1, if_pos h1, se_l, s_byHeight hO.2.2.1 hR hI hg hu h1, bd_s, bd_s, se_l, if_pos rfl]
      unfold fL_canFinish_B15
      by_cases h2 : (lfU v (gl v p) - 1) * snk (gl v p) < gl v p 4
      · rw [bI_t h2, if_neg (by decide), gd_t (by rw [hla]; decide), nam_d]
      · rw [bI_f h2, if_pos rfl, gd_t (by rw [hla]; decide), nam_d]
    · rw [if_neg h1, if_neg h1, se_r, bd_s, se_r, if_neg (by decide), if_pos rfl, if_neg (by decide)]
  · rw [if_neg h, if_neg h, se_r, bd_s, se_r]
    rfl
theorem M_canFinish (hM : LyM S Ln R m) (hv : M (m + 1) = v) (hI : IvS b v) (p : Int) : MZQ M m (tN v p 1) (bI ((lfU v (gl v p) - 1) * snk (gl v p) < gl v p 4)) (fX10_canFinish ad S Ln R M m p) := by
  have hv' : ∀ z, (wr M m 5 z) (m + 1) = v := fun z => by rw [wr_a (by omega)]; exact hv
  have hp := hI.2.2.2.1
  unfold MZQ fX10_canFinish
  rw [M_isNoFlight hM hv hI, bd_s]
  dsimp only
  by_cases ht : tN v p 1 = 0
  · obtain ⟨h, h1⟩ := tN_0 ht
    have hu := hI.2.2.2.2.2.2 p h.1 h.2
    have hlf := lfU_b hI.1 hu h1
    have hs := snk_b hu.1.1 hu.1.2
    have g1 : 0 ≤ (lfU v (gl v p) - 1) * snk (gl v p) := Int.mul_nonneg (by omega) (by omega)
    have g2 : (lfU v (gl v p) - 1) * snk (gl v p) ≤ 720 * 1000 := Int.mul_le_mul (by omega) hs.2 (by omega) (by omega)
    rw [if_pos ht, if_neg (by decide), m_of hM h.1 (by omega) (by decide) (by decide), bd_s, hv', m_remaining hM (hv' _) hI h.1 h.2 h1, bd_s, m_sink hM (hv' _) h.1 (by omega) (by have := hu.1.1; omega), bd_s, w32_i (z := lfU v (gl v p) - 1) (by omega) (by omega), w32_i (by omega) (by omega)]
    by_cases h2 : (lfU v (gl v p) - 1) * snk (gl v p) < gl v p 4
    · rw [if_neg (by omega), bI_t h2, if_pos ht]
    · rw [if_pos (by omega), bI_f h2, if_pos ht]
  · rw [if_neg ht, if_pos (by decide), if_neg ht]
theorem L_canFinishBySimulation (hla : Ln a = 1) (hO : LyO S Ln R o π) (hR : RpS M (o + 1) v) (hI : IvS b v) (p : Int) : LQ M o a (tN v p 1) (bI ((lfU v (gl v p) - 1) * snk (gl v p) < gl v p 4)) (fL_canFinishBySimulation ad S Ln R M o p a) := by
  unfold fL_canFinishBySimulation fX9_canFinishBySimulation tN LQ
  rw [o_0 hO, O_inPhase hO hR hI, bd_s]
  by_cases h : 0 ≤ p ∧ p < v 4
  · have hu := hI.2.2.2.2.2.2 p h.1 h.2
    have hg : RpG M (o + 1 + 20 + p.toNat) (gl v p) := fun k k0 k1 => s_u hR h.1 h.2 k0 k1
    rw [if_pos h, if_pos h]
    by_cases h1 : gl v p 1 = 1
    · obtain ⟨M', e1, e2⟩ := f_inFlight (ad := ad) hO.2.2.1 hR hI (by omega) hg hu h1
      rw [if_pos h1, if_pos h1, se_l, e1, bd_s, bd_s, se_l]
      refine ⟨M', fun c _ _ _ c3 => e2 c (by omega), ?_⟩
      unfold fL_canFinishBySimulation_B15
      dsimp only
      rw [if_pos rfl]
      by_cases h2 : (lfU v (gl v p) - 1) * snk (gl v p) < gl v p 4
      · rw [bI_t h2, if_neg (by decide), gd_t (by rw [hla]; decide), nam_d]
      · rw [bI_f h2, if_pos rfl, gd_t (by rw [hla]; decide), nam_d]
    · rw [if_neg h1, if_neg h1, se_r, bd_s, se_r]
      refine ⟨M, SC.rf, ?_⟩
      dsimp only
      rw [if_neg (by decide), if_pos rfl, if_neg (by decide)]
  · rw [if_neg h, if_neg h, se_r, bd_s, se_r]
    refine ⟨M, SC.rf, ?_⟩
    rfl
theorem M_canFinishBySimulation (hM : LyM S Ln R m) (hv : M (m + 1) = v) (hI : IvS b v) (p : Int) : MZQ M m (tN v p 1) (bI ((lfU v (gl v p) - 1) * snk (gl v p) < gl v p 4)) (fX10_canFinishBySimulation ad S Ln R M m p) := by
  unfold MZQ fX10_canFinishBySimulation
  rw [show fX10_canFinish ad S Ln R M m p = _ from M_canFinish hM hv hI p, bd_s]
def tDi (v : gV) (p q : Int) : Int := if (0 ≤ p ∧ p < v 0) ∧ 0 ≤ q ∧ q < v 0 then 0 else 1
theorem L_distance (hla : Ln a = 1) (hO : LyO S Ln R o π) (hR : RpS M (o + 1) v) (hI : IvS b v) (p q : Int) : LQ M o a (tDi v p q) (apt v p q) (fL_distance ad S Ln R M o p q a) := by
  refine ⟨M, SC.rf, ?_⟩
  have hB : (bd (fX9_distance_B28 ad S Ln R M) fun q1 => Sum.elim (fun v1 => gd ((0 : Int) ≤ 0 ∧ 0 < (Ln a : Int)) (nam (wr M a 0 v1) fun M2 => some (((0 : Int), M2)))) (fun e1 => if e1 = "java/lang/IndexOutOfBoundsException" then (some ((1, M))) else (none)) q1) = some (1, M) := by
    unfold fX9_distance_B28
    rw [bd_s, se_r]
    rfl
  unfold fL_distance fX9_distance tDi
  rw [o_0 hO, s_c hO.2.2.1, c_hasPoint hR.1, bd_s]
  by_cases h1 : 0 ≤ p ∧ p < v 0
  · rw [bI_t h1, if_neg (by decide), o_0 hO, s_c hO.2.2.1, c_hasPoint hR.1, bd_s]
    by_cases h2 : 0 ≤ q ∧ q < v 0
    · rw [bI_t h2, if_pos (by decide), o_0 hO, s_c hO.2.2.1, c_span hO.2.2.1.2.2.1 hR.1 hI.1 h1.1 h1.2 h2.1 h2.2, bd_s, bd_s, se_l, gd_t (by rw [hla]; decide), nam_d, if_pos ⟨h1, h2⟩, if_pos rfl]
    · rw [bI_f h2, if_neg (by decide), hB, if_neg (show ¬ ((0 ≤ p ∧ p < v 0) ∧ 0 ≤ q ∧ q < v 0) from fun g => h2 g.2), if_neg (by decide)]
  · rw [bI_f h1, if_pos rfl, hB, if_neg (show ¬ ((0 ≤ p ∧ p < v 0) ∧ 0 ≤ q ∧ q < v 0) from fun g => h1 g.1), if_neg (by decide)]
theorem M_distance (hM : LyM S Ln R m) (hv : M (m + 1) = v) (hI : IvS b v) (p q : Int) : MZQ M m (tDi v p q) (apt v p q) (fX10_distance ad S Ln R M m p q) := by
  have hv' : ∀ z, (wr M m 5 z) (m + 1) = v := fun z => by rw [wr_a (by omega)]; exact hv
  have hB : fX10_distance_B17 ad S Ln R M m p q m = some (0, wr M m 5 1) := by
    unfold fX10_distance_B17 fX10_distance_B22
    rw [m_isThrown, bd_s, thr_1]
    dsimp only
    rw [if_neg (by decide)]
  unfold MZQ fX10_distance tDi
  rw [m_isPoint hM hv hI.1, bd_s]
  by_cases h1 : 0 ≤ p ∧ p < v 0
  · rw [bI_t h1, if_neg (by decide), m_isPoint hM hv hI.1, bd_s]
    by_cases h2 : 0 ≤ q ∧ q < v 0
    · rw [bI_t h2, if_pos (by decide), if_pos (show (0 ≤ p ∧ p < v 0) ∧ 0 ≤ q ∧ q < v 0 from ⟨h1, h2⟩), if_pos rfl]
      unfold fX10_distance_B22
      rw [m_isThrown, bd_s, thr_0]
      dsimp only
      rw [if_pos rfl, m_apart hM (hv' 0) hI.1 h1.1 h1.2 h2.1 h2.2, bd_s]
    · rw [bI_f h2, if_neg (by decide), hB, if_neg (show ¬ ((0 ≤ p ∧ p < v 0) ∧ 0 ≤ q ∧ q < v 0) from fun g => h2 g.2), if_neg (by decide)]
  · rw [bI_f h1, if_pos rfl, hB, if_neg (show ¬ ((0 ≤ p ∧ p < v 0) ∧ 0 ≤ q ∧ q < v 0) from fun g => h1 g.1), if_neg (by decide)]
def tTk (v : gV) (i : Int) : Int := if 0 ≤ i ∧ i < v 1 then 0 else 1
theorem L_taskPoint (hla : Ln a = 1) (hO : LyO S Ln R o π) (hR : RpS M (o + 1) v) (hI : IvS b v) (i : Int) : LQ M o a (tTk v i) (v (23 + i)) (fL_taskPoint ad S Ln R M o i a) := by
  refine ⟨M, SC.rf, ?_⟩
  have i6 := hI.1.2.1
  obtain ⟨⟨s0, s1, s2, s3, s4⟩, ⟨n1, n2, n3, n4⟩, r0, r1, r3, r4⟩ := hO.2.2.1.2.2.1
  unfold fL_taskPoint fX9_taskPoint tTk
  rw [o_0 hO, s_c hO.2.2.1, c_hasStop hR.1, bd_s]
  by_cases h1 : 0 ≤ i ∧ i < v 1
  · rw [bI_t h1, if_pos (by decide), o_0 hO, s_c hO.2.2.1, rf_o r3 s3, gd_t (by rw [n3]; omega), hR.1.2.2.2.1 i h1.1 h1.2, bd_s, se_l, gd_t (by rw [hla]; decide), nam_d, if_pos h1, if_pos rfl]
  · rw [bI_f h1, if_neg (by decide), bd_s, se_r, if_neg h1]
    rfl
theorem M_taskPoint (hM : LyM S Ln R m) (hv : M (m + 1) = v) (hI : IvS b v) (i : Int) : MZQ M m (tTk v i) (v (23 + i)) (fX10_taskPoint ad S Ln R M m i) := by
  have i6 := hI.1.2.1
  have hv' : ∀ z, (wr M m 5 z) (m + 1) = v := fun z => by rw [wr_a (by omega)]; exact hv
  unfold MZQ fX10_taskPoint tTk
  rw [m_0 hM, m_g hM (by decide) (by decide), hv, w32_i (by omega) (by omega), x_isIn, bd_s]
  by_cases h1 : 0 ≤ i ∧ i < v 1
  · rw [bI_t (show 0 ≤ i ∧ i ≤ v 1 - 1 by omega), if_pos (by decide), if_pos h1, if_pos rfl]
    unfold fX10_taskPoint_B22
    rw [m_isThrown, bd_s, thr_0]
    dsimp only
    rw [if_pos rfl, m_inTask hM (hv' 0) h1.1 (by omega), bd_s]
  · rw [bI_f (show ¬ (0 ≤ i ∧ i ≤ v 1 - 1) by omega), if_neg (by decide), if_neg h1, if_neg (by decide)]
    unfold fX10_taskPoint_B22
    rw [m_isThrown, bd_s, thr_1]
    dsimp only
    rw [if_neg (by decide)]
theorem O_place {x y : Int} : fX9_requirePosition ad S Ln R M x y = some (if (0 ≤ x ∧ x ≤ 60) ∧ 0 ≤ y ∧ y ≤ 60 then .inl () else .inr "java/lang/IllegalArgumentException") := by
  unfold fX9_requirePosition fX9_requirePosition_B14
  rw [x_coord, bd_s]
  by_cases hx : 0 ≤ x ∧ x ≤ 60
  · rw [bI_t hx, if_neg (by decide), x_coord, bd_s]
    by_cases hy : 0 ≤ y ∧ y ≤ 60
    · rw [bI_t hy, if_pos (by decide), if_pos ⟨hx, hy⟩]
    · rw [bI_f hy, if_neg (by decide), if_neg (fun q => hy q.2)]
  · rw [bI_f hx, if_pos rfl, if_neg (fun q => hx q.1)]
def tSg (v : gV) (x y : Int) : Int := if (0 ≤ x ∧ x ≤ 60) ∧ 0 ≤ y ∧ y ≤ 60 then (if str v x y (v 2).toNat = 0 then 2 else 0) else 1
theorem L_strongestThermal (hla : Ln a = 1) (hO : LyO S Ln R o π) (hR : RpS M (o + 1) v) (hI : IvS b v) (x y : Int) : LQ M o a (tSg v x y) (str v x y (v 2).toNat) (fL_strongestThermal ad S Ln R M o x y a) := by
  refine ⟨M, SC.rf, ?_⟩
  unfold fL_strongestThermal fX9_strongestThermal tSg
  rw [O_place, bd_s]
  by_cases h : (0 ≤ x ∧ x ≤ 60) ∧ 0 ≤ y ∧ y ≤ 60
  · rw [if_pos h, if_pos h, se_l, o_0 hO, s_a hO.2.2.1, a_strongest hO.2.2.1.2.2.2.1 hR.2.1 hI.2.1 (by omega) (by omega) (by omega) (by omega), bd_s]
    by_cases hz : str v x y (v 2).toNat = 0
    · rw [if_neg (fun q => q hz), if_pos hz, bd_s, se_r, if_neg (by decide), if_pos rfl, if_neg (by decide)]
    · rw [if_pos hz, if_neg hz, bd_s, se_l, gd_t (by rw [hla]; decide), nam_d, if_pos rfl]
  · rw [if_neg h, if_neg h, se_r, bd_s, se_r]
    rfl
theorem M_strongestThermal (hM : LyM S Ln R m) (hv : M (m + 1) = v) (hI : IvS b v) (x y : Int) : MZQ M m (tSg v x y) (str v x y (v 2).toNat) (fX10_strongestThermal ad S Ln R M m x y) := by
  have hv' : ∀ z, (wr M m 5 z) (m + 1) = v := fun z => by rw [wr_a (by omega)]; exact hv
  unfold MZQ fX10_strongestThermal tSg
  rw [x_isPlace, bd_s]
  by_cases h : (0 ≤ x ∧ x ≤ 60) ∧ 0 ≤ y ∧ y ≤ 60
  · rw [bI_t h, if_pos (by decide), if_pos h]
    unfold fX10_strongestThermal_B14
    rw [m_isThrown, bd_s, thr_0]
    dsimp only
    rw [if_pos rfl, m_lifted hM (hv' 0) hI.2.1 (by omega) (by omega) (by omega) (by omega), bd_s]
    unfold fX10_strongestThermal_B40
    by_cases hz : str v x y (v 2).toNat = 0
    · rw [if_neg (fun q => q hz), if_pos hz, m_isThrown, bd_s, thr_1, wr_wr]
      dsimp only
      rw [if_neg (by decide), if_neg (by decide)]
    · rw [if_pos hz, if_neg hz, m_isThrown, bd_s, thr_0, wr_wr]
      dsimp only
      rw [if_pos rfl, if_pos rfl]
  · rw [bI_f h, if_neg (by decide), if_neg h, if_neg (by decide)]
    unfold fX10_strongestThermal_B14
    rw [m_isThrown, bd_s, thr_1]
    dsimp only
    rw [if_neg (by decide)]
def tPc (x y : Int) : Int := if (0 ≤ x ∧ x ≤ 60) ∧ 0 ≤ y ∧ y ≤ 60 then 0 else 1
theorem L_isRestricted (hla : Ln a = 1) (hO : LyO S Ln R o π) (hR : RpS M (o + 1) v) (hI : IvS b v) (x y : Int) : LQ M o a (tPc x y) (bI (rst v x y)) (fL_isRestricted ad S Ln R M o x y a) := by
  refine ⟨M, SC.rf, ?_⟩
  unfold fL_isRestricted fX9_isRestricted tPc
  rw [O_place, bd_s]
  by_cases h : (0 ≤ x ∧ x ≤ 60) ∧ 0 ≤ y ∧ y ≤ 60
  · rw [if_pos h, if_pos h, se_l, o_0 hO, s_b hO.2.2.1, b_covers hO.2.2.1.2.2.2.2.1 hR.2.2.1 hI.2.2.1, bd_s, bd_s, se_l, if_pos rfl]
    unfold fL_isRestricted_B16
    by_cases hz : rst v x y
    · rw [bI_t hz, if_neg (by decide), gd_t (by rw [hla]; decide), nam_d]
    · rw [bI_f hz, if_pos rfl, gd_t (by rw [hla]; decide), nam_d]
  · rw [if_neg h, if_neg h, se_r, bd_s, se_r]
    rfl
theorem M_isRestricted (hM : LyM S Ln R m) (hv : M (m + 1) = v) (hI : IvS b v) (x y : Int) : MZQ M m (tPc x y) (bI (rst v x y)) (fX10_isRestricted ad S Ln R M m x y) := by
  have hv' : ∀ z, (wr M m 5 z) (m + 1) = v := fun z => by rw [wr_a (by omega)]; exact hv
  unfold MZQ fX10_isRestricted tPc
  rw [x_isPlace, bd_s]
  by_cases h : (0 ≤ x ∧ x ≤ 60) ∧ 0 ≤ y ∧ y ≤ 60
  · rw [bI_t h, if_pos (by decide), if_pos h, if_pos rfl]
    unfold fX10_isRestricted_B14
    rw [m_isThrown, bd_s, thr_0]
    dsimp only
    rw [if_neg (by decide), m_restricted hM (hv' 0) hI.2.2.1, bd_s]
    by_cases hz : rst v x y
    · rw [bI_t hz, if_neg (by decide)]
    · rw [bI_f hz, if_pos rfl]
  · rw [bI_f h, if_neg (by decide), if_neg h, if_neg (by decide)]
    unfold fX10_isRestricted_B14
    rw [m_isThrown, bd_s, thr_1]
    dsimp only
    rw [if_pos (by decide)]
def tRw (y : Int) : Int := if 0 ≤ y ∧ y ≤ 60 then 0 else 1
theorem L_restrictedInRow (hla : Ln a = 1) (hO : LyO S Ln R o π) (hR : RpS M (o + 1) v) (hI : IvS b v) (y : Int) : LQ M o a (tRw y) (cnt v y 61) (fL_restrictedInRow ad S Ln R M o y a) := by
  refine ⟨M, SC.rf, ?_⟩
  unfold fL_restrictedInRow fX9_restrictedInRow tRw
  rw [O_place, bd_s]
  by_cases h : 0 ≤ y ∧ y ≤ 60
  · rw [if_pos (show ((0 : Int) ≤ 0 ∧ (0 : Int) ≤ 60) ∧ 0 ≤ y ∧ y ≤ 60 by omega), se_l, o_0 hO, s_b hO.2.2.1, b_byPositions hO.2.2.1.2.2.2.2.1 hR.2.2.1 hI.2.2.1, bd_s, bd_s, se_l, gd_t (by rw [hla]; decide), nam_d, if_pos h, if_pos rfl]
  · rw [if_neg (show ¬ (((0 : Int) ≤ 0 ∧ (0 : Int) ≤ 60) ∧ 0 ≤ y ∧ y ≤ 60) by omega), se_r, bd_s, se_r, if_neg h]
    rfl
theorem M_restrictedInRow (hM : LyM S Ln R m) (hv : M (m + 1) = v) (hI : IvS b v) (y : Int) : MZQ M m (tRw y) (cnt v y 61) (fX10_restrictedInRow ad S Ln R M m y) := by
  have hv' : ∀ z, (wr M m 5 z) (m + 1) = v := fun z => by rw [wr_a (by omega)]; exact hv
  unfold MZQ fX10_restrictedInRow tRw
  rw [x_isIn, bd_s]
  by_cases h : 0 ≤ y ∧ y ≤ 60
  · rw [bI_t h, if_pos (by decide), if_pos h, if_pos rfl]
    unfold fX10_restrictedInRow_B16
    rw [m_isThrown, bd_s, thr_0]
    dsimp only
    rw [if_pos rfl, lp_up0 (b := fX10_restrictedInRow_L29 ad S Ln R (wr M m 5 0) m y) 61 (fun i => (cnt v y i, (i : Int))) (r := .inl (cnt v y 61)) (s := ((0 : Int), (0 : Int))) rfl (by omega) (fun i hi => by
        have hb := @cnt_b v y i
        have hs : ((i + 1 : Nat) : Int) = (i : Int) + 1 := by omega
        have hst : cnt v y (i + 1) = cnt v y i + bI (rst v i y) := rfl
        unfold fX10_restrictedInRow_L29
        dsimp only
        rw [if_neg (by omega), m_restricted hM (hv' 0) hI.2.2.1, bd_s, hst, hs]
        unfold fX10_restrictedInRow_B50
        by_cases hz : rst v i y
        · rw [bI_t hz, if_neg (by decide), w32_i (by omega) (by omega), w32_i (by omega) (by omega)]
        · rw [bI_f hz, if_pos rfl, w32_i (by omega) (by omega), w32_i (by omega) (by omega)]) (by
        unfold fX10_restrictedInRow_L29
        dsimp only
        rw [if_pos (by decide)]), bd_s, se_l]
  · rw [bI_f h, if_neg (by decide), if_neg h, if_neg (by decide)]
    unfold fX10_restrictedInRow_B16
    rw [m_isThrown, bd_s, thr_1]
    dsimp only
    rw [if_neg (by decide)]
theorem k_c12 (hY : HY S Ln R M e o m a π b) {sz : Nat} {i0 : Int} (hi : 0 ≤ i0 ∧ i0 + 5 ≤ (Ln e : Int) ∧ (Ln e : Int) ≤ 1000000) : ∃ M' R', fL_c12 ad sz S Ln R M e o m a (a + 1) i0 = some (.inl (w32 (i0 + 5), S, Ln, M', R')) ∧ OKS S Ln R M o m a b R' M' := by
  have hY9 := hY
  obtain ⟨hO, hM, hd, hla, he, hN, hb⟩ := hY
  obtain ⟨n1, n2, n3, n4, n5, n6, n7⟩ := hN
  have g1 : (0 : Int) ≤ w32 (i0 + 1) ∧ w32 (i0 + 1) < (Ln e : Int) := by rw [w32_i (by omega) (by omega)]; omega
  have g2 : (0 : Int) ≤ w32 (i0 + 2) ∧ w32 (i0 + 2) < (Ln e : Int) := by rw [w32_i (by omega) (by omega)]; omega
  unfold fL_c12
  simp only [gd_t g1, gd_t g2]
  obtain ⟨M', e1, e2⟩ := q_case (ad := ad) (e := e) (g := fun M1 => fX10_distance ad S Ln R M1 m (M1 e (w32 (i0 + 1))) (M1 e (w32 (i0 + 2)))) (B := fun M4 => fL_c12_B1054 ad S Ln R M4 e o m a (a + 1) i0) hY9
    (L_distance (ad := ad) hla.1 hO n1 n2.1 (M e (w32 (i0 + 1))) (M e (w32 (i0 + 2))))
    (fun M1 l2 l3 l4 => by rw [l4]; exact M_distance hM l2 n2.1 (M e (w32 (i0 + 1))) (M e (w32 (i0 + 2))))
  exact ⟨M', R, e1, e2⟩
theorem k_c14 (hY : HY S Ln R M e o m a π b) {sz : Nat} {i0 : Int} (hi : 0 ≤ i0 ∧ i0 + 5 ≤ (Ln e : Int) ∧ (Ln e : Int) ≤ 1000000) : ∃ M' R', fL_c14 ad sz S Ln R M e o m a (a + 1) i0 = some (.inl (w32 (i0 + 5), S, Ln, M', R')) ∧ OKS S Ln R M o m a b R' M' := by
  have hY9 := hY
  obtain ⟨hO, hM, hd, hla, he, hN, hb⟩ := hY
  obtain ⟨n1, n2, n3, n4, n5, n6, n7⟩ := hN
  have g1 : (0 : Int) ≤ w32 (i0 + 1) ∧ w32 (i0 + 1) < (Ln e : Int) := by rw [w32_i (by omega) (by omega)]; omega
  unfold fL_c14
  simp only [gd_t g1]
  obtain ⟨M', e1, e2⟩ := q_case (ad := ad) (e := e) (g := fun M1 => fX10_taskPoint ad S Ln R M1 m (M1 e (w32 (i0 + 1)))) (B := fun M4 => fL_c14_B1123 ad S Ln R M4 e o m a (a + 1) i0) hY9
    (L_taskPoint (ad := ad) hla.1 hO n1 n2.1 (M e (w32 (i0 + 1))))
    (fun M1 l2 l3 l4 => by rw [l4]; exact M_taskPoint hM l2 n2.1 (M e (w32 (i0 + 1))))
  exact ⟨M', R, e1, e2⟩
theorem k_c16 (hY : HY S Ln R M e o m a π b) {sz : Nat} {i0 : Int} (hi : 0 ≤ i0 ∧ i0 + 5 ≤ (Ln e : Int) ∧ (Ln e : Int) ≤ 1000000) : ∃ M' R', fL_c16 ad sz S Ln R M e o m a (a + 1) i0 = some (.inl (w32 (i0 + 5), S, Ln, M', R')) ∧ OKS S Ln R M o m a b R' M' := by
  have hY9 := hY
  obtain ⟨hO, hM, hd, hla, he, hN, hb⟩ := hY
  obtain ⟨n1, n2, n3, n4, n5, n6, n7⟩ := hN
  have g1 : (0 : Int) ≤ w32 (i0 + 1) ∧ w32 (i0 + 1) < (Ln e : Int) := by rw [w32_i (by omega) (by omega)]; omega
  have g2 : (0 : Int) ≤ w32 (i0 + 2) ∧ w32 (i0 + 2) < (Ln e : Int) := by rw [w32_i (by omega) (by omega)]; omega
  unfold fL_c16
  simp only [gd_t g1, gd_t g2]
  obtain ⟨M', e1, e2⟩ := q_case (ad := ad) (e := e) (g := fun M1 => fX10_strongestThermal ad S Ln R M1 m (M1 e (w32 (i0 + 1))) (M1 e (w32 (i0 + 2)))) (B := fun M4 => fL_c16_B1204 ad S Ln R M4 e o m a (a + 1) i0) hY9
    (L_strongestThermal (ad := ad) hla.1 hO n1 n2.1 (M e (w32 (i0 + 1))) (M e (w32 (i0 + 2))))
    (fun M1 l2 l3 l4 => by rw [l4]; exact M_strongestThermal hM l2 n2.1 (M e (w32 (i0 + 1))) (M e (w32 (i0 + 2))))
  exact ⟨M', R, e1, e2⟩
theorem k_c18 (hY : HY S Ln R M e o m a π b) {sz : Nat} {i0 : Int} (hi : 0 ≤ i0 ∧ i0 + 5 ≤ (Ln e : Int) ∧ (Ln e : Int) ≤ 1000000) : ∃ M' R', fL_c18 ad sz S Ln R M e o m a (a + 1) i0 = some (.inl (w32 (i0 + 5), S, Ln, M', R')) ∧ OKS S Ln R M o m a b R' M' := by
  have hY9 := hY
  obtain ⟨hO, hM, hd, hla, he, hN, hb⟩ := hY
  obtain ⟨n1, n2, n3, n4, n5, n6, n7⟩ := hN
  have g1 : (0 : Int) ≤ w32 (i0 + 1) ∧ w32 (i0 + 1) < (Ln e : Int) := by rw [w32_i (by omega) (by omega)]; omega
  have g2 : (0 : Int) ≤ w32 (i0 + 2) ∧ w32 (i0 + 2) < (Ln e : Int) := by rw [w32_i (by omega) (by omega)]; omega
  unfold fL_c18
  simp only [gd_t g1, gd_t g2]
  obtain ⟨M', e1, e2⟩ := qb_case (ad := ad) (e := e) (g := fun M1 => fX10_isRestricted ad S Ln R M1 m (M1 e (w32 (i0 + 1))) (M1 e (w32 (i0 + 2)))) (B := fun M4 => fL_c18_B1292 ad S Ln R M4 e o m a (a + 1) i0) (C := fun M4 s0 s1 => fL_c18_B1286 ad S Ln R M4 e o m a (a + 1) i0 s0 s1) hY9
    (fun M4 z => by unfold fL_c18_B1286; rw [i_lcmp_0, if_pos rfl])
    bI_01
    (L_isRestricted (ad := ad) hla.1 hO n1 n2.1 (M e (w32 (i0 + 1))) (M e (w32 (i0 + 2))))
    (fun M1 l2 l3 l4 => by rw [l4]; exact M_isRestricted hM l2 n2.1 (M e (w32 (i0 + 1))) (M e (w32 (i0 + 2))))
  exact ⟨M', R, e1, e2⟩
theorem k_c19 (hY : HY S Ln R M e o m a π b) {sz : Nat} {i0 : Int} (hi : 0 ≤ i0 ∧ i0 + 5 ≤ (Ln e : Int) ∧ (Ln e : Int) ≤ 1000000) : ∃ M' R', fL_c19 ad sz S Ln R M e o m a (a + 1) i0 = some (.inl (w32 (i0 + 5), S, Ln, M', R')) ∧ OKS S Ln R M o m a b R' M' := by
  have hY9 := hY
  obtain ⟨hO, hM, hd, hla, he, hN, hb⟩ := hY
  obtain ⟨n1, n2, n3, n4, n5, n6, n7⟩ := hN
  have g1 : (0 : Int) ≤ w32 (i0 + 1) ∧ w32 (i0 + 1) < (Ln e : Int) := by rw [w32_i (by omega) (by omega)]; omega
  unfold fL_c19
  simp only [gd_t g1]
  obtain ⟨M', e1, e2⟩ := q_case (ad := ad) (e := e) (g := fun M1 => fX10_restrictedInRow ad S Ln R M1 m (M1 e (w32 (i0 + 1)))) (B := fun M4 => fL_c19_B1348 ad S Ln R M4 e o m a (a + 1) i0) hY9
    (L_restrictedInRow (ad := ad) hla.1 hO n1 n2.1 (M e (w32 (i0 + 1))))
    (fun M1 l2 l3 l4 => by rw [l4]; exact M_restrictedInRow hM l2 n2.1 (M e (w32 (i0 + 1))))
  exact ⟨M', R, e1, e2⟩
theorem k_c23 (hY : HY S Ln R M e o m a π b) {sz : Nat} {i0 : Int} (hi : 0 ≤ i0 ∧ i0 + 5 ≤ (Ln e : Int) ∧ (Ln e : Int) ≤ 1000000) : ∃ M' R', fL_c23 ad sz S Ln R M e o m a (a + 1) i0 = some (.inl (w32 (i0 + 5), S, Ln, M', R')) ∧ OKS S Ln R M o m a b R' M' := by
  have hY9 := hY
  obtain ⟨hO, hM, hd, hla, he, hN, hb⟩ := hY
  obtain ⟨n1, n2, n3, n4, n5, n6, n7⟩ := hN
  have g1 : (0 : Int) ≤ w32 (i0 + 1) ∧ w32 (i0 + 1) < (Ln e : Int) := by rw [w32_i (by omega) (by omega)]; omega
  unfold fL_c23
  simp only [gd_t g1]
  obtain ⟨M', e1, e2⟩ := qb_case (ad := ad) (e := e) (g := fun M1 => fX10_isFlying ad S Ln R M1 m (M1 e (w32 (i0 + 1)))) (B := fun M4 => fL_c23_B1493 ad S Ln R M4 e o m a (a + 1) i0) (C := fun M4 s0 s1 => fL_c23_B1487 ad S Ln R M4 e o m a (a + 1) i0 s0 s1) hY9
    (fun M4 z => by unfold fL_c23_B1487; rw [i_lcmp_0, if_pos rfl])
    bI_01
    (L_isFlying (ad := ad) hla.1 hO n1 n2.1 (M e (w32 (i0 + 1))))
    (fun M1 l2 l3 l4 => by rw [l4]; exact M_isFlying hM l2 n2.1 (M e (w32 (i0 + 1))))
  exact ⟨M', R, e1, e2⟩
theorem k_c24 (hY : HY S Ln R M e o m a π b) {sz : Nat} {i0 : Int} (hi : 0 ≤ i0 ∧ i0 + 5 ≤ (Ln e : Int) ∧ (Ln e : Int) ≤ 1000000) : ∃ M' R', fL_c24 ad sz S Ln R M e o m a (a + 1) i0 = some (.inl (w32 (i0 + 5), S, Ln, M', R')) ∧ OKS S Ln R M o m a b R' M' := by
  have hY9 := hY
  obtain ⟨hO, hM, hd, hla, he, hN, hb⟩ := hY
  obtain ⟨n1, n2, n3, n4, n5, n6, n7⟩ := hN
  have g1 : (0 : Int) ≤ w32 (i0 + 1) ∧ w32 (i0 + 1) < (Ln e : Int) := by rw [w32_i (by omega) (by omega)]; omega
  unfold fL_c24
  simp only [gd_t g1]
  obtain ⟨M', e1, e2⟩ := qb_case (ad := ad) (e := e) (g := fun M1 => fX10_isLanded ad S Ln R M1 m (M1 e (w32 (i0 + 1)))) (B := fun M4 => fL_c24_B1556 ad S Ln R M4 e o m a (a + 1) i0) (C := fun M4 s0 s1 => fL_c24_B1550 ad S Ln R M4 e o m a (a + 1) i0 s0 s1) hY9
    (fun M4 z => by unfold fL_c24_B1550; rw [i_lcmp_0, if_pos rfl])
    bI_01
    (L_isLanded (ad := ad) hla.1 hO n1 n2.1 (M e (w32 (i0 + 1))))
    (fun M1 l2 l3 l4 => by rw [l4]; exact M_isLanded hM l2 n2.1 (M e (w32 (i0 + 1))))
  exact ⟨M', R, e1, e2⟩
theorem k_c25 (hY : HY S Ln R M e o m a π b) {sz : Nat} {i0 : Int} (hi : 0 ≤ i0 ∧ i0 + 5 ≤ (Ln e : Int) ∧ (Ln e : Int) ≤ 1000000) : ∃ M' R', fL_c25 ad sz S Ln R M e o m a (a + 1) i0 = some (.inl (w32 (i0 + 5), S, Ln, M', R')) ∧ OKS S Ln R M o m a b R' M' := by
  have hY9 := hY
  obtain ⟨hO, hM, hd, hla, he, hN, hb⟩ := hY
  obtain ⟨n1, n2, n3, n4, n5, n6, n7⟩ := hN
  have g1 : (0 : Int) ≤ w32 (i0 + 1) ∧ w32 (i0 + 1) < (Ln e : Int) := by rw [w32_i (by omega) (by omega)]; omega
  unfold fL_c25
  simp only [gd_t g1]
  obtain ⟨M', e1, e2⟩ := qb_case (ad := ad) (e := e) (g := fun M1 => fX10_isFinished ad S Ln R M1 m (M1 e (w32 (i0 + 1)))) (B := fun M4 => fL_c25_B1619 ad S Ln R M4 e o m a (a + 1) i0) (C := fun M4 s0 s1 => fL_c25_B1613 ad S Ln R M4 e o m a (a + 1) i0 s0 s1) hY9
    (fun M4 z => by unfold fL_c25_B1613; rw [i_lcmp_0, if_pos rfl])
    bI_01
    (L_isFinished (ad := ad) hla.1 hO n1 n2.1 (M e (w32 (i0 + 1))))
    (fun M1 l2 l3 l4 => by rw [l4]; exact M_isFinished hM l2 n2.1 (M e (w32 (i0 + 1))))
  exact ⟨M', R, e1, e2⟩
theorem k_c26 (hY : HY S Ln R M e o m a π b) {sz : Nat} {i0 : Int} (hi : 0 ≤ i0 ∧ i0 + 5 ≤ (Ln e : Int) ∧ (Ln e : Int) ≤ 1000000) : ∃ M' R', fL_c26 ad sz S Ln R M e o m a (a + 1) i0 = some (.inl (w32 (i0 + 5), S, Ln, M', R')) ∧ OKS S Ln R M o m a b R' M' := by
  have hY9 := hY
  obtain ⟨hO, hM, hd, hla, he, hN, hb⟩ := hY
  obtain ⟨n1, n2, n3, n4, n5, n6, n7⟩ := hN
  have g1 : (0 : Int) ≤ w32 (i0 + 1) ∧ w32 (i0 + 1) < (Ln e : Int) := by rw [w32_i (by omega) (by omega)]; omega
  unfold fL_c26
  simp only [gd_t g1]
  obtain ⟨M', e1, e2⟩ := q_case (ad := ad) (e := e) (g := fun M1 => fX10_sink ad S Ln R M1 m (M1 e (w32 (i0 + 1)))) (B := fun M4 => fL_c26_B1675 ad S Ln R M4 e o m a (a + 1) i0) hY9
    (L_sink (ad := ad) hla.1 hO n1 n2.1 (M e (w32 (i0 + 1))))
    (fun M1 l2 l3 l4 => by rw [l4]; exact M_sink hM l2 n2.1 (M e (w32 (i0 + 1))))
  exact ⟨M', R, e1, e2⟩
theorem k_c27 (hY : HY S Ln R M e o m a π b) {sz : Nat} {i0 : Int} (hi : 0 ≤ i0 ∧ i0 + 5 ≤ (Ln e : Int) ∧ (Ln e : Int) ≤ 1000000) : ∃ M' R', fL_c27 ad sz S Ln R M e o m a (a + 1) i0 = some (.inl (w32 (i0 + 5), S, Ln, M', R')) ∧ OKS S Ln R M o m a b R' M' := by
  have hY9 := hY
  obtain ⟨hO, hM, hd, hla, he, hN, hb⟩ := hY
  obtain ⟨n1, n2, n3, n4, n5, n6, n7⟩ := hN
  have g1 : (0 : Int) ≤ w32 (i0 + 1) ∧ w32 (i0 + 1) < (Ln e : Int) := by rw [w32_i (by omega) (by omega)]; omega
  unfold fL_c27
  simp only [gd_t g1]
  obtain ⟨M', e1, e2⟩ := q_case (ad := ad) (e := e) (g := fun M1 => fX10_x ad S Ln R M1 m (M1 e (w32 (i0 + 1)))) (B := fun M4 => fL_c27_B1731 ad S Ln R M4 e o m a (a + 1) i0) hY9
    (L_x (ad := ad) hla.1 hO n1 n2.1 (M e (w32 (i0 + 1))))
    (fun M1 l2 l3 l4 => by rw [l4]; exact M_x hM l2 n2.1 (M e (w32 (i0 + 1))))
  exact ⟨M', R, e1, e2⟩
theorem k_c28 (hY : HY S Ln R M e o m a π b) {sz : Nat} {i0 : Int} (hi : 0 ≤ i0 ∧ i0 + 5 ≤ (Ln e : Int) ∧ (Ln e : Int) ≤ 1000000) : ∃ M' R', fL_c28 ad sz S Ln R M e o m a (a + 1) i0 = some (.inl (w32 (i0 + 5), S, Ln, M', R')) ∧ OKS S Ln R M o m a b R' M' := by
  have hY9 := hY
  obtain ⟨hO, hM, hd, hla, he, hN, hb⟩ := hY
  obtain ⟨n1, n2, n3, n4, n5, n6, n7⟩ := hN
  have g1 : (0 : Int) ≤ w32 (i0 + 1) ∧ w32 (i0 + 1) < (Ln e : Int) := by rw [w32_i (by omega) (by omega)]; omega
  unfold fL_c28
  simp only [gd_t g1]
  obtain ⟨M', e1, e2⟩ := q_case (ad := ad) (e := e) (g := fun M1 => fX10_y ad S Ln R M1 m (M1 e (w32 (i0 + 1)))) (B := fun M4 => fL_c28_B1787 ad S Ln R M4 e o m a (a + 1) i0) hY9
    (L_y (ad := ad) hla.1 hO n1 n2.1 (M e (w32 (i0 + 1))))
    (fun M1 l2 l3 l4 => by rw [l4]; exact M_y hM l2 n2.1 (M e (w32 (i0 + 1))))
  exact ⟨M', R, e1, e2⟩
theorem k_c29 (hY : HY S Ln R M e o m a π b) {sz : Nat} {i0 : Int} (hi : 0 ≤ i0 ∧ i0 + 5 ≤ (Ln e : Int) ∧ (Ln e : Int) ≤ 1000000) : ∃ M' R', fL_c29 ad sz S Ln R M e o m a (a + 1) i0 = some (.inl (w32 (i0 + 5), S, Ln, M', R')) ∧ OKS S Ln R M o m a b R' M' := by
  have hY9 := hY
  obtain ⟨hO, hM, hd, hla, he, hN, hb⟩ := hY
  obtain ⟨n1, n2, n3, n4, n5, n6, n7⟩ := hN
  have g1 : (0 : Int) ≤ w32 (i0 + 1) ∧ w32 (i0 + 1) < (Ln e : Int) := by rw [w32_i (by omega) (by omega)]; omega
  unfold fL_c29
  simp only [gd_t g1]
  obtain ⟨M', e1, e2⟩ := q_case (ad := ad) (e := e) (g := fun M1 => fX10_height ad S Ln R M1 m (M1 e (w32 (i0 + 1)))) (B := fun M4 => fL_c29_B1843 ad S Ln R M4 e o m a (a + 1) i0) hY9
    (L_height (ad := ad) hla.1 hO n1 n2.1 (M e (w32 (i0 + 1))))
    (fun M1 l2 l3 l4 => by rw [l4]; exact M_height hM l2 n2.1 (M e (w32 (i0 + 1))))
  exact ⟨M', R, e1, e2⟩
theorem k_c30 (hY : HY S Ln R M e o m a π b) {sz : Nat} {i0 : Int} (hi : 0 ≤ i0 ∧ i0 + 5 ≤ (Ln e : Int) ∧ (Ln e : Int) ≤ 1000000) : ∃ M' R', fL_c30 ad sz S Ln R M e o m a (a + 1) i0 = some (.inl (w32 (i0 + 5), S, Ln, M', R')) ∧ OKS S Ln R M o m a b R' M' := by
  have hY9 := hY
  obtain ⟨hO, hM, hd, hla, he, hN, hb⟩ := hY
  obtain ⟨n1, n2, n3, n4, n5, n6, n7⟩ := hN
  have g1 : (0 : Int) ≤ w32 (i0 + 1) ∧ w32 (i0 + 1) < (Ln e : Int) := by rw [w32_i (by omega) (by omega)]; omega
  unfold fL_c30
  simp only [gd_t g1]
  obtain ⟨M', e1, e2⟩ := q_case (ad := ad) (e := e) (g := fun M1 => fX10_minutes ad S Ln R M1 m (M1 e (w32 (i0 + 1)))) (B := fun M4 => fL_c30_B1899 ad S Ln R M4 e o m a (a + 1) i0) hY9
    (L_minutes (ad := ad) hla.1 hO n1 n2.1 (M e (w32 (i0 + 1))))
    (fun M1 l2 l3 l4 => by rw [l4]; exact M_minutes hM l2 n2.1 (M e (w32 (i0 + 1))))
  exact ⟨M', R, e1, e2⟩
theorem k_c31 (hY : HY S Ln R M e o m a π b) {sz : Nat} {i0 : Int} (hi : 0 ≤ i0 ∧ i0 + 5 ≤ (Ln e : Int) ∧ (Ln e : Int) ≤ 1000000) : ∃ M' R', fL_c31 ad sz S Ln R M e o m a (a + 1) i0 = some (.inl (w32 (i0 + 5), S, Ln, M', R')) ∧ OKS S Ln R M o m a b R' M' := by
  have hY9 := hY
  obtain ⟨hO, hM, hd, hla, he, hN, hb⟩ := hY
  obtain ⟨n1, n2, n3, n4, n5, n6, n7⟩ := hN
  have g1 : (0 : Int) ≤ w32 (i0 + 1) ∧ w32 (i0 + 1) < (Ln e : Int) := by rw [w32_i (by omega) (by omega)]; omega
  unfold fL_c31
  simp only [gd_t g1]
  obtain ⟨M', e1, e2⟩ := q_case (ad := ad) (e := e) (g := fun M1 => fX10_penalty ad S Ln R M1 m (M1 e (w32 (i0 + 1)))) (B := fun M4 => fL_c31_B1955 ad S Ln R M4 e o m a (a + 1) i0) hY9
    (L_penalty (ad := ad) hla.1 hO n1 n2.1 (M e (w32 (i0 + 1))))
    (fun M1 l2 l3 l4 => by rw [l4]; exact M_penalty hM l2 n2.1 (M e (w32 (i0 + 1))))
  exact ⟨M', R, e1, e2⟩
theorem k_c32 (hY : HY S Ln R M e o m a π b) {sz : Nat} {i0 : Int} (hi : 0 ≤ i0 ∧ i0 + 5 ≤ (Ln e : Int) ∧ (Ln e : Int) ≤ 1000000) : ∃ M' R', fL_c32 ad sz S Ln R M e o m a (a + 1) i0 = some (.inl (w32 (i0 + 5), S, Ln, M', R')) ∧ OKS S Ln R M o m a b R' M' := by
  have hY9 := hY
  obtain ⟨hO, hM, hd, hla, he, hN, hb⟩ := hY
  obtain ⟨n1, n2, n3, n4, n5, n6, n7⟩ := hN
  have g1 : (0 : Int) ≤ w32 (i0 + 1) ∧ w32 (i0 + 1) < (Ln e : Int) := by rw [w32_i (by omega) (by omega)]; omega
  unfold fL_c32
  simp only [gd_t g1]
  obtain ⟨M', e1, e2⟩ := q_case (ad := ad) (e := e) (g := fun M1 => fX10_reached ad S Ln R M1 m (M1 e (w32 (i0 + 1)))) (B := fun M4 => fL_c32_B2011 ad S Ln R M4 e o m a (a + 1) i0) hY9
    (L_reached (ad := ad) hla.1 hO n1 n2.1 (M e (w32 (i0 + 1))))
    (fun M1 l2 l3 l4 => by rw [l4]; exact M_reached hM l2 n2.1 (M e (w32 (i0 + 1))))
  exact ⟨M', R, e1, e2⟩
theorem k_c33 (hY : HY S Ln R M e o m a π b) {sz : Nat} {i0 : Int} (hi : 0 ≤ i0 ∧ i0 + 5 ≤ (Ln e : Int) ∧ (Ln e : Int) ≤ 1000000) : ∃ M' R', fL_c33 ad sz S Ln R M e o m a (a + 1) i0 = some (.inl (w32 (i0 + 5), S, Ln, M', R')) ∧ OKS S Ln R M o m a b R' M' := by
  have hY9 := hY
  obtain ⟨hO, hM, hd, hla, he, hN, hb⟩ := hY
  obtain ⟨n1, n2, n3, n4, n5, n6, n7⟩ := hN
  have g1 : (0 : Int) ≤ w32 (i0 + 1) ∧ w32 (i0 + 1) < (Ln e : Int) := by rw [w32_i (by omega) (by omega)]; omega
  unfold fL_c33
  simp only [gd_t g1]
  obtain ⟨M', e1, e2⟩ := q_case (ad := ad) (e := e) (g := fun M1 => fX10_remainingDistance ad S Ln R M1 m (M1 e (w32 (i0 + 1)))) (B := fun M4 => fL_c33_B2067 ad S Ln R M4 e o m a (a + 1) i0) hY9
    (L_remainingDistance (ad := ad) hla.1 hO n1 n2.1 (M e (w32 (i0 + 1))))
    (fun M1 l2 l3 l4 => by rw [l4]; exact M_remainingDistance hM l2 n2.1 (M e (w32 (i0 + 1))))
  exact ⟨M', R, e1, e2⟩
theorem k_c34 (hY : HY S Ln R M e o m a π b) {sz : Nat} {i0 : Int} (hi : 0 ≤ i0 ∧ i0 + 5 ≤ (Ln e : Int) ∧ (Ln e : Int) ≤ 1000000) : ∃ M' R', fL_c34 ad sz S Ln R M e o m a (a + 1) i0 = some (.inl (w32 (i0 + 5), S, Ln, M', R')) ∧ OKS S Ln R M o m a b R' M' := by
  have hY9 := hY
  obtain ⟨hO, hM, hd, hla, he, hN, hb⟩ := hY
  obtain ⟨n1, n2, n3, n4, n5, n6, n7⟩ := hN
  have g1 : (0 : Int) ≤ w32 (i0 + 1) ∧ w32 (i0 + 1) < (Ln e : Int) := by rw [w32_i (by omega) (by omega)]; omega
  unfold fL_c34
  simp only [gd_t g1]
  obtain ⟨M', e1, e2⟩ := qb_case (ad := ad) (e := e) (g := fun M1 => fX10_canFinish ad S Ln R M1 m (M1 e (w32 (i0 + 1)))) (B := fun M4 => fL_c34_B2130 ad S Ln R M4 e o m a (a + 1) i0) (C := fun M4 s0 s1 => fL_c34_B2124 ad S Ln R M4 e o m a (a + 1) i0 s0 s1) hY9
    (fun M4 z => by unfold fL_c34_B2124; rw [i_lcmp_0, if_pos rfl])
    bI_01
    (L_canFinish (ad := ad) hla.1 hO n1 n2.1 (M e (w32 (i0 + 1))))
    (fun M1 l2 l3 l4 => by rw [l4]; exact M_canFinish hM l2 n2.1 (M e (w32 (i0 + 1))))
  exact ⟨M', R, e1, e2⟩
theorem k_c35 (hY : HY S Ln R M e o m a π b) {sz : Nat} {i0 : Int} (hi : 0 ≤ i0 ∧ i0 + 5 ≤ (Ln e : Int) ∧ (Ln e : Int) ≤ 1000000) : ∃ M' R', fL_c35 ad sz S Ln R M e o m a (a + 1) i0 = some (.inl (w32 (i0 + 5), S, Ln, M', R')) ∧ OKS S Ln R M o m a b R' M' := by
  have hY9 := hY
  obtain ⟨hO, hM, hd, hla, he, hN, hb⟩ := hY
  obtain ⟨n1, n2, n3, n4, n5, n6, n7⟩ := hN
  have g1 : (0 : Int) ≤ w32 (i0 + 1) ∧ w32 (i0 + 1) < (Ln e : Int) := by rw [w32_i (by omega) (by omega)]; omega
  unfold fL_c35
  simp only [gd_t g1]
  obtain ⟨M', e1, e2⟩ := qb_case (ad := ad) (e := e) (g := fun M1 => fX10_canFinishBySimulation ad S Ln R M1 m (M1 e (w32 (i0 + 1)))) (B := fun M4 => fL_c35_B2193 ad S Ln R M4 e o m a (a + 1) i0) (C := fun M4 s0 s1 => fL_c35_B2187 ad S Ln R M4 e o m a (a + 1) i0 s0 s1) hY9
    (fun M4 z => by unfold fL_c35_B2187; rw [i_lcmp_0, if_pos rfl])
    bI_01
    (L_canFinishBySimulation (ad := ad) hla.1 hO n1 n2.1 (M e (w32 (i0 + 1))))
    (fun M1 l2 l3 l4 => by rw [l4]; exact M_canFinishBySimulation hM l2 n2.1 (M e (w32 (i0 + 1))))
  exact ⟨M', R, e1, e2⟩
theorem k_c36 (hY : HY S Ln R M e o m a π b) {sz : Nat} {i0 : Int} (hi : 0 ≤ i0 ∧ i0 + 5 ≤ (Ln e : Int) ∧ (Ln e : Int) ≤ 1000000) : ∃ M' R', fL_c36 ad sz S Ln R M e o m a (a + 1) i0 = some (.inl (w32 (i0 + 5), S, Ln, M', R')) ∧ OKS S Ln R M o m a b R' M' := by
  have hY9 := hY
  obtain ⟨hO, hM, hd, hla, he, hN, hb⟩ := hY
  obtain ⟨n1, n2, n3, n4, n5, n6, n7⟩ := hN
  have g1 : (0 : Int) ≤ w32 (i0 + 1) ∧ w32 (i0 + 1) < (Ln e : Int) := by rw [w32_i (by omega) (by omega)]; omega
  unfold fL_c36
  simp only [gd_t g1]
  obtain ⟨M', e1, e2⟩ := q_case (ad := ad) (e := e) (g := fun M1 => fX10_achievedDistance ad S Ln R M1 m (M1 e (w32 (i0 + 1)))) (B := fun M4 => fL_c36_B2249 ad S Ln R M4 e o m a (a + 1) i0) hY9
    (L_achievedDistance (ad := ad) hla.1 hO n1 n2.1 (M e (w32 (i0 + 1))))
    (fun M1 l2 l3 l4 => by rw [l4]; exact M_achievedDistance hM l2 n2.1 (M e (w32 (i0 + 1))))
  exact ⟨M', R, e1, e2⟩
theorem k_c37 (hY : HY S Ln R M e o m a π b) {sz : Nat} {i0 : Int} (hi : 0 ≤ i0 ∧ i0 + 5 ≤ (Ln e : Int) ∧ (Ln e : Int) ≤ 1000000) : ∃ M' R', fL_c37 ad sz S Ln R M e o m a (a + 1) i0 = some (.inl (w32 (i0 + 5), S, Ln, M', R')) ∧ OKS S Ln R M o m a b R' M' := by
  have hY9 := hY
  obtain ⟨hO, hM, hd, hla, he, hN, hb⟩ := hY
  obtain ⟨n1, n2, n3, n4, n5, n6, n7⟩ := hN
  have g1 : (0 : Int) ≤ w32 (i0 + 1) ∧ w32 (i0 + 1) < (Ln e : Int) := by rw [w32_i (by omega) (by omega)]; omega
  unfold fL_c37
  simp only [gd_t g1]
  obtain ⟨M', e1, e2⟩ := q_case (ad := ad) (e := e) (g := fun M1 => fX10_dayScore ad S Ln R M1 m (M1 e (w32 (i0 + 1)))) (B := fun M4 => fL_c37_B2305 ad S Ln R M4 e o m a (a + 1) i0) hY9
    (L_dayScore (ad := ad) hla.1 hO n1 n2.1 (M e (w32 (i0 + 1))))
    (fun M1 l2 l3 l4 => by rw [l4]; exact M_dayScore hM l2 n2.1 (M e (w32 (i0 + 1))))
  exact ⟨M', R, e1, e2⟩
theorem k_c38 (hY : HY S Ln R M e o m a π b) {sz : Nat} {i0 : Int} (hi : 0 ≤ i0 ∧ i0 + 5 ≤ (Ln e : Int) ∧ (Ln e : Int) ≤ 1000000) : ∃ M' R', fL_c38 ad sz S Ln R M e o m a (a + 1) i0 = some (.inl (w32 (i0 + 5), S, Ln, M', R')) ∧ OKS S Ln R M o m a b R' M' := by
  have hY9 := hY
  obtain ⟨hO, hM, hd, hla, he, hN, hb⟩ := hY
  obtain ⟨n1, n2, n3, n4, n5, n6, n7⟩ := hN
  have g1 : (0 : Int) ≤ w32 (i0 + 1) ∧ w32 (i0 + 1) < (Ln e : Int) := by rw [w32_i (by omega) (by omega)]; omega
  unfold fL_c38
  simp only [gd_t g1]
  obtain ⟨M', e1, e2⟩ := q_case (ad := ad) (e := e) (g := fun M1 => fX10_total ad S Ln R M1 m (M1 e (w32 (i0 + 1)))) (B := fun M4 => fL_c38_B2360 ad S Ln R M4 e o m a (a + 1) i0) hY9
    (L_total (ad := ad) hla.1 hO n1 n2.1 (M e (w32 (i0 + 1))))
    (fun M1 l2 l3 l4 => by rw [l4]; exact M_total hM l2 n2.1 (M e (w32 (i0 + 1))))
  exact ⟨M', R, e1, e2⟩
end PLQ
