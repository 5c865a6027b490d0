/-! PURE: the law's cases that ask -/
theorem RpS.sc {M M' : gM} {a : Nat} {v : gV} (h : RpS M a v) (h6 : v 4 ≤ 6) (e : ∀ q : Nat, a ≤ q → q < a + 26 → q ≠ a + 15 → q ≠ a + 16 → q ≠ a + 18 → q ≠ a + 19 → M' q = M q) : RpS M' a v :=
  ⟨h.1.fr fun q q0 q1 => e q (by omega) (by omega) (by omega) (by omega) (by omega) (by omega), h.2.1.fr fun q q0 q1 => e q (by omega) (by omega) (by omega) (by omega) (by omega) (by omega), h.2.2.1.fr fun q q0 q1 => e q (by omega) (by omega) (by omega) (by omega) (by omega) (by omega), by rw [e a (by omega) (by omega) (by omega) (by omega) (by omega) (by omega)]; exact h.2.2.2.1, by rw [e a (by omega) (by omega) (by omega) (by omega) (by omega) (by omega)]; exact h.2.2.2.2.1,
    fun p p0 p1 => (h.2.2.2.2.2.1 p p0 p1).fr (e _ (by omega) (by omega) (by omega) (by omega) (by omega) (by omega)), fun q hq => by rw [e _ (by omega) (by omega) (by omega) (by omega) (by omega) (by omega)]; exact h.2.2.2.2.2.2 q hq⟩
def SC (M M1 : gM) (o : Nat) : Prop := ∀ c, c ≠ o + 16 → c ≠ o + 17 → c ≠ o + 19 → c ≠ o + 20 → M1 c = M c
def LQ (M : gM) (o a : Nat) (t rv : Int) (fl : Option (Int × gM)) : Prop := ∃ M0, SC M M0 o ∧ fl = some (t, if t = 0 then wr M0 a 0 rv else M0)
def MZQ (M : gM) (m : Nat) (t rv : Int) (e : Option (Int × gM)) : Prop := e = some (if t = 0 then rv else 0, wr M m 5 t)
theorem bI_01 {p : Prop} : bI p = 0 ∨ bI p = 1 := by have := bI_r p; omega
section PLQ
variable {ad S Ln : Nat → Nat} {R : gR} {M : gM} {e o m a : Nat} {π : Int → Nat} {b : Int}
theorem q_ok {M0 M1 : gM} {t : Int} (hY : HY S Ln R M e o m a π b) (hs : SC M M0 o) (h1 : M1 m = us (M m) 5 t) (h2 : ∀ c, c ≠ m → c ≠ a → c ≠ a + 1 → M1 c = M0 c) : OKS S Ln R M o m a b R M1 := by
  obtain ⟨hO, hM, hd, hla, he, hN, hb⟩ := hY
  obtain ⟨n1, n2, n3, n4, n5, n6, n7⟩ := hN
  have hf : ∀ c, c ≠ m → c ≠ a → c ≠ a + 1 → c ≠ o + 16 → c ≠ o + 17 → c ≠ o + 19 → c ≠ o + 20 → M1 c = M c := fun c c0 c1 c2 c3 c4 c5 c6 => by rw [h2 c c0 c1 c2, hs c c3 c4 c5 c6]
  have hk : ∀ k, k ≠ 5 → M1 m k = M m k := fun k hk => by rw [h1, us_n hk]
  have hv : M1 (m + 1) = M (m + 1) := hf _ (by omega) (by omega) (by omega) (by omega) (by omega) (by omega) (by omega)
  have hv3 : M1 (m + 3) = M (m + 3) := hf _ (by omega) (by omega) (by omega) (by omega) (by omega) (by omega) (by omega)
  have hv4 : M1 (m + 4) = M (m + 4) := hf _ (by omega) (by omega) (by omega) (by omega) (by omega) (by omega) (by omega)
  have hw : ∀ q, pW M1 m q = pW M m q := fun q => by unfold pW; rw [hv4]
  refine ⟨⟨π, hO, INV.mono ⟨?_, ?_, ?_, ?_, fun q q0 q1 => ?_, ?_, fun h => ?_⟩ (show b ≤ b + 1 by omega) hb⟩, fun _ _ => rfl, fun c hc c1 c2 => hf c (by omega) c1 c2 (by omega) (by omega) (by omega) (by omega), fun k k0 k1 => hk k k1⟩
  · rw [hv]; exact n1.sc n2.1.2.2.2.1.2 (fun q q0 q1 q2 q3 q4 q5 => hf q (by omega) (by omega) (by omega) (by omega) (by omega) (by omega) (by omega))
  · rw [hv]; exact n2
  · rw [hf _ (by omega) (by omega) (by omega) (by omega) (by omega) (by omega) (by omega), hk 4 (by decide)]; exact n3
  · rw [hk 4 (by decide)]; exact n4
  · rw [hk 4 (by decide)] at q1
    rw [hw]
    obtain ⟨l1, l2, l3, l4⟩ := hO.2.2.2.2.2.2.2.2.2.1 q q0 (by omega)
    obtain ⟨r1, r2, r3⟩ := n5 q q0 q1
    exact ⟨r1.fr (fun x x0 x1 => hf x (by omega) (by omega) (by omega) (by omega) (by omega) (by omega) (by omega)) r2.2.2.2.1.2, r2, r3⟩
  · rw [hf o (by omega) (by omega) (by omega) (by omega) (by omega) (by omega) (by omega), hk 9 (by decide)]; exact n6
  · rw [hk 9 (by decide)] at h
    obtain ⟨r1, r2, r3⟩ := n7 h
    rw [hv3]
    exact ⟨r1.fr (fun x x0 x1 => hf x (by omega) (by omega) (by omega) (by omega) (by omega) (by omega) (by omega)) r2.2.2.2.1.2, r2, r3⟩
theorem q_pre {t rv : Int} {fl : Option (Int × gM)} {g : gM → Option (Int × gM)} (hY : HY S Ln R M e o m a π b) (hl : LQ M o a t rv fl) (hg : ∀ M1 : gM, M1 (m + 1) = M (m + 1) → M1 m = M m → M1 e = M e → MZQ M1 m t rv (g M1)) :
    ∃ M1 M2, fl = some (t, M1) ∧ g M1 = some (if t = 0 then rv else 0, M2) ∧ M2 m 5 = t ∧ (t = 0 → M2 a 0 = rv) ∧ OKS S Ln R M o m a b R M2 := by
  obtain ⟨M0, h1, h2⟩ := hl
  have hY9 := hY
  obtain ⟨hO, hM, hd, hla, he, hN, hb⟩ := hY
  have hx : ∀ c, c ≠ a → (if t = 0 then wr M0 a 0 rv else M0) c = M0 c := fun c hc => by
    split
    · exact wr_a hc
    · rfl
  have hh : ∀ c, c ≠ a → c ≠ o + 16 → c ≠ o + 17 → c ≠ o + 19 → c ≠ o + 20 → (if t = 0 then wr M0 a 0 rv else M0) c = M c := fun c hc c1 c2 c3 c4 => by rw [hx c hc, h1 c c1 c2 c3 c4]
  have h3 := hg (if t = 0 then wr M0 a 0 rv else M0) (hh _ (by omega) (by omega) (by omega) (by omega) (by omega)) (hh _ (by omega) (by omega) (by omega) (by omega) (by omega)) (hh _ (by omega) (by omega) (by omega) (by omega) (by omega))
  refine ⟨_, _, h2, h3, wr_s, fun ht => ?_, q_ok hY9 h1 (by rw [wr_r, hh m (by omega) (by omega) (by omega) (by omega) (by omega)]) (fun c c0 c1 _ => by rw [wr_a c0, hx c c1])⟩
  rw [wr_a (by omega), if_pos ht, wr_s]
/-! the pilots asked for -/
def tK (v : gV) (p : Int) : Int := if 0 ≤ p ∧ p < v 4 then 0 else 1
def tF (v : gV) (p : Int) : Int := if 0 ≤ p ∧ p < v 4 then (if gl v p 1 = 0 then 2 else 0) else 1
def tN (v : gV) (p s : Int) : Int := if 0 ≤ p ∧ p < v 4 then (if gl v p 1 = s then 0 else 2) else 1
variable {v : gV}
theorem O_known (hO : LyO S Ln R o π) (hR : RpS M (o + 1) v) (hI : IvS b v) (p : Int) : fX9_knownPilot ad S Ln R M o p = some (if 0 ≤ p ∧ p < v 4 then .inl (o + 1 + 20 + p.toNat) else .inr "java/lang/IndexOutOfBoundsException") := by
  have hp := hI.2.2.2.1
  unfold fX9_knownPilot
  rw [o_0 hO, s_hasPilot hR, bd_s]
  by_cases h : 0 ≤ p ∧ p < v 4
  · rw [bI_t h, if_pos (by decide), if_pos h, o_0 hO, s_g hO.2.2.1 h.1 (by omega)]
  · rw [bI_f h, if_neg (by decide), if_neg h]
theorem O_launched (hO : LyO S Ln R o π) (hR : RpS M (o + 1) v) (hI : IvS b v) (p : Int) : fX9_launchedPilot ad S Ln R M o p = some (if 0 ≤ p ∧ p < v 4 then (if gl v p 1 = 0 then .inr "java/lang/IllegalStateException" else .inl (o + 1 + 20 + p.toNat)) else .inr "java/lang/IndexOutOfBoundsException") := by
  unfold fX9_launchedPilot
  rw [O_known hO hR hI, bd_s]
  by_cases h : 0 ≤ p ∧ p < v 4
  · have hu := hI.2.2.2.2.2.2 p h.1 h.2
    rw [if_pos h, if_pos h, se_l, s_u hR h.1 h.2 (by decide) (by decide), gd_t hu.2.1.1]
    by_cases h1 : gl v p 1 = 0
    · rw [if_neg (fun q => q h1), if_pos h1]
    · rw [if_pos h1, if_neg h1]
  · rw [if_neg h, if_neg h, se_r]
theorem O_inPhase (hO : LyO S Ln R o π) (hR : RpS M (o + 1) v) (hI : IvS b v) (p s : Int) : fX9_pilotInPhase ad S Ln R M o p s = some (if 0 ≤ p ∧ p < v 4 then (if gl v p 1 = s then .inl (o + 1 + 20 + p.toNat) else .inr "java/lang/IllegalStateException") else .inr "java/lang/IndexOutOfBoundsException") := by
  unfold fX9_pilotInPhase
  rw [O_known hO hR hI, bd_s]
  by_cases h : 0 ≤ p ∧ p < v 4
  · have hu := hI.2.2.2.2.2.2 p h.1 h.2
    rw [if_pos h, if_pos h, se_l, s_u hR h.1 h.2 (by decide) (by decide), gd_t hu.2.1.1]
    by_cases h1 : gl v p 1 = s
    · rw [if_pos h1, if_pos h1]
    · rw [if_neg h1, if_neg h1]
  · rw [if_neg h, if_neg h, se_r]
theorem SC.rf : SC M M o := fun _ _ _ _ _ => rfl
theorem tN_0 {p s : Int} (h : tN v p s = 0) : (0 ≤ p ∧ p < v 4) ∧ gl v p 1 = s := by
  unfold tN at h
  split at h
  · split at h
    · rename_i h1 h2
      exact ⟨h1, h2⟩
    · exact absurd h (by decide)
  · exact absurd h (by decide)
def tDi (v : gV) (p q : Int) : Int := if (0 ≤ p ∧ p < v 0) ∧ 0 ≤ q ∧ q < v 0 then 0 else 1
def tTk (v : gV) (i : Int) : Int := if 0 ≤ i ∧ i < v 1 then 0 else 1
theorem O_place {x y : Int} : fX9_requirePosition ad S Ln R M x y = some (if (0 ≤ x ∧ x ≤ 60) ∧ 0 ≤ y ∧ y ≤ 60 then .inl () else .inr "java/lang/IllegalArgumentException") := by
  unfold fX9_requirePosition fX9_requirePosition_B14
  rw [x_coord, bd_s]
  by_cases hx : 0 ≤ x ∧ x ≤ 60
  · rw [bI_t hx, if_neg (by decide), x_coord, bd_s]
    by_cases hy : 0 ≤ y ∧ y ≤ 60
    · rw [bI_t hy, if_pos (by decide), if_pos ⟨hx, hy⟩]
    · rw [bI_f hy, if_neg (by decide), if_neg (fun q => hy q.2)]
  · rw [bI_f hx, if_pos rfl, if_neg (fun q => hx q.1)]
def tSg (v : gV) (x y : Int) : Int := if (0 ≤ x ∧ x ≤ 60) ∧ 0 ≤ y ∧ y ≤ 60 then (if str v x y (v 2).toNat = 0 then 2 else 0) else 1
def tPc (x y : Int) : Int := if (0 ≤ x ∧ x ≤ 60) ∧ 0 ≤ y ∧ y ≤ 60 then 0 else 1
def tRw (y : Int) : Int := if 0 ≤ y ∧ y ≤ 60 then 0 else 1
end PLQ
