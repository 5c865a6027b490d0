/-! PURE: a program is run -/
def RN : gV → List (Nat × List Int) → gV → Prop
  | v, [], w => w = v
  | v, x :: cs, w => cT v x.1 x.2 = 0 ∧ ∃ u, cN v x.1 x.2 u ∧ RN u cs w
def FL : gV → List (Nat × List Int) → Nat → Prop
  | _, [], _ => False
  | v, x :: _, 0 => cT v x.1 x.2 ≠ 0
  | v, x :: cs, j + 1 => cT v x.1 x.2 = 0 ∧ ∃ u, cN v x.1 x.2 u ∧ FL u cs j
def WF (cs : List (Nat × List Int)) : Prop := ∀ x ∈ cs, x.1 < 9 ∧ x.2.length = slL (kS x.1)
theorem cN_ex {v : gV} {b : Int} (hI : IvS b v) {k : Nat} {l : List Int} (hk : k < 9) (hl : l.length = slL (kS k)) : ∃ u, cN v k l u := by
  have h4 := hI.2.2.2.1
  refine cmd_c (P := fun k l => ∃ u, cN v k l u) hk hl (fun x y => ⟨_, rfl⟩) (fun i => ⟨_, rfl⟩) (fun x y s => ⟨_, rfl⟩) (fun x y X Y => ⟨_, rfl⟩) (fun r => ⟨_, rfl⟩) (fun p => ⟨_, rfl⟩) (fun p d k => ⟨_, rfl⟩) (fun p k => ⟨_, rfl⟩) ⟨us (rsN (totN v (v 4).toNat) (v 4).toNat) 6 (v 6 + 1), fun k k0 k1 k4 k6 => ?_, ?_, us_s, fun p k p0 k0 k1 => ?_⟩
  · rw [us_n k6, rsN_lo k1, totN_lo k1]
  · rw [us_n (by decide), rsN_lo (by decide), totN_lo (by decide)]
  · have e1 : gl (us (rsN (totN v (v 4).toNat) (v 4).toNat) 6 (v 6 + 1)) p k = gl (rsN (totN v (v 4).toNat) (v 4).toNat) p k := us_n (show (59 + 9 * p + k : Int) ≠ 6 by omega)
    have hn : (((v 4).toNat : Nat) : Int) = v 4 := by omega
    rw [e1, rsN_g p0 k0 k1, hn]
    by_cases hp : p < v 4
    · rw [if_pos hp, if_pos hp]
      have g0 : gl (totN v (v 4).toNat) p 0 = gl v p 0 := by rw [totN_g p0 (by decide) (by decide), hn, if_pos hp]; exact totU_k (by decide)
      have g8 : gl (totN v (v 4).toNat) p 8 = gl v p 8 + scU v (gl v p) := by rw [totN_g p0 (by decide) (by decide), hn, if_pos hp]; exact totU_8
      unfold rsU clU
      rw [g0, g8]
    · rw [if_neg hp, if_neg hp, totN_g p0 k0 k1, hn, if_neg hp]
theorem rn_or : ∀ (cs : List (Nat × List Int)) (v : gV) (b : Int), WF cs → IvS b v → IvZ v → b + cs.length ≤ 10000 → (∃ w, RN v cs w) ∨ ∃ j, FL v cs j := by
  intro cs
  induction cs with
  | nil => exact fun v b _ _ _ _ => Or.inl ⟨v, rfl⟩
  | cons x cs ih =>
    intro v b hW hI hZ hb
    rw [List.length_cons] at hb
    obtain ⟨w1, w2⟩ := hW x List.mem_cons_self
    by_cases e : cT v x.1 x.2 = 0
    · obtain ⟨u, hu⟩ := cN_ex hI w1 w2
      obtain ⟨hIu, hZu⟩ := cN_iv hI hZ (by omega) w1 w2 e hu
      rcases ih u (b + 1) (fun y hy => hW y (List.mem_cons_of_mem _ hy)) hIu hZu (by omega) with ⟨w, h⟩ | ⟨j, h⟩
      · exact Or.inl ⟨w, e, u, hu, h⟩
      · exact Or.inr ⟨j + 1, e, u, hu, h⟩
    · exact Or.inr ⟨0, e⟩
section PRN
variable {ad S Ln : Nat → Nat} {R : gR} {M : gM} {o m t : Nat} {π : Int → Nat} {v : gV}
theorem c_loop (hO : LyO S Ln R o π) (hT : LyT S Ln R o t) (ht : o + 289 ≤ t) {b1 : Int} {z0 : gV} (hz : IvS b1 z0) : ∀ (cs : List (Nat × List Int)) (k : Int) (M : gM) (K : Nat) (b : Int) (v0 : gV), M t 4 = k + cs.length → (∀ (i : Nat) (hi : i < cs.length), RW M t (k + i) cs[i]) → WF cs → 0 ≤ k → k + cs.length ≤ 15 → cs.length < K → b + cs.length ≤ 10000 → RpS M (o + 1) v0 → IvS b v0 → IvZ v0 → RpS M (o + 53) z0 →
    ∃ r, lp (fX9_run_L50 ad S Ln R o) K (k, M) = some r ∧ ∀ v, RpS M (o + 1) v → IvS b v → IvZ v → (∀ w, RN v cs w → ∃ M', r = .inl M' ∧ RpS M' (o + 1) w ∧ ∀ c, c < o + 1 ∨ o + 27 ≤ c → M' c = M c) ∧
      (∀ j, FL v cs j → ∃ M', r = .inr (.inr ("java/lang/UnsupportedOperationException", M', R)) ∧ RpS M' (o + 1) z0 ∧ M' o = us (M o) 8 (k + j) ∧ ∀ c, c < o ∨ o + 27 ≤ c → M' c = M c) := by
  intro cs
  induction cs with
  | nil =>
    intro k M K b v0 h4 _ _ _ _ hK _ _ _ _ _
    obtain ⟨K, rfl⟩ : ∃ k', K = k' + 1 := ⟨K - 1, by simp only [List.length_nil] at hK; omega⟩
    have hb : fX9_run_L50 ad S Ln R o (k, M) = some (.inr (.inl M)) := by
      unfold fX9_run_L50
      dsimp only
      rw [o_4 hT, if_pos (by rw [h4]; simp)]
    exact ⟨_, lp_inr hb, fun v hv _ _ => ⟨fun w hw => ⟨M, rfl, by rw [show w = v from hw]; exact hv, fun _ _ => rfl⟩, fun j hj => hj.elim⟩⟩
  | cons x cs ih =>
    intro k M K b v0 h4 hrow hW k0 k15 hK hb hR hI hZ hz53
    rw [List.length_cons] at h4 k15 hK hb
    obtain ⟨K, rfl⟩ : ∃ k', K = k' + 1 := ⟨K - 1, by omega⟩
    obtain ⟨w1, w2⟩ := hW x List.mem_cons_self
    have hx : RW M t k (x.1, x.2) := by
      have := hrow 0 (Nat.zero_lt_succ _)
      rw [show k + ((0 : Nat) : Int) = k by omega] at this
      exact this
    obtain ⟨rc, r1, r2⟩ := c_ref (ad := ad) hO hT hR hI k0 (by omega) w1 w2 hx
    have hcT : ∀ v, RpS M (o + 1) v → IvS b v → (rc = 4 ↔ cT v x.1 x.2 = 0) := fun v hv hiv => by
      obtain ⟨rc', s1, s2⟩ := c_ref (ad := ad) hO hT hv hiv k0 (by omega) w1 w2 hx
      rw [r1] at s1
      rw [Option.some.inj s1]
      exact s2
    have hh := hz.2.2.2.1
    by_cases e : rc = 4
    · obtain ⟨M1, d1, d2, d3⟩ := c_do (ad := ad) hO hT hR hI hZ (by omega) k0 (by omega) w1 w2 hx (r2.mp e)
      have hbody : fX9_run_L50 ad S Ln R o (k, M) = some (.inl (k + 1, M1)) := by
        unfold fX9_run_L50
        dsimp only
        rw [o_4 hT, if_neg (by omega), r1, bd_s, if_pos e, d1, bd_s, w32_i (by omega) (by omega)]
      obtain ⟨u0, hu0⟩ := cN_ex hI w1 w2
      obtain ⟨hIu, hZu⟩ := cN_iv hI hZ (by omega) w1 w2 (r2.mp e) hu0
      obtain ⟨r, e1, e2⟩ := ih (k + 1) M1 K (b + 1) u0 (by rw [d3 t (by omega)]; omega) (fun i hi => by
        obtain ⟨g1, g2⟩ := hrow (i + 1) (Nat.succ_lt_succ hi)
        rw [show k + ((i + 1 : Nat) : Int) = k + 1 + (i : Int) by omega] at g1 g2
        exact ⟨by rw [d3 _ (by omega)]; exact g1, fun j hj => by rw [d3 _ (by omega)]; exact g2 j hj⟩) (fun y hy => hW y (List.mem_cons_of_mem _ hy)) (by omega) (by omega) (by omega) (by omega) (d2 u0 hu0) hIu hZu (hz53.fr (fun q q0 q1 => d3 q (by omega)) hh.2)
      refine ⟨r, by rw [lp_inl hbody]; exact e1, fun v hv hiv hzv => ?_⟩
      have hc := (hcT v hv hiv).mp e
      obtain ⟨M1', d1', d2', -⟩ := c_do (ad := ad) hO hT hv hiv hzv (by omega) k0 (by omega) w1 w2 hx hc
      rw [d1] at d1'
      have hMM := Option.some.inj d1'
      subst hMM
      refine ⟨fun w hw => ?_, fun j hj => ?_⟩
      · obtain ⟨-, u, hu, hrn⟩ := hw
        obtain ⟨i1, i2⟩ := cN_iv hiv hzv (by omega) w1 w2 hc hu
        obtain ⟨M', f1, f2, f3⟩ := (e2 u (d2' u hu) i1 i2).1 w hrn
        exact ⟨M', f1, f2, fun c hc' => by rw [f3 c hc', d3 c hc']⟩
      · cases j with
        | zero => exact absurd hc hj
        | succ j =>
          obtain ⟨-, u, hu, hrn⟩ := hj
          obtain ⟨i1, i2⟩ := cN_iv hiv hzv (by omega) w1 w2 hc hu
          obtain ⟨M', f1, f2, f3, f4⟩ := (e2 u (d2' u hu) i1 i2).2 j hrn
          exact ⟨M', f1, f2, by rw [f3, d3 o (by omega), show k + 1 + (j : Int) = k + ((j + 1 : Nat) : Int) by omega], fun c hc' => by rw [f4 c hc', d3 c (by omega)]⟩
    · obtain ⟨M1, d1, d2, d3⟩ := f_copy (ad := ad) hO.2.2.1 hO.2.2.2.2.1 hz53 hz (Or.inl (by omega))
      have hbody : fX9_run_L50 ad S Ln R o (k, M) = some (.inr (.inr (.inr ("java/lang/UnsupportedOperationException", wr M1 o 8 k, R)))) := by
        unfold fX9_run_L50
        dsimp only
        rw [o_4 hT, if_neg (by omega), r1, bd_s, if_neg e, o_0 hO, o_2 hO, d1, bd_s, nam_d]
      refine ⟨_, lp_inr hbody, fun v hv hiv hzv => ⟨fun w hw => absurd ((hcT v hv hiv).mpr hw.1) e, fun j hj => ?_⟩⟩
      cases j with
      | zero => exact ⟨wr M1 o 8 k, rfl, d2.fr (fun q q0 q1 => wr_a (by omega)) hh.2, by rw [wr_r, d3 o (by omega)]; simp, fun c hc' => by rw [wr_a (by omega), d3 c (by omega)]⟩
      | succ j => exact absurd ((hcT v hv hiv).mpr hj.1) e
end PRN
