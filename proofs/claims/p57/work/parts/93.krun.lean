/-! PURE: the law's case 45 -/
section PKR
variable {ad S Ln : Nat → Nat} {R : gR} {M M' : gM} {e o m a t : Nat} {π : Int → Nat} {v : gV} {b : Int} {T : Int → Int} {n : Int}
theorem pgm_wf (n0 : 0 ≤ n) : WF (pgm T n 15 0).2.2 ∧ (pgm T n 15 0).2.2.length ≤ 15 ∧ ((pgm T n 15 0).1 = 0 ∨ (pgm T n 15 0).1 = 1) ∧ 0 ≤ (pgm T n 15 0).2.1 := by
  obtain ⟨⟨a1, a2⟩, a3, a4, a5⟩ := pgm_b (T := T) (n := n) 15 0 (Int.le_refl _) n0
  exact ⟨fun x hx => ⟨(a5 x hx).1, (a5 x hx).2.1⟩, a4, a3, a1⟩
theorem rn_4 : ∀ (cs : List (Nat × List Int)) (v : gV) (b : Int), WF cs → IvS b v → IvZ v → b + cs.length ≤ 10000 → ∀ w, RN v cs w → w 4 ≤ 6 := by
  intro cs
  induction cs with
  | nil =>
    intro v b _ hI _ _ w hw
    rw [show w = v from hw]
    exact hI.2.2.2.1.2
  | cons x cs ih =>
    intro v b hW hI hZ hb w hw
    rw [List.length_cons] at hb
    obtain ⟨w1, w2⟩ := hW x List.mem_cons_self
    obtain ⟨e, u, hu, hrn⟩ := hw
    obtain ⟨i1, i2⟩ := cN_iv hI hZ (by omega) w1 w2 e hu
    exact ih u (b + 1) (fun y hy => hW y (List.mem_cons_of_mem _ hy)) i1 i2 (by omega) w hrn
theorem c_run {nh : Int} {w : Int → gV} (hO : LyO S Ln R o π) (hT : LyT S Ln R o t) (ht : o + 289 ≤ t) (h1 : M t 1 = n) (hn : 0 ≤ n ∧ n ≤ 60) (hTx : ∀ i, 0 ≤ i → i < n → M (t + 1) i = T i) (hC : CST ad S Ln R M) (hA : AD ad o)
    (hR : RpS M (o + 1) v) (hI : IvS b v) (hZ : IvZ v) (hb : b + 15 ≤ 10000) (hH : HiO M o π nh w b) :
    ∃ res, fX9_run ad S Ln R M o = some res ∧
      ((pgm T n 15 0).1 ≠ 1 → ∃ M', res = .inr ("java/lang/IllegalArgumentException", M', R) ∧ M' t 1 = 0 ∧ M' o = us (M o) 7 (pgm T n 15 0).2.1 ∧ ∀ q, q ≠ o → (q < t ∨ t + 19 ≤ q) → M' q = M q) ∧
      ((pgm T n 15 0).1 = 1 → (∀ u, RN v (pgm T n 15 0).2.2 u → ∃ M' R' π', res = .inl (((pgm T n 15 0).2.2.length : Int), M', R') ∧ LyO S Ln R' o π' ∧ RpS M' (o + 1) u ∧ RpH M' (o + 79) π' (kpN nh) (kpW nh w v) ∧ (∀ q, q ≠ o + 80 → R' q = R q) ∧ M' t 1 = 0 ∧ ∀ q, (q < o + 1 ∨ (o + 27 ≤ q ∧ q < o + 53) ∨ (o + 289 ≤ q ∧ q < t) ∨ t + 19 ≤ q) → M' q = M q) ∧
        ∀ j : Nat, FL v (pgm T n 15 0).2.2 j → ∃ M', res = .inr ("java/lang/UnsupportedOperationException", M', R) ∧ RpS M' (o + 1) v ∧ M' t 1 = 0 ∧ M' o = us (M o) 8 j ∧ ∀ q, (q < o ∨ (o + 27 ≤ q ∧ q < o + 53) ∨ (o + 79 ≤ q ∧ q < t) ∨ t + 19 ≤ q) → M' q = M q) := by
  obtain ⟨p1, p2, p3, p4⟩ := pgm_wf (T := T) hn.1
  obtain ⟨M1, e1, ⟨c1, c2, -⟩, e3⟩ := p_find (ad := ad) (T := T) hT h1 hn hTx hC hA (by omega)
  have i4 := hI.2.2.2.1
  by_cases hok : (pgm T n 15 0).1 = 1
  · rw [if_pos hok] at e1
    obtain ⟨g4, grow⟩ := e3 hok
    have hM4 : ∀ q, q < t → wr M1 t 1 0 q = M q := fun q hq => by rw [wr_a (by omega), c1 q (by omega)]
    have hR4 : RpS (wr M1 t 1 0) (o + 1) v := hR.fr (fun q q0 q1 => hM4 q (by omega)) i4.2
    obtain ⟨M7, k1, k2, k3⟩ := f_copy (ad := ad) hO.2.2.2.2.1 hO.2.2.1 hR4 hI (Or.inr (by omega))
    have hR7 : RpS M7 (o + 1) v := hR4.fr (fun q q0 q1 => k3 q (by omega)) i4.2
    have h74 : M7 t 4 = 0 + ((pgm T n 15 0).2.2.length : Int) := by rw [k3 t (by omega), wr_k (by decide), g4]; omega
    have hrow : ∀ (i : Nat) (hi : i < (pgm T n 15 0).2.2.length), RW M7 t (0 + i) (pgm T n 15 0).2.2[i] := fun i hi => by
      obtain ⟨q1, q2⟩ := grow i hi
      rw [Int.zero_add]
      exact ⟨by rw [k3 _ (by omega), wr_a (by omega)]; exact q1, fun j hj => by rw [k3 _ (by omega), wr_a (by omega)]; exact q2 j hj⟩
    obtain ⟨r, l1, l2⟩ := c_loop (ad := ad) hO hT ht hI (pgm T n 15 0).2.2 0 M7 FU b v h74 hrow p1 (Int.le_refl _) (by omega) (fu_lt (by omega)) (by omega) hR7 hI hZ k2
    obtain ⟨l3, l4⟩ := l2 v hR7 hI hZ
    have hrun : fX9_run ad S Ln R M o = (Sum.elim (fun e50_16 => rf S (R o 3) 9 fun b17 => rf S (R o 2) 11 fun b18 => bd (fX4_keep ad S Ln R e50_16 b17 b18) fun q19 => rf S (q19.2 o 4) 10 fun b20 => some (Sum.inl (q19.1 b20 4, q19.1, q19.2))) (fun c22 => some c22) r : Option ((Int × gM × gR) ⊕ (String × gM × gR))) := by
      unfold fX9_run
      rw [o_4 hT, e1, bd_s]
      dsimp only
      rw [o_4 hT, nam_d, if_pos rfl, o_2 hO, o_0 hO, k1, bd_s, l1, bd_s]
    have ht1 : M7 t 1 = 0 := by rw [k3 t (by omega), wr_s]
    have hfr : ∀ q, (q < o + 53 ∨ (o + 79 ≤ q ∧ q < t) ∨ t + 19 ≤ q) → M7 q = M q := fun q hq => by rw [k3 q (by omega), wr_a (by omega), c1 q (by omega)]
    rcases rn_or (pgm T n 15 0).2.2 v b p1 hI hZ (by omega) with ⟨u0, hu0⟩ | ⟨j0, hj0⟩
    · obtain ⟨M8, rfl, s1, s2⟩ := l3 u0 hu0
      obtain ⟨H1, H2, H3⟩ := hH
      have hH8 : RpH M8 (o + 79) π nh w := by
        refine ⟨by rw [s2 _ (by omega), hfr _ (by omega)]; exact H1.1, fun q q0 q1 => ?_⟩
        obtain ⟨y1, y2, y3, y4⟩ := hO.2.2.2.2.2.2.2.2.2.1 q q0 (by omega)
        exact (H1.2 q q0 q1).fr (fun x x0 x1 => by rw [s2 x (by omega), hfr x (by omega)]) (H3 q q0 q1).1.2.2.2.1.2
      have hR8 : RpS M8 (o + 53) v := k2.fr (fun q q0 q1 => s2 q (by omega)) i4.2
      obtain ⟨M9, R9, π9, m1, m2, m3, m4, m5⟩ := h_keep (ad := ad) hO.2.2.2.2.2 hO.2.2.2.2.1 (Or.inl (by omega)) hR8 hI hH8 (fun q q0 q1 => (H3 q q0 q1).1.2.2.2.1.2) H2.1 H2.2
      have ho4 : R9 o 4 = some t := by rw [m4 o (by omega)]; exact hT.1
      have h94 : M9 t 4 = ((pgm T n 15 0).2.2.length : Int) := by rw [m5 t (by omega), s2 t (by omega), h74]; omega
      have hres : fX9_run ad S Ln R M o = some (.inl (((pgm T n 15 0).2.2.length : Int), M9, R9)) := by
        rw [hrun, se_l, o_3 hO, o_2 hO, m1, bd_s]
        dsimp only
        rw [rf_o ho4 hT.2.1.1, h94]
      refine ⟨_, hres, fun h => absurd hok h, fun _ => ⟨fun u hu => ?_, fun j hj => ?_⟩⟩
      · obtain ⟨M8', f0, f1, f2⟩ := l3 u hu
        have hMM := Sum.inl.inj f0
        subst hMM
        have hu6 : u 4 ≤ 6 := rn_4 (pgm T n 15 0).2.2 v b p1 hI hZ (by omega) u hu
        exact ⟨M9, R9, π9, rfl, hO.fr m2 m4, f1.fr (fun q q0 q1 => m5 q (by omega)) hu6, m3, m4, by rw [m5 t (by omega), s2 t (by omega)]; exact ht1, fun q hq => by rw [m5 q (by omega), s2 q (by omega), hfr q (by omega)]⟩
      · obtain ⟨M8', f0, -⟩ := l4 j hj
        cases f0
    · obtain ⟨M8, rfl, s1, s2, s3⟩ := l4 j0 hj0
      refine ⟨.inr ("java/lang/UnsupportedOperationException", M8, R), by rw [hrun, se_r], fun h => absurd hok h, fun _ => ⟨fun u hu => ?_, fun j hj => ?_⟩⟩
      · obtain ⟨M8', f0, -⟩ := l3 u hu
        cases f0
      · obtain ⟨M8', f0, f1, f2, f3⟩ := l4 j hj
        have hMM : M8 = M8' := by
          have := Sum.inr.inj (Sum.inr.inj f0)
          exact congrArg (fun z => z.2.1) this
        subst hMM
        exact ⟨M8, rfl, f1, by rw [f3 t (by omega)]; exact ht1, by rw [f2, hfr o (by omega), Int.zero_add], fun q hq => by rw [f3 q (by omega), hfr q (by omega)]⟩
  · rw [if_neg hok] at e1
    have hne : ¬ (pgm T n 15 0).2.1 = -1 := by omega
    refine ⟨.inr ("java/lang/IllegalArgumentException", wr (wr M1 t 1 0) o 7 (pgm T n 15 0).2.1, R), ?_, fun _ => ⟨_, rfl, by rw [wr_a (by omega), wr_s], by rw [wr_r, wr_a (by omega), c1 o (by omega)], fun q q0 q1 => by rw [wr_a q0, wr_a (by omega), c1 q (by omega)]⟩, fun h => absurd h hok⟩
    unfold fX9_run
    rw [o_4 hT, e1, bd_s]
    dsimp only
    rw [o_4 hT, nam_d, if_neg hne, nam_d]
end PKR
