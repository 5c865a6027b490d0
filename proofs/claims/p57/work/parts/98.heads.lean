/-! p57: programs, flights that head for the next turn point, the turn's act -/
/-- the law's act: refused and as before, or done, with the row before it kept -/
def AH (S Ln : Nat → Nat) (R : gR) (M : gM) (o : Nat) (b' : Int) (v : gV) (fl : Option (Int × gM × gR)) : Prop := ∃ r M' R' π' v' n' w', fl = some (r, M', R') ∧ CW S Ln R' M' o π' b' v' n' w' ∧ v 4 ≤ v' 4 ∧ (-900004 ≤ r ∧ r ≤ 3000) ∧ ((r ≤ -900001 ∧ v' = v) ∨ (0 ≤ r ∧ 1 ≤ n' ∧ w' (n' - 1) = v)) ∧ FQ o R R' ∧ (∀ c, (c < o ∨ (o + 27 ≤ c ∧ c < o + 53) ∨ o + 308 ≤ c) → M' c = M c) ∧ (M (o + 289) 1 = 0 → M' (o + 289) 1 = 0)
theorem FQ.rf {o : Nat} {R : gR} : FQ o R R := fun _ _ => rfl
theorem FQ.tr {o : Nat} {R R1 R2 : gR} (h : FQ o R R1) (g : FQ o R1 R2) : FQ o R R2 := fun q hq => (g q hq).trans (h q hq)
theorem FA.tr {o : Nat} {M M1 M2 : gM} (h : FA o M M1) (g : FA o M1 M2) : FA o M M2 := fun c hc => (g c hc).trans (h c hc)
theorem FA.rf {o : Nat} {M : gM} : FA o M M := fun _ _ => rfl
section XN57
variable {v : gV} {b : Int}
theorem X_pt (hI : IvS b v) (hX : IvX v) (x y : Int) : IvX (ptR v x y) ∧ v 4 ≤ ptR v x y 4 := by
  have i0 := hI.1.1
  exact ⟨hX.mp (ptR_n (by decide) (by omega) (by omega)) (fun p k p0 k0 k1 => ptR_n (by omega) (by omega) (by omega)), Int.le_of_eq (ptR_n (by decide) (by omega) (by omega)).symm⟩
theorem X_st (hI : IvS b v) (hX : IvX v) (i : Int) : IvX (stR v i) ∧ v 4 ≤ stR v i 4 := by
  have i0 := hI.1.2.1
  exact ⟨hX.mp (stR_n (by decide) (by omega)) (fun p k p0 k0 k1 => stR_n (by omega) (by omega)), Int.le_of_eq (stR_n (by decide) (by omega)).symm⟩
theorem X_th (hI : IvS b v) (hX : IvX v) (x y s : Int) : IvX (thR v x y s) ∧ v 4 ≤ thR v x y s 4 := by
  have i0 := hI.2.1.1
  exact ⟨hX.mp (thR_n (by decide) (by omega) (by omega) (by omega)) (fun p k p0 k0 k1 => thR_n (by omega) (by omega) (by omega) (by omega)), Int.le_of_eq (thR_n (by decide) (by omega) (by omega) (by omega)).symm⟩
theorem X_ar (hI : IvS b v) (hX : IvX v) (x y X Y : Int) (ht : tAr v x y X Y = 0) : IvX (arR v x y X Y) ∧ v 4 ≤ arR v x y X Y 4 := by
  have i0 := hI.2.2.1.1
  have h3 : v 3 < 3 := by
    unfold tAr at ht
    split at ht
    · split at ht
      · exact absurd ht (by decide)
      · omega
    · exact absurd ht (by decide)
  exact ⟨hX.mp (arR_n (by decide) (by omega) (by omega) (by omega) (by omega)) (fun p k p0 k0 k1 => arR_n (by omega) (by omega) (by omega) (by omega) (by omega)), Int.le_of_eq (arR_n (by decide) (by omega) (by omega) (by omega) (by omega)).symm⟩
theorem X_pl (hI : IvS b v) (hZ : IvZ v) (hX : IvX v) (g : Int) (ht : tPl v g = 0) : IvX (plR v g) ∧ v 4 ≤ plR v g 4 := by
  have i0 := hI.2.2.2.1
  have h6 : v 4 ≠ 6 := fun e => by
    unfold tPl at ht
    split at ht
    · exact absurd ht (by decide)
    · exact absurd ht (by decide)
  refine ⟨fun p p0 p1 => ?_, by rw [plR_4]; omega⟩
  rw [plR_4] at p1
  rw [plR_g i0.1 p0 (by decide) (by decide), plR_g i0.1 p0 (by decide) (by decide), plR_g i0.1 p0 (by decide) (by decide), plR_g i0.1 p0 (by decide) (by decide), if_neg (fun q => absurd q.2 (by decide)), if_neg (fun q => absurd q.2 (by decide)), if_neg (fun q => absurd q.2 (by decide)), if_neg (fun q => absurd q.2 (by decide))]
  by_cases e : p < v 4
  · exact hX p p0 e
  · rw [hZ p 1 (by omega) (by omega) (by decide) (by decide), hZ p 7 (by omega) (by omega) (by decide) (by decide), hZ p 4 (by omega) (by omega) (by decide) (by decide), hZ p 6 (by omega) (by omega) (by decide) (by decide)]
    decide
theorem X_la (hX : IvX v) (p : Int) (ht : tLaunch v p = 0) (x y : Int) : IvX (sU v p (toU (gl v p) x y)) ∧ v 4 ≤ sU v p (toU (gl v p) x y) 4 := by
  have hp : 0 ≤ p ∧ p < v 4 := by
    unfold tLaunch at ht
    split at ht
    · assumption
    · exact absurd ht (by decide)
  exact ⟨hX.sU hp.1 ⟨fun q => absurd q (by show ¬ (1 : Int) = 0; decide), fun q => absurd q (by show ¬ (1 : Int) = 2; decide), by show (0 : Int) % 10 = 0; decide⟩, Int.le_of_eq (sU_lo hp.1 (by decide)).symm⟩
theorem X_fl (hX : IvX v) (p d k : Int) (ht : tFly v p d k = 0) : IvX (sU v p (kmN v (gl v p) d k.toNat)) ∧ v 4 ≤ sU v p (kmN v (gl v p) d k.toNat) 4 := by
  obtain ⟨g1, g2, g3, g4, g5⟩ := tFly_0 ht
  exact ⟨hX.sU g1.1 (kmN_x (hX p g1.1 g1.2) _), Int.le_of_eq (sU_lo g1.1 (by decide)).symm⟩
theorem X_cl (hX : IvX v) (p k : Int) (ht : tClimb v p k = 0) (s z : Int) : IvX (sU v p (rsH (gl v p) s k z)) ∧ v 4 ≤ sU v p (rsH (gl v p) s k z) 4 := by
  obtain ⟨g1, g2, g3⟩ := tClimb_0 ht
  have e1 : rsH (gl v p) s k z 1 = gl v p 1 := rfl
  have e6 : rsH (gl v p) s k z 6 = gl v p 6 := rfl
  refine ⟨hX.sU g1.1 ⟨fun q => ?_, fun q => ?_, ?_⟩, Int.le_of_eq (sU_lo g1.1 (by decide)).symm⟩
  · rw [e1] at q; omega
  · rw [e1] at q; omega
  · rw [e6]; exact (hX p g1.1 g1.2).2.2
theorem X_en (hX : IvX v) {u : gV} (h4 : u 4 = v 4) (hg : ∀ p k : Int, 0 ≤ p → 0 ≤ k → k < 9 → gl u p k = if p < v 4 then clU v p k else gl v p k) : IvX u ∧ v 4 ≤ u 4 := by
  refine ⟨fun p p0 p1 => ?_, by omega⟩
  rw [h4] at p1
  rw [hg p 1 p0 (by decide) (by decide), hg p 7 p0 (by decide) (by decide), hg p 4 p0 (by decide) (by decide), hg p 6 p0 (by decide) (by decide), if_pos p1, if_pos p1, if_pos p1, if_pos p1]
  exact ⟨fun _ => rfl, fun _ => rfl, by show (0 : Int) % 10 = 0; decide⟩
theorem cN_x (hI : IvS b v) (hZ : IvZ v) (hX : IvX v) {k : Nat} {l : List Int} (hk : k < 9) (hl : l.length = slL (kS k)) : ∀ u, cT v k l = 0 → cN v k l u → IvX u ∧ v 4 ≤ u 4 := by
  refine cmd_c (P := fun k l => ∀ u, cT v k l = 0 → cN v k l u → IvX u ∧ v 4 ≤ u 4) hk hl ?_ ?_ ?_ ?_ ?_ ?_ ?_ ?_ ?_
  · intro x y u ht hu
    have hu' : u = ptR v x y := hu
    rw [hu']; exact X_pt hI hX x y
  · intro i u ht hu
    have hu' : u = stR v i := hu
    rw [hu']; exact X_st hI hX i
  · intro x y s u ht hu
    have hu' : u = thR v x y s := hu
    rw [hu']; exact X_th hI hX x y s
  · intro x y X Y u ht hu
    have hu' : u = arR v x y X Y := hu
    rw [hu']; exact X_ar hI hX x y X Y ht
  · intro g u ht hu
    have hu' : u = plR v g := hu
    rw [hu']; exact X_pl hI hZ hX g ht
  · intro p u ht hu
    have hu' : u = sU v p (toU (gl v p) (v (7 + 2 * v 23)) (v (8 + 2 * v 23))) := hu
    rw [hu']; exact X_la hX p ht _ _
  · intro p d k u ht hu
    have hu' : u = sU v p (kmN v (gl v p) d k.toNat) := hu
    rw [hu']; exact X_fl hX p d k ht
  · intro p k u ht hu
    have hu' : u = sU v p (rsH (gl v p) (str v (gl v p 2) (gl v p 3) (v 2).toNat) k (v 5)) := hu
    rw [hu']; exact X_cl hX p k ht _ _
  · intro u ht hu
    have hu' : mE v u ∧ u 4 = v 4 ∧ u 6 = v 6 + 1 ∧ ∀ p k : Int, 0 ≤ p → 0 ≤ k → k < 9 → gl u p k = if p < v 4 then clU v p k else gl v p k := hu
    exact X_en hX hu'.2.1 hu'.2.2.2
end XN57
theorem RN_x : ∀ (cs : List (Nat × List Int)) (v : gV) (b : Int) (u : gV), WF cs → IvS b v → IvZ v → IvX v → b + cs.length ≤ 10000 → RN v cs u → (IvS (b + cs.length) u ∧ IvZ u ∧ IvX u) ∧ v 4 ≤ u 4 := by
  intro cs
  induction cs with
  | nil =>
    intro v b u hw hI hZ hX hb h
    have h' : u = v := h
    subst h'
    exact ⟨⟨by rw [show b + (([] : List (Nat × List Int)).length : Int) = b from Int.add_zero b]; exact hI, hZ, hX⟩, Int.le_refl _⟩
  | cons x cs ih =>
    intro v b u hw hI hZ hX hb h
    have h' : cT v x.1 x.2 = 0 ∧ ∃ z, cN v x.1 x.2 z ∧ RN z cs u := h
    obtain ⟨ht, z, hz, hr⟩ := h'
    have hl : ((x :: cs).length : Int) = cs.length + 1 := by simp
    rw [hl] at hb ⊢
    obtain ⟨w1, w2⟩ := hw x List.mem_cons_self
    obtain ⟨g1, g2⟩ := cN_iv hI hZ (by omega) w1 w2 ht hz
    obtain ⟨g3, g4⟩ := cN_x hI hZ hX w1 w2 z ht hz
    obtain ⟨⟨i1, i2, i3⟩, i4⟩ := ih z (b + 1) u (fun y hy => hw y (List.mem_cons_of_mem _ hy)) g1 g2 g3 (by omega) hr
    exact ⟨⟨by rw [show b + ((cs.length : Int) + 1) = b + 1 + cs.length by omega]; exact i1, i2, i3⟩, by omega⟩
section HD57
variable {ad S Ln : Nat → Nat} {R : gR} {M : gM} {o : Nat} {π : Int → Nat} {b n lo : Int} {v : gV} {w : Int → gV}
theorem AH.of {fl : Option (Int × gM × gR)} (hW : CW S Ln R M o π b v n w) (hb : b + 20 ≤ 10000) (l0 : 0 ≤ lo) (h : AR S Ln R M o b v n w lo fl) : AH S Ln R M o (b + 20) v fl := by
  obtain ⟨r, M', R', e, ⟨r0, r1, m1, m2⟩ | ⟨r0, r1, ⟨π', v', c1, c2⟩, f1, f2⟩⟩ := h
  · subst m1; subst m2
    exact ⟨r, M', R', π, v, n, w, e, hW.mono (by omega) hb, Int.le_refl _, ⟨r0, by omega⟩, Or.inl ⟨r1, rfl⟩, FQ.rf, fun _ _ => rfl, fun h => h⟩
  · have hn := hW.2.2.2.1.2.1
    have hk := kpN_b hn.1 hn.2
    have hk1 : 1 ≤ kpN n := by unfold kpN; split <;> omega
    exact ⟨r, M', R', π', v', kpN n, kpW n w v, e, c1.mono (by omega) hb, c2, ⟨by omega, r1⟩, Or.inr ⟨by omega, hk1, kpW_l hn.2⟩, f2, fun c hc => f1 c (by omega), fun h => by rw [f1 _ (by omega)]; exact h⟩
theorem AH.mono {b1 b2 : Int} {fl : Option (Int × gM × gR)} (h : AH S Ln R M o b1 v fl) (h1 : b1 ≤ b2) (h2 : b2 ≤ 10000) : AH S Ln R M o b2 v fl := by
  obtain ⟨r, M', R', π', v', n', w', q1, q2, q⟩ := h
  exact ⟨r, M', R', π', v', n', w', q1, q2.mono h1 h2, q⟩
/-- a program: run, or refused -/
theorem A_run (hW : CW S Ln R M o π b v n w) (hb : b + 20 ≤ 10000) (hT : LyT S Ln R o (o + 289)) (hl : 0 ≤ M (o + 289) 1 ∧ M (o + 289) 1 ≤ 60) (hC : CST ad S Ln R M) (hA : AD ad o) :
    ∃ r M' R' π' v' n' w', fL_run ad S Ln R M o = some (r, M', R') ∧ CW S Ln R' M' o π' (b + 20) v' n' w' ∧ v 4 ≤ v' 4 ∧ (-900004 ≤ r ∧ r ≤ 3000) ∧ ((r ≤ -900001 ∧ v' = v) ∨ (0 ≤ r ∧ 1 ≤ n' ∧ w' (n' - 1) = v)) ∧ FQ o R R' ∧ (∀ c, (c < o ∨ (o + 27 ≤ c ∧ c < o + 53) ∨ o + 308 ≤ c) → M' c = M c) ∧ M' (o + 289) 1 = 0 := by
  have hW9 := hW
  obtain ⟨hO, hR, ⟨hI, hZ, hX⟩, hH, hHX⟩ := hW
  have hb0 := hI.2.2.2.2.2.1
  obtain ⟨res, e, h1, h2⟩ := c_run (ad := ad) (T := M (o + 289 + 1)) (n := M (o + 289) 1) hO hT (by omega) rfl hl (fun i _ _ => rfl) hC hA hR hI hZ (by omega) hH
  obtain ⟨p1, p2, p3, p4⟩ := pgm_wf (T := M (o + 289 + 1)) hl.1
  unfold fL_run
  by_cases hp : (pgm (M (o + 289 + 1)) (M (o + 289) 1) 15 0).1 = 1
  · obtain ⟨g1, g2⟩ := h2 hp
    rcases rn_or (pgm (M (o + 289 + 1)) (M (o + 289) 1) 15 0).2.2 v b p1 hI hZ (by omega) with ⟨u, hu⟩ | ⟨j, hj⟩
    · obtain ⟨M', R', π', e1, q1, q2, q3, q4, q5, q6⟩ := g1 u hu
      obtain ⟨⟨u1, u2, u3⟩, u4⟩ := RN_x _ v b u p1 hI hZ hX (by omega) hu
      have hk := kpN_b hH.2.1.1 hH.2.1.2
      have hn := hH.2.1
      have hk1 : 1 ≤ kpN n := by unfold kpN; split <;> omega
      rw [e1] at e
      refine ⟨_, M', R', π', u, kpN n, kpW n w v, by rw [e, bd_s, se_l], ⟨q1, q2, ⟨u1.mono (by omega) hb, u2, u3⟩, ⟨q3, hk, fun q q0 q1' => ?_⟩, kpW_X hHX hX hH.2.1.1 hH.2.1.2⟩, u4, ⟨by omega, by omega⟩, Or.inr ⟨by omega, hk1, kpW_l hH.2.1.2⟩, q4, fun c hc => q6 c (by omega), q5⟩
      have := kpW_4 hH.2.2 hI hH.2.1.1 hH.2.1.2 hZ q q0 q1'
      exact ⟨this.1.mono (by omega) hb, this.2⟩
    · obtain ⟨M', e1, q1, q2, q3, q4⟩ := g2 j hj
      rw [e1] at e
      refine ⟨-900002, M', R, π, v, n, w, by rw [e, bd_s, se_r]; rfl, ?_, Int.le_refl _, by decide, Or.inl ⟨by decide, rfl⟩, FQ.rf, fun c hc => q4 c (by omega), q2⟩
      refine CW.mono ⟨hO, q1, ⟨hI, hZ, hX⟩, ⟨⟨by rw [q4 _ (by omega)]; exact hH.1.1, fun q q0 q1' => ?_⟩, hH.2⟩, hHX⟩ (by omega) hb
      obtain ⟨l1, l2, l3, l4⟩ := hO.2.2.2.2.2.2.2.2.2.1 q q0 (by have := hH.2.1; omega)
      exact (hH.1.2 q q0 q1').fr (fun x x0 x1 => q4 x (by omega)) (hH.2.2 q q0 q1').1.2.2.2.1.2
  · obtain ⟨M', e1, q1, q2, q3⟩ := h1 hp
    rw [e1] at e
    exact ⟨-900001, M', R, π, v, n, w, by rw [e, bd_s, se_r]; rfl, (hW9.fr (fun c c0 c1 => q3 c (by omega) (by omega)) (fun c c0 c1 => q3 c (by omega) (by omega))).mono (by omega) hb, Int.le_refl _, by decide, Or.inl ⟨by decide, rfl⟩, FQ.rf, fun c hc => q3 c (by omega) (by omega), q1⟩
/-- a text is appended and run -/
theorem A_does {s ss : Nat} {cs : List Int} (hW : CW S Ln R M o π b v n w) (hb : b + 20 ≤ 10000) (hT : LyT S Ln R o (o + 289)) (h0 : M (o + 289) 1 = 0) (hC : CST ad S Ln R M) (hA : AD ad o) (hS : STR S Ln R M s ss cs) (hs : o + 310 ≤ s ∧ o + 310 ≤ ss) (hcs : cs.length ≤ 60) : AH S Ln R M o (b + 20) v (fL_does ad S Ln R M o s) := by
  have hT9 := hT
  obtain ⟨t1, ⟨t2, t3, t4, t5⟩, ⟨t6, t7, t8⟩, ⟨t9, t10, t11⟩, t12⟩ := hT
  obtain ⟨res, e1, M1, k1, e2, ⟨f1, f2⟩, f3⟩ := lp_inv0 (b := fL_does_L4 ad S Ln R o s) cs.length
    (fun i z => z.2.1 = (i : Int) ∧ (0 ≤ z.1 ∧ z.1 ≤ 61 * i) ∧ (z.2.2 (o + 289) 1 = (i : Int)) ∧ ∀ c, c ≠ o + 289 → c ≠ o + 289 + 1 → z.2.2 c = M c)
    (fun res => ∃ M1 k, res = .inl (k, M1) ∧ (0 ≤ k ∧ M1 (o + 289) 1 = (cs.length : Int)) ∧ ∀ c, c ≠ o + 289 → c ≠ o + 289 + 1 → M1 c = M c) (s := ((0 : Int), (0 : Int), M)) (by omega)
    ⟨rfl, (by show (0 : Int) ≤ 0 ∧ (0 : Int) ≤ 61 * 0; decide), h0, fun _ _ _ => rfl⟩
    (fun i z hi hz => by
      obtain ⟨z1, z2, z3⟩ := z
      obtain ⟨a1, a2, a3, a4⟩ := hz
      dsimp only at a1 a2 a3 a4
      subst a1
      have hS1 : STR S Ln R z3 s ss cs := by
        obtain ⟨⟨s1, s2, s3, s4, s5⟩, s6, s7⟩ := hS
        exact ⟨⟨s1, s2, s3, s4, by rw [a4 _ (by omega) (by omega)]; exact s5⟩, s6, fun j hj => by rw [a4 _ (by omega) (by omega)]; exact s7 j hj⟩
      have hroom : fX7_hasRoom ad S Ln R z3 (o + 289) = some 1 := by
        unfold fX7_hasRoom
        rw [a3, if_neg (by omega)]
      refine Or.inl ⟨(z1 + ((i : Int) + 1), ((i + 1 : Nat) : Int), wr (wr z3 (o + 289 + 1) i cs[i]) (o + 289) 1 ((i : Int) + 1)), ?_, rfl, ?_, ?_, fun c c0 c1 => ?_⟩
      · unfold fL_does_L4
        dsimp only
        rw [t_len hS1, bd_s, if_neg (by omega), t_charAt hS1 hi, bd_s]
        unfold fX9_append
        rw [rf_o t1 t2, hroom, bd_s, if_pos (by decide), rf_o t1 t2]
        unfold fX7_add
        rw [hroom, bd_s, if_neg (by decide), rf_o t9 t3, a3, gd_t (by rw [t6]; omega), nam_d, wr_a (show o + 289 ≠ o + 289 + 1 by omega), a3, w32_i (by omega) (by omega), nam_d, wr_s, bd_s, bd_s, se_l]
        dsimp only
        rw [w32_i (by omega) (by omega)]
        rfl
      · dsimp only
        omega
      · dsimp only
        rw [wr_s]
        omega
      · dsimp only
        rw [wr_a c0, wr_a c1]
        exact a4 c c0 c1)
    (fun z hz => by
      obtain ⟨z1, z2, z3⟩ := z
      obtain ⟨a1, a2, a3, a4⟩ := hz
      dsimp only at a1 a2 a3 a4
      have hS1 : STR S Ln R z3 s ss cs := by
        obtain ⟨⟨s1, s2, s3, s4, s5⟩, s6, s7⟩ := hS
        exact ⟨⟨s1, s2, s3, s4, by rw [a4 _ (by omega) (by omega)]; exact s5⟩, s6, fun j hj => by rw [a4 _ (by omega) (by omega)]; exact s7 j hj⟩
      refine ⟨_, ?_, z3, z1, rfl, ⟨a2.1, a3⟩, a4⟩
      unfold fL_does_L4
      dsimp only
      rw [t_len hS1, bd_s, if_pos (by omega)])
  have hC1 : CST ad S Ln R M1 := hC.fr hA (fun q hq => ⟨rfl, rfl, f3 q (by omega) (by omega), rfl⟩)
  have hW1 := hW.fr (M' := M1) (fun c c0 c1 => f3 c (by omega) (by omega)) (fun c c0 c1 => f3 c (by omega) (by omega))
  obtain ⟨r, M', R', π', v', n', w', q1, q2, q3, q4, q5, q6, q7, q8⟩ := A_run (ad := ad) hW1 hb hT9 ⟨by omega, by omega⟩ hC1 hA
  refine ⟨r, M', R', π', v', n', w', ?_, q2, q3, q4, q5, q6, fun c hc => by rw [q7 c hc, f3 c (by omega) (by omega)], fun _ => q8⟩
  unfold fL_does
  rw [e1, bd_s, e2, se_l]
  dsimp only
  rw [if_pos f1, q1, bd_s]
/-- a pilot heads for the next turn point -/
theorem A_heads (hW : CW S Ln R M o π b v n w) (hb : b + 30 ≤ 10000) {p c : Int} (p0 : 0 ≤ p) (p1 : p < v 4) (c0 : 0 ≤ c) (c1 : c < 1000) : AH S Ln R M o (b + 30) v (fL_heads ad S Ln R M o p c) := by
  have hW9 := hW
  obtain ⟨hO, hR, ⟨hI, hZ, hX⟩, hH, hHX⟩ := hW
  have hb0 := hI.2.2.2.2.2.1
  unfold fL_heads
  rw [Q_isFlying hO hR hI p0 p1, bd_s, se_l]
  by_cases hf : gl v p 1 = 1
  · rw [bI_t hf, if_pos (by decide), gd_t (by decide), W_left hO hR hI, bd_s]
    generalize (if 0 ≤ p ∧ p < v 4 then (if gl v p 1 = 1 then lfU v (gl v p) else -900002) else -900001) = z0
    obtain ⟨res, e1, hres⟩ := lp_inv0 (b := fL_heads_L30 ad S Ln o p c (Int.tmod c 4) z0) 4
      (fun i z => (z.1 = (i : Int) ∧ z.2.2.2 = i) ∧ (∃ π1 n1 w1, CW S Ln z.2.2.1 z.2.1 o π1 (b + i) v n1 w1) ∧ FA o M z.2.1 ∧ FQ o R z.2.2.1)
      (fun res => (∃ M1 R1 π1 n1 w1, res = .inl (M1, R1) ∧ CW S Ln R1 M1 o π1 (b + 4) v n1 w1 ∧ FA o M M1 ∧ FQ o R R1) ∨ ∃ r, res = .inr r ∧ AH S Ln R M o (b + 30) v (some r)) (s := ((0 : Int), M, R, 0)) (by decide)
      ⟨⟨rfl, rfl⟩, ⟨π, n, w, by rw [show b + ((0 : Nat) : Int) = b from Int.add_zero b]; exact hW9⟩, FA.rf, FQ.rf⟩
      (fun i z hi hz => by
        obtain ⟨z1, z2, z3, z4⟩ := z
        obtain ⟨⟨a1, a2⟩, ⟨π1, n1, w1, a3⟩, a4, a5⟩ := hz
        dsimp only at a1 a2 a3 a4 a5
        subst a1
        replace a2 := a2.symm
        subst a2
        have hA := A_fly (ad := ad) a3 (by omega) p (Int.tmod (w32 (Int.tmod c 4 + (i : Int))) 4) (w32 (1 + Int.tmod c 9))
        obtain ⟨r, M', R', e, hr⟩ := hA
        have hnext : ∀ (M2 : gM) (R2 : gR), (∃ π2 n2 w2, CW S Ln R2 M2 o π2 (b + (i + 1 : Nat)) v n2 w2) → FA o M M2 → FQ o R R2 → ∃ t, fL_heads_B100 ad S Ln R2 M2 o p c (Int.tmod c 4) z0 (i : Int) i = some (.inl t) ∧ ((t.1 = ((i + 1 : Nat) : Int) ∧ t.2.2.2 = i + 1) ∧ (∃ π1 n1 w1, CW S Ln t.2.2.1 t.2.1 o π1 (b + (i + 1 : Nat)) v n1 w1) ∧ FA o M t.2.1 ∧ FQ o R t.2.2.1) := fun M2 R2 h2 h3 h4 => by
          refine ⟨(w32 ((i : Int) + 1), M2, R2, i + 1), ?_, ⟨?_, rfl⟩, h2, h3, h4⟩
          · unfold fL_heads_B100
            rfl
          · dsimp only
            rw [w32_i (by omega) (by omega)]
            omega
        unfold fL_heads_L30
        dsimp only
        rw [gd_t (by omega), if_neg (by omega), gd_t (by decide), gd_t (by decide), e, bd_s]
        dsimp only
        rcases hr with ⟨r0, r1, m1, m2⟩ | ⟨r0, r1, ⟨π2, v2, c2, c3⟩, f1, f2⟩
        · subst m1; subst m2
          rw [if_pos (by omega)]
          unfold fL_heads_B85
          rw [if_pos (by omega)]
          exact Or.inl (hnext _ _ ⟨π1, n1, w1, a3.mono (by omega) (by omega)⟩ a4 a5)
        · have hn := a3.2.2.2.1.2.1
          have hk1 : 1 ≤ kpN n1 := by unfold kpN; split <;> omega
          have hAH : AH S Ln R M o (b + 30) v (some (r, M', R')) := ⟨r, M', R', π2, v2, kpN n1, kpW n1 w1 v, rfl, c2.mono (by omega) hb, c3, ⟨by omega, r1⟩, Or.inr ⟨by omega, hk1, kpW_l hn.2⟩, a5.tr f2, fun c hc => (f1 c (by omega)).trans (a4 c (by omega)), fun h => by rw [f1 _ (by omega), a4 _ (by omega)]; exact h⟩
          rw [if_neg (by omega), Q_isFlying c2.1 c2.2.1 c2.2.2.1.1 p0 (by omega), bd_s, se_l]
          by_cases h1 : bI (gl v2 p 1 = 1) = 0
          · rw [if_pos h1]
            exact Or.inr ⟨_, rfl, Or.inr ⟨_, rfl, hAH⟩⟩
          · rw [if_neg h1, W_left c2.1 c2.2.1 c2.2.2.1.1, bd_s]
            generalize (if 0 ≤ p ∧ p < v2 4 then (if gl v2 p 1 = 1 then lfU v2 (gl v2 p) else -900002) else -900001) = z9
            split
            · unfold fL_heads_B85
              rw [if_neg (by omega)]
              obtain ⟨M2, e2, u1, u2⟩ := W_undo (ad := ad) c2 hk1
              rw [kpW_l hn.2] at u1
              rw [e2, bd_s]
              dsimp only
              rw [if_pos (by omega)]
              exact Or.inl (hnext _ _ ⟨π2, _, _, by rw [show b + ((i + 1 : Nat) : Int) = b + (i : Int) + 1 by omega]; exact u1⟩ ((a4.tr f1).tr u2) (a5.tr f2))
            · exact Or.inr ⟨_, rfl, Or.inr ⟨_, rfl, hAH⟩⟩)
      (fun z hz => by
        obtain ⟨z1, z2, z3, z4⟩ := z
        obtain ⟨⟨a1, a2⟩, ⟨π1, n1, w1, a3⟩, a4, a5⟩ := hz
        dsimp only at a1 a2 a3 a4 a5
        refine ⟨_, ?_, Or.inl ⟨z2, z3, π1, n1, w1, rfl, a3, a4, a5⟩⟩
        unfold fL_heads_L30
        dsimp only
        rw [gd_t (by omega), if_pos (by omega)])
    rw [e1, bd_s]
    rcases hres with ⟨M1, R1, π1, n1, w1, g1, g2, g3, g4⟩ | ⟨r, g1, g2⟩
    · rw [g1, se_l]
      obtain ⟨r, M', R', π', v', n', w', q1, q2, q3, q4, q5, q6, q7, q8⟩ := AH.mono (b2 := b + 30) (AH.of g2 (by omega) (by decide) (A_fly (ad := ad) g2 (by omega) p (Int.tmod c 4) 1)) (by omega) (by omega)
      rw [q1, bd_s]
      exact ⟨r, M', R', π', v', n', w', rfl, q2, q3, q4, q5, g4.tr q6, fun c hc => (q7 c hc).trans (g3 c (by omega)), fun h => q8 (by rw [g3 _ (by omega)]; exact h)⟩
    · rw [g1, se_r]
      exact g2
  · rw [bI_f hf, if_neg (fun q => q rfl)]
    obtain ⟨r, M', R', π', v', n', w', q1, q2, q3, q4, q5, q6, q7, q8⟩ := AH.mono (b2 := b + 30) (AH.of hW9 (by omega) (by decide) (A_fly (ad := ad) hW9 (by omega) p 0 c)) (by omega) hb
    rw [q1, bd_s]
    exact ⟨r, M', R', π', v', n', w', rfl, q2, q3, q4, q5, q6, q7, q8⟩
end HD57
