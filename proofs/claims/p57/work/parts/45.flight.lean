/-! PURE: a kilometre, a flight, the forecast -/
theorem RpC.fr {M M' : gM} {c : Nat} {v : gV} (h : RpC M c v) (e : ∀ q : Nat, c ≤ q → q < c + 5 → M' q = M q) : RpC M' c v := by
  unfold RpC
  rw [e c (by omega) (by omega), e (c + 1) (by omega) (by omega), e (c + 2) (by omega) (by omega), e (c + 3) (by omega) (by omega), e (c + 4) (by omega) (by omega)]
  exact h
theorem RpA.fr {M M' : gM} {c : Nat} {v : gV} (h : RpA M c v) (e : ∀ q : Nat, c ≤ q → q < c + 4 → M' q = M q) : RpA M' c v := by
  unfold RpA
  rw [e c (by omega) (by omega), e (c + 1) (by omega) (by omega), e (c + 2) (by omega) (by omega), e (c + 3) (by omega) (by omega)]
  exact h
theorem RpB.fr {M M' : gM} {c : Nat} {v : gV} (h : RpB M c v) (e : ∀ q : Nat, c ≤ q → q < c + 5 → M' q = M q) : RpB M' c v := by
  unfold RpB
  rw [e c (by omega) (by omega), e (c + 1) (by omega) (by omega), e (c + 2) (by omega) (by omega), e (c + 3) (by omega) (by omega), e (c + 4) (by omega) (by omega)]
  exact h
theorem RpG.fr {M M' : gM} {g : Nat} {u : gV} (h : RpG M g u) (e : M' g = M g) : RpG M' g u := fun k k0 k1 => by rw [e]; exact h k k0 k1
theorem RpG.wr {M : gM} {g : Nat} {u : gV} (h : RpG M g u) (k z : Int) : RpG (wr M g k z) g (us u k z) := fun j j0 j1 => by
  rw [wr_r]
  unfold us
  split
  · rfl
  · exact h j j0 j1
/-- flying as one must: what does not speak of how much has grown -/
def IvF (v : gV) (u : gV) : Prop := (20 ≤ u 0 ∧ u 0 ≤ 60) ∧ (0 ≤ u 1 ∧ u 1 ≤ 3) ∧ ((0 ≤ u 2 ∧ u 2 ≤ 60) ∧ 0 ≤ u 3 ∧ u 3 ≤ 60) ∧ (0 ≤ u 4 ∧ u 4 ≤ 3000) ∧ 0 ≤ u 5 ∧ 0 ≤ u 6 ∧ (0 ≤ u 7 ∧ u 7 ≤ 6) ∧
  (u 1 ≠ 0 → 2 ≤ v 1 ∧ 1 ≤ u 7) ∧ (u 1 = 1 ∨ u 1 = 2 → u 7 < v 1) ∧ (u 1 = 1 → 0 < u 4 ∧ 0 < dst v (v (23 + u 7)) (u 2) (u 3)) ∧ (u 1 = 3 → u 7 = v 1 ∧ 0 < u 5)
theorem IvP.f {b : Int} {v u : gV} (h : IvP b v u) : IvF v u := ⟨h.1, h.2.1, h.2.2.1, h.2.2.2.1, h.2.2.2.2.1.1, h.2.2.2.2.2.1.1, h.2.2.2.2.2.2.1, h.2.2.2.2.2.2.2.2⟩
theorem IvP.of {b : Int} {v u : gV} (h : IvF v u) (h5 : u 5 ≤ 60 * b) (h6 : u 6 ≤ 600 * b) (h8 : 0 ≤ u 8 ∧ u 8 ≤ 1500 * b) : IvP b v u := ⟨h.1, h.2.1, h.2.2.1, h.2.2.2.1, ⟨h.2.2.2.2.1, h5⟩, ⟨h.2.2.2.2.2.1, h6⟩, h.2.2.2.2.2.2.1, h8, h.2.2.2.2.2.2.2⟩
noncomputable def kmP (v m : gV) : gV := us m 6 (m 6 + 10 * bI (rst v (m 2) (m 3)))
noncomputable def kmR (v m : gV) : gV := us m 7 (m 7 + bI (dst v (v (23 + m 7)) (m 2) (m 3) = 0))
noncomputable def kmS (v m : gV) : gV := us (kmR v m) 1 (if kmR v m 7 = v 1 then 3 else if m 4 = 0 then 2 else 1)
noncomputable def kmU (v u : gV) (d : Int) : gV := kmS v (kmP v (mvU u d))
theorem apt_c {v : gV} {i j : Int} : apt v i j = apt v j i := by
  unfold apt dst
  rw [ab_n, @ab_n (v (8 + 2 * i))]
/-- what a kilometre does to the numbers -/
theorem kmU_k {v u : gV} {d : Int} : kmU v u d 0 = u 0 ∧ kmU v u d 2 = u 2 + stX d ∧ kmU v u d 3 = u 3 + stY d ∧ kmU v u d 4 = (if u 4 - snk u < 0 then 0 else u 4 - snk u) ∧ kmU v u d 5 = u 5 + 1 ∧ kmU v u d 6 = u 6 + 10 * bI (rst v (u 2 + stX d) (u 3 + stY d)) ∧
    kmU v u d 7 = u 7 + bI (dst v (v (23 + u 7)) (u 2 + stX d) (u 3 + stY d) = 0) ∧ kmU v u d 8 = u 8 ∧ kmU v u d 1 = (if u 7 + bI (dst v (v (23 + u 7)) (u 2 + stX d) (u 3 + stY d) = 0) = v 1 then 3 else if (if u 4 - snk u < 0 then 0 else u 4 - snk u) = 0 then 2 else 1) := by
  refine ⟨rfl, rfl, rfl, rfl, rfl, rfl, rfl, rfl, rfl⟩
/-- a kilometre of a flying glider keeps it as it must be -/
theorem kmU_F {v u : gV} (hC : IvC v) (h : IvF v u) (e1 : u 1 = 1) {d : Int} (hx : 0 ≤ u 2 + stX d ∧ u 2 + stX d ≤ 60) (hy : 0 ≤ u 3 + stY d ∧ u 3 + stY d ≤ 60) : IvF v (kmU v u d) ∧ kmU v u d 1 ≠ 0 := by
  obtain ⟨k0, k2, k3, k4, k5, k6, k7, k8, k1⟩ := @kmU_k v u d
  obtain ⟨h0, h1, ⟨h2, h3⟩, h4, h5, h6, h7, q1, q2, q3, q4⟩ := h
  have g1 := q1 (by omega)
  have g2 := q2 (Or.inl e1)
  have g3 := q3 e1
  have hs := snk_b h0.1 h0.2
  have br := bI_r (rst v (u 2 + stX d) (u 3 + stY d))
  have bz := bI_r (dst v (v (23 + u 7)) (u 2 + stX d) (u 3 + stY d) = 0)
  have i6 := hC.2.1
  have e4 : (kmU v u d 4 = 0 ∧ u 4 ≤ snk u) ∨ (kmU v u d 4 = u 4 - snk u ∧ snk u < u 4) := by
    rw [k4]
    split
    · exact Or.inl ⟨rfl, by omega⟩
    · by_cases e : u 4 - snk u = 0
      · exact Or.inl ⟨e, by omega⟩
      · exact Or.inr ⟨rfl, by omega⟩
  have e1' : (kmU v u d 1 = 3 ∧ kmU v u d 7 = v 1) ∨ (kmU v u d 7 ≠ v 1 ∧ kmU v u d 1 = 2 ∧ kmU v u d 4 = 0) ∨ (kmU v u d 7 ≠ v 1 ∧ kmU v u d 1 = 1 ∧ kmU v u d 4 ≠ 0) := by
    rw [k1, k7, k4]
    by_cases e : u 7 + bI (dst v (v (23 + u 7)) (u 2 + stX d) (u 3 + stY d) = 0) = v 1
    · rw [if_pos e]; exact Or.inl ⟨rfl, e⟩
    · rw [if_neg e]
      by_cases e' : (if u 4 - snk u < 0 then 0 else u 4 - snk u) = 0
      · rw [if_pos e']; exact Or.inr (Or.inl ⟨e, rfl, e'⟩)
      · rw [if_neg e']; exact Or.inr (Or.inr ⟨e, rfl, e'⟩)
  have hd : kmU v u d 7 ≠ v 1 → 0 < dst v (v (23 + kmU v u d 7)) (kmU v u d 2) (kmU v u d 3) := fun hn => by
    rw [k7, k2, k3] at *
    by_cases e : dst v (v (23 + u 7)) (u 2 + stX d) (u 3 + stY d) = 0
    · rw [bI_t e] at hn ⊢
      have hl := leg_120 hC (k := u 7) (by omega) (by omega)
      unfold dst at e
      have a1 := @ab_0 (v (7 + 2 * v (23 + u 7)) - (u 2 + stX d))
      have a2 := @ab_0 (v (8 + 2 * v (23 + u 7)) - (u 3 + stY d))
      have b1 := ab_z.mp (show ab (v (7 + 2 * v (23 + u 7)) - (u 2 + stX d)) = 0 by omega)
      have b2 := ab_z.mp (show ab (v (8 + 2 * v (23 + u 7)) - (u 3 + stY d)) = 0 by omega)
      have c1 : u 2 + stX d = v (7 + 2 * v (23 + u 7)) := by omega
      have c2 : u 3 + stY d = v (8 + 2 * v (23 + u 7)) := by omega
      rw [c1, c2, show (23 : Int) + (u 7 + 1) = 24 + u 7 by omega]
      have c3 : dst v (v (24 + u 7)) (v (7 + 2 * v (23 + u 7))) (v (8 + 2 * v (23 + u 7))) = leg v (u 7) := by
        show apt v (v (24 + u 7)) (v (23 + u 7)) = _
        rw [apt_c]
        rfl
      rw [c3]
      exact hl.1
    · rw [bI_f e, Int.add_zero]
      have := @dst_0 v (v (23 + u 7)) (u 2 + stX d) (u 3 + stY d)
      omega
  refine ⟨⟨?_, ?_, ?_, ?_, ?_, ?_, ?_, ?_, ?_, ?_, ?_⟩, ?_⟩
  · rw [k0]; exact h0
  · omega
  · rw [k2, k3]; exact ⟨hx, hy⟩
  · omega
  · rw [k5]; omega
  · rw [k6]; omega
  · rw [k7]; omega
  · intro _; rw [k7]; omega
  · intro hq; rw [k7] at *; omega
  · intro hq
    refine ⟨by omega, hd (by omega)⟩
  · intro hq; rw [k5]; omega
  · omega
theorem us_e {r : gV} {k z : Int} (h : r k = z) : us r k z = r := by subst h; exact us_self
section PFL
variable {ad S Ln : Nat → Nat} {R : gR} {M : gM} {a : Nat} {v : gV}
theorem f_B87 {g : Nat} {r : gV} (hg : RpG M g r) (h1 : r 1 = 1 ∨ r 1 = 3) : ∃ M', fX8_glideKilometre_B87 ad S Ln R M g = some M' ∧ RpG M' g (us r 1 (if r 1 = 3 then 3 else if r 4 = 0 then 2 else 1)) ∧ ∀ c, c ≠ g → M' c = M c := by
  unfold fX8_glideKilometre_B87
  rw [hg 1 (by decide) (by decide), hg 4 (by decide) (by decide), gd_t (by omega)]
  by_cases e : r 1 = 1
  · rw [if_neg (fun q => q e), if_neg (show ¬ r 1 = 3 by omega)]
    by_cases e4 : r 4 = 0
    · rw [if_neg (fun q => q e4), if_pos e4, nam_d]
      exact ⟨_, rfl, hg.wr 1 2, fun c hc => wr_a hc⟩
    · rw [if_pos e4, if_neg e4]
      refine ⟨_, rfl, ?_, fun c hc => rfl⟩
      rw [show us r 1 1 = r from us_e e]
      exact hg
  · rw [if_pos e, if_pos (show r 1 = 3 by omega)]
    refine ⟨_, rfl, ?_, fun c hc => rfl⟩
    rw [show us r 1 3 = r from us_e (by omega)]
    exact hg
theorem f_B34 (hL : LyS S Ln R a) (hR : RpC M (a + 1) v) (hC : IvC v) {g : Nat} (hgn : a + 19 ≤ g) {m : gV} (hg : RpG M g m) (h1 : m 1 = 1) (h7 : 0 ≤ m 7 ∧ m 7 < v 1) (hx : -1000 ≤ m 2 ∧ m 2 ≤ 1000) (hy : -1000 ≤ m 3 ∧ m 3 ≤ 1000) : ∃ M', fX8_glideKilometre_B34 ad S Ln R M a g = some M' ∧ RpG M' g (kmS v m) ∧ ∀ c, c ≠ g → M' c = M c := by
  have i6 := hC.2.1
  unfold fX8_glideKilometre_B34
  rw [s_c hL, hg 7 (by decide) (by decide), hg 2 (by decide) (by decide), hg 3 (by decide) (by decide), c_isStopAt hL.2.2.1 hR hC hx.1 hx.2 hy.1 hy.2, bd_s]
  by_cases hz : dst v (v (23 + m 7)) (m 2) (m 3) = 0
  · rw [bI_t ⟨h7, hz⟩, if_neg (by decide), w32_i (by omega) (by omega), nam_d, s_c hL, wr_s, wr_a (by omega), hR.2.1]
    have hg2 := hg.wr 7 (m 7 + 1)
    by_cases e : m 7 + 1 = v 1
    · rw [if_neg (fun q => q e), nam_d]
      obtain ⟨M', f1, f2, f3⟩ := f_B87 (ad := ad) (S := S) (Ln := Ln) (R := R) (hg2.wr 1 3) (Or.inr (us_s))
      refine ⟨M', f1, ?_, fun c hc => by rw [f3 c hc, wr_a hc, wr_a hc]⟩
      rw [us_s, if_pos rfl, us_us] at f2
      unfold kmS kmR
      rw [bI_t hz, us_s, if_pos e]
      exact f2
    · rw [if_pos e]
      have e1 : us m 7 (m 7 + 1) 1 = 1 := by rw [us_n (by decide)]; exact h1
      obtain ⟨M', f1, f2, f3⟩ := f_B87 (ad := ad) (S := S) (Ln := Ln) (R := R) hg2 (Or.inl e1)
      refine ⟨M', f1, ?_, fun c hc => by rw [f3 c hc, wr_a hc]⟩
      rw [e1, if_neg (by decide), us_n (by decide)] at f2
      unfold kmS kmR
      rw [bI_t hz, us_s, if_neg e]
      exact f2
  · rw [bI_f (fun q => hz q.2), if_pos rfl]
    obtain ⟨M', f1, f2, f3⟩ := f_B87 (ad := ad) (S := S) (Ln := Ln) (R := R) hg (Or.inl h1)
    refine ⟨M', f1, ?_, f3⟩
    rw [h1, if_neg (by decide)] at f2
    unfold kmS kmR
    rw [bI_f hz, us_s, Int.add_zero, if_neg (by omega), us_self]
    exact f2
theorem f_km (hL : LyS S Ln R a) (hR : RpC M (a + 1) v) (hB : RpB M (a + 10) v) (hC : IvC v) (hIB : IvB v) {g : Nat} (hgn : a + 19 ≤ g) {u : gV} (hg : RpG M g u) (hF : IvF v u) (e1 : u 1 = 1) (h5 : u 5 ≤ 100000000) (h6 : u 6 ≤ 100000000) (d : Int) : ∃ M', fX8_glideKilometre ad S Ln R M a g d = some M' ∧ RpG M' g (kmU v u d) ∧ ∀ c, c ≠ g → M' c = M c := by
  obtain ⟨h0, h1, ⟨h2, h3⟩, h4, h5', h6', h7, q1, q2, q3, q4⟩ := hF
  have bx := stX_b d
  have bY := stY_b d
  have g2 := q2 (Or.inl e1)
  unfold fX8_glideKilometre
  obtain ⟨M1, f1, f2, f3⟩ := g_move (ad := ad) (S := S) (Ln := Ln) (R := R) hg (d := d) h0.1 h0.2 (by omega) (by omega) (by omega) (by omega) h4.1 h4.2 h5' h5
  have m2 : mvU u d 2 = u 2 + stX d := rfl
  have m3 : mvU u d 3 = u 3 + stY d := rfl
  have m6 : mvU u d 6 = u 6 := rfl
  have m7 : mvU u d 7 = u 7 := rfl
  have m1 : mvU u d 1 = u 1 := rfl
  have fC : ∀ M2 : gM, (∀ c, c ≠ g → M2 c = M c) → RpC M2 (a + 1) v := fun M2 h => hR.fr (fun q q1 q2 => h q (by omega))
  have fB : ∀ M2 : gM, (∀ c, c ≠ g → M2 c = M c) → RpB M2 (a + 10) v := fun M2 h => hB.fr (fun q q1 q2 => h q (by omega))
  rw [f1, bd_s, s_b hL, f2 2 (by decide) (by decide), f2 3 (by decide) (by decide), f2 6 (by decide) (by decide), b_covers hL.2.2.2.2.1 (fB M1 f3) hIB, bd_s]
  by_cases hr : rst v (mvU u d 2) (mvU u d 3)
  · rw [bI_t hr, if_neg (by decide), w32_i (by omega) (by omega), nam_d]
    have e6 : kmP v (mvU u d) = us (mvU u d) 6 (mvU u d 6 + 10) := by unfold kmP; rw [bI_t hr]; rfl
    have f2' := f2.wr 6 (mvU u d 6 + 10)
    rw [← e6] at f2'
    obtain ⟨M', f4, f5, f6⟩ := f_B34 (ad := ad) hL (fC (wr M1 g 6 (mvU u d 6 + 10)) (fun c hc => by rw [wr_a hc]; exact f3 c hc)) hC hgn f2' (m1.trans e1) (by show 0 ≤ u 7 ∧ u 7 < v 1; omega) (by show -1000 ≤ u 2 + stX d ∧ u 2 + stX d ≤ 1000; omega) (by show -1000 ≤ u 3 + stY d ∧ u 3 + stY d ≤ 1000; omega)
    exact ⟨M', f4, f5, fun c hc => by rw [f6 c hc, wr_a hc, f3 c hc]⟩
  · rw [bI_f hr, if_pos rfl]
    have e6 : kmP v (mvU u d) = mvU u d := by unfold kmP; rw [bI_f hr, show mvU u d 6 + 10 * 0 = mvU u d 6 by omega, us_self]
    rw [← e6] at f2
    obtain ⟨M', f4, f5, f6⟩ := f_B34 (ad := ad) hL (fC M1 f3) hC hgn f2 (by rw [e6]; exact m1.trans e1) (by rw [e6]; show 0 ≤ u 7 ∧ u 7 < v 1; omega) (by rw [e6]; show -1000 ≤ u 2 + stX d ∧ u 2 + stX d ≤ 1000; omega) (by rw [e6]; show -1000 ≤ u 3 + stY d ∧ u 3 + stY d ≤ 1000; omega)
    exact ⟨M', f4, f5, fun c hc => by rw [f6 c hc, f3 c hc]⟩
end PFL
