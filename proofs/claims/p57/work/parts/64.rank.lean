/-! PURE: the ranks -/
theorem pig : ∀ (n : Nat) (f : Nat → Int), (∀ i, i < n → 0 ≤ f i ∧ f i < n) → (∀ i j, i < n → j < n → f i = f j → i = j) → ∀ r : Int, 0 ≤ r → r < n → ∃ i, i < n ∧ f i = r := by
  intro n
  induction n with
  | zero => intro f _ _ r r0 r1; omega
  | succ n ih =>
    intro f hf hi r r0 r1
    by_cases htop : ∃ i, i < n ∧ f i = n
    · obtain ⟨k, k0, k1⟩ := htop
      by_cases hr : r = n
      · exact ⟨k, by omega, by omega⟩
      have hn := hf n (by omega)
      have hne : f n ≠ n := fun q => by have := hi k n (by omega) (by omega) (by omega); omega
      obtain ⟨i, i0, i1⟩ := ih (fun i => if i = k then f n else f i) (fun i hin => by
        by_cases e : i = k
        · rw [if_pos e]; omega
        · rw [if_neg e]
          have := hf i (by omega)
          have h9 : f i ≠ n := fun q => e (hi i k (by omega) (by omega) (by omega))
          omega) (fun i j hin hjn h => by
        by_cases e : i = k
        · by_cases e' : j = k
          · omega
          · rw [if_pos e, if_neg e'] at h
            have := hi n j (by omega) (by omega) h
            omega
        · by_cases e' : j = k
          · rw [if_neg e, if_pos e'] at h
            have := hi i n (by omega) (by omega) h
            omega
          · rw [if_neg e, if_neg e'] at h
            exact hi i j (by omega) (by omega) h) r r0 (by omega)
      by_cases e : i = k
      · rw [if_pos e] at i1; exact ⟨n, by omega, i1⟩
      · rw [if_neg e] at i1; exact ⟨i, by omega, i1⟩
    · have hlt : ∀ i, i < n → f i < n := fun i hin => by
        have := hf i (by omega)
        have h9 : f i ≠ n := fun q => htop ⟨i, hin, q⟩
        omega
      by_cases hfn : f n = n
      · by_cases hr : r = n
        · exact ⟨n, by omega, by omega⟩
        · obtain ⟨i, i0, i1⟩ := ih f (fun i hin => ⟨(hf i (by omega)).1, hlt i hin⟩) (fun i j hin hjn => hi i j (by omega) (by omega)) r r0 (by omega)
          exact ⟨i, by omega, i1⟩
      · have hn := hf n (by omega)
        obtain ⟨i, i0, i1⟩ := ih f (fun i hin => ⟨(hf i (by omega)).1, hlt i hin⟩) (fun i j hin hjn => hi i j (by omega) (by omega)) (f n) hn.1 (by omega)
        have := hi i n (by omega) (by omega) i1
        omega
/-- what counts for the ranks -/
def stA (v : gV) (p : Int) : Int := gl v p 8 + scU v (gl v p)
def ahd (v : gV) (i j : Int) : Prop := stA v j < stA v i ∨ (stA v i = stA v j ∧ (gl v i 6 < gl v j 6 ∨ (gl v i 6 = gl v j 6 ∧ i < j)))
noncomputable def cah (v : gV) (j : Int) : Nat → Int
  | 0 => 0
  | n + 1 => cah v j n + bI ((n : Int) ≠ j ∧ ahd v n j)
theorem cah_b {v : gV} {j : Int} : ∀ n : Nat, 0 ≤ cah v j n ∧ cah v j n ≤ n := by
  intro n
  induction n with
  | zero => exact ⟨Int.le_refl _, Int.le_refl _⟩
  | succ n ih =>
    have := bI_r ((n : Int) ≠ j ∧ ahd v n j)
    unfold cah
    omega
theorem cah_lt {v : gV} {j : Int} (j0 : 0 ≤ j) : ∀ n : Nat, j < n → cah v j n < n := by
  intro n
  induction n with
  | zero => intro h; omega
  | succ n ih =>
    intro h
    have hb := @cah_b v j n
    have := bI_r ((n : Int) ≠ j ∧ ahd v n j)
    unfold cah
    by_cases e : (n : Int) = j
    · rw [bI_f (fun q => q.1 e)]; omega
    · have := ih (by omega); omega
theorem ahd_t {v : gV} {i j k : Int} (h : ahd v i j) (g : ahd v j k) : ahd v i k := by unfold ahd at *; omega
theorem ahd_n {v : gV} {i j : Int} (h : i ≠ j) : ahd v i j ∨ ahd v j i := by unfold ahd; omega
theorem ahd_i {v : gV} {i : Int} : ¬ ahd v i i := by unfold ahd; omega
/-- who is ahead has fewer ahead -/
theorem cah_mono {v : gV} {i j : Int} (h : ahd v i j) : ∀ n : Nat, cah v i n + (if 0 ≤ i ∧ i < n then 1 else 0) ≤ cah v j n := by
  intro n
  induction n with
  | zero => rw [if_neg (by omega)]; exact Int.le_refl _
  | succ n ih =>
    have b1 := bI_r ((n : Int) ≠ i ∧ ahd v n i)
    have b2 := bI_r ((n : Int) ≠ j ∧ ahd v n j)
    unfold cah
    by_cases e : (n : Int) = i
    · have hij : i ≠ j := fun q => by rw [q] at h; exact ahd_i h
      rw [bI_f (fun q => q.1 e), bI_t ⟨by omega, by rw [e]; exact h⟩, if_pos (by omega)]
      rw [if_neg (by omega)] at ih
      omega
    · have hle : bI ((n : Int) ≠ i ∧ ahd v n i) ≤ bI ((n : Int) ≠ j ∧ ahd v n j) := by
        by_cases hn : (n : Int) ≠ i ∧ ahd v n i
        · have h2 : ahd v n j := ahd_t hn.2 h
          have hnj : (n : Int) ≠ j := fun q => by rw [q] at h2; exact ahd_i h2
          rw [bI_t hn, bI_t ⟨hnj, h2⟩]; exact Int.le_refl _
        · rw [bI_f hn]; exact b2.1
      by_cases c : 0 ≤ i ∧ i < (n : Int)
      · rw [if_pos c] at ih
        rw [if_pos (by omega)]
        omega
      · rw [if_neg c] at ih
        rw [if_neg (by omega)]
        omega
theorem rank_ex {v : gV} (N : Nat) {r : Int} (r0 : 0 ≤ r) (r1 : r < N) : ∃ j : Nat, j < N ∧ cah v j N = r := by
  refine pig N (fun i => cah v i N) (fun i hi => ⟨(cah_b N).1, cah_lt (by omega) N (by omega)⟩) (fun i j hi hj h => ?_) r r0 r1
  refine Classical.byContradiction fun hne => ?_
  rcases @ahd_n v (i : Int) (j : Int) (by omega) with g | g
  · have := cah_mono g N
    rw [if_pos (by omega)] at this
    omega
  · have := cah_mono g N
    rw [if_pos (by omega)] at this
    omega
/-- the first of that rank -/
theorem rank_first {v : gV} (N : Nat) {r : Int} (r0 : 0 ≤ r) (r1 : r < N) : ∃ j : Nat, j < N ∧ cah v j N = r ∧ ∀ i : Nat, i < j → cah v i N ≠ r := by
  obtain ⟨k, k0, k1⟩ := @rank_ex v N r r0 r1
  have : ∀ n : Nat, (∃ j : Nat, j < n ∧ j < N ∧ cah v j N = r ∧ ∀ i : Nat, i < j → cah v i N ≠ r) ∨ ∀ i : Nat, i < n → cah v i N ≠ r := by
    intro n
    induction n with
    | zero => exact Or.inr (fun i hi => absurd hi (Nat.not_lt_zero _))
    | succ n ih =>
      rcases ih with ⟨j, j0, j1, j2, j3⟩ | h
      · exact Or.inl ⟨j, by omega, j1, j2, j3⟩
      · by_cases e : n < N ∧ cah v n N = r
        · exact Or.inl ⟨n, by omega, e.1, e.2, h⟩
        · by_cases hn : n < N
          · refine Or.inr (fun i hi => ?_)
            by_cases e' : i = n
            · rw [e']; exact fun q => e ⟨hn, q⟩
            · exact h i (by omega)
          · exact absurd k1 (h k (by omega))
  rcases this (k + 1) with ⟨j, _, j1, j2, j3⟩ | h
  · exact ⟨j, j1, j2, j3⟩
  · exact absurd k1 (h k (by omega))
theorem i_lcmp_v {x y : Int} : (x < y ∧ i_lcmp x y = -1) ∨ (x = y ∧ i_lcmp x y = 0) ∨ (y < x ∧ i_lcmp x y = 1) := by
  unfold i_lcmp
  by_cases h : x < y
  · rw [if_pos h]; exact Or.inl ⟨h, rfl⟩
  · rw [if_neg h]
    by_cases g : x = y
    · rw [if_pos g]; exact Or.inr (Or.inl ⟨g, rfl⟩)
    · rw [if_neg g]; exact Or.inr (Or.inr ⟨by omega, rfl⟩)
section PRK
variable {ad S Ln : Nat → Nat} {R : gR} {M : gM} {e o m a : Nat} {π : Int → Nat} {b : Int} {v : gV}
theorem s_6 {α : Type} {f : Nat → Option α} (hL : LyS S Ln R a) : rf S (R a 6) 21 f = f (a + 18) := rf_o hL.2.1.2.2.2.2.1 hL.2.2.2.2.2.2.1.1
theorem s_ahead (hL : LyS S Ln R a) (hR : RpS M a v) (hI : IvS b v) (hs : ∀ p : Int, 0 ≤ p → p < v 4 → M (a + 18) p = stA v p) {i j : Int} (i0 : 0 ≤ i) (i1 : i < v 4) (j0 : 0 ≤ j) (j1 : j < v 4) : fX8_isAhead ad S Ln R M a i j = some (bI (ahd v i j)) := by
  have hp := hI.2.2.2.1
  have h18 := hL.2.2.2.2.2.2.1.2
  unfold fX8_isAhead
  rw [s_hasPilot hR, bd_s, bI_t ⟨i0, i1⟩, if_neg (by decide), s_hasPilot hR, bd_s, bI_t ⟨j0, j1⟩, if_pos (by decide), s_6 hL, gd_t (by rw [h18]; omega), s_6 hL, gd_t (by rw [h18]; omega), hs i i0 i1, hs j j0 j1]
  have hl := @i_lcmp_v (stA v i) (stA v j)
  by_cases hz : i_lcmp (stA v i) (stA v j) = 0
  · rw [if_pos hz, s_g hL i0 (by omega), s_g hL j0 (by omega), s_u hR i0 i1 (by decide) (by decide), s_u hR j0 j1 (by decide) (by decide)]
    by_cases h6 : gl v i 6 = gl v j 6
    · rw [if_pos h6]
      by_cases hij : j ≤ i
      · rw [if_pos hij, bI_f (by unfold ahd; omega)]
      · rw [if_neg hij, bI_t (by unfold ahd; omega)]
    · rw [if_neg h6, s_g hL i0 (by omega), s_g hL j0 (by omega), s_u hR i0 i1 (by decide) (by decide), s_u hR j0 j1 (by decide) (by decide)]
      by_cases hle : gl v j 6 ≤ gl v i 6
      · rw [if_pos hle, bI_f (by unfold ahd; omega)]
      · rw [if_neg hle, bI_t (by unfold ahd; omega)]
  · rw [if_neg hz, s_6 hL, gd_t (by rw [h18]; omega), s_6 hL, gd_t (by rw [h18]; omega), hs i i0 i1, hs j j0 j1]
    by_cases hle : i_lcmp (stA v i) (stA v j) ≤ 0
    · rw [if_pos hle, bI_f (by unfold ahd; omega)]
    · rw [if_neg hle, bI_t (by unfold ahd; omega)]
theorem s_countAhead (hL : LyS S Ln R a) (hR : RpS M a v) (hI : IvS b v) (hs : ∀ p : Int, 0 ≤ p → p < v 4 → M (a + 18) p = stA v p) {j : Int} (j0 : 0 ≤ j) (j1 : j < v 4) : fX8_countAhead ad S Ln R M a j = some (cah v j (v 4).toNat) := by
  have hp := hI.2.2.2.1
  unfold fX8_countAhead
  rw [lp_up0 (b := fX8_countAhead_L4 ad S Ln R M a j) (v 4).toNat (fun i => (cah v j i, (i : Int))) (r := .inl (cah v j (v 4).toNat)) (s := ((0 : Int), (0 : Int))) rfl (by omega) (fun i hi => by
      have hb := @cah_b v j i
      have hs1 : ((i + 1 : Nat) : Int) = (i : Int) + 1 := by omega
      have hst : cah v j (i + 1) = cah v j i + bI ((i : Int) ≠ j ∧ ahd v i j) := rfl
      unfold fX8_countAhead_L4 fX8_countAhead_B29
      dsimp only
      rw [hR.2.2.2.1, if_neg (show ¬ v 4 ≤ (i : Int) by omega), hst, hs1]
      by_cases e : (i : Int) = j
      · rw [if_pos e, bI_f (fun q => q.1 e), Int.add_zero, w32_i (by omega) (by omega)]
      · rw [if_neg e, s_ahead hL hR hI hs (by omega) (by omega) j0 j1, bd_s]
        by_cases h : ahd v i j
        · rw [bI_t h, if_neg (by decide), bI_t ⟨e, h⟩, w32_i (by omega) (by omega), w32_i (by omega) (by omega)]
        · rw [bI_f h, if_pos rfl, bI_f (fun q => h q.2), Int.add_zero, w32_i (by omega) (by omega)]) (by
      unfold fX8_countAhead_L4
      dsimp only
      rw [hR.2.2.2.1, if_pos (show v 4 ≤ (((v 4).toNat : Nat) : Int) by omega)]), bd_s, se_l]
theorem s_ranked (hL : LyS S Ln R a) (hR : RpS M a v) (hI : IvS b v) {r : Int} {k : Nat} (hk : k < (v 4).toNat) (hc : cah v k (v 4).toNat = r) (hf : ∀ i : Nat, i < k → cah v i (v 4).toNat ≠ r) : ∃ M', fX8_rankedAt ad S Ln R M a r = some ((k : Int), M') ∧ ∀ c, c ≠ a + 18 → M' c = M c := by
  have hp := hI.2.2.2.1
  have hb := hI.2.2.2.2.2.1
  have h18 := hL.2.2.2.2.2.2.1.2
  unfold fX8_rankedAt
  obtain ⟨x, e1, M1, e2, e3, e4⟩ := lp_inv0 (b := fX8_rankedAt_L2 ad S Ln R a r) (v 4).toNat
    (fun i s => s.1 = (i : Int) ∧ (∀ p : Int, 0 ≤ p → p < (i : Int) → s.2 (a + 18) p = stA v p) ∧ ∀ c, c ≠ a + 18 → s.2 c = M c)
    (fun x => ∃ M', x = .inl M' ∧ (∀ p : Int, 0 ≤ p → p < v 4 → M' (a + 18) p = stA v p) ∧ ∀ c, c ≠ a + 18 → M' c = M c) (s := ((0 : Int), M)) (by omega) ⟨rfl, fun p p0 p1 => by omega, fun _ _ => rfl⟩
    (fun i s hi hs => by
      obtain ⟨s1, s2, s3⟩ := hs
      left
      have hi4 : (i : Int) < v 4 := by omega
      have hRs : RpS s.2 a v := hR.sc hp.2 (fun q _ _ _ _ c3 _ => s3 q c3)
      have hu := hI.2.2.2.2.2.2 i (by omega) hi4
      have hsc := scU_b hI hu
      have hu8 := hu.2.2.2.2.2.2.2.1
      have hg : RpG s.2 (a + 20 + (i : Int).toNat) (gl v i) := fun k k0 k1 => s_u hRs (by omega) hi4 k0 k1
      unfold fX8_rankedAt_L2
      rw [hRs.2.2.2.1, s1, if_neg (by omega), s_6 hL, s_g hL (by omega) (by omega), s_g hL (by omega) (by omega), s_score hL hRs hI hg hu, bd_s, gd_t (by rw [h18]; omega), hg 8 (by decide) (by decide), w64_i (by omega) (by omega), nam_d, w32_i (by omega) (by omega)]
      refine ⟨_, rfl, by show (i : Int) + 1 = ((i + 1 : Nat) : Int); omega, fun p p0 p1 => ?_, fun c hc => ?_⟩
      · show wr s.2 (a + 18) (i : Int) (gl v i 8 + scU v (gl v i)) (a + 18) p = _
        by_cases e : p = (i : Int)
        · rw [e, wr_s]; rfl
        · rw [wr_k e]; exact s2 p p0 (by omega)
      · show wr s.2 (a + 18) (i : Int) (gl v i 8 + scU v (gl v i)) c = _
        rw [wr_a hc]; exact s3 c hc)
    (fun s hs => by
      obtain ⟨s1, s2, s3⟩ := hs
      have hRs : RpS s.2 a v := hR.sc hp.2 (fun q _ _ _ _ c3 _ => s3 q c3)
      unfold fX8_rankedAt_L2
      rw [hRs.2.2.2.1, s1, if_pos (by omega)]
      exact ⟨_, rfl, s.2, rfl, fun p p0 p1 => s2 p p0 (by omega), s3⟩)
  have hR1 : RpS M1 a v := hR.sc hp.2 (fun q _ _ _ _ c3 _ => e4 q c3)
  rw [e1, bd_s, e2, se_l]
  obtain ⟨y, f1, f2⟩ := lp_inv0 (b := fX8_rankedAt_L45 ad S Ln R M1 a r) k
    (fun i s => s = (i : Int)) (fun y => y = .inr ((k : Int), M1)) (s := (0 : Int)) (by omega) rfl
    (fun i s hi hs => by
      left
      unfold fX8_rankedAt_L45
      rw [hR1.2.2.2.1, hs, if_neg (by omega), s_countAhead hL hR1 hI e3 (by omega) (by omega), bd_s, if_pos (hf i hi), w32_i (by omega) (by omega)]
      exact ⟨_, rfl, by omega⟩)
    (fun s hs => by
      unfold fX8_rankedAt_L45
      rw [hR1.2.2.2.1, hs, if_neg (by omega), s_countAhead hL hR1 hI e3 (by omega) (by omega), bd_s, if_neg (fun q => q hc)]
      exact ⟨_, rfl, rfl⟩)
  rw [f1, bd_s, f2, se_r]
  exact ⟨M1, rfl, e4⟩
end PRK
