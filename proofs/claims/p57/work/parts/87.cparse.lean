/-! PURE: the class reads a text -/
def CP (ad S Ln : Nat → Nat) (R : gR) (M : gM) (o t : Nat) (T : Int → Int) (n c : Int) : Prop := LyT S Ln R o t ∧ (M t 1 = n ∧ (0 ≤ n ∧ n ≤ 60) ∧ ∀ i, 0 ≤ i → i < n → M (t + 1) i = T i) ∧ (M t 4 = c ∧ 0 ≤ c ∧ c ≤ 15) ∧ (CST ad S Ln R M ∧ AD ad o) ∧ o ≤ t
/-- what the reading of one command leaves -/
def CF (M M' : gM) (t : Nat) (c : Int) : Prop := (∀ q, q ≠ t → q ≠ t + 4 + c.toNat → M' q = M q) ∧ ∀ k, k ≠ 5 → M' t k = M t k
theorem CF.rf {M : gM} {t : Nat} {c : Int} : CF M M t c := ⟨fun _ _ _ => rfl, fun _ _ => rfl⟩
theorem CF.tr {M M1 M2 : gM} {t : Nat} {c : Int} (h : CF M M1 t c) (g : CF M1 M2 t c) : CF M M2 t c := ⟨fun q q0 q1 => by rw [g.1 q q0 q1, h.1 q q0 q1], fun k hk => by rw [g.2 k hk, h.2 k hk]⟩
section PCP
variable {ad S Ln : Nat → Nat} {R : gR} {M M' : gM} {o t : Nat} {T : Int → Int} {n c : Int}
theorem CP.cf (h : CP ad S Ln R M o t T n c) (g : CF M M' t c) : CP ad S Ln R M' o t T n c := by
  obtain ⟨h1, ⟨h2, h3, h4⟩, ⟨h5, h6, h7⟩, ⟨h8, h9⟩, h10⟩ := h
  exact ⟨h1, ⟨by rw [g.2 1 (by decide)]; exact h2, h3, fun i i0 i1 => by rw [g.1 (t + 1) (by omega) (by omega)]; exact h4 i i0 i1⟩, ⟨by rw [g.2 4 (by decide)]; exact h5, h6, h7⟩, ⟨h8.fr h9 (fun q hq => ⟨rfl, rfl, g.1 q (by omega) (by omega), rfl⟩), h9⟩, h10⟩
theorem t_0 {α : Type} {f : Nat → Option α} (hL : LyT S Ln R o t) : rf S (R t 0) 24 f = f (t + 1) := rf_o hL.2.2.2.1.1 hL.2.1.2.1
theorem p_digitAt (h : CP ad S Ln R M o t T n c) (i : Int) : fX7_digitAt ad S Ln R M t i = some (if 48 ≤ ch T n i ∧ ch T n i ≤ 57 then ch T n i - 48 else -1) := by
  obtain ⟨h1, ⟨h2, h3, h4⟩, -⟩ := h
  unfold fX7_digitAt
  by_cases e0 : i < 0
  · rw [if_pos e0, if_neg (fun q => by have := @ch_n T n i (by omega); omega)]
  · rw [if_neg e0, h2]
    by_cases e1 : i < n
    · rw [if_pos e1, t_0 h1, gd_t (by rw [h1.2.2.1.1]; omega), h4 i (by omega) e1, ch_v (by omega) e1]
      by_cases e2 : T i < 48
      · rw [if_pos e2, if_neg (by omega)]
      · rw [if_neg e2]
        by_cases e3 : 57 < T i
        · rw [if_pos e3, if_neg (by omega)]
        · rw [if_neg e3, if_pos (by omega), w32_i (by omega) (by omega)]
    · rw [if_neg e1, if_neg (fun q => by have := @ch_n T n i (by omega); omega)]
theorem p_isDigitAt (h : CP ad S Ln R M o t T n c) (i : Int) : fX7_isDigitAt ad S Ln R M t i = some (if 48 ≤ ch T n i ∧ ch T n i ≤ 57 then 1 else 0) := by
  unfold fX7_isDigitAt
  rw [p_digitAt h, bd_s]
  by_cases e : 48 ≤ ch T n i ∧ ch T n i ≤ 57
  · rw [if_pos e, if_pos e, if_neg (by omega)]
  · rw [if_neg e, if_neg e, if_pos (by decide)]
theorem p_wayAt (h : CP ad S Ln R M o t T n c) (i : Int) : fX7_wayAt ad S Ln R M t i = some (wyc (ch T n i)) := by
  obtain ⟨h1, ⟨h2, h3, h4⟩, h5, ⟨h6, h7⟩, h8⟩ := h
  have hS := h6.1 9 (by decide)
  unfold fX7_wayAt
  by_cases e0 : i < 0
  · rw [if_pos e0, show ch T n i = -1 from if_neg (by omega)]; rfl
  rw [if_neg e0, h2]
  by_cases e1 : i < n
  · rw [if_pos e1, ch_v (by omega) e1]
    have hb : ∀ k : Nat, (hk : k < 4) → fX7_wayAt_L16 ad S Ln R M t i (k : Int) = if ¬ (kS 9)[k] = T i then some (.inl ((k + 1 : Nat) : Int)) else some (.inr (.inr (k : Int))) := by
      intro k hk
      unfold fX7_wayAt_L16
      rw [show some (ad 25) = some (ad (16 + 9)) from rfl, rf_o rfl hS.1.1, t_len hS, bd_s, if_neg (by rw [show (kS 9).length = 4 from rfl]; omega), rf_o rfl hS.1.1, t_charAt hS (i := k) hk, bd_s, t_0 h1, gd_t (by rw [h1.2.2.1.1]; omega), h4 i (by omega) e1, w32_i (by omega) (by omega), show (k : Int) + 1 = ((k + 1 : Nat) : Int) by omega]
    have he : fX7_wayAt_L16 ad S Ln R M t i ((4 : Nat) : Int) = some (.inr (.inl ())) := by
      unfold fX7_wayAt_L16
      rw [show some (ad 25) = some (ad (16 + 9)) from rfl, rf_o rfl hS.1.1, t_len hS, bd_s, if_pos (by rw [show (kS 9).length = 4 from rfl]; omega)]
    have hlp := lp_inv0 (b := fX7_wayAt_L16 ad S Ln R M t i) 4 (s := 0)
      (fun k s => s = (k : Int) ∧ ∀ (j : Nat) (hj : j < 4), j < k → (kS 9)[j] ≠ T i)
      (fun r => Sum.elim (fun (_ : Unit) => some ((-1 : Int))) (fun (c9 : Int) => some c9) r = some (wyc (T i)))
      (by decide) ⟨rfl, fun j _ hj => absurd hj (Nat.not_lt_zero _)⟩ (fun k s hk hs => ?_) (fun s hs => ?_)
    · obtain ⟨r, e2, e3⟩ := hlp
      rw [e2, bd_s]
      exact e3
    · obtain ⟨rfl, hs2⟩ := hs
      rw [hb k hk]
      by_cases e : (kS 9)[k] = T i
      · refine Or.inr ⟨_, if_neg (fun q => q e), ?_⟩
        rw [se_r]
        have hc : k = 0 ∨ k = 1 ∨ k = 2 ∨ k = 3 := by omega
        rcases hc with rfl | rfl | rfl | rfl
        · rw [← e]; rfl
        · rw [← e]; rfl
        · rw [← e]; rfl
        · rw [← e]; rfl
      · refine Or.inl ⟨_, if_pos e, rfl, fun j hj hjk => ?_⟩
        by_cases ej : j = k
        · subst ej; exact e
        · exact hs2 j hj (by omega)
    · obtain ⟨rfl, hs2⟩ := hs
      refine ⟨_, he, ?_⟩
      rw [se_l]
      have a0 : (110 : Int) ≠ T i := hs2 0 (by decide) (by decide)
      have a1 : (101 : Int) ≠ T i := hs2 1 (by decide) (by decide)
      have a2 : (115 : Int) ≠ T i := hs2 2 (by decide) (by decide)
      have a3 : (119 : Int) ≠ T i := hs2 3 (by decide) (by decide)
      unfold wyc
      rw [if_neg (fun q => a0 q.symm), if_neg (fun q => a1 q.symm), if_neg (fun q => a2 q.symm), if_neg (fun q => a3 q.symm)]
  · rw [if_neg e1, ch_o (by omega)]; rfl
theorem p_widthOf (h : CP ad S Ln R M o t T n c) {s i : Int} (hs : 0 < s) (i0 : 0 ≤ i) (i1 : i ≤ 60) : fX7_widthOf ad S Ln R M t s i = some (wid T n s i) := by
  have hh := h
  obtain ⟨h1, ⟨h2, h3, h4⟩, -⟩ := hh
  unfold fX7_widthOf wid
  by_cases e1 : s = 78
  · rw [if_neg (fun q => q e1), if_pos e1, p_isDigitAt h, bd_s]
    by_cases e2 : 48 ≤ ch T n i ∧ ch T n i ≤ 57
    · rw [if_pos e2, if_pos e2, if_pos (by decide), w32_i (by omega) (by omega), p_isDigitAt h, bd_s]
      by_cases e3 : 48 ≤ ch T n (i + 1) ∧ ch T n (i + 1) ≤ 57
      · rw [if_pos e3, if_pos e3, if_neg (by decide)]
      · rw [if_neg e3, if_neg e3, if_pos rfl]
    · rw [if_neg e2, if_neg e2, if_neg (by decide)]
  rw [if_pos e1, if_neg e1]
  by_cases e2 : s = 68
  · rw [if_neg (fun q => q e2), if_pos e2, p_isDigitAt h, bd_s]
    by_cases e3 : 48 ≤ ch T n i ∧ ch T n i ≤ 57
    · rw [if_pos e3, if_neg (by decide)]
    · rw [if_neg e3, if_pos rfl]
  rw [if_pos e2, if_neg e2]
  by_cases e3 : s = 87
  · rw [if_neg (fun q => q e3), if_pos e3, p_wayAt h, bd_s]
    by_cases e4 : 0 ≤ wyc (ch T n i)
    · rw [if_pos e4, if_neg (by omega)]
    · rw [if_neg e4, if_pos (by omega)]
  rw [if_pos e3, if_neg e3, if_neg (by omega), h2]
  by_cases e4 : n ≤ i
  · rw [if_pos e4, ch_o e4, if_neg (by omega)]
  · rw [if_neg e4, t_0 h1, gd_t (by rw [h1.2.2.1.1]; omega), h4 i i0 (by omega), ch_v i0 (by omega)]
    by_cases e5 : T i = s
    · rw [if_neg (fun q => q e5), if_pos e5]
    · rw [if_pos e5, if_neg e5]
theorem p_valueOf (h : CP ad S Ln R M o t T n c) {s i : Int} (hs : s = 78 ∨ s = 68 ∨ s = 87) (hw : wid T n s i ≠ 0) (i0 : 0 ≤ i) (i1 : i ≤ 60) : fX7_valueOf ad S Ln R M t s i (wid T n s i) = some (vlu T n s i) := by
  unfold fX7_valueOf
  rcases hs with rfl | rfl | rfl
  · by_cases e2 : 48 ≤ ch T n i ∧ ch T n i ≤ 57
    · by_cases e3 : 48 ≤ ch T n (i + 1) ∧ ch T n (i + 1) ≤ 57
      · have hw3 : wid T n 78 i = 2 := by unfold wid; rw [if_pos rfl, if_pos e2, if_pos e3]
        rw [if_pos (by decide), p_digitAt h, bd_s, hw3, if_neg (fun q => q rfl), w32_i (z := i + 1) (by omega) (by omega), p_digitAt h, bd_s, if_pos e2, if_pos e3, w32_i (z := 10 * (ch T n i - 48)) (by omega) (by omega), w32_i (by omega) (by omega)]
        unfold vlu
        rw [if_neg (by decide), if_pos rfl, if_pos e3]
      · have hw3 : wid T n 78 i = 1 := by unfold wid; rw [if_pos rfl, if_pos e2, if_neg e3]
        rw [if_pos (by decide), p_digitAt h, bd_s, hw3, if_pos (by decide), if_pos e2]
        unfold vlu
        rw [if_neg (by decide), if_pos rfl, if_neg e3]
    · refine absurd ?_ hw
      unfold wid
      rw [if_pos rfl, if_neg e2]
  · by_cases e2 : 48 ≤ ch T n i ∧ ch T n i ≤ 57
    · have hw3 : wid T n 68 i = 1 := by unfold wid; rw [if_neg (by decide), if_pos rfl, if_pos e2]
      rw [if_pos (by decide), p_digitAt h, bd_s, hw3, if_pos (by decide), if_pos e2]
      unfold vlu
      rw [if_neg (by decide), if_neg (by decide)]
    · refine absurd ?_ hw
      unfold wid
      rw [if_neg (by decide), if_pos rfl, if_neg e2]
  · rw [if_neg (fun q => q rfl), p_wayAt h, bd_s]
    unfold vlu
    rw [if_pos rfl]
theorem p_isSlot (s : Int) : fX7_isSlot ad S Ln R M s = some (if s = 78 ∨ s = 68 ∨ s = 87 then 1 else 0) := by
  unfold fX7_isSlot fX7_isSlot_B18
  by_cases e1 : s = 78
  · rw [if_pos e1, if_pos (Or.inl e1)]
  rw [if_neg e1]
  by_cases e2 : s = 68
  · rw [if_pos e2, if_pos (Or.inr (Or.inl e2))]
  rw [if_neg e2]
  by_cases e3 : s = 87
  · rw [if_neg (fun q => q e3), if_pos (Or.inr (Or.inr e3))]
  · rw [if_pos e3, if_neg (fun q => by rcases q with q | q | q <;> contradiction)]
theorem p_putNumber (h : CP ad S Ln R M o t T n c) (h15 : c < 15) {k z : Int} (k0 : 0 ≤ k) (k1 : k < 4) : fX7_putNumber ad S Ln R M t k z = some (wr M (t + 4 + c.toNat) k z) := by
  obtain ⟨h1, h2, ⟨h5, h6, h7⟩, -⟩ := h
  obtain ⟨r1, r2, r3⟩ := h1.2.2.2.2 c.toNat (by omega)
  rw [show ((c.toNat : Nat) : Int) = c by omega] at r1
  unfold fX7_putNumber
  rw [if_neg (by omega), h5, if_neg (by omega), rf_o h1.2.2.2.1.2.2 h1.2.1.2.2.2, gd_t (by rw [h1.2.2.1.2.2]; omega), rf_o r1 r2, gd_t (by rw [r3]; omega), nam_d]
theorem mx_le {a b d : Int} (h : b ≤ d) : i_max (i_max a b) d = i_max a d := by
  have h1 := @i_max_v a b
  have h2 := @i_max_v (i_max a b) d
  have h3 := @i_max_v a d
  omega
/-- a form is tried -/
theorem fit_lp (h15 : c < 15) {b bb : Nat} {cs : List Int} (hcs : ∀ s ∈ cs, 0 < s) (hln : cs.length ≤ 13) : ∀ (g : List Int) (j : Nat) (k : Nat) (p sl st : Int) (M : gM), CP ad S Ln R M o t T n c → STR S Ln R M b bb cs → (b < o ∧ bb < o) → cs.drop j = g → j ≤ cs.length → g.length < k → 0 ≤ p → p ≤ n → 0 ≤ sl → sl + slL g ≤ 4 → M t 5 = st → p ≤ st →
    ∃ M', lp (fX7_fits_L8 ad S Ln R t b) k (p, sl, (j : Int), M) = some (if (rdF T n g p).1 = 1 then .inl M' else .inr (0, M')) ∧ CF M M' t c ∧ M' t 5 = i_max st (rdF T n g p).2.1 ∧ (∀ q, q < sl → M' (t + 4 + c.toNat) q = M (t + 4 + c.toNat) q) ∧ ((rdF T n g p).1 = 1 → ∀ (q : Nat) (hq : q < (rdF T n g p).2.2.length), M' (t + 4 + c.toNat) (sl + q) = (rdF T n g p).2.2[q]) := by
  intro g
  induction g with
  | nil =>
    intro j k p sl st M hP hS hbo hd hj hk p0 p1 s0 s1 hst hps
    have hjl : cs.length ≤ j := List.drop_eq_nil_iff.mp hd
    obtain ⟨k, rfl⟩ : ∃ k', k = k' + 1 := ⟨k - 1, by simp only [List.length_nil] at hk; omega⟩
    have hbody : fX7_fits_L8 ad S Ln R t b (p, sl, (j : Int), M) = some (.inr (.inl M)) := by
      unfold fX7_fits_L8
      dsimp only
      rw [t_len hS, bd_s, if_pos (by omega)]
    refine ⟨M, ?_, CF.rf, ?_, fun _ _ => rfl, fun _ q hq => absurd hq (Nat.not_lt_zero _)⟩
    · rw [lp_inr hbody, show rdF T n [] p = (1, p, []) from rfl]
      dsimp only
      rw [if_pos rfl]
    · rw [show rdF T n [] p = (1, p, []) from rfl]
      dsimp only
      have := @i_max_v st p
      omega
  | cons s g ih =>
    intro j k p sl st M hP hS hbo hd hj hk p0 p1 s0 s1 hst hps
    have hn60 := hP.2.1.2.1
    have hjl : j < cs.length := by
      by_cases e : j < cs.length
      · exact e
      · rw [List.drop_eq_nil_iff.mpr (by omega)] at hd
        cases hd
    rw [List.drop_eq_getElem_cons hjl, List.cons.injEq] at hd
    obtain ⟨hd1, hd2⟩ := hd
    have hs0 : 0 < s := by rw [← hd1]; exact hcs _ (List.getElem_mem hjl)
    have hw := @wid_b T n s p hs0 p0
    obtain ⟨k, rfl⟩ : ∃ k', k = k' + 1 := ⟨k - 1, by omega⟩
    have hk' : g.length < k := by rw [List.length_cons] at hk; omega
    have hpre : ∀ X, fX7_fits_L8 ad S Ln R t b (p, sl, (j : Int), M) = X ↔ (if wid T n s p ≤ 0 then (fX7_fits_B65 ad S Ln R M t b p sl (j : Int) (wid T n s p)) else (bd (fX7_isSlot ad S Ln R M s) fun q6 => if q6 = 0 then (fX7_fits_B65 ad S Ln R M t b p sl (j : Int) (wid T n s p)) else (bd (fX7_valueOf ad S Ln R M t s p (wid T n s p)) fun q7 => bd (fX7_putNumber ad S Ln R M t sl q7) fun q8 => fX7_fits_B65 ad S Ln R q8 t b p (w32 (sl + 1)) (j : Int) (wid T n s p)))) = X := by
      intro X
      unfold fX7_fits_L8
      dsimp only
      rw [t_len hS, bd_s, if_neg (by omega), t_charAt hS hjl, hd1, bd_s, p_widthOf hP hs0 p0 (by omega), bd_s]
    by_cases e : wid T n s p = 0
    · have hbody : fX7_fits_L8 ad S Ln R t b (p, sl, (j : Int), M) = some (.inr (.inr (0, wr M t 5 (i_max st p)))) := by
        rw [hpre, if_pos (by omega)]
        unfold fX7_fits_B65
        rw [hst, e, Int.add_zero, w32_i (by omega) (by omega), nam_d, if_neg (fun q => q rfl)]
      rw [rdF_0 e]
      dsimp only
      refine ⟨wr M t 5 (i_max st p), ?_, ⟨fun q q0 _ => wr_a q0, fun k hk => wr_k hk⟩, wr_s, fun q _ => by rw [wr_a (by omega)], fun h => absurd h (by decide)⟩
      rw [lp_inr hbody, if_neg (by decide)]
    · have hwn := (hw.2.2 e).1
      rw [rdF_s e]
      dsimp only
      have hB : ∀ (M1 : gM) (sl1 : Int), M1 t 5 = st → fX7_fits_B65 ad S Ln R M1 t b p sl1 (j : Int) (wid T n s p) = some (.inl (p + wid T n s p, sl1, ((j + 1 : Nat) : Int), wr M1 t 5 (i_max st (p + wid T n s p)))) := by
        intro M1 sl1 h5
        unfold fX7_fits_B65
        rw [h5, w32_i (z := p + wid T n s p) (by omega) (by omega), nam_d, if_pos e, w32_i (by omega) (by omega), show (j : Int) + 1 = ((j + 1 : Nat) : Int) by omega]
      have hrb := rdF_b (T := T) (n := n) g (p + wid T n s p) (fun z hz => by
        rw [← hd2] at hz
        exact hcs z (List.mem_of_mem_drop hz)) (by omega) hwn
      by_cases hsl : s = 78 ∨ s = 68 ∨ s = 87
      · have hs1 : sl + (1 + slL g : Nat) ≤ 4 := by
          have : slL (s :: g) = 1 + slL g := by show (if _ then 1 else 0) + _ = _; rw [if_pos hsl]
          rw [this] at s1
          exact s1
        have hbody : fX7_fits_L8 ad S Ln R t b (p, sl, (j : Int), M) = some (.inl (p + wid T n s p, sl + 1, ((j + 1 : Nat) : Int), wr (wr M (t + 4 + c.toNat) sl (vlu T n s p)) t 5 (i_max st (p + wid T n s p)))) := by
          rw [hpre, if_neg (by omega), p_isSlot, bd_s, if_pos hsl, if_neg (by decide), p_valueOf hP hsl e p0 (by omega), bd_s, p_putNumber hP h15 s0 (by omega), bd_s, w32_i (by omega) (by omega), hB _ _ (by rw [wr_a (by omega)]; exact hst)]
        have hF : CF M (wr (wr M (t + 4 + c.toNat) sl (vlu T n s p)) t 5 (i_max st (p + wid T n s p))) t c := ⟨fun q q0 q1 => by rw [wr_a q0, wr_a q1], fun k hk => by rw [wr_k hk, wr_a (by omega)]⟩
        obtain ⟨M', e1, e2, e3, e4, e5⟩ := ih (j + 1) k (p + wid T n s p) (sl + 1) (i_max st (p + wid T n s p)) _ (hP.cf hF) (by
          obtain ⟨⟨b1, b2, b3, b4, b5⟩, b6, b7⟩ := hS
          have ht := hP.2.2.2.2
          exact ⟨⟨b1, b2, b3, b4, by rw [hF.1 b (by omega) (by omega)]; exact b5⟩, b6, fun i hi => by rw [hF.1 bb (by omega) (by omega)]; exact b7 i hi⟩) hbo hd2 (by omega) hk' (by omega) hwn (by omega) (by omega) wr_s (by have := @i_max_v st (p + wid T n s p); omega)
        refine ⟨M', by rw [lp_inl hbody]; exact e1, hF.tr e2, by rw [e3]; exact mx_le hrb.1.1, fun q hq => by rw [e4 q (by omega), wr_a (by omega), wr_k (by omega)], fun h q hq => ?_⟩
        simp only [if_pos hsl] at hq ⊢
        cases q with
        | zero =>
          rw [show sl + ((0 : Nat) : Int) = sl by omega, e4 sl (by omega), wr_a (by omega), wr_s]
          rfl
        | succ q =>
          have hq' : q < (rdF T n g (p + wid T n s p)).2.2.length := by simpa using hq
          have := e5 h q hq'
          rw [show sl + ((q + 1 : Nat) : Int) = sl + 1 + (q : Int) by omega, this]
          rfl
      · have hs1 : sl + (slL g : Nat) ≤ 4 := by
          have : slL (s :: g) = slL g := by show (if _ then 1 else 0) + _ = _; rw [if_neg hsl]; omega
          rw [this] at s1
          exact s1
        have hbody : fX7_fits_L8 ad S Ln R t b (p, sl, (j : Int), M) = some (.inl (p + wid T n s p, sl, ((j + 1 : Nat) : Int), wr M t 5 (i_max st (p + wid T n s p)))) := by
          rw [hpre, if_neg (by omega), p_isSlot, bd_s, if_neg hsl, if_pos rfl, hB _ _ hst]
        have hF : CF M (wr M t 5 (i_max st (p + wid T n s p))) t c := ⟨fun q q0 q1 => wr_a q0, fun k hk => wr_k hk⟩
        obtain ⟨M', e1, e2, e3, e4, e5⟩ := ih (j + 1) k (p + wid T n s p) sl (i_max st (p + wid T n s p)) _ (hP.cf hF) (by
          obtain ⟨⟨b1, b2, b3, b4, b5⟩, b6, b7⟩ := hS
          have ht := hP.2.2.2.2
          exact ⟨⟨b1, b2, b3, b4, by rw [hF.1 b (by omega) (by omega)]; exact b5⟩, b6, fun i hi => by rw [hF.1 bb (by omega) (by omega)]; exact b7 i hi⟩) hbo hd2 (by omega) hk' (by omega) hwn s0 hs1 wr_s (by have := @i_max_v st (p + wid T n s p); omega)
        refine ⟨M', by rw [lp_inl hbody]; exact e1, hF.tr e2, by rw [e3]; exact mx_le hrb.1.1, fun q hq => by rw [e4 q hq, wr_a (by omega)], fun h q hq => ?_⟩
        simp only [if_neg hsl, List.nil_append] at hq ⊢
        exact e5 h q hq
end PCP
