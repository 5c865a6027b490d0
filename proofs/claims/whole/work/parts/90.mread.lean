/-! PURE: the model reads a command, a program -/
def ltr (k : Nat) : Int := if k = 0 then 112 else if k = 1 then 116 else if k = 2 then 104 else if k = 3 then 97 else if k = 4 then 105 else if k = 5 then 108 else if k = 6 then 102 else if k = 7 then 99 else 101
def RM (M : gM) (m : Nat) (c : Int) (x : Nat × List Int) : Prop := M (m + 8) (5 * c) = ltr x.1 ∧ ∀ (j : Nat) (h : j < x.2.length), M (m + 8) (5 * c + 1 + j) = x.2[j]
section PMC
variable {ad S Ln : Nat → Nat} {R : gR} {M M' : gM} {o m : Nat} {T : Int → Int} {n c : Int}
theorem p3278 : ∀ s ∈ ([32] ++ [78] : List Int), 0 < s := by decide
theorem p3268 : ∀ s ∈ ([32] ++ [68] : List Int), 0 < s := by decide
theorem p87 : ∀ s ∈ ([87] : List Int), 0 < s := by decide
theorem sl_w {z : Nat} (h : slL (kS z) = 0) (a : Int) : a = a + (slL (kS z) : Nat) := by rw [h]; omega
theorem sl_2 {a b : Int} (h : b = a + 1) : b = a + (slL ([32] ++ [78]) : Nat) := h
theorem sl_1 {a b : Int} (h : b = a + 1) : b = a + (slL ([32] ++ [68]) : Nat) := h
theorem m_z {α : Type} {f : Nat → Option α} (h : MT ad S Ln R M o m T n) {z : Nat} (hz : z < 23) {w : Nat} (hw : w = 16 + z) : rf S (some (ad w)) 1 f = f (ad (16 + z)) := by subst hw; exact rf_o rfl (h.2.2.1.1.1 z hz).1.1

theorem r_area {a : Int} (ha : 0 ≤ a ∧ a + 4 < 155) : IMP ad S Ln R o m T n (fun M => fX10_readsRest ad S Ln R M m 97 a) (kS 18 ++ (([32] ++ [78]) ++ (([32] ++ [78]) ++ (([32] ++ [78]) ++ ([32] ++ [78]))))) (a + 1) := by
  intro M i hM h16 i0 i1
  have h := ((imp_seq (a2 := a + 1) (kS_pos 18 (by decide)) (sl_w (z := 18) rfl _) (imp_word (z := 18) (by decide) (by decide)) (imp_seq (a2 := a + 2) (p3278) (sl_2 (by omega)) (imp_s2 (by omega)) (imp_seq (a2 := a + 3) (p3278) (sl_2 (by omega)) (imp_s2 (by omega)) (imp_seq (a2 := a + 4) (p3278) (sl_2 (by omega)) (imp_s2 (by omega)) (imp_last (p3278) (imp_s2 (by omega))))))) : IMP ad S Ln R o m T n _ (kS 18 ++ (([32] ++ [78]) ++ (([32] ++ [78]) ++ (([32] ++ [78]) ++ ([32] ++ [78]))))) (a + 1)) M i hM h16 i0 i1
  dsimp only at h ⊢
  unfold fX10_readsRest
  rw [if_pos rfl, m_z hM (z := 18) (by decide) rfl, w32_i (z := a + 1) (by omega) (by omega), w32_i (z := a + 2) (by omega) (by omega), w32_i (z := a + 3) (by omega) (by omega), w32_i (z := a + 4) (by omega) (by omega)]
  exact h
theorem r_climb {a : Int} (ha : 0 ≤ a ∧ a + 4 < 155) : IMP ad S Ln R o m T n (fun M => fX10_readsRest ad S Ln R M m 99 a) (kS 21 ++ (([32] ++ [68]) ++ ([32] ++ [78]))) (a + 1) := by
  intro M i hM h16 i0 i1
  have h := ((imp_seq (a2 := a + 1) (kS_pos 21 (by decide)) (sl_w (z := 21) rfl _) (imp_word (z := 21) (by decide) (by decide)) (imp_seq (a2 := a + 2) (p3268) (sl_1 (by omega)) (imp_s1 (by omega)) (imp_last (p3278) (imp_s2 (by omega))))) : IMP ad S Ln R o m T n _ (kS 21 ++ (([32] ++ [68]) ++ ([32] ++ [78]))) (a + 1)) M i hM h16 i0 i1
  dsimp only at h ⊢
  unfold fX10_readsRest
  rw [if_neg (by decide), if_neg (by decide), if_pos rfl, m_z hM (z := 21) (by decide) rfl, w32_i (z := a + 1) (by omega) (by omega), w32_i (z := a + 2) (by omega) (by omega)]
  exact h
theorem r_fly {a : Int} (ha : 0 ≤ a ∧ a + 4 < 155) : IMP ad S Ln R o m T n (fun M => fX10_readsRest ad S Ln R M m 102 a) (kS 20 ++ (([32] ++ [68]) ++ ([32] ++ ([87] ++ [78])))) (a + 1) := by
  intro M i hM h16 i0 i1
  have h := ((imp_seq (a2 := a + 1) (kS_pos 20 (by decide)) (sl_w (z := 20) rfl _) (imp_word (z := 20) (by decide) (by decide)) (imp_seq (a2 := a + 2) (p3268) (sl_1 (by omega)) (imp_s1 (by omega)) (imp_seq (a2 := a + 2) (p32) ((by show _ = _ + ((0 : Nat) : Int); omega)) (imp_sign (z := 32) (by decide)) (imp_seq (a2 := a + 3) (p87) ((by show _ = _ + ((1 : Nat) : Int); omega)) (imp_way (by omega)) (imp_last (p78) (imp_n2 (by omega))))))) : IMP ad S Ln R o m T n _ (kS 20 ++ (([32] ++ [68]) ++ ([32] ++ ([87] ++ [78])))) (a + 1)) M i hM h16 i0 i1
  dsimp only at h ⊢
  unfold fX10_readsRest
  rw [if_neg (by decide), if_neg (by decide), if_neg (by decide), if_neg (by decide), if_neg (by decide), if_pos rfl, m_z hM (z := 20) (by decide) rfl, w32_i (z := a + 1) (by omega) (by omega), w32_i (z := a + 2) (by omega) (by omega), w32_i (z := a + 3) (by omega) (by omega)]
  exact h
theorem r_launch {a : Int} (ha : 0 ≤ a ∧ a + 4 < 155) : IMP ad S Ln R o m T n (fun M => fX10_readsRest ad S Ln R M m 108 a) (kS 19 ++ ([32] ++ [68])) (a + 1) := by
  intro M i hM h16 i0 i1
  have h := ((imp_seq (a2 := a + 1) (kS_pos 19 (by decide)) (sl_w (z := 19) rfl _) (imp_word (z := 19) (by decide) (by decide)) (imp_last (p3268) (imp_s1 (by omega)))) : IMP ad S Ln R o m T n _ (kS 19 ++ ([32] ++ [68])) (a + 1)) M i hM h16 i0 i1
  dsimp only at h ⊢
  unfold fX10_readsRest
  rw [if_neg (by decide), if_neg (by decide), if_neg (by decide), if_neg (by decide), if_neg (by decide), if_neg (by decide), if_neg (by decide), if_neg (by decide), if_neg (by decide), if_neg (by decide), if_neg (by decide), if_pos rfl, m_z hM (z := 19) (by decide) rfl, w32_i (z := a + 1) (by omega) (by omega)]
  exact h
theorem r_end {a : Int} : IMP ad S Ln R o m T n (fun M => fX10_readsRest ad S Ln R M m 101 a) (kS 22) (a + 1) := by
  intro M i hM h16 i0 i1
  obtain ⟨M', e1, e2⟩ := imp_word (a := a + 1) (z := 22) (by decide) (by decide) M i hM h16 i0 i1
  refine ⟨M', ?_, e2⟩
  dsimp only at e1 ⊢
  unfold fX10_readsRest fX10_readsRest_B290
  rw [if_neg (by decide), if_neg (by decide), if_neg (by decide), if_neg (by decide), if_pos rfl, m_z hM (z := 22) (by decide) rfl, e1, bd_s]
theorem r_readsP_y (hM : MT ad S Ln R M o m T n) {i a : Int} (h16 : M m 16 = i) (i0 : 0 ≤ i) (i1 : i ≤ n) (ha : 0 ≤ a ∧ a + 4 < 155) (e : ch T n i = 111) :
    ∃ M', fX10_readsP ad S Ln R M m a = some ((rdF T n (111 :: (kS 14 ++ (([32] ++ [78]) ++ ([32] ++ [78])))) i).1, M') ∧ M' m 16 = (rdF T n (111 :: (kS 14 ++ (([32] ++ [78]) ++ ([32] ++ [78])))) i).2.1 ∧ MG M M' m ∧ (∀ q, q < a → M' (m + 8) q = M (m + 8) q) ∧ M' (m + 8) a = M (m + 8) a ∧ ((rdF T n (111 :: (kS 14 ++ (([32] ++ [78]) ++ ([32] ++ [78])))) i).1 = 1 → ∀ (q : Nat) (h : q < (rdF T n (111 :: (kS 14 ++ (([32] ++ [78]) ++ ([32] ++ [78])))) i).2.2.length), M' (m + 8) (a + 1 + q) = (rdF T n (111 :: (kS 14 ++ (([32] ++ [78]) ++ ([32] ++ [78])))) i).2.2[q]) := by
  have hi := @ch_n T n i (by omega)
  have hM1 := hM.mg (mg_16 (M := M) (m := m) (z := i + 1))
  have hx := rd_one (T := T) (n := n) (f := (kS 14 ++ (([32] ++ [78]) ++ ([32] ++ [78])))) (show ¬ ((111 : Int) = 78 ∨ (111 : Int) = 68 ∨ (111 : Int) = 87) by decide) e
  obtain ⟨M', e1, e2, e3, e4, e5⟩ := ((imp_seq (a2 := a + 1) (kS_pos 14 (by decide)) (sl_w (z := 14) rfl _) (imp_word (z := 14) (by decide) (by decide)) (imp_seq (a2 := a + 2) (p3278) (sl_2 (by omega)) (imp_s2 (by omega)) (imp_last (p3278) (imp_s2 (by omega))))) : IMP ad S Ln R o m T n _ (kS 14 ++ (([32] ++ [78]) ++ ([32] ++ [78]))) (a + 1)) _ (i + 1) hM1 wr_s (by omega) (by omega)
  generalize rdF T n (111 :: (kS 14 ++ (([32] ++ [78]) ++ ([32] ++ [78])))) i = x at hx ⊢
  subst hx
  dsimp only at e1
  unfold fX10_readsP
  rw [m_isSign hM h16 i0 i1, bd_s, if_pos e]
  dsimp only
  rw [if_neg (by decide), m_z hM (z := 14) (by decide) rfl, w32_i (z := a + 1) (by omega) (by omega), w32_i (z := a + 2) (by omega) (by omega)]
  exact ⟨M', e1, e2, mg_16.tr e3, fun q hq => by rw [e4 q (by omega), wr_a (by omega)], by rw [e4 a (by omega), wr_a (by omega)], e5⟩
theorem r_readsP_n (hM : MT ad S Ln R M o m T n) {i a : Int} (h16 : M m 16 = i) (i0 : 0 ≤ i) (i1 : i ≤ n) (ha : 0 ≤ a ∧ a + 4 < 155) (e : ¬ ch T n i = 111) :
    ∃ M', fX10_readsP ad S Ln R M m a = some ((rdF T n ((kS 15 ++ ([32] ++ [78]))) i).1, M') ∧ M' m 16 = (rdF T n ((kS 15 ++ ([32] ++ [78]))) i).2.1 ∧ MG M M' m ∧ (∀ q, q < a → M' (m + 8) q = M (m + 8) q) ∧ M' (m + 8) a = 105 ∧ ((rdF T n ((kS 15 ++ ([32] ++ [78]))) i).1 = 1 → ∀ (q : Nat) (h : q < (rdF T n ((kS 15 ++ ([32] ++ [78]))) i).2.2.length), M' (m + 8) (a + 1 + q) = (rdF T n ((kS 15 ++ ([32] ++ [78]))) i).2.2[q]) := by
  have hG3 : MG M (wr (wr M m 16 i) (m + 8) a 105) m := ⟨fun q q0 q1 => by rw [wr_a q1, wr_a q0], fun k hk => by rw [wr_a (by omega), wr_k hk]⟩
  obtain ⟨M', e1, e2, e3, e4, e5⟩ := ((imp_seq (a2 := a + 1) (kS_pos 15 (by decide)) (sl_w (z := 15) rfl _) (imp_word (z := 15) (by decide) (by decide)) (imp_last (p3278) (imp_s2 (by omega)))) : IMP ad S Ln R o m T n _ (kS 15 ++ ([32] ++ [78])) (a + 1)) _ i (hM.mg hG3) (by rw [wr_a (by omega), wr_s]) i0 i1
  dsimp only at e1
  unfold fX10_readsP
  rw [m_isSign hM h16 i0 i1, bd_s, if_neg e]
  dsimp only
  rw [if_pos rfl, m_14 hM.1, gd_t (by rw [hM.1.2.1.2.2.2.2.2.2.2]; omega), nam_d, m_z hM (z := 15) (by decide) rfl, w32_i (z := a + 1) (by omega) (by omega)]
  exact ⟨M', e1, e2, hG3.tr e3, fun q hq => by rw [e4 q (by omega), wr_k (by omega), wr_a (by omega)], by rw [e4 a (by omega), wr_s], e5⟩
theorem r_readsT_y (hM : MT ad S Ln R M o m T n) {i a : Int} (h16 : M m 16 = i) (i0 : 0 ≤ i) (i1 : i ≤ n) (ha : 0 ≤ a ∧ a + 4 < 155) (e : ch T n i = 97) :
    ∃ M', fX10_readsT ad S Ln R M m a = some ((rdF T n (97 :: (kS 16 ++ ([32] ++ [68]))) i).1, M') ∧ M' m 16 = (rdF T n (97 :: (kS 16 ++ ([32] ++ [68]))) i).2.1 ∧ MG M M' m ∧ (∀ q, q < a → M' (m + 8) q = M (m + 8) q) ∧ M' (m + 8) a = M (m + 8) a ∧ ((rdF T n (97 :: (kS 16 ++ ([32] ++ [68]))) i).1 = 1 → ∀ (q : Nat) (h : q < (rdF T n (97 :: (kS 16 ++ ([32] ++ [68]))) i).2.2.length), M' (m + 8) (a + 1 + q) = (rdF T n (97 :: (kS 16 ++ ([32] ++ [68]))) i).2.2[q]) := by
  have hi := @ch_n T n i (by omega)
  have hM1 := hM.mg (mg_16 (M := M) (m := m) (z := i + 1))
  have hx := rd_one (T := T) (n := n) (f := (kS 16 ++ ([32] ++ [68]))) (show ¬ ((97 : Int) = 78 ∨ (97 : Int) = 68 ∨ (97 : Int) = 87) by decide) e
  obtain ⟨M', e1, e2, e3, e4, e5⟩ := ((imp_seq (a2 := a + 1) (kS_pos 16 (by decide)) (sl_w (z := 16) rfl _) (imp_word (z := 16) (by decide) (by decide)) (imp_last (p3268) (imp_s1 (by omega)))) : IMP ad S Ln R o m T n _ (kS 16 ++ ([32] ++ [68])) (a + 1)) _ (i + 1) hM1 wr_s (by omega) (by omega)
  generalize rdF T n (97 :: (kS 16 ++ ([32] ++ [68]))) i = x at hx ⊢
  subst hx
  dsimp only at e1
  unfold fX10_readsT
  rw [m_isSign hM h16 i0 i1, bd_s, if_pos e]
  dsimp only
  rw [if_neg (by decide), m_z hM (z := 16) (by decide) rfl, w32_i (z := a + 1) (by omega) (by omega)]
  exact ⟨M', e1, e2, mg_16.tr e3, fun q hq => by rw [e4 q (by omega), wr_a (by omega)], by rw [e4 a (by omega), wr_a (by omega)], e5⟩
theorem r_readsT_n (hM : MT ad S Ln R M o m T n) {i a : Int} (h16 : M m 16 = i) (i0 : 0 ≤ i) (i1 : i ≤ n) (ha : 0 ≤ a ∧ a + 4 < 155) (e : ¬ ch T n i = 97) :
    ∃ M', fX10_readsT ad S Ln R M m a = some ((rdF T n ((kS 17 ++ (([32] ++ [78]) ++ (([32] ++ [78]) ++ ([32] ++ [68]))))) i).1, M') ∧ M' m 16 = (rdF T n ((kS 17 ++ (([32] ++ [78]) ++ (([32] ++ [78]) ++ ([32] ++ [68]))))) i).2.1 ∧ MG M M' m ∧ (∀ q, q < a → M' (m + 8) q = M (m + 8) q) ∧ M' (m + 8) a = 104 ∧ ((rdF T n ((kS 17 ++ (([32] ++ [78]) ++ (([32] ++ [78]) ++ ([32] ++ [68]))))) i).1 = 1 → ∀ (q : Nat) (h : q < (rdF T n ((kS 17 ++ (([32] ++ [78]) ++ (([32] ++ [78]) ++ ([32] ++ [68]))))) i).2.2.length), M' (m + 8) (a + 1 + q) = (rdF T n ((kS 17 ++ (([32] ++ [78]) ++ (([32] ++ [78]) ++ ([32] ++ [68]))))) i).2.2[q]) := by
  have hG3 : MG M (wr (wr M m 16 i) (m + 8) a 104) m := ⟨fun q q0 q1 => by rw [wr_a q1, wr_a q0], fun k hk => by rw [wr_a (by omega), wr_k hk]⟩
  obtain ⟨M', e1, e2, e3, e4, e5⟩ := ((imp_seq (a2 := a + 1) (kS_pos 17 (by decide)) (sl_w (z := 17) rfl _) (imp_word (z := 17) (by decide) (by decide)) (imp_seq (a2 := a + 2) (p3278) (sl_2 (by omega)) (imp_s2 (by omega)) (imp_seq (a2 := a + 3) (p3278) (sl_2 (by omega)) (imp_s2 (by omega)) (imp_last (p3268) (imp_s1 (by omega)))))) : IMP ad S Ln R o m T n _ (kS 17 ++ (([32] ++ [78]) ++ (([32] ++ [78]) ++ ([32] ++ [68])))) (a + 1)) _ i (hM.mg hG3) (by rw [wr_a (by omega), wr_s]) i0 i1
  dsimp only at e1
  unfold fX10_readsT
  rw [m_isSign hM h16 i0 i1, bd_s, if_neg e]
  dsimp only
  rw [if_pos rfl, m_14 hM.1, gd_t (by rw [hM.1.2.1.2.2.2.2.2.2.2]; omega), nam_d, m_z hM (z := 17) (by decide) rfl, w32_i (z := a + 1) (by omega) (by omega), w32_i (z := a + 2) (by omega) (by omega), w32_i (z := a + 3) (by omega) (by omega)]
  exact ⟨M', e1, e2, hG3.tr e3, fun q hq => by rw [e4 q (by omega), wr_k (by omega), wr_a (by omega)], by rw [e4 a (by omega), wr_s], e5⟩
/-- behind the first character -/
theorem m_rest (hM : MT ad S Ln R M o m T n) {i a z : Int} (h16 : M m 16 = i + 1) (i0 : 0 ≤ i) (hz : ch T n i = z) (hs : sel T n i < 9) (ha : 0 ≤ a ∧ a + 4 < 155) (h8 : M (m + 8) a = z) :
    ∃ M', fX10_readsRest ad S Ln R M m z a = some ((rdF T n (kS (sel T n i)) i).1, M') ∧ M' m 16 = (rdF T n (kS (sel T n i)) i).2.1 ∧ MG M M' m ∧ (∀ q, q < a → M' (m + 8) q = M (m + 8) q) ∧ ((rdF T n (kS (sel T n i)) i).1 = 1 → M' (m + 8) a = ltr (sel T n i) ∧ ∀ (q : Nat) (h : q < (rdF T n (kS (sel T n i)) i).2.2.length), M' (m + 8) (a + 1 + q) = (rdF T n (kS (sel T n i)) i).2.2[q]) := by
  have key : ∀ (j : Nat) (f : List Int), kS j = z :: f → ¬ (z = 78 ∨ z = 68 ∨ z = 87) → 0 < z → ltr j = z → IMP ad S Ln R o m T n (fun M => fX10_readsRest ad S Ln R M m z a) f (a + 1) → sel T n i = j →
      ∃ M', fX10_readsRest ad S Ln R M m z a = some ((rdF T n (kS (sel T n i)) i).1, M') ∧ M' m 16 = (rdF T n (kS (sel T n i)) i).2.1 ∧ MG M M' m ∧ (∀ q, q < a → M' (m + 8) q = M (m + 8) q) ∧ ((rdF T n (kS (sel T n i)) i).1 = 1 → M' (m + 8) a = ltr (sel T n i) ∧ ∀ (q : Nat) (h : q < (rdF T n (kS (sel T n i)) i).2.2.length), M' (m + 8) (a + 1 + q) = (rdF T n (kS (sel T n i)) i).2.2[q]) := by
    intro j f hk hsl hz0 hl hI hj
    have hi := @ch_n T n i (by omega)
    obtain ⟨M', e1, e2, e3, e4, e5⟩ := hI M (i + 1) hM h16 (by omega) (by omega)
    have hx : rdF T n (kS (sel T n i)) i = rdF T n f (i + 1) := by rw [hj, hk, rd_one hsl hz]
    generalize rdF T n (kS (sel T n i)) i = x at hx ⊢
    subst hx
    rw [hj, hl]
    exact ⟨M', e1, e2, e3, fun q hq => e4 q (by omega), fun h => ⟨by rw [e4 a (by omega)]; exact h8, e5 h⟩⟩
  by_cases c0 : z = 112
  · subst c0
    have hi := @ch_n T n i (by omega)
    by_cases c1 : ch T n (i + 1) = 111
    · have hj : sel T n i = 0 := by unfold sel; rw [if_pos hz, if_pos c1]
      have hx : rdF T n (kS (sel T n i)) i = rdF T n (111 :: (kS 14 ++ (([32] ++ [78]) ++ ([32] ++ [78])))) (i + 1) := by rw [hj, show kS 0 = 112 :: (111 :: (kS 14 ++ (([32] ++ [78]) ++ ([32] ++ [78])))) from rfl, rd_one (by decide) hz]
      obtain ⟨M', e1, e2, e3, e4, e5, e6⟩ := r_readsP_y hM h16 (by omega) (by omega) ha c1
      generalize rdF T n (kS (sel T n i)) i = x at hx ⊢
      subst hx
      refine ⟨M', ?_, e2, e3, e4, fun h => ⟨?_, e6 h⟩⟩
      · unfold fX10_readsRest
        rw [if_neg (by decide), if_neg (by decide), if_neg (by decide), if_neg (by decide), if_neg (by decide), if_neg (by decide), if_neg (by decide), if_neg (by decide), if_neg (by decide), if_neg (by decide), if_neg (by decide), if_neg (by decide), if_neg (by decide), if_neg (by decide), if_neg (by decide), if_pos rfl, e1, bd_s]
      · rw [e5, hj, h8]; rfl
    · have hj : sel T n i = 4 := by unfold sel; rw [if_pos hz, if_neg c1]
      have hx : rdF T n (kS (sel T n i)) i = rdF T n ((kS 15 ++ ([32] ++ [78]))) (i + 1) := by rw [hj, show kS 4 = 112 :: ((kS 15 ++ ([32] ++ [78]))) from rfl, rd_one (by decide) hz]
      obtain ⟨M', e1, e2, e3, e4, e5, e6⟩ := r_readsP_n hM h16 (by omega) (by omega) ha c1
      generalize rdF T n (kS (sel T n i)) i = x at hx ⊢
      subst hx
      refine ⟨M', ?_, e2, e3, e4, fun h => ⟨?_, e6 h⟩⟩
      · unfold fX10_readsRest
        rw [if_neg (by decide), if_neg (by decide), if_neg (by decide), if_neg (by decide), if_neg (by decide), if_neg (by decide), if_neg (by decide), if_neg (by decide), if_neg (by decide), if_neg (by decide), if_neg (by decide), if_neg (by decide), if_neg (by decide), if_neg (by decide), if_neg (by decide), if_pos rfl, e1, bd_s]
      · rw [e5, hj]; rfl
  by_cases c0 : z = 116
  · subst c0
    have hi := @ch_n T n i (by omega)
    by_cases c1 : ch T n (i + 1) = 97
    · have hj : sel T n i = 1 := by unfold sel; rw [if_neg (by rw [hz]; decide), if_pos hz, if_pos c1]
      have hx : rdF T n (kS (sel T n i)) i = rdF T n (97 :: (kS 16 ++ ([32] ++ [68]))) (i + 1) := by rw [hj, show kS 1 = 116 :: (97 :: (kS 16 ++ ([32] ++ [68]))) from rfl, rd_one (by decide) hz]
      obtain ⟨M', e1, e2, e3, e4, e5, e6⟩ := r_readsT_y hM h16 (by omega) (by omega) ha c1
      generalize rdF T n (kS (sel T n i)) i = x at hx ⊢
      subst hx
      refine ⟨M', ?_, e2, e3, e4, fun h => ⟨?_, e6 h⟩⟩
      · unfold fX10_readsRest
        rw [if_neg (by decide), if_neg (by decide), if_neg (by decide), if_neg (by decide), if_neg (by decide), if_neg (by decide), if_neg (by decide), if_neg (by decide), if_neg (by decide), if_neg (by decide), if_neg (by decide), if_neg (by decide), if_neg (by decide), if_neg (by decide), if_neg (by decide), if_neg (by decide), if_neg (by decide), if_neg (by decide), if_neg (by decide), if_pos rfl, e1, bd_s]
      · rw [e5, hj, h8]; rfl
    · have hj : sel T n i = 2 := by unfold sel; rw [if_neg (by rw [hz]; decide), if_pos hz, if_neg c1]
      have hx : rdF T n (kS (sel T n i)) i = rdF T n ((kS 17 ++ (([32] ++ [78]) ++ (([32] ++ [78]) ++ ([32] ++ [68]))))) (i + 1) := by rw [hj, show kS 2 = 116 :: ((kS 17 ++ (([32] ++ [78]) ++ (([32] ++ [78]) ++ ([32] ++ [68]))))) from rfl, rd_one (by decide) hz]
      obtain ⟨M', e1, e2, e3, e4, e5, e6⟩ := r_readsT_n hM h16 (by omega) (by omega) ha c1
      generalize rdF T n (kS (sel T n i)) i = x at hx ⊢
      subst hx
      refine ⟨M', ?_, e2, e3, e4, fun h => ⟨?_, e6 h⟩⟩
      · unfold fX10_readsRest
        rw [if_neg (by decide), if_neg (by decide), if_neg (by decide), if_neg (by decide), if_neg (by decide), if_neg (by decide), if_neg (by decide), if_neg (by decide), if_neg (by decide), if_neg (by decide), if_neg (by decide), if_neg (by decide), if_neg (by decide), if_neg (by decide), if_neg (by decide), if_neg (by decide), if_neg (by decide), if_neg (by decide), if_neg (by decide), if_pos rfl, e1, bd_s]
      · rw [e5, hj]; rfl
  have hsel : sel T n i = if z = 97 then 3 else if z = 108 then 5 else if z = 102 then 6 else if z = 99 then 7 else if z = 101 then 8 else 9 := by
    unfold sel
    rw [hz, if_neg (by assumption), if_neg (by assumption)]
  by_cases c0 : z = 97
  · subst c0
    exact key 3 _ rfl (by decide) (by decide) rfl (r_area ha) hsel
  rw [if_neg c0] at hsel
  by_cases c0 : z = 108
  · subst c0
    exact key 5 _ rfl (by decide) (by decide) rfl (r_launch ha) hsel
  rw [if_neg c0] at hsel
  by_cases c0 : z = 102
  · subst c0
    exact key 6 _ rfl (by decide) (by decide) rfl (r_fly ha) hsel
  rw [if_neg c0] at hsel
  by_cases c0 : z = 99
  · subst c0
    exact key 7 _ rfl (by decide) (by decide) rfl (r_climb ha) hsel
  rw [if_neg c0] at hsel
  by_cases c0 : z = 101
  · subst c0
    exact key 8 _ rfl (by decide) (by decide) rfl r_end hsel
  rw [if_neg c0] at hsel
  omega
theorem x_isFirst (i : Int) : fX10_isFirst ad S Ln R M (ch T n i) = some (if sel T n i = 9 then 0 else 1) := by
  unfold fX10_isFirst fX10_isFirst_B42 sel
  by_cases c0 : ch T n i = 112
  · rw [if_pos c0, if_pos c0]
    by_cases c1 : ch T n (i + 1) = 111
    · rw [if_pos c1]; rfl
    · rw [if_neg c1]; rfl
  rw [if_neg c0, if_neg c0]
  by_cases c0 : ch T n i = 116
  · rw [if_pos c0, if_pos c0]
    by_cases c1 : ch T n (i + 1) = 97
    · rw [if_pos c1]; rfl
    · rw [if_neg c1]; rfl
  rw [if_neg c0, if_neg c0]
  by_cases c0 : ch T n i = 97
  · rw [if_pos c0, if_pos c0]; rfl
  rw [if_neg c0, if_neg c0]
  by_cases c0 : ch T n i = 108
  · rw [if_pos c0, if_pos c0]; rfl
  rw [if_neg c0, if_neg c0]
  by_cases c0 : ch T n i = 102
  · rw [if_pos c0, if_pos c0]; rfl
  rw [if_neg c0, if_neg c0]
  by_cases c0 : ch T n i = 99
  · rw [if_pos c0, if_pos c0]; rfl
  rw [if_neg c0, if_neg c0]
  by_cases c0 : ch T n i = 101
  · rw [if_neg (fun q => q c0), if_pos c0]; rfl
  rw [if_pos c0, if_neg c0]; rfl
/-- what the reading of commands leaves of the model -/
def ME (M M' : gM) (m : Nat) (c : Int) : Prop := (∀ q, q ≠ m → q ≠ m + 8 → M' q = M q) ∧ (∀ k, k ≠ 16 → k ≠ 17 → M' m k = M m k) ∧ ∀ q, q < 5 * c → M' (m + 8) q = M (m + 8) q
theorem ME.tr {M M1 M2 : gM} {c1 : Int} (h : ME M M1 m c) (g : ME M1 M2 m c1) (hc : c ≤ c1) : ME M M2 m c := ⟨fun q q0 q1 => by rw [g.1 q q0 q1, h.1 q q0 q1], fun k k0 k1 => by rw [g.2.1 k k0 k1, h.2.1 k k0 k1], fun q hq => by rw [g.2.2 q (by omega), h.2.2 q hq]⟩
theorem MT.me (h : MT ad S Ln R M o m T n) (g : ME M M' m c) : MT ad S Ln R M' o m T n := by
  obtain ⟨h1, ⟨h2, h3, h4⟩, ⟨h5, h6⟩, h7⟩ := h
  exact ⟨h1, ⟨by rw [g.2.1 15 (by decide) (by decide)]; exact h2, h3, fun i i0 i1 => by rw [g.1 (m + 7) (by omega) (by omega)]; exact h4 i i0 i1⟩, ⟨h5.fr h6 (fun q hq => ⟨rfl, rfl, g.1 q (by omega) (by omega), rfl⟩), h6⟩, h7⟩
theorem m_read (hM : MT ad S Ln R M o m T n) {i : Int} (h16 : M m 16 = i) (i0 : 0 ≤ i) (i1 : i ≤ n) (h17 : M m 17 = c) (hc : 0 ≤ c ∧ c ≤ 20) :
    ∃ M', fX10_readsCommand ad S Ln R M m = some (rdO T n i, M') ∧ M' m 16 = rdE T n i ∧ ME M M' m c ∧ (rdO T n i = 1 → M' m 17 = c + 1 ∧ RM M' m c (sel T n i, rdN T n i)) := by
  have h60 := hM.2.1.2.1
  have h9 := @sel_9 T n i
  unfold fX10_readsCommand
  rw [m_sign hM h16 i0, bd_s, x_isFirst, bd_s]
  by_cases e : sel T n i = 9
  · have hO : rdO T n i = 0 := by unfold rdO; rw [if_pos e]
    have hE : rdE T n i = i := by unfold rdE; rw [if_pos e]
    rw [if_pos e, if_neg (by decide), hO, hE]
    exact ⟨M, rfl, h16, ⟨fun _ _ _ => rfl, fun _ _ _ => rfl, fun _ _ => rfl⟩, fun h => absurd h (by decide)⟩
  · have hO : rdO T n i = (rdF T n (kS (sel T n i)) i).1 := by unfold rdO; rw [if_neg e]
    have hE : rdE T n i = (rdF T n (kS (sel T n i)) i).2.1 := by unfold rdE; rw [if_neg e]
    have hN : rdN T n i = (rdF T n (kS (sel T n i)) i).2.2 := rfl
    have a8 : m ≠ m + 8 := by omega
    have a8' : m + 8 ≠ m := by omega
    rw [if_neg e, if_pos (by decide), h17, w32_i (z := 5 * c) (by omega) (by omega), m_14 hM.1, gd_t (by rw [hM.1.2.1.2.2.2.2.2.2.2]; omega), nam_d, wr_a a8, h16, w32_i (z := i + 1) (by omega) (by omega), nam_d, wr_k (show (17 : Int) ≠ 16 by decide), wr_a a8, h17, w32_i (z := c + 1) (by omega) (by omega), nam_d]
    have hM0 : ME M (wr (wr (wr M (m + 8) (5 * c) (ch T n i)) m 16 (i + 1)) m 17 (c + 1)) m c := ⟨fun q q0 q1 => by rw [wr_a q0, wr_a q0, wr_a q1], fun k k0 k1 => by rw [wr_k k1, wr_k k0, wr_a a8], fun q hq => by rw [wr_a a8', wr_a a8', wr_k (by omega)]⟩
    obtain ⟨M', e1, e2, e3, e4, e5⟩ := m_rest (hM.me hM0) (i := i) (a := 5 * c) (by rw [wr_k (by decide), wr_s]) i0 rfl (by omega) (by omega) (by rw [wr_a a8', wr_a a8', wr_s])
    rw [e1, bd_s, hO, hE]
    have h3 : ME (wr (wr (wr M (m + 8) (5 * c) (ch T n i)) m 16 (i + 1)) m 17 (c + 1)) M' m c := ⟨fun q q0 q1 => e3.1 q q0 q1, fun k k0 _ => e3.2 k k0, fun q hq => e4 q hq⟩
    exact ⟨M', rfl, e2, hM0.tr h3 (Int.le_refl _), fun h => ⟨by rw [e3.2 17 (by decide), wr_s], e5 h⟩⟩
theorem RM.me {x : Nat × List Int} {c1 : Int} (h : RM M m c x) (g : ME M M' m c1) (h1 : c + 1 ≤ c1) (hl : x.2.length ≤ 4) : RM M' m c x := ⟨by rw [g.2.2 _ (by omega)]; exact h.1, fun j hj => by rw [g.2.2 _ (by omega)]; exact h.2 j hj⟩
/-- from the place behind a command that was read: f commands at most are still to come -/
theorem q_loop : ∀ (f : Nat) (c i : Int) (k : Nat) (M : gM), MT ad S Ln R M o m T n → M m 16 = i → M m 17 = c → c + f = 15 → 0 ≤ c → f + 2 < k → 4 * c ≤ i → i ≤ n →
    ∃ M1, fX10_readsCommand ad S Ln R M m = some (rdO T n i, M1) ∧
    ∃ r M', lp (fX10_isProgram_L15 ad S Ln R m) k (rdO T n i, M1) = some r ∧ (Sum.elim (fun e15_6 => fX10_isProgram_B36 ad S Ln R e15_6.2 m e15_6.1) (fun c9 => some c9) r : Option (Int × gM)) = some ((pgm T n f i).1, M') ∧ M' m 16 = (pgm T n f i).2.1 ∧ ME M M' m c ∧ ((pgm T n f i).1 = 1 → M' m 17 = c + (pgm T n f i).2.2.length ∧ ∀ (q : Nat) (hq : q < (pgm T n f i).2.2.length), RM M' m (c + q) (pgm T n f i).2.2[q]) := by
  intro f
  induction f with
  | zero =>
    intro c i k M hM h16 h17 hc c0 hk hci i1
    obtain ⟨k, rfl⟩ : ∃ k', k = k' + 1 := ⟨k - 1, by omega⟩
    have h60 := hM.2.1.2.1
    have hi : i = n := by omega
    have hs9 : sel T n i = 9 := by
      have hch : ch T n i = -1 := ch_o (by omega)
      unfold sel
      rw [hch]
      rfl
    obtain ⟨M1, e1, e2, e3, -⟩ := m_read (c := c) hM h16 (by omega) i1 h17 (by omega)
    have hO : rdO T n i = 0 := by unfold rdO; rw [if_pos hs9]
    have hE : rdE T n i = i := by unfold rdE; rw [if_pos hs9]
    have hb : fX10_isProgram_L15 ad S Ln R m (rdO T n i, M1) = some (.inr (.inl (rdO T n i, M1))) := by
      unfold fX10_isProgram_L15
      dsimp only
      rw [if_pos hO]
    refine ⟨M1, e1, _, M1, lp_inr hb, ?_, by rw [e2, hE]; rfl, e3, fun h => absurd h (show (0 : Int) ≠ 1 by decide)⟩
    rw [se_l]
    unfold fX10_isProgram_B36
    dsimp only
    rw [if_pos hO]
    rfl
  | succ f ih =>
    intro c i k M hM h16 h17 hc c0 hk hci i1
    obtain ⟨k, rfl⟩ : ∃ k', k = k' + 1 := ⟨k - 1, by omega⟩
    have h60 := hM.2.1.2.1
    obtain ⟨⟨a1, a2⟩, a3, a4⟩ := rdE_b (T := T) (show 0 ≤ i by omega) i1
    obtain ⟨M1, e1, e2, e3, e4⟩ := m_read (c := c) hM h16 (by omega) i1 h17 (by omega)
    refine ⟨M1, e1, ?_⟩
    rw [pgm_s]
    by_cases e : rdO T n i = 0
    · rw [if_pos e]
      have hb : fX10_isProgram_L15 ad S Ln R m (rdO T n i, M1) = some (.inr (.inl (rdO T n i, M1))) := by
        unfold fX10_isProgram_L15
        dsimp only
        rw [if_pos e]
      refine ⟨_, M1, lp_inr hb, ?_, e2, e3, fun h => absurd h (show (0 : Int) ≠ 1 by decide)⟩
      rw [se_l]
      unfold fX10_isProgram_B36
      dsimp only
      rw [if_pos e]
    · rw [if_neg e]
      have hO1 : rdO T n i = 1 := by omega
      obtain ⟨b1, b2, b3, b4⟩ := a4 hO1
      obtain ⟨d1, d2⟩ := e4 hO1
      have hM1 := hM.me e3
      have hsl := (kS_sl (sel T n i) b1).1
      by_cases en : n ≤ rdE T n i
      · rw [if_pos en]
        have hb : fX10_isProgram_L15 ad S Ln R m (rdO T n i, M1) = some (.inr (.inl (rdO T n i, wr M1 m 16 (rdE T n i)))) := by
          unfold fX10_isProgram_L15
          dsimp only
          rw [if_neg e, m_isSign hM1 e2 (by omega) a2, bd_s, if_neg (show ¬ ch T n (rdE T n i) = 59 by rw [ch_o en]; decide)]
          dsimp only
          rw [if_pos rfl]
        have hG : ME M1 (wr M1 m 16 (rdE T n i)) m (c + 1) := ⟨fun q q0 _ => wr_a q0, fun k k0 _ => wr_k k0, fun q _ => by rw [wr_a (by omega)]⟩
        refine ⟨_, wr M1 m 16 (rdE T n i), lp_inr hb, ?_, wr_s, e3.tr hG (by omega), fun _ => ⟨by rw [wr_k (by decide), d1]; rfl, fun q hq => ?_⟩⟩
        · rw [se_l]
          unfold fX10_isProgram_B36
          dsimp only
          rw [if_neg e]
          have g15 : wr M1 m 16 (rdE T n i) m 15 = n := by rw [wr_k (by decide)]; exact hM1.2.1.1
          have g16 : wr M1 m 16 (rdE T n i) m 16 = rdE T n i := wr_s
          exact if_neg (fun q => q (by omega))
        · obtain rfl : q = 0 := by
            have : q < 1 := hq
            omega
          rw [show c + ((0 : Nat) : Int) = c by omega]
          exact RM.me d2 hG (Int.le_refl _) (by show (rdN T n i).length ≤ 4; omega)
      · rw [if_neg en]
        have hchv : ch T n (rdE T n i) = T (rdE T n i) := ch_v (by omega) (by omega)
        by_cases e59 : T (rdE T n i) = 59
        · rw [if_pos e59]
          have hG : ME M1 (wr M1 m 16 (rdE T n i + 1)) m (c + 1) := ⟨fun q q0 _ => wr_a q0, fun k k0 _ => wr_k k0, fun q _ => by rw [wr_a (by omega)]⟩
          obtain ⟨M2, f0, r, M', f1, f2, f3, f4, f5⟩ := ih (c + 1) (rdE T n i + 1) k (wr M1 m 16 (rdE T n i + 1)) (hM1.me hG) wr_s (by rw [wr_k (by decide)]; exact d1) (by omega) (by omega) (by omega) (by omega) (by omega)
          have hb : fX10_isProgram_L15 ad S Ln R m (rdO T n i, M1) = some (.inl (rdO T n (rdE T n i + 1), M2)) := by
            unfold fX10_isProgram_L15
            dsimp only
            rw [if_neg e, m_isSign hM1 e2 (by omega) a2, bd_s, if_pos (show ch T n (rdE T n i) = 59 by rw [hchv]; exact e59)]
            dsimp only
            rw [if_neg (by decide), f0, bd_s]
          refine ⟨r, M', by rw [lp_inl hb]; exact f1, f2, f3, (e3.tr hG (by omega)).tr f4 (by omega), fun hh => ?_⟩
          obtain ⟨g1, g2⟩ := f5 hh
          refine ⟨by rw [g1]; show _ = c + (((pgm T n f (rdE T n i + 1)).2.2.length + 1 : Nat) : Int); omega, fun q hq => ?_⟩
          cases q with
          | zero =>
            rw [show c + ((0 : Nat) : Int) = c by omega]
            exact RM.me (RM.me d2 hG (Int.le_refl _) (by show (rdN T n i).length ≤ 4; omega)) f4 (Int.le_refl _) (by show (rdN T n i).length ≤ 4; omega)
          | succ q =>
            have hq' : q < (pgm T n f (rdE T n i + 1)).2.2.length := by
              have : q + 1 < (pgm T n f (rdE T n i + 1)).2.2.length + 1 := hq
              omega
            have := g2 q hq'
            rw [show c + ((q + 1 : Nat) : Int) = c + 1 + (q : Int) by omega]
            exact this
        · rw [if_neg e59]
          have hb : fX10_isProgram_L15 ad S Ln R m (rdO T n i, M1) = some (.inr (.inl (rdO T n i, wr M1 m 16 (rdE T n i)))) := by
            unfold fX10_isProgram_L15
            dsimp only
            rw [if_neg e, m_isSign hM1 e2 (by omega) a2, bd_s, if_neg (show ¬ ch T n (rdE T n i) = 59 by rw [hchv]; exact e59)]
            dsimp only
            rw [if_pos rfl]
          have hG : ME M1 (wr M1 m 16 (rdE T n i)) m (c + 1) := ⟨fun q q0 _ => wr_a q0, fun k k0 _ => wr_k k0, fun q _ => by rw [wr_a (by omega)]⟩
          refine ⟨_, wr M1 m 16 (rdE T n i), lp_inr hb, ?_, wr_s, e3.tr hG (by omega), fun hh => absurd hh (show (0 : Int) ≠ 1 by decide)⟩
          rw [se_l]
          unfold fX10_isProgram_B36
          dsimp only
          rw [if_neg e]
          have g15 : wr M1 m 16 (rdE T n i) m 15 = n := by rw [wr_k (by decide)]; exact hM1.2.1.1
          have g16 : wr M1 m 16 (rdE T n i) m 16 = rdE T n i := wr_s
          exact if_pos (by omega)
theorem m_prog (hL : LyM S Ln R m) (h15 : M m 15 = n) (hn : 0 ≤ n ∧ n ≤ 60) (hT : ∀ i, 0 ≤ i → i < n → M (m + 7) i = T i) (hC : CST ad S Ln R M) (hA : AD ad o) (hm : o + 308 ≤ m) :
    ∃ M', fX10_isProgram ad S Ln R M m = some ((pgm T n 15 0).1, M') ∧ M' m 16 = (pgm T n 15 0).2.1 ∧ ME M M' m 0 ∧ ((pgm T n 15 0).1 = 1 → M' m 17 = (pgm T n 15 0).2.2.length ∧ ∀ (q : Nat) (hq : q < (pgm T n 15 0).2.2.length), RM M' m q (pgm T n 15 0).2.2[q]) := by
  have hM0 : MT ad S Ln R (wr (wr M m 16 0) m 17 0) o m T n := ⟨hL, ⟨by rw [wr_k (by decide), wr_k (by decide)]; exact h15, hn, fun i i0 i1 => by rw [wr_a (by omega), wr_a (by omega)]; exact hT i i0 i1⟩, ⟨hC.fr hA (fun q hq => ⟨rfl, rfl, by rw [wr_a (by omega), wr_a (by omega)], rfl⟩), hA⟩, hm⟩
  obtain ⟨M1, e0, r, M', e1, e2, e3, e4, e5⟩ := q_loop (T := T) (n := n) 15 0 0 FU _ hM0 (by rw [wr_k (by decide), wr_s]) wr_s rfl (Int.le_refl _) (fu_lt (by decide)) (by decide) hn.1
  unfold fX10_isProgram
  rw [nam_d, nam_d, e0, bd_s]
  dsimp only
  rw [e1, bd_s]
  refine ⟨M', e2, e3, ⟨fun q q0 q1 => by rw [e4.1 q q0 q1, wr_a q0, wr_a q0], fun k k0 k1 => by rw [e4.2.1 k k0 k1, wr_k k1, wr_k k0], fun q hq => by rw [e4.2.2 q hq, wr_a (by omega), wr_a (by omega)]⟩, fun hh => ?_⟩
  obtain ⟨g1, g2⟩ := e5 hh
  refine ⟨by rw [g1, Int.zero_add], fun q hq => ?_⟩
  have := g2 q hq
  rw [Int.zero_add] at this
  exact this
end PMC
