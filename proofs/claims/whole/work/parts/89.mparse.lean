/-! PURE: the model reads a text -/
def MT (ad S Ln : Nat → Nat) (R : gR) (M : gM) (o m : Nat) (T : Int → Int) (n : Int) : Prop := LyM S Ln R m ∧ (M m 15 = n ∧ (0 ≤ n ∧ n ≤ 60) ∧ ∀ i, 0 ≤ i → i < n → M (m + 7) i = T i) ∧ (CST ad S Ln R M ∧ AD ad o) ∧ o + 308 ≤ m
def MG (M M' : gM) (m : Nat) : Prop := (∀ q, q ≠ m → q ≠ m + 8 → M' q = M q) ∧ ∀ k, k ≠ 16 → M' m k = M m k
theorem MG.rf {M : gM} {m : Nat} : MG M M m := ⟨fun _ _ _ => rfl, fun _ _ => rfl⟩
theorem MG.tr {M M1 M2 : gM} {m : Nat} (h : MG M M1 m) (g : MG M1 M2 m) : MG M M2 m := ⟨fun q q0 q1 => by rw [g.1 q q0 q1, h.1 q q0 q1], fun k hk => by rw [g.2 k hk, h.2 k hk]⟩
/-- K reads the form f and writes its numbers from place at_ on -/
def IMP (ad S Ln : Nat → Nat) (R : gR) (o m : Nat) (T : Int → Int) (n : Int) (K : gM → Option (Int × gM)) (f : List Int) (at_ : Int) : Prop := ∀ (M : gM) (i : Int), MT ad S Ln R M o m T n → M m 16 = i → 0 ≤ i → i ≤ n →
  ∃ M', K M = some ((rdF T n f i).1, M') ∧ M' m 16 = (rdF T n f i).2.1 ∧ MG M M' m ∧ (∀ q, q < at_ → M' (m + 8) q = M (m + 8) q) ∧ ((rdF T n f i).1 = 1 → ∀ (q : Nat) (h : q < (rdF T n f i).2.2.length), M' (m + 8) (at_ + q) = (rdF T n f i).2.2[q])
section PMR
variable {ad S Ln : Nat → Nat} {R : gR} {M M' : gM} {o m : Nat} {T : Int → Int} {n c : Int}
theorem MT.mg (h : MT ad S Ln R M o m T n) (g : MG M M' m) : MT ad S Ln R M' o m T n := by
  obtain ⟨h1, ⟨h2, h3, h4⟩, ⟨h5, h6⟩, h7⟩ := h
  exact ⟨h1, ⟨by rw [g.2 15 (by decide)]; exact h2, h3, fun i i0 i1 => by rw [g.1 (m + 7) (by omega) (by omega)]; exact h4 i i0 i1⟩, ⟨h5.fr h6 (fun q hq => ⟨rfl, rfl, g.1 q (by omega) (by omega), rfl⟩), h6⟩, h7⟩
theorem m_14 {α : Type} {f : Nat → Option α} (hL : LyM S Ln R m) : rf S (R m 14) 20 f = f (m + 8) := rf_o hL.2.2.2.2.2.2.2.2.2 hL.1.2.2.2.2.2.2.2.2
theorem m_sign (h : MT ad S Ln R M o m T n) {i : Int} (h16 : M m 16 = i) (i0 : 0 ≤ i) : fX10_sign ad S Ln R M m = some (ch T n i) := by
  obtain ⟨h1, ⟨h2, h3, h4⟩, -⟩ := h
  unfold fX10_sign
  rw [h2, h16]
  by_cases e : n ≤ i
  · rw [if_pos e, ch_o e]
  · rw [if_neg e, m_13 h1, gd_t (by rw [h1.2.1.2.2.2.2.2.2.1]; omega), h4 i i0 (by omega), ch_v i0 (by omega)]
theorem imp_seq {p K : gM → Option (Int × gM)} {f g : List Int} {a a2 : Int} (hf : ∀ s ∈ f, 0 < s) (ha : a2 = a + slL f) (hp : IMP ad S Ln R o m T n p f a) (hK : IMP ad S Ln R o m T n K g a2) : IMP ad S Ln R o m T n (fun M => bd (p M) fun q => if q.1 = 0 then (some ((0, q.2))) else K q.2) (f ++ g) a := by
  intro M i hM h16 i0 i1
  obtain ⟨M1, e1, e2, e3, e4, e5⟩ := hp M i hM h16 i0 i1
  obtain ⟨⟨b1, b2⟩, b3, b4, -⟩ := rdF_b (T := T) (n := n) f i hf i0 i1
  dsimp only
  rw [e1, bd_s, rdF_app]
  dsimp only
  by_cases e : (rdF T n f i).1 = 0
  · simp only [if_pos e]
    exact ⟨M1, rfl, e2, e3, e4, fun h => absurd h (by decide)⟩
  · simp only [if_neg e]
    obtain ⟨-, hl⟩ := b4 (by omega)
    obtain ⟨M2, f1, f2, f3, f4, f5⟩ := hK M1 _ (hM.mg e3) e2 (by omega) b2
    refine ⟨M2, f1, f2, e3.tr f3, fun q hq => by rw [f4 q (by omega), e4 q hq], fun h q hq => ?_⟩
    by_cases hq1 : q < (rdF T n f i).2.2.length
    · rw [f4 _ (by omega), e5 (by omega) q hq1, List.getElem_append_left hq1]
    · have hq2 : q - (rdF T n f i).2.2.length < (rdF T n g (rdF T n f i).2.1).2.2.length := by
        rw [List.length_append] at hq
        omega
      have := f5 h _ hq2
      rw [List.getElem_append_right (by omega), ← this]
      congr 1
      omega
theorem imp_last {p : gM → Option (Int × gM)} {f : List Int} {a : Int} (hf : ∀ s ∈ f, 0 < s) (hp : IMP ad S Ln R o m T n p f a) : IMP ad S Ln R o m T n (fun M => bd (p M) fun q => if q.1 = 0 then (some ((0, q.2))) else some ((1, q.2))) f a := by
  intro M i hM h16 i0 i1
  obtain ⟨M1, e1, e2, e3, e4, e5⟩ := hp M i hM h16 i0 i1
  obtain ⟨-, b3, -⟩ := rdF_b (T := T) (n := n) f i hf i0 i1
  refine ⟨M1, ?_, e2, e3, e4, e5⟩
  dsimp only
  rw [e1, bd_s]
  dsimp only
  by_cases e : (rdF T n f i).1 = 0
  · rw [if_pos e, e]
  · rw [if_neg e, show (rdF T n f i).1 = 1 by omega]
theorem m_isSign (h : MT ad S Ln R M o m T n) {i : Int} (h16 : M m 16 = i) (i0 : 0 ≤ i) (i1 : i ≤ n) (z : Int) : fX10_isSign ad S Ln R M m z = some (if ch T n i = z then (1, wr M m 16 (i + 1)) else (0, wr M m 16 i)) := by
  have h60 := h.2.1.2.1
  unfold fX10_isSign
  rw [m_sign h h16 i0, bd_s]
  unfold fX10_isSign_B13 fX10_isSign_B28
  by_cases e : ch T n i = z
  · rw [if_neg (fun q => q e), if_neg (by decide), h16, w32_i (by omega) (by omega), nam_d, if_pos e]
  · rw [if_pos e, if_pos rfl, h16, w32_i (by omega) (by omega), nam_d, if_neg e, Int.add_zero]
theorem mg_16 {z : Int} : MG M (wr M m 16 z) m := ⟨fun q q0 _ => wr_a q0, fun k hk => wr_k hk⟩
theorem imp_sign {z a : Int} (hz : ¬ (z = 78 ∨ z = 68 ∨ z = 87)) : IMP ad S Ln R o m T n (fun M => fX10_isSign ad S Ln R M m z) [z] a := by
  intro M i hM h16 i0 i1
  dsimp only
  rw [m_isSign hM h16 i0 i1]
  by_cases e : ch T n i = z
  · rw [if_pos e, rd_one hz e]
    exact ⟨_, rfl, wr_s, mg_16, fun q _ => by rw [wr_a (by omega)], fun _ q hq => absurd hq (Nat.not_lt_zero _)⟩
  · rw [if_neg e, rd_no hz e]
    exact ⟨_, rfl, wr_s, mg_16, fun q _ => by rw [wr_a (by omega)], fun _ q hq => absurd hq (Nat.not_lt_zero _)⟩
theorem word_lp {z : Nat} (hz : z < 23) (hsl : ∀ s ∈ kS z, ¬ (s = 78 ∨ s = 68 ∨ s = 87)) : ∀ (g : List Int) (j k : Nat) (M : gM) (i : Int), MT ad S Ln R M o m T n → M m 16 = i → 0 ≤ i → i ≤ n → (kS z).drop j = g → j ≤ (kS z).length → g.length < k →
    ∃ M', lp (fX10_isWord_L2 ad S Ln R m (ad (16 + z))) k ((j : Int), M) = some (if (rdF T n g i).1 = 1 then .inl M' else .inr (0, M')) ∧ M' m 16 = (rdF T n g i).2.1 ∧ MG M M' m ∧ M' (m + 8) = M (m + 8) ∧ (rdF T n g i).2.2 = [] := by
  intro g
  have hl13 : (kS z).length ≤ 100 := by
    have := (show ∀ k, k < 23 → (kS k).length ≤ 100 by decide +kernel) z hz
    exact this
  induction g with
  | nil =>
    intro j k M i hM h16 i0 i1 hd hj hk
    have hS := hM.2.2.1.1.1 z hz
    have hjl : (kS z).length ≤ j := List.drop_eq_nil_iff.mp hd
    obtain ⟨k, rfl⟩ : ∃ k', k = k' + 1 := ⟨k - 1, by simp only [List.length_nil] at hk; omega⟩
    have hbody : fX10_isWord_L2 ad S Ln R m (ad (16 + z)) ((j : Int), M) = some (.inr (.inl M)) := by
      unfold fX10_isWord_L2
      dsimp only
      rw [t_len hS, bd_s, if_pos (by omega)]
    refine ⟨M, ?_, h16, MG.rf, rfl, rfl⟩
    rw [lp_inr hbody, show rdF T n [] i = (1, i, []) from rfl]
    dsimp only
    rw [if_pos rfl]
  | cons s g ih =>
    intro j k M i hM h16 i0 i1 hd hj hk
    have hS := hM.2.2.1.1.1 z hz
    have h60 := hM.2.1.2.1
    have hjl : j < (kS z).length := by
      by_cases e : j < (kS z).length
      · exact e
      · rw [List.drop_eq_nil_iff.mpr (by omega)] at hd
        cases hd
    rw [List.drop_eq_getElem_cons hjl, List.cons.injEq] at hd
    obtain ⟨hd1, hd2⟩ := hd
    have hs := hsl s (by rw [← hd1]; exact List.getElem_mem hjl)
    obtain ⟨k, rfl⟩ : ∃ k', k = k' + 1 := ⟨k - 1, by omega⟩
    have hk' : g.length < k := by rw [List.length_cons] at hk; omega
    have hbody : fX10_isWord_L2 ad S Ln R m (ad (16 + z)) ((j : Int), M) = if ch T n i = s then some (.inl (((j + 1 : Nat) : Int), wr M m 16 (i + 1))) else some (.inr (.inr (0, wr M m 16 i))) := by
      unfold fX10_isWord_L2
      dsimp only
      rw [t_len hS, bd_s, if_neg (by omega), t_charAt hS hjl, hd1, bd_s, m_isSign hM h16 i0 i1, bd_s]
      by_cases e : ch T n i = s
      · rw [if_pos e, if_pos e]
        dsimp only
        rw [if_pos (by decide), w32_i (by omega) (by omega), show (j : Int) + 1 = ((j + 1 : Nat) : Int) by omega]
      · rw [if_neg e, if_neg e]
        dsimp only
        rw [if_neg (by decide)]
    by_cases e : ch T n i = s
    · rw [if_pos e] at hbody
      have hs0 : 0 < s := by rw [← hd1]; exact kS_pos z hz _ (List.getElem_mem hjl)
      have := @ch_n T n i (by omega)
      obtain ⟨M', e1, e2, e3, e4, e5⟩ := ih (j + 1) k (wr M m 16 (i + 1)) (i + 1) (hM.mg mg_16) wr_s (by omega) (by omega) hd2 (by omega) hk'
      rw [rd_one hs e]
      exact ⟨M', by rw [lp_inl hbody]; exact e1, e2, mg_16.tr e3, by rw [e4, wr_a (by omega)], e5⟩
    · rw [if_neg e] at hbody
      rw [rd_no hs e]
      dsimp only
      refine ⟨wr M m 16 i, ?_, wr_s, mg_16, wr_a (by omega), rfl⟩
      rw [lp_inr hbody, if_neg (by decide)]
theorem imp_word {z : Nat} {a : Int} (hz : z < 23) (hsl : ∀ s ∈ kS z, ¬ (s = 78 ∨ s = 68 ∨ s = 87)) : IMP ad S Ln R o m T n (fun M => fX10_isWord ad S Ln R M m (ad (16 + z))) (kS z) a := by
  intro M i hM h16 i0 i1
  have hl : (kS z).length ≤ 100 := (show ∀ k, k < 23 → (kS k).length ≤ 100 by decide +kernel) z hz
  obtain ⟨M', e1, e2, e3, e4, e5⟩ := word_lp hz hsl (kS z) 0 FU M i hM h16 i0 i1 rfl (Nat.zero_le _) (fu_lt (by omega))
  have e1' : lp (fX10_isWord_L2 ad S Ln R m (ad (16 + z))) FU (0, M) = some (if (rdF T n (kS z) i).1 = 1 then .inl M' else .inr (0, M')) := e1
  obtain ⟨-, b3, -⟩ := rdF_b (T := T) (n := n) (kS z) i (kS_pos z hz) i0 i1
  refine ⟨M', ?_, e2, e3, fun q _ => by rw [e4], fun _ q hq => ?_⟩
  · dsimp only
    unfold fX10_isWord
    rw [e1', bd_s]
    by_cases e : (rdF T n (kS z) i).1 = 1
    · rw [if_pos e, se_l, e]
    · rw [if_neg e, se_r, show (rdF T n (kS z) i).1 = 0 by omega]
  · rw [e5] at hq
    exact absurd hq (Nat.not_lt_zero _)
theorem fu_3 : FU = 4294967293 + 1 + 1 + 1 := rfl
theorem num_y (h : MT ad S Ln R M o m T n) {d a v k i : Int} (h16 : M m 16 = i) (i0 : 0 ≤ i) (i1 : i ≤ n) (hk : 0 ≤ k ∧ k < d ∧ d ≤ 2) (hv : 0 ≤ v ∧ v ≤ 9) (hc : 48 ≤ ch T n i ∧ ch T n i ≤ 57) : fX10_isNumber_L5 ad S Ln R m d a (v, k, M) = some (.inl (10 * v + ch T n i - 48, k + 1, wr M m 16 (i + 1))) := by
  have h60 := h.2.1.2.1
  unfold fX10_isNumber_L5
  dsimp only
  rw [if_neg (by omega), m_sign h h16 i0, bd_s, x_isIn, bd_s, bI_t hc, if_neg (by decide), bd_s, h16, nam_d, w32_i (z := 10 * v) (by omega) (by omega), w32_i (z := 10 * v + ch T n i) (by omega) (by omega), w32_i (z := 10 * v + ch T n i - 48) (by omega) (by omega), w32_i (z := k + 1) (by omega) (by omega), w32_i (z := i + 1) (by omega) (by omega)]
theorem num_n (h : MT ad S Ln R M o m T n) {d a v k i : Int} (h16 : M m 16 = i) (i0 : 0 ≤ i) (hc : d ≤ k ∨ ¬ (48 ≤ ch T n i ∧ ch T n i ≤ 57)) : fX10_isNumber_L5 ad S Ln R m d a (v, k, M) = some (.inr (.inl (v, k, M))) := by
  unfold fX10_isNumber_L5
  dsimp only
  by_cases e : d ≤ k
  · rw [if_pos e]
  · rw [if_neg e, m_sign h h16 i0, bd_s, x_isIn, bd_s, bI_f (by omega), if_pos rfl]
theorem num_end (h : MT ad S Ln R M o m T n) {a v k : Int} (ha : 0 ≤ a ∧ a < 155) : fX10_isNumber_B54 ad S Ln R M m a v k = some (if k ≤ 0 then 0 else 1, wr M (m + 8) a v) := by
  unfold fX10_isNumber_B54
  rw [m_14 h.1, gd_t (by rw [h.1.2.1.2.2.2.2.2.2.2]; exact ha), nam_d]
  split <;> rfl
theorem rd_sl1 {s i : Int} (hs : s = 78 ∨ s = 68 ∨ s = 87) (h : wid T n s i ≠ 0) : rdF T n [s] i = (1, i + wid T n s i, [vlu T n s i]) := by
  rw [rdF_s h, if_pos hs]
  rfl
theorem num_fin {s a i v : Int} {Mk : gM} (hs : s = 78 ∨ s = 68 ∨ s = 87) (hw : wid T n s i ≠ 0) (hMk : MG M Mk m) (h8 : Mk (m + 8) = M (m + 8)) (h16 : Mk m 16 = i + wid T n s i) (hv : v = vlu T n s i) :
    ∃ M', (some (1, wr Mk (m + 8) a v) : Option (Int × gM)) = some ((rdF T n [s] i).1, M') ∧ M' m 16 = (rdF T n [s] i).2.1 ∧ MG M M' m ∧ (∀ q, q < a → M' (m + 8) q = M (m + 8) q) ∧ ((rdF T n [s] i).1 = 1 → ∀ (q : Nat) (h : q < (rdF T n [s] i).2.2.length), M' (m + 8) (a + q) = (rdF T n [s] i).2.2[q]) := by
  rw [rd_sl1 hs hw]
  dsimp only
  refine ⟨_, rfl, by rw [wr_a (by omega)]; exact h16, ⟨fun q q0 q1 => by rw [wr_a q1, hMk.1 q q0 q1], fun k hk => by rw [wr_a (by omega), hMk.2 k hk]⟩, fun q hq => by rw [wr_k (by omega), h8], fun _ q hq => ?_⟩
  obtain rfl : q = 0 := by
    have : q < 1 := hq
    omega
  rw [show a + ((0 : Nat) : Int) = a by omega, wr_s, hv]
  rfl
theorem num_bad {s a i v : Int} {Mk : gM} (hw : wid T n s i = 0) (hMk : MG M Mk m) (h8 : Mk (m + 8) = M (m + 8)) (h16 : Mk m 16 = i) :
    ∃ M', (some (0, wr Mk (m + 8) a v) : Option (Int × gM)) = some ((rdF T n [s] i).1, M') ∧ M' m 16 = (rdF T n [s] i).2.1 ∧ MG M M' m ∧ (∀ q, q < a → M' (m + 8) q = M (m + 8) q) ∧ ((rdF T n [s] i).1 = 1 → ∀ (q : Nat) (h : q < (rdF T n [s] i).2.2.length), M' (m + 8) (a + q) = (rdF T n [s] i).2.2[q]) := by
  rw [rdF_0 hw]
  dsimp only
  exact ⟨_, rfl, by rw [wr_a (by omega)]; exact h16, ⟨fun q q0 q1 => by rw [wr_a q1, hMk.1 q q0 q1], fun k hk => by rw [wr_a (by omega), hMk.2 k hk]⟩, fun q hq => by rw [wr_k (by omega), h8], fun h => absurd h (by decide)⟩
theorem imp_n2 {a : Int} (ha : 0 ≤ a ∧ a < 155) : IMP ad S Ln R o m T n (fun M => fX10_isNumber ad S Ln R M m 2 a) [78] a := by
  intro M i hM h16 i0 i1
  dsimp only
  unfold fX10_isNumber
  rw [fu_3]
  by_cases e : 48 ≤ ch T n i ∧ ch T n i ≤ 57
  · have hi := @ch_n T n i (by omega)
    have h1 := num_y (d := 2) (a := a) (v := 0) (k := 0) hM h16 i0 i1 (by decide) (by decide) e
    have hM1 := hM.mg (mg_16 (M := M) (m := m) (z := i + 1))
    by_cases e2 : 48 ≤ ch T n (i + 1) ∧ ch T n (i + 1) ≤ 57
    · have hi2 := @ch_n T n (i + 1) (by omega)
      have hw : wid T n 78 i = 2 := by unfold wid; rw [if_pos rfl, if_pos e, if_pos e2]
      have h2 := num_y (d := 2) (a := a) (v := 10 * 0 + ch T n i - 48) (k := 0 + 1) hM1 wr_s (by omega) (by omega) (by decide) (by omega) e2
      have hM2 := hM1.mg (mg_16 (M := wr M m 16 (i + 1)) (m := m) (z := i + 1 + 1))
      have h3 := num_n (d := 2) (a := a) (v := 10 * (10 * 0 + ch T n i - 48) + ch T n (i + 1) - 48) (k := 0 + 1 + 1) hM2 wr_s (by omega) (Or.inl (by decide))
      rw [lp_inl h1, lp_inl h2, lp_inr h3, bd_s, se_l]
      dsimp only
      rw [num_end hM2 ha, if_neg (by decide)]
      refine num_fin (Or.inl rfl) (by rw [hw]; decide) (mg_16.tr mg_16) (by rw [wr_a (by omega), wr_a (by omega)]) (by rw [wr_s, hw]; omega) ?_
      unfold vlu
      rw [if_neg (by decide), if_pos rfl, if_pos e2]
      omega
    · have hw : wid T n 78 i = 1 := by unfold wid; rw [if_pos rfl, if_pos e, if_neg e2]
      have h2 := num_n (d := 2) (a := a) (v := 10 * 0 + ch T n i - 48) (k := 0 + 1) hM1 wr_s (by omega) (Or.inr e2)
      rw [lp_inl h1, lp_inr h2, bd_s, se_l]
      dsimp only
      rw [num_end hM1 ha, if_neg (by decide)]
      refine num_fin (Or.inl rfl) (by rw [hw]; decide) mg_16 (by rw [wr_a (by omega)]) (by rw [wr_s, hw]) ?_
      unfold vlu
      rw [if_neg (by decide), if_pos rfl, if_neg e2]
      omega
  · have hw : wid T n 78 i = 0 := by unfold wid; rw [if_pos rfl, if_neg e]
    have h1 := num_n (d := 2) (a := a) (v := 0) (k := 0) hM h16 i0 (Or.inr e)
    rw [lp_inr h1, bd_s, se_l]
    dsimp only
    rw [num_end hM ha, if_pos (by decide)]
    exact num_bad hw MG.rf rfl h16
theorem imp_n1 {a : Int} (ha : 0 ≤ a ∧ a < 155) : IMP ad S Ln R o m T n (fun M => fX10_isNumber ad S Ln R M m 1 a) [68] a := by
  intro M i hM h16 i0 i1
  dsimp only
  unfold fX10_isNumber
  rw [fu_3]
  by_cases e : 48 ≤ ch T n i ∧ ch T n i ≤ 57
  · have hi := @ch_n T n i (by omega)
    have h1 := num_y (d := 1) (a := a) (v := 0) (k := 0) hM h16 i0 i1 (by decide) (by decide) e
    have hM1 := hM.mg (mg_16 (M := M) (m := m) (z := i + 1))
    have hw : wid T n 68 i = 1 := by unfold wid; rw [if_neg (by decide), if_pos rfl, if_pos e]
    have h2 := num_n (d := 1) (a := a) (v := 10 * 0 + ch T n i - 48) (k := 0 + 1) hM1 wr_s (by omega) (Or.inl (by decide))
    rw [lp_inl h1, lp_inr h2, bd_s, se_l]
    dsimp only
    rw [num_end hM1 ha, if_neg (by decide)]
    refine num_fin (Or.inr (Or.inl rfl)) (by rw [hw]; decide) mg_16 (by rw [wr_a (by omega)]) (by rw [wr_s, hw]) ?_
    unfold vlu
    rw [if_neg (by decide), if_neg (by decide)]
    omega
  · have hw : wid T n 68 i = 0 := by unfold wid; rw [if_neg (by decide), if_pos rfl, if_neg e]
    have h1 := num_n (d := 1) (a := a) (v := 0) (k := 0) hM h16 i0 (Or.inr e)
    rw [lp_inr h1, bd_s, se_l]
    dsimp only
    rw [num_end hM ha, if_pos (by decide)]
    exact num_bad hw MG.rf rfl h16
theorem p32 : ∀ s ∈ ([32] : List Int), 0 < s := by decide
theorem p78 : ∀ s ∈ ([78] : List Int), 0 < s := by decide
theorem p68 : ∀ s ∈ ([68] : List Int), 0 < s := by decide
theorem imp_s2 {a : Int} (ha : 0 ≤ a ∧ a < 155) : IMP ad S Ln R o m T n (fun M => fX10_isSpaced ad S Ln R M m 2 a) ([32] ++ [78]) a :=
  imp_seq p32 (by show a = a + ((0 : Nat) : Int); omega) (imp_sign (by decide)) (imp_last p78 (imp_n2 ha))
theorem imp_s1 {a : Int} (ha : 0 ≤ a ∧ a < 155) : IMP ad S Ln R o m T n (fun M => fX10_isSpaced ad S Ln R M m 1 a) ([32] ++ [68]) a :=
  imp_seq p32 (by show a = a + ((0 : Nat) : Int); omega) (imp_sign (by decide)) (imp_last p68 (imp_n1 ha))
theorem imp_way {a : Int} (ha : 0 ≤ a ∧ a < 155) : IMP ad S Ln R o m T n (fun M => fX10_isWay ad S Ln R M m a) [87] a := by
  intro M i hM h16 i0 i1
  have hw : wid T n 87 i = if 0 ≤ wyc (ch T n i) then 1 else 0 := by unfold wid; rw [if_neg (by decide), if_neg (by decide), if_pos rfl]
  dsimp only
  unfold fX10_isWay
  have hlp := lp_inv0 (b := fX10_isWay_L2 ad S Ln R m a) 4 (s := (0, M))
    (fun k s => s.1 = (k : Int) ∧ MG M s.2 m ∧ s.2 (m + 8) = M (m + 8) ∧ s.2 m 16 = i ∧ ∀ (j : Nat) (hj : j < 4), j < k → ch T n i ≠ (kS 13)[j])
    (fun r => (0 ≤ wyc (ch T n i) ∧ ∃ M', r = .inl (wyc (ch T n i), M') ∧ MG M M' m ∧ M' (m + 8) = M (m + 8) ∧ M' m 16 = i + 1) ∨ (wyc (ch T n i) < 0 ∧ ∃ M', r = .inr (0, M') ∧ MG M M' m ∧ M' (m + 8) = M (m + 8) ∧ M' m 16 = i))
    (by decide) ⟨rfl, MG.rf, rfl, h16, fun j _ hj => absurd hj (Nat.not_lt_zero _)⟩ (fun k s hk hs => ?_) (fun s hs => ?_)
  · obtain ⟨r, e1, e2⟩ := hlp
    rw [e1, bd_s]
    rcases e2 with ⟨h0, M1, rfl, g1, g2, g3⟩ | ⟨h0, M1, rfl, g1, g2, g3⟩
    · rw [if_pos h0] at hw
      rw [se_l]
      dsimp only
      rw [m_14 hM.1, gd_t (by rw [hM.1.2.1.2.2.2.2.2.2.2]; exact ha), nam_d]
      exact num_fin (Or.inr (Or.inr rfl)) (by rw [hw]; decide) g1 g2 (by rw [hw]; exact g3) (by unfold vlu; rw [if_pos rfl])
    · rw [if_neg (by omega)] at hw
      rw [se_r, rdF_0 hw]
      exact ⟨M1, rfl, g3, g1, fun q _ => by rw [g2], fun h => absurd h (show (0 : Int) ≠ 1 by decide)⟩
  · obtain ⟨k', M1⟩ := s
    obtain ⟨rfl, g1, g2, g3, g4⟩ := hs
    dsimp only at g1 g2 g3 g4
    have hM1 := hM.mg g1
    have hS := hM1.2.2.1.1.1 13 (by decide)
    have hbody : fX10_isWay_L2 ad S Ln R m a ((k : Int), M1) = if ch T n i = (kS 13)[k]'hk then some (.inr (.inl ((k : Int), wr M1 m 16 (i + 1)))) else some (.inl (((k + 1 : Nat) : Int), wr M1 m 16 i)) := by
      unfold fX10_isWay_L2
      dsimp only
      rw [if_neg (by omega), rf_o (b := ad (16 + 13)) rfl hS.1.1, t_charAt hS (i := k) hk, bd_s, m_isSign hM1 g3 i0 i1, bd_s]
      by_cases e : ch T n i = (kS 13)[k]'hk
      · rw [if_pos e, if_pos e]
        dsimp only
        rw [if_neg (by decide)]
      · rw [if_neg e, if_neg e]
        dsimp only
        rw [if_pos rfl, w32_i (by omega) (by omega), show (k : Int) + 1 = ((k + 1 : Nat) : Int) by omega]
    by_cases e : ch T n i = (kS 13)[k]'hk
    · rw [if_pos e] at hbody
      have hwy : wyc (ch T n i) = (k : Int) := by
        rw [e]
        have hc : k = 0 ∨ k = 1 ∨ k = 2 ∨ k = 3 := by omega
        rcases hc with rfl | rfl | rfl | rfl <;> rfl
      exact Or.inr ⟨_, hbody, Or.inl ⟨by omega, wr M1 m 16 (i + 1), by rw [hwy], g1.tr mg_16, by rw [wr_a (by omega)]; exact g2, wr_s⟩⟩
    · rw [if_neg e] at hbody
      refine Or.inl ⟨_, hbody, rfl, g1.tr mg_16, by show wr M1 m 16 i (m + 8) = _; rw [wr_a (by omega)]; exact g2, wr_s, fun j hj hjk => ?_⟩
      by_cases ej : j = k
      · subst ej; exact e
      · exact g4 j hj (by omega)
  · obtain ⟨k', M1⟩ := s
    obtain ⟨rfl, g1, g2, g3, g4⟩ := hs
    dsimp only at g1 g2 g3 g4
    refine ⟨.inr (0, M1), ?_, Or.inr ⟨?_, M1, rfl, g1, g2, g3⟩⟩
    · unfold fX10_isWay_L2
      dsimp only
      rw [if_pos (by decide)]
    · have a0 : ch T n i ≠ 110 := g4 0 (by decide) (by decide)
      have a1 : ch T n i ≠ 101 := g4 1 (by decide) (by decide)
      have a2 : ch T n i ≠ 115 := g4 2 (by decide) (by decide)
      have a3 : ch T n i ≠ 119 := g4 3 (by decide) (by decide)
      unfold wyc
      rw [if_neg a0, if_neg a1, if_neg a2, if_neg a3]
      decide
end PMR
