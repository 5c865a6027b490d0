/-! PURE: the class reads a command, a program -/
/-- a command that was read: its form, its numbers -/
def RW (M : gM) (t : Nat) (q : Int) (x : Nat × List Int) : Prop := M (t + 2) q = (x.1 : Int) ∧ ∀ (j : Nat) (h : j < x.2.length), M (t + 4 + q.toNat) (j : Int) = x.2[j]
def CE (M M' : gM) (t : Nat) (c : Int) : Prop := (∀ q, (q < t ∨ q = t + 1 ∨ q = t + 3 ∨ t + 19 ≤ q) → M' q = M q) ∧ (∀ k, k ≠ 4 → k ≠ 5 → M' t k = M t k) ∧ ∀ j, 0 ≤ j → j < c → M' (t + 2) j = M (t + 2) j ∧ M' (t + 4 + j.toNat) = M (t + 4 + j.toNat)
theorem CE.rf {M : gM} {t : Nat} {c : Int} : CE M M t c := ⟨fun _ _ => rfl, fun _ _ _ => rfl, fun _ _ _ => ⟨rfl, rfl⟩⟩
theorem CE.tr {M M1 M2 : gM} {t : Nat} {c c1 : Int} (h : CE M M1 t c) (g : CE M1 M2 t c1) (hc : c ≤ c1) : CE M M2 t c := ⟨fun q hq => by rw [g.1 q hq, h.1 q hq], fun k k0 k1 => by rw [g.2.1 k k0 k1, h.2.1 k k0 k1], fun j j0 j1 => by rw [(g.2.2 j j0 (by omega)).1, (g.2.2 j j0 (by omega)).2, (h.2.2 j j0 j1).1, (h.2.2 j j0 j1).2]; exact ⟨rfl, rfl⟩⟩
section PCR
variable {ad S Ln : Nat → Nat} {R : gR} {M M' : gM} {o t : Nat} {T : Int → Int} {n c : Int}
theorem p_fits (h : CP ad S Ln R M o t T n c) (h15 : c < 15) {k : Nat} (hk : k < 9) {p st : Int} (p0 : 0 ≤ p) (p1 : p ≤ n) (hst : M t 5 = st) (hps : p ≤ st) :
    ∃ M', fX7_fits ad S Ln R M t (ad (16 + k)) p = some ((rdF T n (kS k) p).1, M') ∧ CF M M' t c ∧ M' t 5 = i_max st (rdF T n (kS k) p).2.1 ∧ ((rdF T n (kS k) p).1 = 1 → ∀ (q : Nat) (hq : q < (rdF T n (kS k) p).2.2.length), M' (t + 4 + c.toNat) q = (rdF T n (kS k) p).2.2[q]) := by
  have hS := h.2.2.2.1.1.1 k (by omega)
  have hA := h.2.2.2.1.2.2 k (by omega)
  have hl := kS_sl k hk
  obtain ⟨M', e1, e2, e3, e4, e5⟩ := fit_lp h15 (kS_pos k (by omega)) hl.2.2 (kS k) 0 FU p 0 st M h hS hA rfl (Nat.zero_le _) (fu_lt (by omega)) p0 p1 (Int.le_refl _) (by omega) hst hps
  have e1' : lp (fX7_fits_L8 ad S Ln R t (ad (16 + k))) FU (p, 0, 0, M) = some (if (rdF T n (kS k) p).1 = 1 then .inl M' else .inr (0, M')) := e1
  unfold fX7_fits
  rw [e1', bd_s]
  refine ⟨M', ?_, e2, e3, fun hh q hq => ?_⟩
  · by_cases e : (rdF T n (kS k) p).1 = 1
    · rw [if_pos e, se_l, e]
    · have := (rdF_b (T := T) (n := n) (kS k) p (kS_pos k (by omega)) p0 p1).2.1
      rw [if_neg e, se_r, show (rdF T n (kS k) p).1 = 0 by omega]
  · have := e5 hh q hq
    rw [Int.zero_add] at this
    exact this
theorem p_formOf (h : CST ad S Ln R M) {k : Nat} (hk : k < 9) : fX7_formOf ad S Ln R M (k : Int) = some (ad (16 + k)) := by
  have hc : k = 0 ∨ k = 1 ∨ k = 2 ∨ k = 3 ∨ k = 4 ∨ k = 5 ∨ k = 6 ∨ k = 7 ∨ k = 8 := by omega
  unfold fX7_formOf
  rcases hc with rfl | rfl | rfl | rfl | rfl | rfl | rfl | rfl | rfl
  · rw [if_pos (by decide)]; exact rf_o rfl (h.1 0 (by decide)).1.1
  · rw [if_neg (by decide), if_pos (by decide)]; exact rf_o rfl (h.1 1 (by decide)).1.1
  · rw [if_neg (by decide), if_neg (by decide), if_pos (by decide)]; exact rf_o rfl (h.1 2 (by decide)).1.1
  · rw [if_neg (by decide), if_neg (by decide), if_neg (by decide), if_pos (by decide)]; exact rf_o rfl (h.1 3 (by decide)).1.1
  · rw [if_neg (by decide), if_neg (by decide), if_neg (by decide), if_neg (by decide), if_pos (by decide)]; exact rf_o rfl (h.1 4 (by decide)).1.1
  · rw [if_neg (by decide), if_neg (by decide), if_neg (by decide), if_neg (by decide), if_neg (by decide), if_pos (by decide)]; exact rf_o rfl (h.1 5 (by decide)).1.1
  · rw [if_neg (by decide), if_neg (by decide), if_neg (by decide), if_neg (by decide), if_neg (by decide), if_neg (by decide), if_pos (by decide)]; exact rf_o rfl (h.1 6 (by decide)).1.1
  · rw [if_neg (by decide), if_neg (by decide), if_neg (by decide), if_neg (by decide), if_neg (by decide), if_neg (by decide), if_neg (by decide), if_pos (by decide)]; exact rf_o rfl (h.1 7 (by decide)).1.1
  · rw [if_neg (by decide), if_neg (by decide), if_neg (by decide), if_neg (by decide), if_neg (by decide), if_neg (by decide), if_neg (by decide), if_neg (by decide)]; exact rf_o rfl (h.1 8 (by decide)).1.1
/-- where the reading of a command ends, and how -/
def rdO (T : Int → Int) (n i : Int) : Int := if sel T n i = 9 then 0 else (rdF T n (kS (sel T n i)) i).1
def rdE (T : Int → Int) (n i : Int) : Int := if sel T n i = 9 then i else (rdF T n (kS (sel T n i)) i).2.1
def rdN (T : Int → Int) (n i : Int) : List Int := (rdF T n (kS (sel T n i)) i).2.2
theorem rdE_b {i : Int} (i0 : 0 ≤ i) (i1 : i ≤ n) : (i ≤ rdE T n i ∧ rdE T n i ≤ n) ∧ (rdO T n i = 0 ∨ rdO T n i = 1) ∧ (rdO T n i = 1 → sel T n i < 9 ∧ i + 3 ≤ rdE T n i ∧ (rdN T n i).length = slL (kS (sel T n i)) ∧ ∀ z ∈ rdN T n i, 0 ≤ z ∧ z ≤ 99) := by
  have h9 := @sel_9 T n i
  unfold rdE rdO rdN
  by_cases e : sel T n i = 9
  · rw [if_pos e, if_pos e]
    exact ⟨⟨Int.le_refl _, i1⟩, Or.inl rfl, fun h => absurd h (by decide)⟩
  · rw [if_neg e, if_neg e]
    obtain ⟨a1, a2, a3, a4, a5⟩ := rdF_b (T := T) (n := n) (kS (sel T n i)) i (kS_pos _ (by omega)) i0 i1
    have hl := kS_sl (sel T n i) (by omega)
    refine ⟨a1, a2, fun h => ⟨by omega, ?_, (a3 h).2, a5⟩⟩
    have := (a3 h).1
    omega
theorem p_read (h : CP ad S Ln R M o t T n c) (h15 : c < 15) {i : Int} (i0 : 0 ≤ i) (i1 : i ≤ n) :
    ∃ M', fX7_readCommand ad S Ln R M t i = some (rdO T n i, M') ∧ M' t 5 = rdE T n i ∧ (∀ q, q ≠ t → q ≠ t + 2 → q ≠ t + 4 + c.toNat → M' q = M q) ∧ (∀ k, k ≠ 5 → M' t k = M t k) ∧ (∀ k, k ≠ c → M' (t + 2) k = M (t + 2) k) ∧ (rdO T n i = 1 → RW M' t c (sel T n i, rdN T n i)) := by
  have hE := rdE_b (T := T) i0 i1
  have h9 := @sel_9 T n i
  have hF0 : CF M (wr M t 5 i) t c := ⟨fun q q0 _ => wr_a q0, fun k hk => wr_k hk⟩
  unfold fX7_readCommand
  rw [nam_d]
  have hlp := lp_inv0 (b := fX7_readCommand_L7 ad S Ln R t i) 9 (s := (0, wr M t 5 i))
    (fun j s => s.1 = (j : Int) ∧ CF M s.2 t c ∧ (i ≤ s.2 t 5 ∧ s.2 t 5 ≤ rdE T n i) ∧ (sel T n i < j → s.2 t 5 = rdE T n i ∧ rdO T n i = 0))
    (fun r => (rdO T n i = 1 ∧ ∃ M', r = .inl ((sel T n i : Int), M') ∧ CF M M' t c ∧ M' t 5 = rdE T n i ∧ ∀ (q : Nat) (hq : q < (rdN T n i).length), M' (t + 4 + c.toNat) q = (rdN T n i)[q]) ∨ (rdO T n i = 0 ∧ ∃ M', r = .inr (0, M') ∧ CF M M' t c ∧ M' t 5 = rdE T n i))
    (by decide) ⟨rfl, hF0, ⟨by show _ ≤ wr M t 5 i t 5; rw [wr_s]; omega, by show wr M t 5 i t 5 ≤ _; rw [wr_s]; exact hE.1.1⟩, fun hh => absurd hh (Nat.not_lt_zero _)⟩ (fun j s hj hs => ?_) (fun s hs => ?_)
  · obtain ⟨r, e1, e2⟩ := hlp
    rw [e1, bd_s]
    rcases e2 with ⟨e0, M1, rfl, e3, e4, e5⟩ | ⟨e0, M1, rfl, e3, e4⟩
    · have hP1 := h.cf e3
      rw [se_l]
      dsimp only
      rw [rf_o h.1.2.2.2.1.2.1 h.1.2.1.2.2.1]
      simp only [hP1.2.2.1.1]
      rw [gd_t (by rw [h.1.2.2.1.2.1]; have := h.2.2.1; omega), nam_d, e0]
      refine ⟨_, rfl, ?_, fun q q0 q1 q2 => by rw [wr_a q1, e3.1 q q0 q2], fun k hk => by rw [wr_a (by omega), e3.2 k hk], fun k hk => by rw [wr_k hk, e3.1 (t + 2) (by omega) (by omega)], fun _ => ⟨wr_s, fun q hq => ?_⟩⟩
      · rw [wr_a (by omega)]; exact e4
      · rw [wr_a (by omega)]; exact e5 q hq
    · rw [se_r, e0]
      exact ⟨M1, rfl, e4, fun q q0 _ q2 => e3.1 q q0 q2, fun k hk => e3.2 k hk, fun k _ => by rw [e3.1 (t + 2) (by omega) (by omega)], fun hh => absurd hh (by decide)⟩
  · obtain ⟨j', M1⟩ := s
    obtain ⟨rfl, e3, ⟨e4, e5⟩, e6⟩ := hs
    dsimp only at e3 e4 e5 e6
    have hP1 := h.cf e3
    obtain ⟨M2, f1, f2, f3, f4⟩ := p_fits hP1 h15 hj i0 i1 rfl e4
    have hmx := @i_max_v (M1 t 5) (rdF T n (kS j) i).2.1
    have hpre : fX7_readCommand_L7 ad S Ln R t i ((j : Int), M1) = if (rdF T n (kS j) i).1 = 0 then some (.inl (((j + 1 : Nat) : Int), M2)) else some (.inr (.inl ((j : Int), M2))) := by
      unfold fX7_readCommand_L7
      dsimp only
      rw [if_neg (by omega), p_formOf hP1.2.2.2.1.1 hj, bd_s, f1, bd_s, w32_i (by omega) (by omega), show (j : Int) + 1 = ((j + 1 : Nat) : Int) by omega]
    have hFF := e3.tr f2
    by_cases ej : sel T n i = j
    · have hO : rdO T n i = (rdF T n (kS j) i).1 := by unfold rdO; rw [if_neg (by omega), ej]
      have hEe : rdE T n i = (rdF T n (kS j) i).2.1 := by unfold rdE; rw [if_neg (by omega), ej]
      have h5 : M2 t 5 = rdE T n i := by rw [f3]; omega
      by_cases e : (rdF T n (kS j) i).1 = 0
      · rw [if_pos e] at hpre
        exact Or.inl ⟨_, hpre, rfl, hFF, ⟨by show i ≤ M2 t 5; omega, by show M2 t 5 ≤ _; omega⟩, fun _ => ⟨h5, by omega⟩⟩
      · rw [if_neg e] at hpre
        have hO1 : rdO T n i = 1 := by omega
        refine Or.inr ⟨_, hpre, Or.inl ⟨hO1, M2, by rw [ej], hFF, h5, fun q hq => ?_⟩⟩
        have hN : rdN T n i = (rdF T n (kS j) i).2.2 := by unfold rdN; rw [ej]
        have hq' : q < (rdF T n (kS j) i).2.2.length := by rw [← hN]; exact hq
        rw [f4 (by omega) q hq']
        simp only [hN]
    · obtain ⟨o1, o2⟩ := rd_other (T := T) (n := n) (i := i) hj ej
      rw [if_pos o1] at hpre
      have hle : (rdF T n (kS j) i).2.1 ≤ rdE T n i := by
        rcases o2 with o2 | ⟨o2, o3⟩
        · omega
        · have := rd_sel (T := T) (n := n) o2 i0
          unfold rdE
          rw [if_neg (by omega)]
          omega
      refine Or.inl ⟨_, hpre, rfl, hFF, ⟨by show i ≤ M2 t 5; omega, by show M2 t 5 ≤ _; omega⟩, fun hh => ?_⟩
      obtain ⟨g1, g2⟩ := e6 (by omega)
      exact ⟨by show M2 t 5 = _; omega, g2⟩
  · obtain ⟨j', M1⟩ := s
    obtain ⟨rfl, e3, ⟨e4, e5⟩, e6⟩ := hs
    dsimp only at e3 e4 e5 e6
    refine ⟨.inr (0, M1), ?_, Or.inr ?_⟩
    · unfold fX7_readCommand_L7
      dsimp only
      rw [if_pos (by decide)]
    · by_cases e : sel T n i < 9
      · obtain ⟨g1, g2⟩ := e6 e
        exact ⟨g2, M1, rfl, e3, g1⟩
      · have hE9 : rdE T n i = i := by unfold rdE; rw [if_pos (by omega)]
        have hO9 : rdO T n i = 0 := by unfold rdO; rw [if_pos (by omega)]
        exact ⟨hO9, M1, rfl, e3, by omega⟩
theorem pgm_s (f : Nat) (i : Int) : pgm T n (f + 1) i = if rdO T n i = 0 then (0, rdE T n i, []) else
      if n ≤ rdE T n i then (1, rdE T n i, [(sel T n i, rdN T n i)]) else
      if T (rdE T n i) = 59 then ((pgm T n f (rdE T n i + 1)).1, (pgm T n f (rdE T n i + 1)).2.1, (sel T n i, rdN T n i) :: (pgm T n f (rdE T n i + 1)).2.2) else
      (0, rdE T n i, [(sel T n i, rdN T n i)]) := by
  by_cases e : sel T n i = 9
  · have h1 : rdO T n i = 0 := if_pos e
    have h2 : rdE T n i = i := if_pos e
    rw [h1, h2, if_pos rfl]
    exact if_pos e
  · have h1 : rdO T n i = (rdF T n (kS (sel T n i)) i).1 := if_neg e
    have h2 : rdE T n i = (rdF T n (kS (sel T n i)) i).2.1 := if_neg e
    rw [h1, h2]
    exact if_neg e
theorem pgm_b : ∀ (f : Nat) (i : Int), 0 ≤ i → i ≤ n → ((i ≤ (pgm T n f i).2.1 ∧ (pgm T n f i).2.1 ≤ n) ∧ ((pgm T n f i).1 = 0 ∨ (pgm T n f i).1 = 1) ∧ (pgm T n f i).2.2.length ≤ f ∧ ∀ x ∈ (pgm T n f i).2.2, x.1 < 9 ∧ x.2.length = slL (kS x.1) ∧ ∀ z ∈ x.2, 0 ≤ z ∧ z ≤ 99) := by
  intro f
  induction f with
  | zero => exact fun i i0 i1 => ⟨⟨Int.le_refl _, i1⟩, Or.inl rfl, Nat.le_refl _, fun x hx => absurd hx List.not_mem_nil⟩
  | succ f ih =>
    intro i i0 i1
    obtain ⟨⟨a1, a2⟩, a3, a4⟩ := rdE_b (T := T) i0 i1
    rw [pgm_s]
    by_cases e : rdO T n i = 0
    · rw [if_pos e]
      exact ⟨⟨a1, a2⟩, Or.inl rfl, Nat.zero_le _, fun x hx => absurd hx List.not_mem_nil⟩
    · rw [if_neg e]
      obtain ⟨b1, b2, b3, b4⟩ := a4 (by omega)
      by_cases e2 : n ≤ rdE T n i
      · rw [if_pos e2]
        refine ⟨⟨a1, a2⟩, Or.inr rfl, by show 1 ≤ f + 1; omega, fun x hx => ?_⟩
        rw [List.mem_singleton] at hx
        subst hx
        exact ⟨b1, b3, b4⟩
      · rw [if_neg e2]
        by_cases e3 : T (rdE T n i) = 59
        · rw [if_pos e3]
          obtain ⟨⟨c1, c2⟩, c3, c4, c5⟩ := ih (rdE T n i + 1) (by omega) (by omega)
          refine ⟨⟨by show i ≤ (pgm T n f (rdE T n i + 1)).2.1; omega, c2⟩, c3, by show (pgm T n f (rdE T n i + 1)).2.2.length + 1 ≤ f + 1; omega, fun x hx => ?_⟩
          rcases List.mem_cons.mp hx with rfl | hx
          · exact ⟨b1, b3, b4⟩
          · exact c5 x hx
        · rw [if_neg e3]
          refine ⟨⟨a1, a2⟩, Or.inl rfl, by show 1 ≤ f + 1; omega, fun x hx => ?_⟩
          rw [List.mem_singleton] at hx
          subst hx
          exact ⟨b1, b3, b4⟩
theorem RW.ce {x : Nat × List Int} {c1 : Int} (h : RW M t c x) (g : CE M M' t c1) (h0 : 0 ≤ c) (h1 : c < c1) : RW M' t c x := ⟨by rw [(g.2.2 c h0 h1).1]; exact h.1, fun j hj => by rw [(g.2.2 c h0 h1).2]; exact h.2 j hj⟩
theorem p_loop : ∀ (f : Nat) (c i : Int) (k : Nat) (M : gM), CP ad S Ln R M o t T n c → c + f = 15 → f < k → 0 ≤ i → i ≤ n →
    ∃ r M', lp (fX7_findError_L7 ad S Ln R t) k (i, M) = some r ∧ (Sum.elim (fun e7_14 => some ((e7_14.1, e7_14.2))) (fun c15 => some c15) r : Option (Int × gM)) = some (if (pgm T n f i).1 = 1 then -1 else (pgm T n f i).2.1, M') ∧ CE M M' t c ∧ ((pgm T n f i).1 = 1 → M' t 4 = c + (pgm T n f i).2.2.length ∧ ∀ (q : Nat) (hq : q < (pgm T n f i).2.2.length), RW M' t (c + q) (pgm T n f i).2.2[q]) := by
  intro f
  induction f with
  | zero =>
    intro c i k M h hc hk i0 i1
    obtain ⟨k, rfl⟩ : ∃ k', k = k' + 1 := ⟨k - 1, by omega⟩
    have hb : fX7_findError_L7 ad S Ln R t (i, M) = some (.inr (.inl (i, M))) := by
      unfold fX7_findError_L7
      dsimp only
      simp only [h.2.2.1.1]
      rw [if_pos (by omega)]
    exact ⟨_, M, lp_inr hb, rfl, CE.rf, fun hh => absurd hh (show (0 : Int) ≠ 1 by decide)⟩
  | succ f ih =>
    intro c i k M h hc hk i0 i1
    obtain ⟨k, rfl⟩ : ∃ k', k = k' + 1 := ⟨k - 1, by omega⟩
    have h15 : c < 15 := by omega
    obtain ⟨c4, c0, -⟩ := h.2.2.1
    obtain ⟨⟨a1, a2⟩, a3, a4⟩ := rdE_b (T := T) i0 i1
    obtain ⟨M1, e1, e2, e3, e4, e5, e6⟩ := p_read h h15 i0 i1
    have hn60 := h.2.1.2.1
    have hCE1 : CE M M1 t c := ⟨fun q hq => e3 q (by omega) (by omega) (by omega), fun k _ k1 => e4 k k1, fun j j0 j1 => ⟨e5 j (by omega), e3 _ (by omega) (by omega) (by omega)⟩⟩
    rw [pgm_s]
    by_cases e : rdO T n i = 0
    · rw [if_pos e]
      have hb : fX7_findError_L7 ad S Ln R t (i, M) = some (.inr (.inr (rdE T n i, M1))) := by
        unfold fX7_findError_L7
        dsimp only
        simp only [c4]
        rw [if_neg (by omega), e1, bd_s]
        dsimp only
        rw [if_neg (fun q => q e), e2]
      refine ⟨_, M1, lp_inr hb, ?_, hCE1, fun hh => absurd hh (show (0 : Int) ≠ 1 by decide)⟩
      rw [se_r]
      rfl
    · rw [if_neg e]
      have hO1 : rdO T n i = 1 := by omega
      have hR1 := e6 hO1
      have hM2 : ∀ kk, kk ≠ 4 → wr M1 t 4 (c + 1) t kk = M1 t kk := fun kk hkk => wr_k hkk
      have hR2 : RW (wr M1 t 4 (c + 1)) t c (sel T n i, rdN T n i) := ⟨by rw [wr_a (by omega)]; exact hR1.1, fun j hj => by rw [wr_a (by omega)]; exact hR1.2 j hj⟩
      have hCE2 : CE M (wr M1 t 4 (c + 1)) t c := ⟨fun q hq => by rw [wr_a (by omega)]; exact hCE1.1 q hq, fun k k0 k1 => by rw [wr_k k0]; exact hCE1.2.1 k k0 k1, fun j j0 j1 => by rw [wr_a (by omega), wr_a (by omega)]; exact hCE1.2.2 j j0 j1⟩
      have hpre : fX7_findError_L7 ad S Ln R t (i, M) = if rdE T n i < n then (if T (rdE T n i) = 59 then some (.inl (rdE T n i + 1, wr M1 t 4 (c + 1))) else some (.inr (.inr (rdE T n i, wr M1 t 4 (c + 1))))) else some (.inr (.inr (-1, wr M1 t 4 (c + 1)))) := by
        unfold fX7_findError_L7
        dsimp only
        simp only [c4]
        rw [if_neg (by omega), e1, bd_s]
        dsimp only
        rw [if_pos e, nam_d, e4 4 (by decide), c4, w32_i (by omega) (by omega), hM2 5 (by decide), hM2 1 (by decide), e2, e4 1 (by decide), h.2.1.1]
        by_cases hlt : rdE T n i < n
        · rw [if_pos hlt, if_pos hlt, t_0 h.1, gd_t (by rw [h.1.2.2.1.1]; omega), wr_a (by omega), e3 (t + 1) (by omega) (by omega) (by omega), h.2.1.2.2 _ (by omega) hlt, w32_i (by omega) (by omega)]
        · rw [if_neg hlt, if_neg hlt]
      by_cases en : n ≤ rdE T n i
      · rw [if_neg (by omega)] at hpre
        rw [if_pos en]
        refine ⟨_, wr M1 t 4 (c + 1), lp_inr hpre, ?_, hCE2, fun _ => ⟨by rw [wr_s]; rfl, fun q hq => ?_⟩⟩
        · rw [se_r]
          rfl
        · obtain rfl : q = 0 := by
            have : q < 1 := hq
            omega
          rw [show c + ((0 : Nat) : Int) = c by omega]
          exact hR2
      · rw [if_pos (by omega)] at hpre
        rw [if_neg en]
        by_cases e59 : T (rdE T n i) = 59
        · rw [if_pos e59] at hpre
          rw [if_pos e59]
          have hP2 : CP ad S Ln R (wr M1 t 4 (c + 1)) o t T n (c + 1) := by
            obtain ⟨h1, ⟨h2, h3, h4⟩, h5, ⟨h6, h7⟩, h8⟩ := h
            refine ⟨h1, ⟨by rw [hM2 1 (by decide), e4 1 (by decide)]; exact h2, h3, fun j j0 j1 => by rw [wr_a (by omega), e3 (t + 1) (by omega) (by omega) (by omega)]; exact h4 j j0 j1⟩, ⟨wr_s, by omega, by omega⟩, ⟨h6.fr h7 (fun q hq => ⟨rfl, rfl, by rw [wr_a (by omega), e3 q (by omega) (by omega) (by omega)], rfl⟩), h7⟩, h8⟩
          obtain ⟨r, M', f1, f2, f3, f4⟩ := ih (c + 1) (rdE T n i + 1) k _ hP2 (by omega) (by omega) (by omega) (by omega)
          refine ⟨r, M', by rw [lp_inl hpre]; exact f1, f2, hCE2.tr f3 (by omega), fun hh => ?_⟩
          obtain ⟨g1, g2⟩ := f4 hh
          refine ⟨by rw [g1]; show _ = c + (((pgm T n f (rdE T n i + 1)).2.2.length + 1 : Nat) : Int); omega, fun q hq => ?_⟩
          cases q with
          | zero =>
            rw [show c + ((0 : Nat) : Int) = c by omega]
            exact hR2.ce f3 c0 (by omega)
          | succ q =>
            have hq' : q < (pgm T n f (rdE T n i + 1)).2.2.length := by
              have : q + 1 < (pgm T n f (rdE T n i + 1)).2.2.length + 1 := hq
              omega
            have := g2 q hq'
            rw [show c + ((q + 1 : Nat) : Int) = c + 1 + (q : Int) by omega]
            exact this
        · rw [if_neg e59] at hpre
          rw [if_neg e59]
          refine ⟨_, wr M1 t 4 (c + 1), lp_inr hpre, ?_, hCE2, fun hh => absurd hh (show (0 : Int) ≠ 1 by decide)⟩
          rw [se_r]
          rfl
theorem p_find (hL : LyT S Ln R o t) (h1 : M t 1 = n) (hn : 0 ≤ n ∧ n ≤ 60) (hT : ∀ i, 0 ≤ i → i < n → M (t + 1) i = T i) (hC : CST ad S Ln R M) (hA : AD ad o) (hot : o ≤ t) :
    ∃ M', fX7_findError ad S Ln R M t = some (if (pgm T n 15 0).1 = 1 then -1 else (pgm T n 15 0).2.1, M') ∧ CE M M' t 0 ∧ ((pgm T n 15 0).1 = 1 → M' t 4 = (pgm T n 15 0).2.2.length ∧ ∀ (q : Nat) (hq : q < (pgm T n 15 0).2.2.length), RW M' t q (pgm T n 15 0).2.2[q]) := by
  have hP : CP ad S Ln R (wr M t 4 0) o t T n 0 := ⟨hL, ⟨by rw [wr_k (by decide)]; exact h1, hn, fun i i0 i1 => by rw [wr_a (by omega)]; exact hT i i0 i1⟩, ⟨wr_s, Int.le_refl _, by decide⟩, ⟨hC.fr hA (fun q hq => ⟨rfl, rfl, wr_a (by omega), rfl⟩), hA⟩, hot⟩
  obtain ⟨r, M', e1, e2, e3, e4⟩ := p_loop (T := T) (n := n) 15 0 0 FU _ hP rfl (fu_lt (by decide)) (Int.le_refl _) hn.1
  unfold fX7_findError
  rw [nam_d, e1, bd_s]
  refine ⟨M', e2, ⟨fun q hq => by rw [e3.1 q hq, wr_a (by omega)], fun k k0 k1 => by rw [e3.2.1 k k0 k1, wr_k k0], fun j j0 j1 => by omega⟩, fun hh => ?_⟩
  obtain ⟨g1, g2⟩ := e4 hh
  refine ⟨by rw [g1, Int.zero_add], fun q hq => ?_⟩
  have := g2 q hq
  rw [Int.zero_add] at this
  exact this
end PCR
