/-! p57: texts whose row's length is known; a String made of a text -/
section PSB2
variable {ad S Ln : Nat → Nat} {R : gR} {M : gM} {x y sz : Nat} {l : List Int}
theorem b_ens2 (hB : SBL S Ln R M x y l) (hx : x < sz) (hy : y < sz) {n : Int} (n0 : 0 ≤ n) (n1 : n ≤ 100) :
    ∃ sz' S' Ln' M' R' y', fJ5_ensureCapacityInternal_d00df ad sz S Ln R M x n = some (sz', S', Ln', M', R') ∧ (sz ≤ sz' ∧ sz' ≤ sz + 1) ∧ SBL S' Ln' R' M' x y' l ∧ (y' = y ∨ y' = sz) ∧ y' < sz' ∧ n ≤ (Ln' y' : Int) ∧ (Ln y = 16 → n ≤ 34 → (Ln' y' : Int) = if n ≤ 16 then 16 else 34) ∧ (∀ q, q < sz → S' q = S q ∧ Ln' q = Ln q ∧ M' q = M q) ∧ ∀ q, q < sz → q ≠ x → R' q = R q := by
  obtain ⟨⟨a1, a2, a3, a4⟩, ⟨c1, c3⟩, ⟨d1, d2⟩, hc⟩ := id hB
  unfold fJ5_ensureCapacityInternal_d00df
  rw [rf_o a2 a3, c1, shr_0 (by omega) (by omega), w32_i (by omega) (by omega)]
  by_cases h : n - (Ln y : Int) ≤ 0
  · rw [if_pos h]
    exact ⟨sz, S, Ln, M, R, y, rfl, ⟨Nat.le_refl _, Nat.le_succ _⟩, hB, Or.inl rfl, hy, by omega, fun k16 k34 => by rw [if_pos (by omega)]; omega, fun q _ => ⟨rfl, rfl, rfl⟩, fun q _ _ => rfl⟩
  · rw [if_neg h, rf_o a2 a3]
    have hmx := @i_max_v (n - (Ln y : Int)) ((Ln y : Int) + 2)
    have hcap : fJ5_newCapacity_0f7a4 ad S Ln R M x n = some ((Ln y : Int) + i_max (n - (Ln y : Int)) ((Ln y : Int) + 2)) := by
      unfold fJ5_newCapacity_0f7a4 fJ8_newLength_cabcc
      rw [rf_o a2 a3, c1, shl_0 n0 (by omega), shl20, w32_i (z := n - (Ln y : Int)) (by omega) (by omega), w32_i (z := (Ln y : Int) + 2) (by omega) (by omega), w32_i (by omega) (by omega), if_neg (by omega), if_neg (by omega), bd_s, if_pos (by omega), shr_0 (by omega) (by omega)]
    generalize hC : (Ln y : Int) + i_max (n - (Ln y : Int)) ((Ln y : Int) + 2) = C at hcap
    have hC1 : n ≤ C ∧ (Ln y : Int) + 2 ≤ C ∧ C ≤ 202 := by omega
    have hmin : i_min (Ln y : Int) C = (Ln y : Int) := by unfold i_min; rw [if_neg (by omega)]
    rw [hcap, bd_s, shl_0 (by omega) (by omega)]
    unfold fJ7_copyOf_9075b
    rw [if_pos (by omega), gd_t (by omega)]
    simp only [nam_d, ua_n (show y ≠ sz by omega), hmin, ua_s]
    rw [gd_t (by omega), bd_s]
    dsimp only
    refine ⟨sz + 1, _, _, _, _, sz, rfl, ⟨Nat.le_succ _, Nat.le_refl _⟩, ⟨⟨?_, ?_, ua_s, by omega⟩, ⟨?_, ?_⟩, ⟨?_, ?_⟩, fun i hi => ?_⟩, Or.inr rfl, Nat.lt_succ_self _, ?_, fun k16 k34 => ?_, fun q hq => ⟨ua_n (by omega), ua_n (by omega), ?_⟩, fun q hq hq' => ?_⟩
    · rw [ua_n (by omega)]; exact a1
    · unfold wrR
      rw [ua_s, us_s]
    · rw [cpy_a (by omega), ua_n (by omega)]; exact c1
    · rw [cpy_a (by omega), ua_n (by omega)]; exact c3
    · rw [ua_s]; omega
    · rw [ua_s]; omega
    · rw [cpy_s (by omega) (by omega), ua_n (by omega)]; exact hc i hi
    · rw [ua_s]; omega
    · rw [ua_s, if_neg (by omega)]; omega
    · rw [cpy_a (by omega), ua_n (by omega)]
    · unfold wrR
      rw [ua_n hq', ua_n (by omega)]
theorem b_int2 (hD : DGT ad S Ln M) (hB : SBL S Ln R M x y l) (hx : x < sz) (hy : y < sz) (ha : ad 10 < sz ∧ ad 11 < sz) (hyn : y ≠ ad 10 ∧ y ≠ ad 11) (hl : l.length ≤ 90) {n : Int} (h0 : 0 ≤ n) (h1 : n < 1000000000) :
    ∃ sz' S' Ln' M' R' y', fJ4_append_bf812 ad sz S Ln R M x n = some (x, sz', S', Ln', M', R') ∧ SBL S' Ln' R' M' x y' (l ++ dig 11 n) ∧ GR sz sz' x y y' S S' Ln Ln' M M' R R' ∧ (Ln y = 16 → ((l ++ dig 11 n).length : Int) ≤ 34 → (Ln' y' : Int) = if ((l ++ dig 11 n).length : Int) ≤ 16 then 16 else 34) := by
  have h3 := hB.2.1.2
  obtain ⟨L, hs, hL, hL9⟩ := s_size (ad := ad) (S := S) (Ln := Ln) (R := R) (M := M) h0 h1
  have hlen := dig_nD h0 11 L hL (by omega)
  have hdk := dig_K h0 11 L hL (by omega)
  have hdb := dig_b h0 11
  obtain ⟨sz', S', Ln', M', R', y', e1, e2, e3, e4, e5, e6, e6k, e7, e8⟩ := b_ens2 (ad := ad) hB hx hy (n := (l.length : Int) + L) (by omega) (by omega)
  obtain ⟨⟨a1, a2, a3, a4⟩, ⟨b1, b3⟩, ⟨d1, d2⟩, hc⟩ := e3
  have hD' : DGT ad S' Ln' M' := by
    obtain ⟨⟨k1, k2, k3, k4⟩, k5⟩ := hD
    obtain ⟨p1, p2, p3⟩ := e7 _ ha.1
    obtain ⟨q1, q2, q3⟩ := e7 _ ha.2
    refine ⟨⟨by rw [p1]; exact k1, by rw [q1]; exact k2, by rw [p2]; exact k3, by rw [q2]; exact k4⟩, fun r r0 r1 => ?_⟩
    rw [p3, q3]
    exact k5 r r0 r1
  obtain ⟨M2, g1, g2, g3, g4⟩ := g_chars (R := R') hD' (show y' ≠ ad 10 ∧ y' ≠ ad 11 by omega) h0 h1 hL hL9 (x := (l.length : Int) + L) (by omega) e6 (by omega)
  unfold fJ4_append_bf812 fJ5_append_c97b9
  rw [hs, bd_s, h3, w32_i (by omega) (by omega), e1, bd_s]
  dsimp only
  rw [show fJ5_isLatin1_aae02 ad S' Ln' R' M' x = some 1 by unfold fJ5_isLatin1_aae02; rw [if_neg (by decide), b1, if_neg (fun q => q rfl)], bd_s, if_neg (by decide), rf_o a2 a3, g1, bd_s]
  dsimp only
  rw [nam_d, bd_s]
  dsimp only
  refine ⟨sz', S', Ln', wr M2 x 3 ((l.length : Int) + L), R', y', rfl, ⟨⟨a1, a2, a3, a4⟩, ⟨?_, ?_⟩, ⟨?_, d2⟩, fun i hi => ?_⟩, ⟨by omega, by omega, e5, fun q hq => ⟨(e7 q hq).1, (e7 q hq).2.1⟩, fun q hq q1 q2 => ?_, e8⟩, by rw [List.length_append, hlen]; exact_mod_cast e6k⟩
  · rw [wr_k (by decide), g4 x a4]; exact b1
  · rw [wr_s, List.length_append, hlen]
    omega
  · rw [List.length_append, hlen]
    omega
  · rw [wr_a (fun q => a4 q.symm)]
    by_cases e : i < l.length
    · rw [List.getElem_append_left e, g3 _ (by omega)]
      exact hc i e
    · have hi2 : i - l.length < (dig 11 n).length := by
        rw [List.length_append] at hi
        omega
      have hb := hdb _ (List.getElem_mem hi2)
      have hk := hdk (i - l.length) hi2
      have hg := g2 (L - 1 - (i - l.length)) (by omega)
      rw [List.getElem_append_right (by omega)]
      refine ⟨?_, by omega, by omega⟩
      rw [hk, ← hg]
      congr 1
      omega
  · rw [wr_a q1, g4 q (by omega)]
    exact (e7 q hq).2.2
variable {b bb : Nat} {cs : List Int}
theorem b_str2 (hS : STR S Ln R M b bb cs) (hB : SBL S Ln R M x y l) (hx : x < sz) (hy : y < sz) (hb : b < sz ∧ bb < sz) (hl : l.length + cs.length ≤ 100) :
    ∃ sz' S' Ln' M' R' y', fJ4_append_15ec4 ad sz S Ln R M x b = some (x, sz', S', Ln', M', R') ∧ SBL S' Ln' R' M' x y' (l ++ cs) ∧ GR sz sz' x y y' S S' Ln Ln' M M' R R' ∧ (Ln y = 16 → ((l ++ cs).length : Int) ≤ 34 → (Ln' y' : Int) = if ((l ++ cs).length : Int) ≤ 16 then 16 else 34) := by
  have h3 := hB.2.1.2
  have hlen := @t_len ad S Ln R M b bb cs hS
  obtain ⟨⟨a1, a2, a3, a4, a5⟩, hcl, hcs⟩ := hS
  have hbx : b ≠ x := fun q => by have := hB.1.1; rw [q, this] at a1; cases a1
  have hbx2 : bb ≠ x := fun q => by have := hB.1.1; rw [q, this] at a3; cases a3
  obtain ⟨sz', S', Ln', M', R', y', e1, e2, e3, e4, e5, e6, e6k, e7, e8⟩ := b_ens2 (ad := ad) hB hx hy (n := (l.length : Int) + cs.length) (by omega) (by omega)
  obtain ⟨⟨f1, f2, f3, f4⟩, ⟨b1, b3⟩, ⟨d1, d2⟩, hc⟩ := e3
  have r2 : R' b 0 = some bb := by rw [e8 b hb.1 hbx]; exact a2
  have r3 : S' bb = 28 := by rw [(e7 bb hb.2).1]; exact a3
  have r4 : Ln' bb = cs.length := by rw [(e7 bb hb.2).2.1]; exact a4
  have r5 : M' b 1 = 0 := by rw [(e7 b hb.1).2.2]; exact a5
  have hcd : fJ0_coder_7d493 ad S' Ln' R' M' b = some 0 := by
    unfold fJ0_coder_7d493
    rw [if_neg (by decide), r5]
  have hput : fJ5_putStringAt_47b60 ad S' Ln' R' M' x (l.length : Int) b = some (i_cpy M' bb y' 0 (l.length : Int) (cs.length : Int)) := by
    unfold fJ5_putStringAt_47b60
    rw [show fJ5_inflateIfNeededFor_a7421 ad S' Ln' R' M' x b = some () by unfold fJ5_inflateIfNeededFor_a7421; rw [if_neg (by decide), hcd, bd_s, if_pos b1], bd_s, rf_o f2 f3, b1]
    unfold fJ0_getBytes_840e7
    rw [hcd, bd_s, if_neg (fun q => q rfl), rf_o r2 r3, rf_o r2 r3, shl_0 (by omega) (by omega), r4, gd_t (by omega), nam_d, bd_s]
  unfold fJ4_append_15ec4 fJ5_append_cf1ce
  rw [hlen, bd_s, h3, w32_i (by omega) (by omega), e1, bd_s]
  dsimp only
  rw [b3, hput, bd_s, cpy_x f4, b3, w32_i (by omega) (by omega), nam_d, bd_s]
  dsimp only
  refine ⟨sz', S', Ln', _, R', y', rfl, ⟨⟨f1, f2, f3, f4⟩, ⟨?_, ?_⟩, ⟨?_, d2⟩, fun i hi => ?_⟩, ⟨by omega, by omega, e5, fun q hq => ⟨(e7 q hq).1, (e7 q hq).2.1⟩, fun q hq q1 q2 => ?_, e8⟩, by rw [List.length_append]; exact_mod_cast e6k⟩
  · rw [wr_k (by decide), cpy_x f4]; exact b1
  · rw [wr_s, List.length_append]
    omega
  · rw [List.length_append]
    omega
  · rw [wr_a (fun q => f4 q.symm)]
    unfold i_cpy
    rw [ua_s]
    by_cases e : i < l.length
    · rw [if_neg (by omega), List.getElem_append_left e]
      exact hc i e
    · have hi2 : i - l.length < cs.length := by
        rw [List.length_append] at hi
        omega
      obtain ⟨k1, k2, k3⟩ := hcs (i - l.length) hi2
      rw [if_pos (by omega), List.getElem_append_right (by omega), (e7 bb hb.2).2.2]
      refine ⟨?_, k2, k3⟩
      rw [← k1]
      congr 1
      omega
  · rw [wr_a q1, cpy_x (by omega)]
    exact (e7 q hq).2.2
theorem t_make (hB : SBL S Ln R M x y l) (hx : x < sz) (hy : y < sz) (hn : l.length ≠ Ln y) (hl : l.length ≤ 100) :
    ∃ S' Ln' M' R', fJ4_toString_0e30d ad sz S Ln R M x = some (sz, sz + 2, S', Ln', M', R') ∧ STR S' Ln' R' M' sz (sz + 1) l ∧ ∀ q, q < sz → S' q = S q ∧ Ln' q = Ln q ∧ M' q = M q ∧ R' q = R q := by
  obtain ⟨⟨a1, a2, a3, a4⟩, ⟨b1, b3⟩, ⟨d1, d2⟩, hc⟩ := hB
  have f1 : fJ5_getValue_6d5f1 ad (ua S sz 13) (ua Ln sz 0) (ua R sz gNo) (ua M sz (gN 13)) x = some y := by
    unfold fJ5_getValue_6d5f1
    rw [rf_o (b := y) (by rw [ua_n (by omega)]; exact a2) (by rw [ua_n (by omega)]; exact a3)]
  have f2 : fJ4_length_8abf5 ad (ua S sz 13) (ua Ln sz 0) (ua R sz gNo) (ua M sz (gN 13)) x = some (l.length : Int) := by
    unfold fJ4_length_8abf5 fJ5_length_8abf5
    rw [ua_n (by omega), b3, bd_s]
  have f3 : fJ5_isLatin1_aae02 ad (ua S sz 13) (ua Ln sz 0) (ua R sz gNo) (ua M sz (gN 13)) x = some 1 := by
    unfold fJ5_isLatin1_aae02
    rw [if_neg (by decide), ua_n (by omega), b1, if_neg (fun q => q rfl)]
  have hm : i_min (w32 ((Ln y : Int) - 0)) (l.length : Int) = (l.length : Int) := by
    rw [w32_i (by omega) (by omega)]
    unfold i_min
    split <;> omega
  have hw : w32 ((l.length : Int) - 0) = l.length := by rw [w32_i (by omega) (by omega)]; omega
  generalize hM4 : wr (ua M sz (gN 13)) sz 1 0 = M4
  have f4 : fJ7_copyOfRange_39247 ad (sz + 1) (ua S sz 13) (ua Ln sz 0) (ua R sz gNo) M4 y 0 (l.length : Int) = some (sz + 1, sz + 2, ua (ua S sz 13) (sz + 1) 23, ua (ua Ln sz 0) (sz + 1) l.length, i_cpy (ua M4 (sz + 1) (fun _ => 0)) y (sz + 1) 0 0 (l.length : Int), ua (ua R sz gNo) (sz + 1) (fun _ => none)) := by
    unfold fJ7_copyOfRange_39247
    rw [if_neg (fun q => q rfl), if_neg (by rw [ua_n (by omega)]; omega)]
    unfold fJ7_copyOfRange_39247_B10 fJ7_copyOfRangeByte_39247 fJ7_checkLength_df160
    rw [if_pos (by omega), bd_s, hw, gd_t (by omega)]
    simp only [nam_d]
    rw [show ((l.length : Int)).toNat = l.length from rfl, ua_n (show y ≠ sz + 1 by omega), ua_n (show y ≠ sz by omega), hm, gd_t (by rw [ua_s]; omega), bd_s]
  have e9 : wrR (ua (ua R sz gNo) (sz + 1) (fun _ => none)) sz 0 (some (sz + 1)) sz 0 = some (sz + 1) := by
    unfold wrR
    rw [ua_s, us_s]
  unfold fJ4_toString_0e30d fJ0_init_81219 fJ0_init_db425
  simp only [nam_d]
  rw [f1, bd_s, f2, bd_s, f3, bd_s, if_neg (by decide), hM4, f4, bd_s, bd_s, bd_s]
  subst hM4
  dsimp only
  rw [gd_t (Nat.le_refl _), rf_o e9 ua_s, gd_t (Nat.le_succ _)]
  refine ⟨_, _, _, _, rfl, ⟨⟨?_, e9, ua_s, ?_, ?_⟩, hl, fun i hi => ?_⟩, fun q hq => ⟨?_, ?_, ?_, ?_⟩⟩
  · rw [ua_n (by omega), ua_s]
  · rw [ua_s]
  · rw [cpy_a (by omega), ua_n (by omega), wr_s]
  · rw [cpy_s (by omega) (by omega), ua_n (by omega), wr_a (by omega), ua_n (by omega)]
    exact hc i hi
  · rw [ua_n (by omega), ua_n (by omega), ua_n (by omega), ua_n (by omega)]
  · rw [ua_n (by omega), ua_n (by omega)]
  · rw [cpy_a (by omega), ua_n (by omega), wr_a (by omega), ua_n (by omega)]
  · unfold wrR
    rw [ua_n (by omega), ua_n (by omega), ua_n (by omega)]
end PSB2
