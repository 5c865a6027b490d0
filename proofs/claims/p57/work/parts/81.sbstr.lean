/-! PURE: a constant is appended -/
def STR (S Ln : Nat → Nat) (R : gR) (M : gM) (b bb : Nat) (cs : List Int) : Prop := (S b = 1 ∧ R b 0 = some bb ∧ S bb = 28 ∧ Ln bb = cs.length ∧ M b 1 = 0) ∧ cs.length ≤ 100 ∧ ∀ (i : Nat) (h : i < cs.length), M bb (i : Int) = cs[i] ∧ 0 ≤ cs[i] ∧ cs[i] < 128
theorem cpy_x {M : gM} {a b c : Nat} {i n : Int} (h : c ≠ b) : i_cpy M a b 0 i n c = M c := ua_n h
section PSR
variable {ad S Ln : Nat → Nat} {R : gR} {M : gM} {x y b bb sz : Nat} {l cs : List Int}
theorem t_coder (hS : STR S Ln R M b bb cs) : fJ0_coder_7d493 ad S Ln R M b = some 0 := by
  unfold fJ0_coder_7d493
  simp [hS.1.2.2.2.2]
theorem t_len (hS : STR S Ln R M b bb cs) : fJ0_length_8abf5 ad S Ln R M b = some (cs.length : Int) := by
  have hc := @t_coder ad S Ln R M b bb cs hS
  obtain ⟨⟨a1, a2, a3, a4, a5⟩, hl, hb⟩ := hS
  unfold fJ0_length_8abf5
  rw [rf_o a2 a3, hc, bd_s, a4, shr_0 (by omega) (by omega)]
theorem t_charAt (hS : STR S Ln R M b bb cs) {i : Nat} (hi : i < cs.length) : fJ0_charAt_5068e ad S Ln R M b (i : Int) = some cs[i] := by
  obtain ⟨⟨a1, a2, a3, a4, a5⟩, hl, hb⟩ := hS
  obtain ⟨k1, k2, k3⟩ := hb i hi
  unfold fJ0_charAt_5068e
  rw [show fJ0_isLatin1_aae02 ad S Ln R M b = some 1 by unfold fJ0_isLatin1_aae02; rw [if_neg (by decide), a5, if_neg (fun q => q rfl)], bd_s, if_neg (by decide), rf_o a2 a3]
  unfold fJ1_charAt_3b067
  rw [x_chk (by omega) (by omega), bd_s, gd_t (by omega), k1, and_b k2 k3, i2c_v k2 k3, bd_s]
theorem b_str (hS : STR S Ln R M b bb cs) (hB : SBL S Ln R M x y l) (hx : x < sz) (hy : y < sz) (hb : b < sz ∧ bb < sz) (hl : l.length + cs.length ≤ 100) :
    ∃ sz' S' Ln' M' R' y', fJ4_append_15ec4 ad sz S Ln R M x b = some (x, sz', S', Ln', M', R') ∧ SBL S' Ln' R' M' x y' (l ++ cs) ∧ GR sz sz' x y y' S S' Ln Ln' M M' R R' := by
  have h3 := hB.2.1.2
  have hlen := @t_len ad S Ln R M b bb cs hS
  obtain ⟨⟨a1, a2, a3, a4, a5⟩, hcl, hcs⟩ := hS
  have hbx : b ≠ x := fun q => by have := hB.1.1; rw [q, this] at a1; cases a1
  have hbx2 : bb ≠ x := fun q => by have := hB.1.1; rw [q, this] at a3; cases a3
  obtain ⟨sz', S', Ln', M', R', y', e1, e2, e3, e4, e5, e6, e7, e8⟩ := b_ens (ad := ad) hB hx hy (n := (l.length : Int) + cs.length) (by omega) (by omega)
  obtain ⟨⟨f1, f2, f3, f4⟩, ⟨b1, b3⟩, ⟨d1, d2⟩, hc⟩ := e3
  have r2 : R' b 0 = some bb := by rw [e8 b hb.1 hbx]; exact a2
  have r3 : S' bb = 28 := by rw [(e7 bb hb.2).1]; exact a3
  have r4 : Ln' bb = cs.length := by rw [(e7 bb hb.2).2.1]; exact a4
  have r5 : M' b 1 = 0 := by rw [(e7 b hb.1).2.2]; exact a5
  have hcd : fJ0_coder_7d493 ad S' Ln' R' M' b = some 0 := by
    unfold fJ0_coder_7d493
    rw [if_neg (by decide), r5]
  have hput : fJ5_putStringAt_47b60 ad S' Ln' R' M' x (l.length : Int) b = some (i_cpy M' bb y' 0 (l.length : Int) (cs.length : Int)) := by
    unfold fJ5_putStringAt_47b60
    rw [show fJ5_inflateIfNeededFor_a7421 ad S' Ln' R' M' x b = some () by unfold fJ5_inflateIfNeededFor_a7421; rw [if_neg (by decide), hcd, bd_s, if_pos b1], bd_s, rf_o f2 f3, b1]
    unfold fJ0_getBytes_840e7
    rw [hcd, bd_s, if_neg (fun q => q rfl), rf_o r2 r3, rf_o r2 r3, shl_0 (by omega) (by omega), r4, gd_t (by omega), nam_d, bd_s]
  unfold fJ4_append_15ec4 fJ5_append_cf1ce
  rw [hlen, bd_s, h3, w32_i (by omega) (by omega), e1, bd_s]
  dsimp only
  rw [b3, hput, bd_s, cpy_x f4, b3, w32_i (by omega) (by omega), nam_d, bd_s]
  dsimp only
  refine ⟨sz', S', Ln', _, R', y', rfl, ⟨⟨f1, f2, f3, f4⟩, ⟨?_, ?_⟩, ⟨?_, d2⟩, fun i hi => ?_⟩, by omega, by omega, e5, fun q hq => ⟨(e7 q hq).1, (e7 q hq).2.1⟩, fun q hq q1 q2 => ?_, e8⟩
  · rw [wr_k (by decide), cpy_x f4]; exact b1
  · rw [wr_s, List.length_append]
    omega
  · rw [List.length_append]
    omega
  · rw [wr_a (fun q => f4 q.symm)]
    unfold i_cpy
    rw [ua_s]
    by_cases e : i < l.length
    · rw [if_neg (by omega), List.getElem_append_left e]
      exact hc i e
    · have hi2 : i - l.length < cs.length := by
        rw [List.length_append] at hi
        omega
      obtain ⟨k1, k2, k3⟩ := hcs (i - l.length) hi2
      rw [if_pos (by omega), List.getElem_append_right (by omega), (e7 bb hb.2).2.2]
      refine ⟨?_, k2, k3⟩
      rw [← k1]
      congr 1
      omega
  · rw [wr_a q1, cpy_x (by omega)]
    exact (e7 q hq).2.2
end PSR
