/-! PURE: the script's characters -/
/-- the script at t: its characters t+1, its kinds t+2, its numbers t+3 (fifteen rows from t+4) -/
def LyT (S Ln : Nat → Nat) (R : gR) (o t : Nat) : Prop := R o 4 = some t ∧ (S t = 10 ∧ S (t + 1) = 24 ∧ S (t + 2) = 20 ∧ S (t + 3) = 25) ∧ (Ln (t + 1) = 60 ∧ Ln (t + 2) = 15 ∧ Ln (t + 3) = 15) ∧ (R t 0 = some (t + 1) ∧ R t 2 = some (t + 2) ∧ R t 3 = some (t + 3)) ∧ ∀ i : Nat, i < 15 → R (t + 3) (i : Int) = some (t + 4 + i) ∧ S (t + 4 + i) = 20 ∧ Ln (t + 4 + i) = 4
/-- the characters, on both sides -/
def SCR (M : gM) (t m : Nat) : Prop := M t 1 = M m 15 ∧ (0 ≤ M m 15 ∧ M m 15 ≤ 60) ∧ ∀ i, 0 ≤ i → i < M m 15 → M (t + 1) i = M (m + 7) i ∧ 0 ≤ M (m + 7) i ∧ M (m + 7) i < 65536
theorem i2c_b {x : Int} : 0 ≤ i_i2c x ∧ i_i2c x < 65536 := by
  unfold i_i2c
  have h : ((iI x).toUInt32 % 65536).toNat < 65536 := by
    rw [UInt32.toNat_mod]
    exact Nat.mod_lt _ (by decide)
  have h2 : ((iI x).toUInt32 % 65536).toInt32.toInt = (((iI x).toUInt32 % 65536).toNat : Int) := by
    show (((iI x).toUInt32 % 65536).toBitVec).toInt = _
    rw [BitVec.toInt_eq_toNat_of_lt]
    · rfl
    · show 2 * ((iI x).toUInt32 % 65536).toNat < 2 ^ 32
      omega
  omega
section PSC
variable {ad S Ln : Nat → Nat} {R : gR} {M : gM} {e o m a t : Nat} {π : Int → Nat} {b : Int} {v : gV}
theorem t_4 {α : Type} {f : Nat → Option α} (hT : LyT S Ln R o t) : rf S (R o 4) 10 f = f t := rf_o hT.1 hT.2.1.1
theorem m_13 {α : Type} {f : Nat → Option α} (hL : LyM S Ln R m) : rf S (R m 13) 20 f = f (m + 7) := rf_o hL.2.2.2.2.2.2.2.2.1 hL.1.2.2.2.2.2.2.2.1
theorem k_c44 (hY : HY S Ln R M e o m a π b) (hT : LyT S Ln R o t) (ht : o + 289 ≤ t ∧ t + 19 ≤ m) (hS : SCR M t m) {sz : Nat} {i0 : Int} (hi : 0 ≤ i0 ∧ i0 + 5 ≤ (Ln e : Int) ∧ (Ln e : Int) ≤ 1000000) :
    ∃ M', fL_c44 ad sz S Ln R M e o m a (a + 1) i0 = some (.inl (w32 (i0 + 5), S, Ln, M', R)) ∧ INV M' o m π (b + 1) ∧ SCR M' t m ∧ (∀ c, c ≠ t → c ≠ t + 1 → c ≠ m → c ≠ m + 7 → c ≠ a → M' c = M c) ∧ (∀ k, k ≠ 1 → M' t k = M t k) ∧ ∀ k, k ≠ 5 → k ≠ 15 → M' m k = M m k := by
  have hY9 := hY
  obtain ⟨hO, hM, hd, hla, he, hN, hb⟩ := hY
  obtain ⟨s1, s2, s3⟩ := hS
  obtain ⟨n1, n2, n3, n4, n5, n6, n7, n8⟩ := hM.2.1
  have g1 : (0 : Int) ≤ w32 (i0 + 1) ∧ w32 (i0 + 1) < (Ln e : Int) := by rw [w32_i (by omega) (by omega)]; omega
  unfold fL_c44
  simp only [gd_t g1]
  have hcr := @i2c_b (M e (w32 (i0 + 1)))
  generalize hc : i_i2c (M e (w32 (i0 + 1))) = c at hcr
  have hroom : fX7_hasRoom ad S Ln R M t = some (if M m 15 = 60 then 0 else 1) := by
    unfold fX7_hasRoom
    rw [s1]
    by_cases h : M m 15 = 60
    · rw [if_pos (by omega), if_pos h]
    · rw [if_neg (by omega), if_neg h]
  by_cases h : M m 15 = 60
  · have hcl : fL_append ad S Ln R M o c a = some (1, M) := by
      unfold fL_append fX9_append
      rw [t_4 hT, hroom, bd_s, if_pos h, if_neg (by decide), bd_s, se_r]
      rfl
    have hmo : fX10_append ad S Ln R M m c = some (0, wr M m 5 1) := by
      unfold fX10_append
      rw [if_neg (fun q => q h)]
      unfold fX10_append_B15
      rw [m_isThrown, bd_s, thr_1]
      dsimp only
      rw [if_neg (by decide)]
    refine ⟨wr M m 5 1, ?_, (same_ok hO hd.1 hN (wr_a (by omega)) (wr_k (by decide)) (wr_a (by omega)) (wr_k (by decide)) (fun c hc => wr_a (by omega))).mono (by omega) hb, ?_, fun c _ _ c2 _ _ => wr_a c2, fun k _ => by rw [wr_a (by omega)], fun k k5 _ => wr_k k5⟩
    · rw [hcl, bd_s]
      dsimp only
      rw [hc, hmo, bd_s]
      dsimp only
      rw [show fX10_thrown ad S Ln R (wr M m 5 1) m = some (wr M m 5 1 m 5) from rfl, bd_s, wr_s, if_pos rfl, if_pos (by decide)]
      rfl
    · unfold SCR
      rw [wr_a (show t ≠ m by omega), wr_k (show (15 : Int) ≠ 5 by decide), wr_a (show t + 1 ≠ m by omega), wr_a (show m + 7 ≠ m by omega)]
      exact ⟨s1, s2, s3⟩
  · have hadd : fX7_add ad S Ln R M t c = some (M m 15 + 1, wr (wr M (t + 1) (M m 15) c) t 1 (M m 15 + 1)) := by
      unfold fX7_add
      rw [hroom, bd_s, if_neg h, if_neg (by decide), rf_o hT.2.2.2.1.1 hT.2.1.2.1, s1, gd_t (by rw [hT.2.2.1.1]; omega), nam_d, wr_a (show t ≠ t + 1 by omega), s1, w32_i (by omega) (by omega), nam_d, wr_s]
    have hcl : fL_append ad S Ln R M o c a = some (0, wr (wr (wr M (t + 1) (M m 15) c) t 1 (M m 15 + 1)) a 0 (M m 15 + 1)) := by
      unfold fL_append fX9_append
      rw [t_4 hT, hroom, bd_s, if_neg h, if_pos (by decide), t_4 hT, hadd, bd_s, bd_s, se_l]
      dsimp only
      rw [gd_t (by rw [hla.1]; decide), nam_d]
    generalize hM1 : wr (wr (wr M (t + 1) (M m 15) c) t 1 (M m 15 + 1)) a 0 (M m 15 + 1) = M1 at hcl
    have f1 : ∀ c, c ≠ t → c ≠ t + 1 → c ≠ a → M1 c = M c := fun c c0 c1 c2 => by rw [← hM1, wr_a c2, wr_a c0, wr_a c1]
    have fm := f1 m (by omega) (by omega) (by omega)
    have fe := f1 e (by omega) (by omega) (by omega)
    have ft1 : M1 t 1 = M m 15 + 1 := by rw [← hM1, wr_a (by omega), wr_s]
    have ftk : ∀ k, k ≠ 1 → M1 t k = M t k := fun k hk => by rw [← hM1, wr_a (by omega), wr_k hk, wr_a (by omega)]
    have fc : ∀ i, M1 (t + 1) i = if i = M m 15 then c else M (t + 1) i := fun i => by
      rw [← hM1, wr_a (by omega), wr_a (by omega)]
      by_cases e' : i = M m 15
      · rw [if_pos e', e', wr_s]
      · rw [if_neg e', wr_k e']
    have fa : M1 a 0 = M m 15 + 1 := by rw [← hM1, wr_s]
    have hmo : fX10_append ad S Ln R M1 m c = some (M m 15 + 1, wr (wr (wr M1 m 5 0) (m + 7) (M m 15) c) m 15 (M m 15 + 1)) := by
      have q15 : wr M1 m 5 0 m 15 = M m 15 := by rw [wr_k (by decide), fm]
      have q15' : wr (wr M1 m 5 0) (m + 7) (M m 15) c m 15 = M m 15 := by rw [wr_a (by omega), q15]
      unfold fX10_append
      rw [fm, if_pos h]
      unfold fX10_append_B15
      rw [m_isThrown, bd_s, thr_0]
      dsimp only
      rw [if_pos rfl, m_13 hM]
      simp only [q15]
      rw [gd_t (by rw [n7]; omega), nam_d, q15', w32_i (by omega) (by omega), nam_d, wr_s]
    generalize hM3 : wr (wr (wr M1 m 5 0) (m + 7) (M m 15) c) m 15 (M m 15 + 1) = M3 at hmo
    have g1' : ∀ c, c ≠ m → c ≠ m + 7 → M3 c = M1 c := fun c c0 c1 => by rw [← hM3, wr_a c0, wr_a c1, wr_a c0]
    have gk : ∀ k, k ≠ 5 → k ≠ 15 → M3 m k = M m k := fun k k5 k15 => by rw [← hM3, wr_k k15, wr_a (by omega), wr_k k5, fm]
    have g5 : M3 m 5 = 0 := by rw [← hM3, wr_k (by decide), wr_a (by omega), wr_s]
    have g15 : M3 m 15 = M m 15 + 1 := by rw [← hM3, wr_s]
    have gc : ∀ i, M3 (m + 7) i = if i = M m 15 then c else M (m + 7) i := fun i => by
      rw [← hM3, wr_a (by omega)]
      by_cases e' : i = M m 15
      · rw [if_pos e', e', wr_s]
      · rw [if_neg e', wr_k e', wr_a (by omega), f1 _ (by omega) (by omega) (by omega)]
    have hall : ∀ c, c ≠ t → c ≠ t + 1 → c ≠ m → c ≠ m + 7 → c ≠ a → M3 c = M c := fun c c0 c1 c2 c3 c4 => by rw [g1' c c2 c3, f1 c c0 c1 c4]
    refine ⟨M3, ?_, (same_ok hO hd.1 hN (hall _ (by omega) (by omega) (by omega) (by omega) (by omega)) (gk 4 (by decide) (by decide)) (hall _ (by omega) (by omega) (by omega) (by omega) (by omega)) (gk 9 (by decide) (by decide)) (fun c hc => hall c (by omega) (by omega) (by omega) (by omega) (by omega))).mono (by omega) hb, ⟨?_, ?_, fun i i0' i1' => ?_⟩, hall, fun k hk => by rw [g1' t (by omega) (by omega), ftk k hk], gk⟩
    · rw [hcl, bd_s]
      dsimp only
      rw [fe, hc, hmo, bd_s]
      dsimp only
      rw [show fX10_thrown ad S Ln R M3 m = some (M3 m 5) from rfl, bd_s, g5, if_pos rfl, if_neg (by decide), gd_t (by rw [hla.1]; decide)]
      simp only [g1' a (by omega) (by omega), fa, i_lcmp_0]
      exact if_pos trivial
    · rw [g1' t (by omega) (by omega), ft1, g15]
    · rw [g15]; omega
    · rw [g15] at i1'
      rw [g1' (t + 1) (by omega) (by omega), fc, gc]
      by_cases e' : i = M m 15
      · rw [if_pos e', if_pos e']; exact ⟨rfl, hcr⟩
      · rw [if_neg e', if_neg e']; exact s3 i i0' (by omega)
end PSC
