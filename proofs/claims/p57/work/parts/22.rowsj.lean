def fJ6_stringSize_0f7a4_L16 (ad S Ln : Nat → Nat) (R : gR) (M : gM) (l0_16 : Int) (l1_16 : Int) (s16 : Int × Int) : Option ((Int × Int) ⊕ ((Unit) ⊕ (Int))) :=
  if 10 ≤ s16.2 then (some (.inr (.inl ()))) else (if l0_16 ≤ s16.1 then (some (.inl (w32 (10 * s16.1), w32 (s16.2 + 1)))) else (some (.inr (.inr (w32 (s16.2 + l1_16))))))
def fJ6_stringSize_0f7a4_B11 (ad S Ln : Nat → Nat) (R : gR) (M : gM) (l0_11 : Int) (l1_11 : Int) : Option Int :=
  bd (lp (fJ6_stringSize_0f7a4_L16 ad S Ln R M l0_11 l1_11) FU ((-10), 1)) fun q2 => Sum.elim (fun e16_1 => some (w32 (10 + l1_11))) (fun c2 => some c2) q2
def fJ6_stringSize_0f7a4 (ad S Ln : Nat → Nat) (R : gR) (M : gM) (x0 : Int) : Option Int :=
  if x0 < 0 then (fJ6_stringSize_0f7a4_B11 ad S Ln R M x0 1) else (fJ6_stringSize_0f7a4_B11 ad S Ln R M (w32 (-x0)) 0)
theorem xJ6_stringSize_0f7a4 {l : Launch} {G : gE} {sz : Nat} {S Ln : Nat → Nat} {M : gM} {R : gR} (hl : l.stackTraces = false) {x0 : Int} (hp0 : (-2147483648 ≤ x0 ∧ x0 < 2147483648)) {r : Int} (h : fJ6_stringSize_0f7a4 G.2.2.2.2 S Ln R M x0 = some r) : Ct l G yJ6_stringSize_0f7a4 cJ6_stringSize_0f7a4 4 (some .int) 1 0 0 [.int (iI x0)] sz S Ln M R (poI r sz S Ln (M) R) noX := by
  refine jj_start (own := RJ6) (lv0 := [(0, .int (iI x0))]) hl (by decide +kernel) rfl rfl (c_le rfl) (fun C hCl hC => ?_)
  have hL16 : ∀ (l0_16 : Int) (l1_16 : Int), (-2147483648 ≤ l0_16 ∧ l0_16 < 2147483648) → (0 ≤ l1_16 ∧ l1_16 ≤ 1) → ∀ (n : Nat) (s16 : Int × Int) (q : (Unit) ⊕ (Int)), lp (fJ6_stringSize_0f7a4_L16 G.2.2.2.2 S Ln R M l0_16 l1_16) n s16 = some q → (-2147483648 ≤ s16.1 ∧ s16.1 < 2147483648) ∧ (-2147483648 ≤ s16.2 ∧ s16.2 < 2147483648) → (∀ e16, q = .inl e16 → True → JJ G C 0 0 sz S Ln M R 42 [(1, .int (iI l1_16))] []) → (∀ c, q = .inr c → c = r) → JJ G C 0 0 sz S Ln M R 16 [(0, .int (iI l0_16)), (1, .int (iI l1_16)), (2, .int (iI s16.1)), (3, .int (iI s16.2))] [] := by
    intro l0_16 l1_16 hl0_16 hl1_16
    refine lp_ind ?_
    intro s16 r16 hI16 h hJ16 hE16 hR16
    obtain ⟨hs16_0, hs16_1⟩ := hI16
    unfold fJ6_stringSize_0f7a4_L16 at h
    refine jj_iload_n hC dJ6_stringSize_0f7a4_16 rfl 3 rfl ?_
    refine jj_bipush hC dJ6_stringSize_0f7a4_17 (by decide) ?_
    refine jj_icmp_ge (tgt := 42) hC dJ6_stringSize_0f7a4_19 rfl hs16_1 (show (-2147483648 ≤ (10 : Int) ∧ (10 : Int) < 2147483648) from by decide) (fun hc => ?_) (fun hc => ?_)
    · replace h := (if_pos hc).symm.trans h
      refine jj_lv (lv' := [(1, .int (iI l1_16))]) [1] rfl ?_
      exact hE16 _ (Option.some.inj h).symm trivial
    · replace h := (if_neg (Int.not_le.mpr hc)).symm.trans h
      refine jj_iload_n hC dJ6_stringSize_0f7a4_22 rfl 0 rfl ?_
      refine jj_iload_n hC dJ6_stringSize_0f7a4_23 rfl 2 rfl ?_
      refine jj_icmp_le (tgt := 31) hC dJ6_stringSize_0f7a4_24 rfl hl0_16 hs16_0 (fun hc => ?_) (fun hc => ?_)
      · replace h := (if_pos hc).symm.trans h
        refine jj_bipush hC dJ6_stringSize_0f7a4_31 (by decide) ?_
        refine jj_iload_n hC dJ6_stringSize_0f7a4_33 rfl 2 rfl ?_
        refine jg_imul hC dJ6_stringSize_0f7a4_34 ?_
        refine jj_istore_n (lv' := [(2, .int (iI (w32 (10 * s16.1)))), (0, .int (iI l0_16)), (1, .int (iI l1_16)), (3, .int (iI s16.2))]) hC dJ6_stringSize_0f7a4_35 rfl (by decide) rfl ?_
        refine jg_iinc (q := 3) (lv' := [(3, .int (iI (w32 (s16.2 + 1)))), (2, .int (iI (w32 (10 * s16.1)))), (0, .int (iI l0_16)), (1, .int (iI l1_16))]) hC dJ6_stringSize_0f7a4_36 rfl (by decide) rfl ?_
        refine jj_goto (tgt := 16) hC dJ6_stringSize_0f7a4_39 rfl ?_
        refine jj_lv (lv' := [(0, .int (iI l0_16)), (1, .int (iI l1_16)), (2, .int (iI (w32 (10 * s16.1)))), (3, .int (iI (w32 (s16.2 + 1))))]) [2, 3, 1, 0] rfl ?_
        exact hJ16 _ (Option.some.inj h).symm ⟨(w32_r _), (w32_r _)⟩
      · replace h := (if_neg (Int.not_le.mpr hc)).symm.trans h
        refine jj_iload_n hC dJ6_stringSize_0f7a4_27 rfl 3 rfl ?_
        refine jj_iload_n hC dJ6_stringSize_0f7a4_28 rfl 1 rfl ?_
        refine jg_iadd hC dJ6_stringSize_0f7a4_29 ?_
        have h := hR16 _ (Option.some.inj h).symm
        subst h
        exact jj_iret hC (c_le rfl) (c_le rfl) dJ6_stringSize_0f7a4_30 ⟨rfl, (w32_r _), rfl, rfl, rfl, rfl, rfl⟩
  have hB11 : ∀ (l0_11 : Int) (l1_11 : Int), (-2147483648 ≤ l0_11 ∧ l0_11 < 2147483648) → (0 ≤ l1_11 ∧ l1_11 ≤ 1) → fJ6_stringSize_0f7a4_B11 G.2.2.2.2 S Ln R M l0_11 l1_11 = some r → JJ G C 0 0 sz S Ln M R 11 [(0, .int (iI l0_11)), (1, .int (iI l1_11))] [] := by
    intro l0_11 l1_11 hl0_11 hl1_11 h
    unfold fJ6_stringSize_0f7a4_B11 at h
    refine jj_bipush hC dJ6_stringSize_0f7a4_11 (by decide) ?_
    refine jj_istore_n (lv' := [(2, .int (iI (-10))), (0, .int (iI l0_11)), (1, .int (iI l1_11))]) hC dJ6_stringSize_0f7a4_13 rfl (by decide) rfl ?_
    refine jj_iconst hC dJ6_stringSize_0f7a4_14 ?_
    refine jj_istore_n (lv' := [(3, .int (iI 1)), (2, .int (iI (-10))), (0, .int (iI l0_11)), (1, .int (iI l1_11))]) hC dJ6_stringSize_0f7a4_15 rfl (by decide) rfl ?_
    obtain ⟨q2, hq2, h⟩ := bd_e h
    refine jj_lv (lv' := [(0, .int (iI l0_11)), (1, .int (iI l1_11)), (2, .int (iI (-10))), (3, .int (iI 1))]) [2, 3, 1, 0] rfl ?_
    refine hL16 l0_11 l1_11 hl0_11 hl1_11 FU _ q2 hq2 ⟨(show (-2147483648 ≤ (-10 : Int) ∧ (-10 : Int) < 2147483648) from by decide), (show (-2147483648 ≤ (1 : Int) ∧ (1 : Int) < 2147483648) from by decide)⟩ (fun e16_1 he2 hIE2 => ?_) (fun c2 hc2 => ?_)
    · subst he2
      replace h := el_l h
      refine jj_bipush hC dJ6_stringSize_0f7a4_42 (by decide) ?_
      refine jj_iload_n hC dJ6_stringSize_0f7a4_44 rfl 0 rfl ?_
      refine jg_iadd hC dJ6_stringSize_0f7a4_45 ?_
      cases h
      exact jj_iret hC (c_le rfl) (c_le rfl) dJ6_stringSize_0f7a4_46 ⟨rfl, (w32_r _), rfl, rfl, rfl, rfl, rfl⟩
    · subst hc2
      replace h := el_r h
      exact Option.some.inj h
  unfold fJ6_stringSize_0f7a4 at h
  refine jj_iconst hC dJ6_stringSize_0f7a4_0 ?_
  refine jj_istore_n (lv' := [(1, .int (iI 1)), (0, .int (iI x0))]) hC dJ6_stringSize_0f7a4_1 rfl (by decide) rfl ?_
  refine jj_iload_n hC dJ6_stringSize_0f7a4_2 rfl 1 rfl ?_
  refine jj_if_lt (tgt := 11) hC dJ6_stringSize_0f7a4_3 rfl hp0 (fun hc => ?_) (fun hc => ?_)
  · replace h := (if_pos hc).symm.trans h
    refine jj_lv (lv' := [(0, .int (iI x0)), (1, .int (iI 1))]) [1, 0] rfl ?_
    exact hB11 x0 1 hp0 (show (0 ≤ (1 : Int) ∧ (1 : Int) ≤ 1) from by decide) h
  · replace h := (if_neg (Int.not_lt.mpr hc)).symm.trans h
    refine jj_iconst hC dJ6_stringSize_0f7a4_6 ?_
    refine jj_istore_n (lv' := [(1, .int (iI 0)), (0, .int (iI x0))]) hC dJ6_stringSize_0f7a4_7 rfl (by decide) rfl ?_
    refine jj_iload_n hC dJ6_stringSize_0f7a4_8 rfl 1 rfl ?_
    refine jg_ineg hC dJ6_stringSize_0f7a4_9 ?_
    refine jj_istore_n (lv' := [(0, .int (iI (w32 (-x0)))), (1, .int (iI 0))]) hC dJ6_stringSize_0f7a4_10 rfl (by decide) rfl ?_
    refine jj_lv (lv' := [(0, .int (iI (w32 (-x0)))), (1, .int (iI 0))]) [0, 1] rfl ?_
    exact hB11 (w32 (-x0)) 0 (w32_r _) (show (0 ≤ (0 : Int) ∧ (0 : Int) ≤ 1) from by decide) h
def fJ8_newLength_cabcc (ad S Ln : Nat → Nat) (R : gR) (M : gM) (x0 : Int) (x1 : Int) (x2 : Int) : Option Int :=
  if (w32 (x0 + (i_max x1 x2))) ≤ 0 then (none) else (if 2147483639 < (w32 (x0 + (i_max x1 x2))) then (none) else (some (w32 (x0 + (i_max x1 x2)))))
theorem xJ8_newLength_cabcc {l : Launch} {G : gE} {sz : Nat} {S Ln : Nat → Nat} {M : gM} {R : gR} (hl : l.stackTraces = false) {x0 : Int} (hp0 : (-2147483648 ≤ x0 ∧ x0 < 2147483648)) {x1 : Int} (hp1 : (-2147483648 ≤ x1 ∧ x1 < 2147483648)) {x2 : Int} (hp2 : (-2147483648 ≤ x2 ∧ x2 < 2147483648)) {r : Int} (h : fJ8_newLength_cabcc G.2.2.2.2 S Ln R M x0 x1 x2 = some r) : Ct l G yJ8_newLength_cabcc cJ8_newLength_cabcc 4 (some .int) 1 0 0 [.int (iI x0), .int (iI x1), .int (iI x2)] sz S Ln M R (poI r sz S Ln (M) R) noX := by
  refine jj_start (own := RJ8) (lv0 := [(0, .int (iI x0)), (1, .int (iI x1)), (2, .int (iI x2))]) hl (by decide +kernel) rfl rfl (c_le rfl) (fun C hCl hC => ?_)
  unfold fJ8_newLength_cabcc at h
  refine jj_iload_n hC dJ8_newLength_cabcc_0 rfl 0 rfl ?_
  refine jj_iload_n hC dJ8_newLength_cabcc_1 rfl 1 rfl ?_
  refine jj_iload_n hC dJ8_newLength_cabcc_2 rfl 2 rfl ?_
  refine jj_mmax hC hp1 hp2 wd210 wd211 wd47 wd212 (c_le rfl) (c_le rfl) (c_le rfl) (c_le rfl) dJ8_newLength_cabcc_3 ?_
  refine jg_iadd hC dJ8_newLength_cabcc_6 ?_
  refine jj_istore_n (lv' := [(3, .int (iI (w32 (x0 + (i_max x1 x2))))), (0, .int (iI x0)), (1, .int (iI x1)), (2, .int (iI x2))]) hC dJ8_newLength_cabcc_7 rfl (by decide) rfl ?_
  refine jj_iconst hC dJ8_newLength_cabcc_8 ?_
  refine jj_iload_n hC dJ8_newLength_cabcc_9 rfl 0 rfl ?_
  refine jj_icmp_ge (tgt := 21) hC dJ8_newLength_cabcc_10 rfl (show (-2147483648 ≤ (0 : Int) ∧ (0 : Int) < 2147483648) from by decide) (w32_r _) (fun hc => ?_) (fun hc => ?_)
  · replace h := (if_pos hc).symm.trans h
    cases h
  · replace h := (if_neg (Int.not_le.mpr hc)).symm.trans h
    refine jj_iload_n hC dJ8_newLength_cabcc_13 rfl 0 rfl ?_
    refine jj_ldcI (v := 2147483639) hC rfl wd213 dJ8_newLength_cabcc_14 ?_
    refine jj_icmp_gt (tgt := 21) hC dJ8_newLength_cabcc_16 rfl (w32_r _) (show (-2147483648 ≤ (2147483639 : Int) ∧ (2147483639 : Int) < 2147483648) from by decide) (fun hc => ?_) (fun hc => ?_)
    · replace h := (if_pos hc).symm.trans h
      cases h
    · replace h := (if_neg (Int.not_lt.mpr hc)).symm.trans h
      refine jj_iload_n hC dJ8_newLength_cabcc_19 rfl 0 rfl ?_
      cases h
      exact jj_iret hC (c_le rfl) (c_le rfl) dJ8_newLength_cabcc_20 ⟨rfl, (w32_r _), rfl, rfl, rfl, rfl, rfl⟩
def fJ5_newCapacity_0f7a4 (ad S Ln : Nat → Nat) (R : gR) (M : gM) (a0 : Nat) (x1 : Int) : Option Int :=
  rf S (R a0 0) 23 fun b1 => bd (fJ8_newLength_cabcc ad S Ln R M (Ln b1 : Int) (w32 ((i_shl x1 (M a0 1)) - (Ln b1 : Int))) (w32 ((Ln b1 : Int) + (i_shl 2 (M a0 1))))) fun q5 => if ¬ q5 = 2147483647 then (some (i_shr q5 (M a0 1))) else (none)
theorem xJ5_newCapacity_0f7a4 {l : Launch} {G : gE} {sz : Nat} {S Ln : Nat → Nat} {M : gM} {R : gR} (hl : l.stackTraces = false) {a0 : Nat} (hs0 : S a0 = 2) {x1 : Int} (hp1 : (-2147483648 ≤ x1 ∧ x1 < 2147483648)) {r : Int} (h : fJ5_newCapacity_0f7a4 G.2.2.2.2 S Ln R M a0 x1 = some r) : Ct l G yJ5_newCapacity_0f7a4 cJ5_newCapacity_0f7a4 6 (some .int) 8 0 0 [.ref a0, .int (iI x1)] sz S Ln M R (poI r sz S Ln (M) R) noX := by
  refine jj_start (own := RJ5) (lv0 := [(0, .ref a0), (1, .int (iI x1))]) hl (by decide +kernel) rfl rfl (c_le rfl) (fun C hCl hC => ?_)
  unfold fJ5_newCapacity_0f7a4 at h
  refine jj_aload_n hC dJ5_newCapacity_0f7a4_0 rfl 0 rfl ?_
  obtain ⟨b1, hb1, hs1, h⟩ := rf_e h
  refine jg_R hC kfJ4 0 rfl hs0 (by decide) wd174 rfl hb1 dJ5_newCapacity_0f7a4_1 ?_
  refine jj_alen hC hs1 3 (by decide) rfl dJ5_newCapacity_0f7a4_4 (fun hr2 => ?_)
  refine jj_istore_n (lv' := [(2, .int (iI (Ln b1 : Int))), (0, .ref a0), (1, .int (iI x1))]) hC dJ5_newCapacity_0f7a4_5 rfl (by decide) rfl ?_
  refine jj_iload_n hC dJ5_newCapacity_0f7a4_6 rfl 2 rfl ?_
  refine jj_aload_n hC dJ5_newCapacity_0f7a4_7 rfl 1 rfl ?_
  refine jg_B hC kfJ4 1 rfl hs0 (by decide) wd175 rfl dJ5_newCapacity_0f7a4_8 (fun hr3 => ?_)
  refine jg_ishl hC dJ5_newCapacity_0f7a4_11 ?_
  refine jj_istore_n (lv' := [(3, .int (iI (i_shl x1 (M a0 1)))), (2, .int (iI (Ln b1 : Int))), (0, .ref a0), (1, .int (iI x1))]) hC dJ5_newCapacity_0f7a4_12 rfl (by decide) rfl ?_
  refine jj_iload_n hC dJ5_newCapacity_0f7a4_13 rfl 0 rfl ?_
  refine jj_iload_n hC dJ5_newCapacity_0f7a4_14 rfl 1 rfl ?_
  refine jg_isub hC dJ5_newCapacity_0f7a4_15 ?_
  refine jj_istore (lv' := [(4, .int (iI (w32 ((i_shl x1 (M a0 1)) - (Ln b1 : Int))))), (3, .int (iI (i_shl x1 (M a0 1)))), (2, .int (iI (Ln b1 : Int))), (0, .ref a0), (1, .int (iI x1))]) hC dJ5_newCapacity_0f7a4_16 (by decide) rfl ?_
  refine jj_iload_n hC dJ5_newCapacity_0f7a4_18 rfl 2 rfl ?_
  refine jj_iload hC dJ5_newCapacity_0f7a4_19 0 rfl ?_
  refine jj_iload_n hC dJ5_newCapacity_0f7a4_21 rfl 2 rfl ?_
  refine jj_iconst hC dJ5_newCapacity_0f7a4_22 ?_
  refine jj_aload_n hC dJ5_newCapacity_0f7a4_23 rfl 3 rfl ?_
  refine jg_B hC kfJ4 1 rfl hs0 (by decide) wd175 rfl dJ5_newCapacity_0f7a4_24 (fun hr4 => ?_)
  refine jg_ishl hC dJ5_newCapacity_0f7a4_27 ?_
  refine jg_iadd hC dJ5_newCapacity_0f7a4_28 ?_
  obtain ⟨q5, hq5, h⟩ := bd_e h
  refine jj_invS hC mvJ8_newLength_cabcc wd208 wd207 (xJ8_newLength_cabcc (OKC.tr hC) (r_ln hr2) (w32_r _) (w32_r _) hq5) rfl rfl (c_le rfl) (c_le rfl) (c_le rfl) (c_le rfl) dJ5_newCapacity_0f7a4_29 noXk (po_kI (fun hr5 => ?_))
  refine jj_istore (lv' := [(5, .int (iI q5)), (4, .int (iI (w32 ((i_shl x1 (M a0 1)) - (Ln b1 : Int))))), (3, .int (iI (i_shl x1 (M a0 1)))), (2, .int (iI (Ln b1 : Int))), (0, .ref a0), (1, .int (iI x1))]) hC dJ5_newCapacity_0f7a4_32 (by decide) rfl ?_
  refine jj_iload hC dJ5_newCapacity_0f7a4_34 0 rfl ?_
  refine jj_ldcI (v := 2147483647) hC rfl wd217 dJ5_newCapacity_0f7a4_36 ?_
  refine jj_icmp_ne (tgt := 51) hC dJ5_newCapacity_0f7a4_38 rfl hr5 (show (-2147483648 ≤ (2147483647 : Int) ∧ (2147483647 : Int) < 2147483648) from by decide) (fun hc => ?_) (fun hc => ?_)
  · replace h := (if_pos hc).symm.trans h
    refine jj_iload hC dJ5_newCapacity_0f7a4_51 0 rfl ?_
    refine jj_aload_n hC dJ5_newCapacity_0f7a4_53 rfl 4 rfl ?_
    refine jg_B hC kfJ4 1 rfl hs0 (by decide) wd175 rfl dJ5_newCapacity_0f7a4_54 (fun hr6 => ?_)
    refine jg_ishr hC dJ5_newCapacity_0f7a4_57 ?_
    cases h
    exact jj_iret hC (c_le rfl) (c_le rfl) dJ5_newCapacity_0f7a4_58 ⟨rfl, (iI_rng _), rfl, rfl, rfl, rfl, rfl⟩
  · replace h := (if_neg (fun k => k hc)).symm.trans h
    cases h
def fJ7_copyOf_9075b (ad : Nat → Nat) (sz : Nat) (S Ln : Nat → Nat) (R : gR) (M : gM) (x0 : Nat) (x1 : Int) : Option (Nat × Nat × (Nat → Nat) × (Nat → Nat) × gM × gR) :=
  if ¬ x1 = (Ln x0 : Int) then (gd ((0 : Int) ≤ x1 ∧ x1 ≤ 256) (nam (ua S sz 23) fun S2 => nam (ua Ln sz x1.toNat) fun Ln2 => nam (ua M sz (fun _ => 0)) fun M2 => nam (ua R sz (fun _ => none)) fun R2 => gd ((0 : Int) ≤ 0 ∧ (0 : Int) ≤ 0 ∧ (0 : Int) ≤ (i_min (Ln2 x0 : Int) x1) ∧ 0 + (i_min (Ln2 x0 : Int) x1) ≤ (Ln2 x0 : Int) ∧ 0 + (i_min (Ln2 x0 : Int) x1) ≤ (Ln2 sz : Int)) (nam (i_cpy M2 x0 sz 0 0 (i_min (Ln2 x0 : Int) x1)) fun M4 => some ((sz, sz + 1, S2, Ln2, M4, R2))))) else (none)
theorem xJ7_copyOf_9075b {l : Launch} {G : gE} {sz : Nat} {S Ln : Nat → Nat} {M : gM} {R : gR} (hl : l.stackTraces = false) {x0 : Nat} (hp0 : S x0 = 23) {x1 : Int} (hp1 : (-2147483648 ≤ x1 ∧ x1 < 2147483648)) {r : Nat × Nat × (Nat → Nat) × (Nat → Nat) × gM × gR} (h : fJ7_copyOf_9075b G.2.2.2.2 sz S Ln R M x0 x1 = some r) : Ct l G yJ7_copyOf_9075b cJ7_copyOf_9075b 3 (some (.array .byte)) 1 1 256 [.ref x0, .int (iI x1)] sz S Ln M R (poX (poA 23 r.1 (r.2.1) (r.2.2.1) (r.2.2.2.1) (r.2.2.2.2.1) (r.2.2.2.2.2)) (Ext sz S Ln (r.2.1) (r.2.2.1) (r.2.2.2.1))) noX := by
  refine jj_start (own := RJ7) (lv0 := [(0, .ref x0), (1, .int (iI x1))]) hl (by decide +kernel) rfl rfl (c_le rfl) (fun C hCl hC => ?_)
  unfold fJ7_copyOf_9075b at h
  refine jj_iload_n hC dJ7_copyOf_9075b_0 rfl 1 rfl ?_
  refine jj_aload_n hC dJ7_copyOf_9075b_1 rfl 0 rfl ?_
  refine jj_alen hC hp0 3 (by decide) rfl dJ7_copyOf_9075b_2 (fun hr1 => ?_)
  refine jj_icmp_ne (tgt := 14) hC dJ7_copyOf_9075b_3 rfl hp1 (r_ln hr1) (fun hc => ?_) (fun hc => ?_)
  · replace h := (if_pos hc).symm.trans h
    refine jj_iload_n hC dJ7_copyOf_9075b_14 rfl 1 rfl ?_
    obtain ⟨⟨ha2, hb2⟩, h⟩ := gd_e h
    obtain ⟨S2, hS92, h⟩ := nam_e h
    obtain ⟨Ln2, hLn92, h⟩ := nam_e h
    obtain ⟨M2, hM92, h⟩ := nam_e h
    obtain ⟨R2, hR92, h⟩ := nam_e h
    refine jj_newB hC wd142 ha2 hb2 (by omega) (by omega) dJ7_copyOf_9075b_15 (fun hx2 => ?_)
    rw [hS92, hLn92] at hx2
    refine jj_mem hS92 hLn92 hM92 hR92 ?_
    refine jj_widen (k' := 1) (n' := 256) (by omega) (by omega) ?_
    refine jj_astore_n (lv' := [(2, .ref sz), (0, .ref x0), (1, .int (iI x1))]) hC dJ7_copyOf_9075b_17 rfl (by decide) rfl ?_
    refine jj_aload_n hC dJ7_copyOf_9075b_18 rfl 1 rfl ?_
    refine jj_iconst hC dJ7_copyOf_9075b_19 ?_
    refine jj_aload_n hC dJ7_copyOf_9075b_20 rfl 0 rfl ?_
    refine jj_iconst hC dJ7_copyOf_9075b_21 ?_
    refine jj_aload_n hC dJ7_copyOf_9075b_22 rfl 1 rfl ?_
    refine jj_alen hC (ext_s hx2 hp0 (by decide)) 3 (by decide) rfl dJ7_copyOf_9075b_23 (fun hr3 => ?_)
    refine jj_iload_n hC dJ7_copyOf_9075b_24 rfl 2 rfl ?_
    refine jj_mmin hC (r_ln hr3) hp1 wd228 wd229 wd47 wd230 (c_le rfl) (c_le rfl) (by omega) (by omega) dJ7_copyOf_9075b_25 ?_
    obtain ⟨⟨ha4, hb4, hc4, hd4, he4⟩, h⟩ := gd_e h
    obtain ⟨M4, hM4, h⟩ := nam_e h
    refine jj_copyB hC (ext_s hx2 hp0 (by decide)) (show S2 sz = 23 by rw [← hS92]; exact ua_s) ha4 hb4 hc4 hd4 he4 wd231 wd233 wd232 wd45 (c_le rfl) (c_le rfl) dJ7_copyOf_9075b_28 (jj_M hM4 ?_)
    refine jj_aload_n hC dJ7_copyOf_9075b_31 rfl 0 rfl ?_
    cases h
    exact jj_aret hC rfl (Or.inr ⟨_, rfl⟩) (by omega) (by omega) dJ7_copyOf_9075b_32 ⟨⟨rfl, (show S2 sz = 23 by rw [← hS92]; exact ua_s), rfl, rfl, rfl, rfl, rfl⟩, hx2⟩
  · replace h := (if_neg (fun k => k hc)).symm.trans h
    cases h
def fJ5_ensureCapacityInternal_d00df (ad : Nat → Nat) (sz : Nat) (S Ln : Nat → Nat) (R : gR) (M : gM) (a0 : Nat) (x1 : Int) : Option (Nat × (Nat → Nat) × (Nat → Nat) × gM × gR) :=
  rf S (R a0 0) 23 fun b1 => if (w32 (x1 - (i_shr (Ln b1 : Int) (M a0 1)))) ≤ 0 then (some ((sz, S, Ln, M, R))) else (rf S (R a0 0) 23 fun b4 => bd (fJ5_newCapacity_0f7a4 ad S Ln R M a0 x1) fun q5 => bd (fJ7_copyOf_9075b ad sz S Ln R M b4 (i_shl q5 (M a0 1))) fun q7 => nam (wrR q7.2.2.2.2.2 a0 0 (some q7.1)) fun R8 => some ((q7.2.1, q7.2.2.1, q7.2.2.2.1, q7.2.2.2.2.1, R8)))
theorem xJ5_ensureCapacityInternal_d00df {l : Launch} {G : gE} {sz : Nat} {S Ln : Nat → Nat} {M : gM} {R : gR} (hl : l.stackTraces = false) {a0 : Nat} (hs0 : S a0 = 2) {x1 : Int} (hp1 : (-2147483648 ≤ x1 ∧ x1 < 2147483648)) {r : Nat × (Nat → Nat) × (Nat → Nat) × gM × gR} (h : fJ5_ensureCapacityInternal_d00df G.2.2.2.2 sz S Ln R M a0 x1 = some r) : Ct l G yJ5_ensureCapacityInternal_d00df cJ5_ensureCapacityInternal_d00df 3 none 9 1 256 [.ref a0, .int (iI x1)] sz S Ln M R (poX (poV (r.1) (r.2.1) (r.2.2.1) (r.2.2.2.1) (r.2.2.2.2)) (Ext sz S Ln (r.1) (r.2.1) (r.2.2.1))) noX := by
  refine jj_start (own := RJ5) (lv0 := [(0, .ref a0), (1, .int (iI x1))]) hl (by decide +kernel) rfl rfl (c_le rfl) (fun C hCl hC => ?_)
  unfold fJ5_ensureCapacityInternal_d00df at h
  refine jj_aload_n hC dJ5_ensureCapacityInternal_d00df_0 rfl 0 rfl ?_
  obtain ⟨b1, hb1, hs1, h⟩ := rf_e h
  refine jg_R hC kfJ4 0 rfl hs0 (by decide) wd174 rfl hb1 dJ5_ensureCapacityInternal_d00df_1 ?_
  refine jj_alen hC hs1 3 (by decide) rfl dJ5_ensureCapacityInternal_d00df_4 (fun hr2 => ?_)
  refine jj_aload_n hC dJ5_ensureCapacityInternal_d00df_5 rfl 0 rfl ?_
  refine jg_B hC kfJ4 1 rfl hs0 (by decide) wd175 rfl dJ5_ensureCapacityInternal_d00df_6 (fun hr3 => ?_)
  refine jg_ishr hC dJ5_ensureCapacityInternal_d00df_9 ?_
  refine jj_istore_n (lv' := [(2, .int (iI (i_shr (Ln b1 : Int) (M a0 1)))), (0, .ref a0), (1, .int (iI x1))]) hC dJ5_ensureCapacityInternal_d00df_10 rfl (by decide) rfl ?_
  refine jj_iload_n hC dJ5_ensureCapacityInternal_d00df_11 rfl 2 rfl ?_
  refine jj_iload_n hC dJ5_ensureCapacityInternal_d00df_12 rfl 0 rfl ?_
  refine jg_isub hC dJ5_ensureCapacityInternal_d00df_13 ?_
  refine jj_if_le (tgt := 38) hC dJ5_ensureCapacityInternal_d00df_14 rfl (w32_r _) (fun hc => ?_) (fun hc => ?_)
  · replace h := (if_pos hc).symm.trans h
    cases h
    exact jj_vret hC (by omega) (by omega) dJ5_ensureCapacityInternal_d00df_38 ⟨⟨rfl, trivial, rfl, rfl, rfl, rfl, rfl⟩, ext_r⟩
  · replace h := (if_neg (Int.not_le.mpr hc)).symm.trans h
    refine jj_aload_n hC dJ5_ensureCapacityInternal_d00df_17 rfl 1 rfl ?_
    refine jj_aload_n hC dJ5_ensureCapacityInternal_d00df_18 rfl 1 rfl ?_
    obtain ⟨b4, hb4, hs4, h⟩ := rf_e h
    refine jg_R hC kfJ4 0 rfl hs0 (by decide) wd174 rfl hb4 dJ5_ensureCapacityInternal_d00df_19 ?_
    refine jj_aload_n hC dJ5_ensureCapacityInternal_d00df_22 rfl 1 rfl ?_
    refine jj_iload_n hC dJ5_ensureCapacityInternal_d00df_23 rfl 2 rfl ?_
    obtain ⟨q5, hq5, h⟩ := bd_e h
    refine jj_invVC hC mvJ5_newCapacity_0f7a4 wd205 (fun _ _ hw hn9 => jj_selP hw wd237 rfl (by decide +kernel) (by decide +kernel) (va_Nw.use rfl (hn9 _ wd204)) wd205) wd203 hs0 (by decide) rfl (xJ5_newCapacity_0f7a4 (OKC.tr hC) hs0 hp1 hq5) rfl rfl (c_le rfl) (c_le rfl) (by omega) (by omega) dJ5_ensureCapacityInternal_d00df_24 noXk (po_kI (fun hr5 => ?_))
    refine jj_aload_n hC dJ5_ensureCapacityInternal_d00df_27 rfl 1 rfl ?_
    refine jg_B hC kfJ4 1 rfl hs0 (by decide) wd175 rfl dJ5_ensureCapacityInternal_d00df_28 (fun hr6 => ?_)
    refine jg_ishl hC dJ5_ensureCapacityInternal_d00df_31 ?_
    obtain ⟨q7, hq7, h⟩ := bd_e h
    refine jj_invS hC mvJ7_copyOf_9075b wd219 wd218 (xJ7_copyOf_9075b (OKC.tr hC) hs4 (iI_rng _) hq7) rfl rfl (c_le rfl) (c_le rfl) (by omega) (by omega) dJ5_ensureCapacityInternal_d00df_32 noXk (poX_k (fun hx7 => po_kA (fun hr7 => ?_)))
    refine jj_widen (k' := 1) (n' := 256) (by omega) (by omega) ?_
    obtain ⟨R8, hR98, h⟩ := nam_e h
    refine jj_putRq hC kfJ4 0 rfl (ext_s hx7 hs0 (by decide)) rfl (by decide) wd174 rfl rfl rfl rfl rfl dJ5_ensureCapacityInternal_d00df_35 (jj_R hR98 ?_)
    cases h
    exact jj_vret hC (by omega) (by omega) dJ5_ensureCapacityInternal_d00df_38 ⟨⟨rfl, trivial, rfl, rfl, rfl, rfl, rfl⟩, hx7⟩
def fJ5_isLatin1_aae02 (ad S Ln : Nat → Nat) (R : gR) (M : gM) (a0 : Nat) : Option Int :=
  if (1 : Int) = 0 then (some (0)) else (if ¬ (M a0 1) = 0 then (some (0)) else (some (1)))
theorem xJ5_isLatin1_aae02 {l : Launch} {G : gE} {sz : Nat} {S Ln : Nat → Nat} {M : gM} {R : gR} (hl : l.stackTraces = false) {a0 : Nat} (hs0 : S a0 = 2) {r : Int} (h : fJ5_isLatin1_aae02 G.2.2.2.2 S Ln R M a0 = some r) : Ct l G yJ5_isLatin1_aae02 cJ5_isLatin1_aae02 1 (some .boolean) 1 0 0 [.ref a0] sz S Ln M R (poZ r sz S Ln (M) R) noX := by
  refine jj_start (own := RJ5) (lv0 := [(0, .ref a0)]) hl (by decide +kernel) rfl rfl (c_le rfl) (fun C hCl hC => ?_)
  unfold fJ5_isLatin1_aae02 at h
  refine jj_getsV (v := .int (iI 1)) hC 0 rfl wd165 dJ5_isLatin1_aae02_0 ?_
  refine jj_if_eq (tgt := 17) hC dJ5_isLatin1_aae02_3 rfl (show (-2147483648 ≤ (1 : Int) ∧ (1 : Int) < 2147483648) from by decide) (fun hc => ?_) (fun hc => ?_)
  · replace h := (if_pos hc).symm.trans h
    refine jj_iconst hC dJ5_isLatin1_aae02_17 ?_
    cases h
    exact jj_zret hC (show (0 ≤ (0 : Int) ∧ (0 : Int) ≤ 1) from by decide) (c_le rfl) (c_le rfl) dJ5_isLatin1_aae02_18 ⟨rfl, (show (0 ≤ (0 : Int) ∧ (0 : Int) ≤ 1) from by decide), rfl, rfl, rfl, rfl, rfl⟩
  · replace h := (if_neg (hc)).symm.trans h
    refine jj_aload_n hC dJ5_isLatin1_aae02_6 rfl 0 rfl ?_
    refine jg_B hC kfJ4 1 rfl hs0 (by decide) wd175 rfl dJ5_isLatin1_aae02_7 (fun hr2 => ?_)
    refine jj_if_ne (tgt := 17) hC dJ5_isLatin1_aae02_10 rfl (r_b hr2) (fun hc => ?_) (fun hc => ?_)
    · replace h := (if_pos hc).symm.trans h
      refine jj_iconst hC dJ5_isLatin1_aae02_17 ?_
      cases h
      exact jj_zret hC (show (0 ≤ (0 : Int) ∧ (0 : Int) ≤ 1) from by decide) (c_le rfl) (c_le rfl) dJ5_isLatin1_aae02_18 ⟨rfl, (show (0 ≤ (0 : Int) ∧ (0 : Int) ≤ 1) from by decide), rfl, rfl, rfl, rfl, rfl⟩
    · replace h := (if_neg (fun k => k hc)).symm.trans h
      refine jj_iconst hC dJ5_isLatin1_aae02_13 ?_
      refine jj_goto (tgt := 18) hC dJ5_isLatin1_aae02_14 rfl ?_
      cases h
      exact jj_zret hC (show (0 ≤ (1 : Int) ∧ (1 : Int) ≤ 1) from by decide) (c_le rfl) (c_le rfl) dJ5_isLatin1_aae02_18 ⟨rfl, (show (0 ≤ (1 : Int) ∧ (1 : Int) ≤ 1) from by decide), rfl, rfl, rfl, rfl, rfl⟩
def fJ6_getChars_ba4f3_L22 (ad S Ln : Nat → Nat) (R : gR) (l2_22 : Nat) (l6_22 : Int) (s22 : Int × Int × gM) : Option ((Int × Int × gM) ⊕ ((Int × Int × gM) ⊕ (Int × gM))) :=
  if (-100) < s22.1 then (some (.inr (.inl (s22.1, s22.2.1, s22.2.2)))) else (gd ((0 : Int) < 100) (rf S (some (ad 10)) 28 fun b2 => gd ((0 : Int) ≤ (w32 ((w32 ((Int.tdiv s22.1 100) * 100)) - s22.1)) ∧ (w32 ((w32 ((Int.tdiv s22.1 100) * 100)) - s22.1)) < (Ln b2 : Int)) (gd ((0 : Int) ≤ (w32 (s22.2.1 + (-1))) ∧ (w32 (s22.2.1 + (-1))) < (Ln l2_22 : Int)) (nam (wr s22.2.2 l2_22 (w32 (s22.2.1 + (-1))) (s22.2.2 b2 (w32 ((w32 ((Int.tdiv s22.1 100) * 100)) - s22.1)))) fun M4 => rf S (some (ad 11)) 28 fun b5 => gd ((0 : Int) ≤ (w32 ((w32 ((Int.tdiv s22.1 100) * 100)) - s22.1)) ∧ (w32 ((w32 ((Int.tdiv s22.1 100) * 100)) - s22.1)) < (Ln b5 : Int)) (gd ((0 : Int) ≤ (w32 (w32 (s22.2.1 + (-1)) + (-1))) ∧ (w32 (w32 (s22.2.1 + (-1)) + (-1))) < (Ln l2_22 : Int)) (nam (wr M4 l2_22 (w32 (w32 (s22.2.1 + (-1)) + (-1))) (M4 b5 (w32 ((w32 ((Int.tdiv s22.1 100) * 100)) - s22.1)))) fun M7 => some (.inl (Int.tdiv s22.1 100, w32 (w32 (s22.2.1 + (-1)) + (-1)), M7))))))))
def fJ6_getChars_ba4f3_B104 (ad S Ln : Nat → Nat) (R : gR) (M104 : gM) (l2_104 : Nat) (l5_104 : Int) (l6_104 : Int) : Option (Int × gM) :=
  if l6_104 = 0 then (some ((l5_104, M104))) else (gd ((0 : Int) ≤ (w32 (l5_104 + (-1))) ∧ (w32 (l5_104 + (-1))) < (Ln l2_104 : Int)) (nam (wr M104 l2_104 (w32 (l5_104 + (-1))) 45) fun M12 => some ((w32 (l5_104 + (-1)), M12))))
def fJ6_getChars_ba4f3_B12 (ad S Ln : Nat → Nat) (R : gR) (M12 : gM) (l0_12 : Int) (l2_12 : Nat) (l5_12 : Int) (s0_12 : Int) : Option (Int × gM) :=
  if ¬ s0_12 = 0 then (bd (lp (fJ6_getChars_ba4f3_L22 ad S Ln R l2_12 s0_12) FU (l0_12, l5_12, M12)) fun q16 => Sum.elim (fun e22_8 => rf S (some (ad 10)) 28 fun b9 => gd ((0 : Int) ≤ (w32 (-e22_8.1)) ∧ (w32 (-e22_8.1)) < (Ln b9 : Int)) (gd ((0 : Int) ≤ (w32 (e22_8.2.1 + (-1))) ∧ (w32 (e22_8.2.1 + (-1))) < (Ln l2_12 : Int)) (nam (wr e22_8.2.2 l2_12 (w32 (e22_8.2.1 + (-1))) (e22_8.2.2 b9 (w32 (-e22_8.1)))) fun M11 => if (-9) ≤ e22_8.1 then (fJ6_getChars_ba4f3_B104 ad S Ln R M11 l2_12 (w32 (e22_8.2.1 + (-1))) s0_12) else (rf S (some (ad 11)) 28 fun b13 => gd ((0 : Int) ≤ (w32 (-e22_8.1)) ∧ (w32 (-e22_8.1)) < (Ln b13 : Int)) (gd ((0 : Int) ≤ (w32 (w32 (e22_8.2.1 + (-1)) + (-1))) ∧ (w32 (w32 (e22_8.2.1 + (-1)) + (-1))) < (Ln l2_12 : Int)) (nam (wr M11 l2_12 (w32 (w32 (e22_8.2.1 + (-1)) + (-1))) (M11 b13 (w32 (-e22_8.1)))) fun M15 => fJ6_getChars_ba4f3_B104 ad S Ln R M15 l2_12 (w32 (w32 (e22_8.2.1 + (-1)) + (-1))) s0_12)))))) (fun c16 => some c16) q16) else (bd (lp (fJ6_getChars_ba4f3_L22 ad S Ln R l2_12 s0_12) FU (w32 (-l0_12), l5_12, M12)) fun q24 => Sum.elim (fun e22_17 => rf S (some (ad 10)) 28 fun b18 => gd ((0 : Int) ≤ (w32 (-e22_17.1)) ∧ (w32 (-e22_17.1)) < (Ln b18 : Int)) (gd ((0 : Int) ≤ (w32 (e22_17.2.1 + (-1))) ∧ (w32 (e22_17.2.1 + (-1))) < (Ln l2_12 : Int)) (nam (wr e22_17.2.2 l2_12 (w32 (e22_17.2.1 + (-1))) (e22_17.2.2 b18 (w32 (-e22_17.1)))) fun M20 => if (-9) ≤ e22_17.1 then (fJ6_getChars_ba4f3_B104 ad S Ln R M20 l2_12 (w32 (e22_17.2.1 + (-1))) s0_12) else (rf S (some (ad 11)) 28 fun b21 => gd ((0 : Int) ≤ (w32 (-e22_17.1)) ∧ (w32 (-e22_17.1)) < (Ln b21 : Int)) (gd ((0 : Int) ≤ (w32 (w32 (e22_17.2.1 + (-1)) + (-1))) ∧ (w32 (w32 (e22_17.2.1 + (-1)) + (-1))) < (Ln l2_12 : Int)) (nam (wr M20 l2_12 (w32 (w32 (e22_17.2.1 + (-1)) + (-1))) (M20 b21 (w32 (-e22_17.1)))) fun M23 => fJ6_getChars_ba4f3_B104 ad S Ln R M23 l2_12 (w32 (w32 (e22_17.2.1 + (-1)) + (-1))) s0_12)))))) (fun c24 => some c24) q24)
def fJ6_getChars_ba4f3 (ad S Ln : Nat → Nat) (R : gR) (M : gM) (x0 : Int) (x1 : Int) (x2 : Nat) : Option (Int × gM) :=
  if 0 ≤ x0 then (fJ6_getChars_ba4f3_B12 ad S Ln R M x0 x2 x1 0) else (fJ6_getChars_ba4f3_B12 ad S Ln R M x0 x2 x1 1)
theorem xJ6_getChars_ba4f3 {l : Launch} {G : gE} {sz : Nat} {S Ln : Nat → Nat} {M : gM} {R : gR} (hl : l.stackTraces = false) {x0 : Int} (hp0 : (-2147483648 ≤ x0 ∧ x0 < 2147483648)) {x1 : Int} (hp1 : (-2147483648 ≤ x1 ∧ x1 < 2147483648)) {x2 : Nat} (hp2 : S x2 = 23) {r : Int × gM} (h : fJ6_getChars_ba4f3 G.2.2.2.2 S Ln R M x0 x1 x2 = some r) : Ct l G yJ6_getChars_ba4f3 cJ6_getChars_ba4f3 7 (some .int) 1 0 0 [.int (iI x0), .int (iI x1), .ref x2] sz S Ln M R (poI r.1 sz S Ln (r.2) R) noX := by
  refine jj_start (own := RJ6) (lv0 := [(0, .int (iI x0)), (1, .int (iI x1)), (2, .ref x2)]) hl (by decide +kernel) rfl rfl (c_le rfl) (fun C hCl hC => ?_)
  have hL22 : ∀ (l2_22 : Nat) (l6_22 : Int), S l2_22 = 23 → (0 ≤ l6_22 ∧ l6_22 ≤ 1) → ∀ (n : Nat) (s22 : Int × Int × gM) (q : (Int × Int × gM) ⊕ (Int × gM)), lp (fJ6_getChars_ba4f3_L22 G.2.2.2.2 S Ln R l2_22 l6_22) n s22 = some q → (-2147483648 ≤ s22.1 ∧ s22.1 < 2147483648) ∧ (-2147483648 ≤ s22.2.1 ∧ s22.2.1 < 2147483648) → (∀ e22, q = .inl e22 → (-2147483648 ≤ e22.1 ∧ e22.1 < 2147483648) ∧ (-2147483648 ≤ e22.2.1 ∧ e22.2.1 < 2147483648) → JJ G C 0 0 sz S Ln e22.2.2 R 72 [(0, .int (iI e22.1)), (2, .ref l2_22), (5, .int (iI e22.2.1)), (6, .int (iI l6_22))] []) → (∀ c, q = .inr c → c = r) → JJ G C 0 0 sz S Ln s22.2.2 R 22 [(0, .int (iI s22.1)), (2, .ref l2_22), (5, .int (iI s22.2.1)), (6, .int (iI l6_22))] [] := by
    intro l2_22 l6_22 hl2_22 hl6_22
    refine lp_ind ?_
    intro s22 r22 hI22 h hJ22 hE22 hR22
    obtain ⟨hs22_0, hs22_1⟩ := hI22
    unfold fJ6_getChars_ba4f3_L22 at h
    refine jj_iload_n hC dJ6_getChars_ba4f3_22 rfl 0 rfl ?_
    refine jj_bipush hC dJ6_getChars_ba4f3_23 (by decide) ?_
    refine jj_icmp_gt (tgt := 72) hC dJ6_getChars_ba4f3_25 rfl hs22_0 (show (-2147483648 ≤ (-100 : Int) ∧ (-100 : Int) < 2147483648) from by decide) (fun hc => ?_) (fun hc => ?_)
    · replace h := (if_pos hc).symm.trans h
      refine jj_lv (lv' := [(0, .int (iI s22.1)), (2, .ref l2_22), (5, .int (iI s22.2.1)), (6, .int (iI l6_22))]) [0, 1, 2, 3] rfl ?_
      exact hE22 _ (Option.some.inj h).symm ⟨hs22_0, hs22_1⟩
    · replace h := (if_neg (Int.not_lt.mpr hc)).symm.trans h
      refine jj_iload_n hC dJ6_getChars_ba4f3_28 rfl 0 rfl ?_
      refine jj_bipush hC dJ6_getChars_ba4f3_29 (by decide) ?_
      obtain ⟨hg1, h⟩ := gd_e h
      refine jj_idiv hC dJ6_getChars_ba4f3_31 hs22_0 (show (-2147483648 ≤ (100 : Int) ∧ (100 : Int) < 2147483648) from by decide) hg1 ?_
      refine jj_istore_n (lv' := [(3, .int (iI (Int.tdiv s22.1 100))), (0, .int (iI s22.1)), (2, .ref l2_22), (5, .int (iI s22.2.1)), (6, .int (iI l6_22))]) hC dJ6_getChars_ba4f3_32 rfl (by decide) rfl ?_
      refine jj_iload_n hC dJ6_getChars_ba4f3_33 rfl 0 rfl ?_
      refine jj_bipush hC dJ6_getChars_ba4f3_34 (by decide) ?_
      refine jg_imul hC dJ6_getChars_ba4f3_36 ?_
      refine jj_iload_n hC dJ6_getChars_ba4f3_37 rfl 1 rfl ?_
      refine jg_isub hC dJ6_getChars_ba4f3_38 ?_
      refine jj_istore (lv' := [(4, .int (iI (w32 ((w32 ((Int.tdiv s22.1 100) * 100)) - s22.1)))), (3, .int (iI (Int.tdiv s22.1 100))), (0, .int (iI s22.1)), (2, .ref l2_22), (5, .int (iI s22.2.1)), (6, .int (iI l6_22))]) hC dJ6_getChars_ba4f3_39 (by decide) rfl ?_
      refine jj_iload_n hC dJ6_getChars_ba4f3_41 rfl 1 rfl ?_
      refine jj_istore_n (lv' := [(0, .int (iI (Int.tdiv s22.1 100))), (4, .int (iI (w32 ((w32 ((Int.tdiv s22.1 100) * 100)) - s22.1)))), (3, .int (iI (Int.tdiv s22.1 100))), (2, .ref l2_22), (5, .int (iI s22.2.1)), (6, .int (iI l6_22))]) hC dJ6_getChars_ba4f3_42 rfl (by decide) rfl ?_
      refine jj_aload_n hC dJ6_getChars_ba4f3_43 rfl 3 rfl ?_
      refine jg_iinc (q := 4) (lv' := [(5, .int (iI (w32 (s22.2.1 + (-1))))), (0, .int (iI (Int.tdiv s22.1 100))), (4, .int (iI (w32 ((w32 ((Int.tdiv s22.1 100) * 100)) - s22.1)))), (3, .int (iI (Int.tdiv s22.1 100))), (2, .ref l2_22), (6, .int (iI l6_22))]) hC dJ6_getChars_ba4f3_44 rfl (by decide) rfl ?_
      refine jj_iload hC dJ6_getChars_ba4f3_47 0 rfl ?_
      obtain ⟨b2, hb2, hs2, h⟩ := rf_e h
      refine jj_getsD hC (Or.inl ⟨rfl, rfl⟩) (Option.some.inj hb2) wd321 dJ6_getChars_ba4f3_49 ?_
      refine jj_iload hC dJ6_getChars_ba4f3_52 2 rfl ?_
      obtain ⟨⟨ha3, hb3⟩, h⟩ := gd_e h
      refine jj_bald28 hC hs2 ha3 hb3 dJ6_getChars_ba4f3_54 (fun hr3 => ?_)
      obtain ⟨⟨ha4, hb4⟩, h⟩ := gd_e h
      obtain ⟨M4, hM4, h⟩ := nam_e h
      refine jj_bast hC hl2_22 ha4 hb4 hr3 dJ6_getChars_ba4f3_55 (jj_M hM4 ?_)
      refine jj_aload_n hC dJ6_getChars_ba4f3_56 rfl 4 rfl ?_
      refine jg_iinc (q := 0) (lv' := [(5, .int (iI (w32 (w32 (s22.2.1 + (-1)) + (-1))))), (0, .int (iI (Int.tdiv s22.1 100))), (4, .int (iI (w32 ((w32 ((Int.tdiv s22.1 100) * 100)) - s22.1)))), (3, .int (iI (Int.tdiv s22.1 100))), (2, .ref l2_22), (6, .int (iI l6_22))]) hC dJ6_getChars_ba4f3_57 rfl (by decide) rfl ?_
      refine jj_iload hC dJ6_getChars_ba4f3_60 0 rfl ?_
      obtain ⟨b5, hb5, hs5, h⟩ := rf_e h
      refine jj_getsD hC (Or.inr ⟨rfl, rfl⟩) (Option.some.inj hb5) wd323 dJ6_getChars_ba4f3_62 ?_
      refine jj_iload hC dJ6_getChars_ba4f3_65 2 rfl ?_
      obtain ⟨⟨ha6, hb6⟩, h⟩ := gd_e h
      refine jj_bald28 hC hs5 ha6 hb6 dJ6_getChars_ba4f3_67 (fun hr6 => ?_)
      obtain ⟨⟨ha7, hb7⟩, h⟩ := gd_e h
      obtain ⟨M7, hM7, h⟩ := nam_e h
      refine jj_bast hC hl2_22 ha7 hb7 hr6 dJ6_getChars_ba4f3_68 (jj_M hM7 ?_)
      refine jj_goto (tgt := 22) hC dJ6_getChars_ba4f3_69 rfl ?_
      refine jj_lv (lv' := [(0, .int (iI (Int.tdiv s22.1 100))), (2, .ref l2_22), (5, .int (iI (w32 (w32 (s22.2.1 + (-1)) + (-1))))), (6, .int (iI l6_22))]) [1, 4, 0, 5] rfl ?_
      exact hJ22 _ (Option.some.inj h).symm ⟨(i_tdiv_r hs22_0 hg1), (w32_r _)⟩
  have hB104 : ∀ (M104 : gM) (l2_104 : Nat) (l5_104 : Int) (l6_104 : Int), S l2_104 = 23 → (-2147483648 ≤ l5_104 ∧ l5_104 < 2147483648) → (0 ≤ l6_104 ∧ l6_104 ≤ 1) → fJ6_getChars_ba4f3_B104 G.2.2.2.2 S Ln R M104 l2_104 l5_104 l6_104 = some r → JJ G C 0 0 sz S Ln M104 R 104 [(2, .ref l2_104), (5, .int (iI l5_104)), (6, .int (iI l6_104))] [] := by
    intro M104 l2_104 l5_104 l6_104 hl2_104 hl5_104 hl6_104 h
    unfold fJ6_getChars_ba4f3_B104 at h
    refine jj_iload hC dJ6_getChars_ba4f3_104 2 rfl ?_
    refine jj_if_eq (tgt := 118) hC dJ6_getChars_ba4f3_106 rfl (r_z hl6_104) (fun hc => ?_) (fun hc => ?_)
    · replace h := (if_pos hc).symm.trans h
      refine jj_iload hC dJ6_getChars_ba4f3_118 1 rfl ?_
      cases h
      exact jj_iret hC (c_le rfl) (c_le rfl) dJ6_getChars_ba4f3_120 ⟨rfl, hl5_104, rfl, rfl, rfl, rfl, rfl⟩
    · replace h := (if_neg (hc)).symm.trans h
      refine jj_aload_n hC dJ6_getChars_ba4f3_109 rfl 0 rfl ?_
      refine jg_iinc (q := 1) (lv' := [(5, .int (iI (w32 (l5_104 + (-1))))), (2, .ref l2_104), (6, .int (iI l6_104))]) hC dJ6_getChars_ba4f3_110 rfl (by decide) rfl ?_
      refine jj_iload hC dJ6_getChars_ba4f3_113 0 rfl ?_
      refine jj_bipush hC dJ6_getChars_ba4f3_115 (by decide) ?_
      obtain ⟨⟨ha12, hb12⟩, h⟩ := gd_e h
      obtain ⟨M12, hM12, h⟩ := nam_e h
      refine jj_bast hC hl2_104 ha12 hb12 (show (-128 ≤ (45 : Int) ∧ (45 : Int) < 128) from by decide) dJ6_getChars_ba4f3_117 (jj_M hM12 ?_)
      refine jj_iload hC dJ6_getChars_ba4f3_118 0 rfl ?_
      cases h
      exact jj_iret hC (c_le rfl) (c_le rfl) dJ6_getChars_ba4f3_120 ⟨rfl, (w32_r _), rfl, rfl, rfl, rfl, rfl⟩
  have hB12 : ∀ (M12 : gM) (l0_12 : Int) (l2_12 : Nat) (l5_12 : Int) (s0_12 : Int), (-2147483648 ≤ l0_12 ∧ l0_12 < 2147483648) → S l2_12 = 23 → (-2147483648 ≤ l5_12 ∧ l5_12 < 2147483648) → (0 ≤ s0_12 ∧ s0_12 ≤ 1) → fJ6_getChars_ba4f3_B12 G.2.2.2.2 S Ln R M12 l0_12 l2_12 l5_12 s0_12 = some r → JJ G C 0 0 sz S Ln M12 R 12 [(0, .int (iI l0_12)), (2, .ref l2_12), (5, .int (iI l5_12))] [.int (iI s0_12)] := by
    intro M12 l0_12 l2_12 l5_12 s0_12 hl0_12 hl2_12 hl5_12 hs0_12 h
    unfold fJ6_getChars_ba4f3_B12 at h
    refine jj_istore (lv' := [(6, .int (iI s0_12)), (0, .int (iI l0_12)), (2, .ref l2_12), (5, .int (iI l5_12))]) hC dJ6_getChars_ba4f3_12 (by decide) rfl ?_
    refine jj_iload hC dJ6_getChars_ba4f3_14 0 rfl ?_
    refine jj_if_ne (tgt := 22) hC dJ6_getChars_ba4f3_16 rfl (r_z hs0_12) (fun hc => ?_) (fun hc => ?_)
    · replace h := (if_pos hc).symm.trans h
      obtain ⟨q16, hq16, h⟩ := bd_e h
      refine jj_lv (lv' := [(0, .int (iI l0_12)), (2, .ref l2_12), (5, .int (iI l5_12)), (6, .int (iI s0_12))]) [1, 2, 3, 0] rfl ?_
      refine hL22 l2_12 s0_12 hl2_12 hs0_12 FU _ q16 hq16 ⟨hl0_12, hl5_12⟩ (fun e22_8 he16 hIE16 => ?_) (fun c16 hc16 => ?_)
      · subst he16
        replace h := el_l h
        obtain ⟨he22_8_0, he22_8_1⟩ := hIE16
        refine jj_aload_n hC dJ6_getChars_ba4f3_72 rfl 1 rfl ?_
        refine jg_iinc (q := 2) (lv' := [(5, .int (iI (w32 (e22_8.2.1 + (-1))))), (0, .int (iI e22_8.1)), (2, .ref l2_12), (6, .int (iI s0_12))]) hC dJ6_getChars_ba4f3_73 rfl (by decide) rfl ?_
        refine jj_iload hC dJ6_getChars_ba4f3_76 0 rfl ?_
        obtain ⟨b9, hb9, hs9, h⟩ := rf_e h
        refine jj_getsD hC (Or.inl ⟨rfl, rfl⟩) (Option.some.inj hb9) wd321 dJ6_getChars_ba4f3_78 ?_
        refine jj_iload_n hC dJ6_getChars_ba4f3_81 rfl 1 rfl ?_
        refine jg_ineg hC dJ6_getChars_ba4f3_82 ?_
        obtain ⟨⟨ha10, hb10⟩, h⟩ := gd_e h
        refine jj_bald28 hC hs9 ha10 hb10 dJ6_getChars_ba4f3_83 (fun hr10 => ?_)
        obtain ⟨⟨ha11, hb11⟩, h⟩ := gd_e h
        obtain ⟨M11, hM11, h⟩ := nam_e h
        refine jj_bast hC hl2_12 ha11 hb11 hr10 dJ6_getChars_ba4f3_84 (jj_M hM11 ?_)
        refine jj_iload_n hC dJ6_getChars_ba4f3_85 rfl 1 rfl ?_
        refine jj_bipush hC dJ6_getChars_ba4f3_86 (by decide) ?_
        refine jj_icmp_ge (tgt := 104) hC dJ6_getChars_ba4f3_88 rfl he22_8_0 (show (-2147483648 ≤ (-9 : Int) ∧ (-9 : Int) < 2147483648) from by decide) (fun hc => ?_) (fun hc => ?_)
        · replace h := (if_pos hc).symm.trans h
          refine jj_lv (lv' := [(2, .ref l2_12), (5, .int (iI (w32 (e22_8.2.1 + (-1))))), (6, .int (iI s0_12))]) [2, 0, 3] rfl ?_
          exact hB104 M11 l2_12 (w32 (e22_8.2.1 + (-1))) s0_12 hl2_12 (w32_r _) hs0_12 h
        · replace h := (if_neg (Int.not_le.mpr hc)).symm.trans h
          refine jj_aload_n hC dJ6_getChars_ba4f3_91 rfl 2 rfl ?_
          refine jg_iinc (q := 0) (lv' := [(5, .int (iI (w32 (w32 (e22_8.2.1 + (-1)) + (-1))))), (0, .int (iI e22_8.1)), (2, .ref l2_12), (6, .int (iI s0_12))]) hC dJ6_getChars_ba4f3_92 rfl (by decide) rfl ?_
          refine jj_iload hC dJ6_getChars_ba4f3_95 0 rfl ?_
          obtain ⟨b13, hb13, hs13, h⟩ := rf_e h
          refine jj_getsD hC (Or.inr ⟨rfl, rfl⟩) (Option.some.inj hb13) wd323 dJ6_getChars_ba4f3_97 ?_
          refine jj_iload_n hC dJ6_getChars_ba4f3_100 rfl 1 rfl ?_
          refine jg_ineg hC dJ6_getChars_ba4f3_101 ?_
          obtain ⟨⟨ha14, hb14⟩, h⟩ := gd_e h
          refine jj_bald28 hC hs13 ha14 hb14 dJ6_getChars_ba4f3_102 (fun hr14 => ?_)
          obtain ⟨⟨ha15, hb15⟩, h⟩ := gd_e h
          obtain ⟨M15, hM15, h⟩ := nam_e h
          refine jj_bast hC hl2_12 ha15 hb15 hr14 dJ6_getChars_ba4f3_103 (jj_M hM15 ?_)
          refine jj_lv (lv' := [(2, .ref l2_12), (5, .int (iI (w32 (w32 (e22_8.2.1 + (-1)) + (-1))))), (6, .int (iI s0_12))]) [2, 0, 3] rfl ?_
          exact hB104 M15 l2_12 (w32 (w32 (e22_8.2.1 + (-1)) + (-1))) s0_12 hl2_12 (w32_r _) hs0_12 h
      · subst hc16
        replace h := el_r h
        exact Option.some.inj h
    · replace h := (if_neg (fun k => k hc)).symm.trans h
      refine jj_iload_n hC dJ6_getChars_ba4f3_19 rfl 1 rfl ?_
      refine jg_ineg hC dJ6_getChars_ba4f3_20 ?_
      refine jj_istore_n (lv' := [(0, .int (iI (w32 (-l0_12)))), (6, .int (iI s0_12)), (2, .ref l2_12), (5, .int (iI l5_12))]) hC dJ6_getChars_ba4f3_21 rfl (by decide) rfl ?_
      obtain ⟨q24, hq24, h⟩ := bd_e h
      refine jj_lv (lv' := [(0, .int (iI (w32 (-l0_12)))), (2, .ref l2_12), (5, .int (iI l5_12)), (6, .int (iI s0_12))]) [0, 2, 3, 1] rfl ?_
      refine hL22 l2_12 s0_12 hl2_12 hs0_12 FU _ q24 hq24 ⟨(w32_r _), hl5_12⟩ (fun e22_17 he24 hIE24 => ?_) (fun c24 hc24 => ?_)
      · subst he24
        replace h := el_l h
        obtain ⟨he22_17_0, he22_17_1⟩ := hIE24
        refine jj_aload_n hC dJ6_getChars_ba4f3_72 rfl 1 rfl ?_
        refine jg_iinc (q := 2) (lv' := [(5, .int (iI (w32 (e22_17.2.1 + (-1))))), (0, .int (iI e22_17.1)), (2, .ref l2_12), (6, .int (iI s0_12))]) hC dJ6_getChars_ba4f3_73 rfl (by decide) rfl ?_
        refine jj_iload hC dJ6_getChars_ba4f3_76 0 rfl ?_
        obtain ⟨b18, hb18, hs18, h⟩ := rf_e h
        refine jj_getsD hC (Or.inl ⟨rfl, rfl⟩) (Option.some.inj hb18) wd321 dJ6_getChars_ba4f3_78 ?_
        refine jj_iload_n hC dJ6_getChars_ba4f3_81 rfl 1 rfl ?_
        refine jg_ineg hC dJ6_getChars_ba4f3_82 ?_
        obtain ⟨⟨ha19, hb19⟩, h⟩ := gd_e h
        refine jj_bald28 hC hs18 ha19 hb19 dJ6_getChars_ba4f3_83 (fun hr19 => ?_)
        obtain ⟨⟨ha20, hb20⟩, h⟩ := gd_e h
        obtain ⟨M20, hM20, h⟩ := nam_e h
        refine jj_bast hC hl2_12 ha20 hb20 hr19 dJ6_getChars_ba4f3_84 (jj_M hM20 ?_)
        refine jj_iload_n hC dJ6_getChars_ba4f3_85 rfl 1 rfl ?_
        refine jj_bipush hC dJ6_getChars_ba4f3_86 (by decide) ?_
        refine jj_icmp_ge (tgt := 104) hC dJ6_getChars_ba4f3_88 rfl he22_17_0 (show (-2147483648 ≤ (-9 : Int) ∧ (-9 : Int) < 2147483648) from by decide) (fun hc => ?_) (fun hc => ?_)
        · replace h := (if_pos hc).symm.trans h
          refine jj_lv (lv' := [(2, .ref l2_12), (5, .int (iI (w32 (e22_17.2.1 + (-1))))), (6, .int (iI s0_12))]) [2, 0, 3] rfl ?_
          exact hB104 M20 l2_12 (w32 (e22_17.2.1 + (-1))) s0_12 hl2_12 (w32_r _) hs0_12 h
        · replace h := (if_neg (Int.not_le.mpr hc)).symm.trans h
          refine jj_aload_n hC dJ6_getChars_ba4f3_91 rfl 2 rfl ?_
          refine jg_iinc (q := 0) (lv' := [(5, .int (iI (w32 (w32 (e22_17.2.1 + (-1)) + (-1))))), (0, .int (iI e22_17.1)), (2, .ref l2_12), (6, .int (iI s0_12))]) hC dJ6_getChars_ba4f3_92 rfl (by decide) rfl ?_
          refine jj_iload hC dJ6_getChars_ba4f3_95 0 rfl ?_
          obtain ⟨b21, hb21, hs21, h⟩ := rf_e h
          refine jj_getsD hC (Or.inr ⟨rfl, rfl⟩) (Option.some.inj hb21) wd323 dJ6_getChars_ba4f3_97 ?_
          refine jj_iload_n hC dJ6_getChars_ba4f3_100 rfl 1 rfl ?_
          refine jg_ineg hC dJ6_getChars_ba4f3_101 ?_
          obtain ⟨⟨ha22, hb22⟩, h⟩ := gd_e h
          refine jj_bald28 hC hs21 ha22 hb22 dJ6_getChars_ba4f3_102 (fun hr22 => ?_)
          obtain ⟨⟨ha23, hb23⟩, h⟩ := gd_e h
          obtain ⟨M23, hM23, h⟩ := nam_e h
          refine jj_bast hC hl2_12 ha23 hb23 hr22 dJ6_getChars_ba4f3_103 (jj_M hM23 ?_)
          refine jj_lv (lv' := [(2, .ref l2_12), (5, .int (iI (w32 (w32 (e22_17.2.1 + (-1)) + (-1))))), (6, .int (iI s0_12))]) [2, 0, 3] rfl ?_
          exact hB104 M23 l2_12 (w32 (w32 (e22_17.2.1 + (-1)) + (-1))) s0_12 hl2_12 (w32_r _) hs0_12 h
      · subst hc24
        replace h := el_r h
        exact Option.some.inj h
  unfold fJ6_getChars_ba4f3 at h
  refine jj_iload_n hC dJ6_getChars_ba4f3_0 rfl 1 rfl ?_
  refine jj_istore (lv' := [(5, .int (iI x1)), (0, .int (iI x0)), (1, .int (iI x1)), (2, .ref x2)]) hC dJ6_getChars_ba4f3_1 (by decide) rfl ?_
  refine jj_iload_n hC dJ6_getChars_ba4f3_3 rfl 1 rfl ?_
  refine jj_if_ge (tgt := 11) hC dJ6_getChars_ba4f3_4 rfl hp0 (fun hc => ?_) (fun hc => ?_)
  · replace h := (if_pos hc).symm.trans h
    refine jj_iconst hC dJ6_getChars_ba4f3_11 ?_
    refine jj_lv (lv' := [(0, .int (iI x0)), (2, .ref x2), (5, .int (iI x1))]) [1, 3, 0] rfl ?_
    exact hB12 M x0 x2 x1 0 hp0 hp2 hp1 (show (0 ≤ (0 : Int) ∧ (0 : Int) ≤ 1) from by decide) h
  · replace h := (if_neg (Int.not_le.mpr hc)).symm.trans h
    refine jj_iconst hC dJ6_getChars_ba4f3_7 ?_
    refine jj_goto (tgt := 12) hC dJ6_getChars_ba4f3_8 rfl ?_
    refine jj_lv (lv' := [(0, .int (iI x0)), (2, .ref x2), (5, .int (iI x1))]) [1, 3, 0] rfl ?_
    exact hB12 M x0 x2 x1 1 hp0 hp2 hp1 (show (0 ≤ (1 : Int) ∧ (1 : Int) ≤ 1) from by decide) h
def fJ5_append_c97b9 (ad : Nat → Nat) (sz : Nat) (S Ln : Nat → Nat) (R : gR) (M : gM) (a0 : Nat) (x1 : Int) : Option (Nat × Nat × (Nat → Nat) × (Nat → Nat) × gM × gR) :=
  bd (fJ6_stringSize_0f7a4 ad S Ln R M x1) fun q2 => bd (fJ5_ensureCapacityInternal_d00df ad sz S Ln R M a0 (w32 ((M a0 3) + q2))) fun q3 => bd (fJ5_isLatin1_aae02 ad q3.2.1 q3.2.2.1 q3.2.2.2.2 q3.2.2.2.1 a0) fun q4 => if q4 = 0 then (none) else (rf q3.2.1 (q3.2.2.2.2 a0 0) 23 fun b5 => bd (fJ6_getChars_ba4f3 ad q3.2.1 q3.2.2.1 q3.2.2.2.2 q3.2.2.2.1 x1 (w32 ((M a0 3) + q2)) b5) fun q6 => nam (wr q6.2 a0 3 (w32 ((M a0 3) + q2))) fun M7 => some ((a0, q3.1, q3.2.1, q3.2.2.1, M7, q3.2.2.2.2)))
theorem xJ5_append_c97b9 {l : Launch} {G : gE} {sz : Nat} {S Ln : Nat → Nat} {M : gM} {R : gR} (hl : l.stackTraces = false) {a0 : Nat} (hs0 : S a0 = 2) {x1 : Int} (hp1 : (-2147483648 ≤ x1 ∧ x1 < 2147483648)) {r : Nat × Nat × (Nat → Nat) × (Nat → Nat) × gM × gR} (h : fJ5_append_c97b9 G.2.2.2.2 sz S Ln R M a0 x1 = some r) : Ct l G yJ5_append_c97b9 cJ5_append_c97b9 4 (some (.object "java/lang/AbstractStringBuilder")) 10 1 256 [.ref a0, .int (iI x1)] sz S Ln M R (poX (poA 2 r.1 (r.2.1) (r.2.2.1) (r.2.2.2.1) (r.2.2.2.2.1) (r.2.2.2.2.2)) (Ext sz S Ln (r.2.1) (r.2.2.1) (r.2.2.2.1))) noX := by
  refine jj_start (own := RJ5) (lv0 := [(0, .ref a0), (1, .int (iI x1))]) hl (by decide +kernel) rfl rfl (c_le rfl) (fun C hCl hC => ?_)
  unfold fJ5_append_c97b9 at h
  refine jj_aload_n hC dJ5_append_c97b9_0 rfl 0 rfl ?_
  refine jg_I hC kfJ4 3 rfl hs0 (by decide) wd178 rfl dJ5_append_c97b9_1 (fun hr1 => ?_)
  refine jj_istore_n (lv' := [(2, .int (iI (M a0 3))), (0, .ref a0), (1, .int (iI x1))]) hC dJ5_append_c97b9_4 rfl (by decide) rfl ?_
  refine jj_iload_n hC dJ5_append_c97b9_5 rfl 0 rfl ?_
  refine jj_iload_n hC dJ5_append_c97b9_6 rfl 2 rfl ?_
  obtain ⟨q2, hq2, h⟩ := bd_e h
  refine jj_invS hC mvJ6_stringSize_0f7a4 wd316 wd315 (xJ6_stringSize_0f7a4 (OKC.tr hC) hp1 hq2) rfl rfl (c_le rfl) (c_le rfl) (by omega) (by omega) dJ5_append_c97b9_7 noXk (po_kI (fun hr2 => ?_))
  refine jg_iadd hC dJ5_append_c97b9_10 ?_
  refine jj_istore_n (lv' := [(3, .int (iI (w32 ((M a0 3) + q2)))), (2, .int (iI (M a0 3))), (0, .ref a0), (1, .int (iI x1))]) hC dJ5_append_c97b9_11 rfl (by decide) rfl ?_
  refine jj_aload_n hC dJ5_append_c97b9_12 rfl 2 rfl ?_
  refine jj_iload_n hC dJ5_append_c97b9_13 rfl 0 rfl ?_
  obtain ⟨q3, hq3, h⟩ := bd_e h
  refine jj_invVC hC mvJ5_ensureCapacityInternal_d00df wd201 (fun _ _ hw hn9 => jj_selP hw wd237 rfl (by decide +kernel) (by decide +kernel) (va_Nw.use rfl (hn9 _ wd200)) wd201) wd199 hs0 (by decide) rfl (xJ5_ensureCapacityInternal_d00df (OKC.tr hC) hs0 (w32_r _) hq3) rfl rfl (c_le rfl) (c_le rfl) (by omega) (by omega) dJ5_append_c97b9_14 noXk (poX_k (fun hx3 => po_kV ?_))
  refine jj_widen (k' := 1) (n' := 256) (by omega) (by omega) ?_
  refine jj_aload_n hC dJ5_append_c97b9_17 rfl 2 rfl ?_
  obtain ⟨q4, hq4, h⟩ := bd_e h
  refine jj_invVC hC mvJ5_isLatin1_aae02 wd235 (fun _ _ hw _ => hw _ wd237) wd234 (ext_s hx3 hs0 (by decide)) (by decide) rfl (xJ5_isLatin1_aae02 (OKC.tr hC) (ext_s hx3 hs0 (by decide)) hq4) rfl rfl (c_le rfl) (c_le rfl) (by omega) (by omega) dJ5_append_c97b9_18 noXk (po_kZ (fun hr4 => ?_))
  refine jj_if_eq (tgt := 37) hC dJ5_append_c97b9_21 rfl (r_z hr4) (fun hc => ?_) (fun hc => ?_)
  · replace h := (if_pos hc).symm.trans h
    cases h
  · replace h := (if_neg (hc)).symm.trans h
    refine jj_iload_n hC dJ5_append_c97b9_24 rfl 3 rfl ?_
    refine jj_iload_n hC dJ5_append_c97b9_25 rfl 0 rfl ?_
    refine jj_aload_n hC dJ5_append_c97b9_26 rfl 2 rfl ?_
    obtain ⟨b5, hb5, hs5, h⟩ := rf_e h
    refine jg_R hC kfJ4 0 rfl (ext_s hx3 hs0 (by decide)) (by decide) wd174 rfl hb5 dJ5_append_c97b9_27 ?_
    obtain ⟨q6, hq6, h⟩ := bd_e h
    refine jj_invS hC mvJ6_getChars_ba4f3 wd319 wd318 (xJ6_getChars_ba4f3 (OKC.tr hC) hp1 (w32_r _) hs5 hq6) rfl rfl (c_le rfl) (c_le rfl) (by omega) (by omega) dJ5_append_c97b9_30 noXk (po_kI (fun hr6 => ?_))
    refine jj_pop hC dJ5_append_c97b9_33 rfl ?_
    refine jj_goto (tgt := 48) hC dJ5_append_c97b9_34 rfl ?_
    refine jj_aload_n hC dJ5_append_c97b9_48 rfl 2 rfl ?_
    refine jj_iload_n hC dJ5_append_c97b9_49 rfl 0 rfl ?_
    obtain ⟨M7, hM7, h⟩ := nam_e h
    refine jp_I hC kfJ4 3 rfl (ext_s hx3 hs0 (by decide)) rfl (by decide) wd178 rfl rfl rfl (w32_r _) dJ5_append_c97b9_50 (jj_M hM7 ?_)
    refine jj_aload_n hC dJ5_append_c97b9_53 rfl 2 rfl ?_
    cases h
    exact jj_aret hC rfl (Or.inl ⟨_, rfl⟩) (by omega) (by omega) dJ5_append_c97b9_54 ⟨⟨rfl, (ext_s hx3 hs0 (by decide)), rfl, rfl, rfl, rfl, rfl⟩, hx3⟩
def fJ4_append_bf812 (ad : Nat → Nat) (sz : Nat) (S Ln : Nat → Nat) (R : gR) (M : gM) (a0 : Nat) (x1 : Int) : Option (Nat × Nat × (Nat → Nat) × (Nat → Nat) × gM × gR) :=
  bd (fJ5_append_c97b9 ad sz S Ln R M a0 x1) fun q1 => some ((a0, q1.2.1, q1.2.2.1, q1.2.2.2.1, q1.2.2.2.2.1, q1.2.2.2.2.2))
theorem xJ4_append_bf812 {l : Launch} {G : gE} {sz : Nat} {S Ln : Nat → Nat} {M : gM} {R : gR} (hl : l.stackTraces = false) {a0 : Nat} (hs0 : S a0 = 2) {x1 : Int} (hp1 : (-2147483648 ≤ x1 ∧ x1 < 2147483648)) {r : Nat × Nat × (Nat → Nat) × (Nat → Nat) × gM × gR} (h : fJ4_append_bf812 G.2.2.2.2 sz S Ln R M a0 x1 = some r) : Ct l G yJ4_append_bf812 cJ4_append_bf812 2 (some (.object "java/lang/StringBuilder")) 11 1 256 [.ref a0, .int (iI x1)] sz S Ln M R (poX (poA 2 r.1 (r.2.1) (r.2.2.1) (r.2.2.2.1) (r.2.2.2.2.1) (r.2.2.2.2.2)) (Ext sz S Ln (r.2.1) (r.2.2.1) (r.2.2.2.1))) noX := by
  refine jj_start (own := RJ4) (lv0 := [(0, .ref a0), (1, .int (iI x1))]) hl (by decide +kernel) rfl rfl (c_le rfl) (fun C hCl hC => ?_)
  unfold fJ4_append_bf812 at h
  refine jj_aload_n hC dJ4_append_bf812_0 rfl 0 rfl ?_
  refine jj_iload_n hC dJ4_append_bf812_1 rfl 1 rfl ?_
  obtain ⟨q1, hq1, h⟩ := bd_e h
  refine jj_invSU hC mvJ5_append_c97b9 (by decide +kernel) wd313 wd1576 wd148 wd312 hs0 (by decide) rfl (xJ5_append_c97b9 (OKC.tr hC) hs0 hp1 hq1) rfl rfl (c_le rfl) (c_le rfl) (by omega) (by omega) dJ4_append_bf812_2 (poX_k (fun hx1 => po_kA (fun hr1 => ?_)))
  refine jj_widen (k' := 1) (n' := 256) (by omega) (by omega) ?_
  refine jj_pop hC dJ4_append_bf812_5 rfl ?_
  refine jj_aload_n hC dJ4_append_bf812_6 rfl 0 rfl ?_
  cases h
  exact jj_aret hC rfl (Or.inl ⟨_, rfl⟩) (by omega) (by omega) dJ4_append_bf812_7 ⟨⟨rfl, (ext_s hx1 hs0 (by decide)), rfl, rfl, rfl, rfl, rfl⟩, hx1⟩
def fJ1_canEncode_fc78d (ad S Ln : Nat → Nat) (R : gR) (M : gM) (x0 : Int) : Option Int :=
  if 255 < x0 then (some (0)) else (some (1))
theorem xJ1_canEncode_fc78d {l : Launch} {G : gE} {sz : Nat} {S Ln : Nat → Nat} {M : gM} {R : gR} (hl : l.stackTraces = false) {x0 : Int} (hp0 : (0 ≤ x0 ∧ x0 < 65536)) {r : Int} (h : fJ1_canEncode_fc78d G.2.2.2.2 S Ln R M x0 = some r) : Ct l G yJ1_canEncode_fc78d cJ1_canEncode_fc78d 1 (some .boolean) 1 0 0 [.int (iI x0)] sz S Ln M R (poZ r sz S Ln (M) R) noX := by
  refine jj_start (own := RJ1) (lv0 := [(0, .int (iI x0))]) hl (by decide +kernel) rfl rfl (c_le rfl) (fun C hCl hC => ?_)
  unfold fJ1_canEncode_fc78d at h
  refine jj_iload_n hC dJ1_canEncode_fc78d_0 rfl 0 rfl ?_
  refine jj_sipush hC dJ1_canEncode_fc78d_1 (by decide) ?_
  refine jj_icmp_gt (tgt := 11) hC dJ1_canEncode_fc78d_4 rfl (r_c hp0) (show (-2147483648 ≤ (255 : Int) ∧ (255 : Int) < 2147483648) from by decide) (fun hc => ?_) (fun hc => ?_)
  · replace h := (if_pos hc).symm.trans h
    refine jj_iconst hC dJ1_canEncode_fc78d_11 ?_
    cases h
    exact jj_zret hC (show (0 ≤ (0 : Int) ∧ (0 : Int) ≤ 1) from by decide) (c_le rfl) (c_le rfl) dJ1_canEncode_fc78d_12 ⟨rfl, (show (0 ≤ (0 : Int) ∧ (0 : Int) ≤ 1) from by decide), rfl, rfl, rfl, rfl, rfl⟩
  · replace h := (if_neg (Int.not_lt.mpr hc)).symm.trans h
    refine jj_iconst hC dJ1_canEncode_fc78d_7 ?_
    refine jj_goto (tgt := 12) hC dJ1_canEncode_fc78d_8 rfl ?_
    cases h
    exact jj_zret hC (show (0 ≤ (1 : Int) ∧ (1 : Int) ≤ 1) from by decide) (c_le rfl) (c_le rfl) dJ1_canEncode_fc78d_12 ⟨rfl, (show (0 ≤ (1 : Int) ∧ (1 : Int) ≤ 1) from by decide), rfl, rfl, rfl, rfl, rfl⟩
def fJ5_append_3fe6f_B45 (ad : Nat → Nat) (sz45 : Nat) (S45 Ln45 : Nat → Nat) (R45 : gR) (M45 : gM) (l0_45 : Nat) : Option (Nat × Nat × (Nat → Nat) × (Nat → Nat) × gM × gR) :=
  bd (fJ5_isLatin1_aae02 ad S45 Ln45 R45 M45 l0_45) fun q4 => if q4 = 0 then (none) else (none)
def fJ5_append_3fe6f (ad : Nat → Nat) (sz : Nat) (S Ln : Nat → Nat) (R : gR) (M : gM) (a0 : Nat) (x1 : Int) : Option (Nat × Nat × (Nat → Nat) × (Nat → Nat) × gM × gR) :=
  bd (fJ5_ensureCapacityInternal_d00df ad sz S Ln R M a0 (w32 ((M a0 3) + 1))) fun q2 => bd (fJ5_isLatin1_aae02 ad q2.2.1 q2.2.2.1 q2.2.2.2.2 q2.2.2.2.1 a0) fun q3 => if q3 = 0 then (fJ5_append_3fe6f_B45 ad q2.1 q2.2.1 q2.2.2.1 q2.2.2.2.2 q2.2.2.2.1 a0) else (bd (fJ1_canEncode_fc78d ad q2.2.1 q2.2.2.1 q2.2.2.2.2 q2.2.2.2.1 x1) fun q5 => if q5 = 0 then (fJ5_append_3fe6f_B45 ad q2.1 q2.2.1 q2.2.2.1 q2.2.2.2.2 q2.2.2.2.1 a0) else (rf q2.2.1 (q2.2.2.2.2 a0 0) 23 fun b6 => nam (wr q2.2.2.2.1 a0 3 (w32 ((q2.2.2.2.1 a0 3) + 1))) fun M8 => gd ((0 : Int) ≤ (q2.2.2.2.1 a0 3) ∧ (q2.2.2.2.1 a0 3) < (q2.2.2.1 b6 : Int)) (nam (wr M8 b6 (q2.2.2.2.1 a0 3) (i_i2b x1)) fun M9 => some ((a0, q2.1, q2.2.1, q2.2.2.1, M9, q2.2.2.2.2)))))
theorem xJ5_append_3fe6f {l : Launch} {G : gE} {sz : Nat} {S Ln : Nat → Nat} {M : gM} {R : gR} (hl : l.stackTraces = false) {a0 : Nat} (hs0 : S a0 = 2) {x1 : Int} (hp1 : (0 ≤ x1 ∧ x1 < 65536)) {r : Nat × Nat × (Nat → Nat) × (Nat → Nat) × gM × gR} (h : fJ5_append_3fe6f G.2.2.2.2 sz S Ln R M a0 x1 = some r) : Ct l G yJ5_append_3fe6f cJ5_append_3fe6f 2 (some (.object "java/lang/AbstractStringBuilder")) 10 1 256 [.ref a0, .int (iI x1)] sz S Ln M R (poX (poA 2 r.1 (r.2.1) (r.2.2.1) (r.2.2.2.1) (r.2.2.2.2.1) (r.2.2.2.2.2)) (Ext sz S Ln (r.2.1) (r.2.2.1) (r.2.2.2.1))) noX := by
  refine jj_start (own := RJ5) (lv0 := [(0, .ref a0), (1, .int (iI x1))]) hl (by decide +kernel) rfl rfl (c_le rfl) (fun C hCl hC => ?_)
  have hB45 : ∀ (sz45 : Nat) (S45 : (Nat → Nat)) (Ln45 : (Nat → Nat)) (M45 : gM) (R45 : gR) (l0_45 : Nat), Ext sz S Ln sz45 S45 Ln45 → S45 l0_45 = 2 → fJ5_append_3fe6f_B45 G.2.2.2.2 sz45 S45 Ln45 R45 M45 l0_45 = some r → JJ G C 1 256 sz45 S45 Ln45 M45 R45 45 [(0, .ref l0_45)] [] := by
    intro sz45 S45 Ln45 M45 R45 l0_45 hx45 hl0_45 h
    unfold fJ5_append_3fe6f_B45 at h
    refine jj_aload_n hC dJ5_append_3fe6f_45 rfl 0 rfl ?_
    obtain ⟨q4, hq4, h⟩ := bd_e h
    refine jj_invVC hC mvJ5_isLatin1_aae02 wd235 (fun _ _ hw _ => hw _ wd237) wd234 hl0_45 (by decide) rfl (xJ5_isLatin1_aae02 (OKC.tr hC) hl0_45 hq4) rfl rfl (c_le rfl) (c_le rfl) (by omega) (by omega) dJ5_append_3fe6f_46 noXk (po_kZ (fun hr4 => ?_))
    refine jj_if_eq (tgt := 56) hC dJ5_append_3fe6f_49 rfl (r_z hr4) (fun hc => ?_) (fun hc => ?_)
    · replace h := (if_pos hc).symm.trans h
      cases h
    · replace h := (if_neg (hc)).symm.trans h
      cases h
  unfold fJ5_append_3fe6f at h
  refine jj_aload_n hC dJ5_append_3fe6f_0 rfl 0 rfl ?_
  refine jj_aload_n hC dJ5_append_3fe6f_1 rfl 0 rfl ?_
  refine jg_I hC kfJ4 3 rfl hs0 (by decide) wd178 rfl dJ5_append_3fe6f_2 (fun hr1 => ?_)
  refine jj_iconst hC dJ5_append_3fe6f_5 ?_
  refine jg_iadd hC dJ5_append_3fe6f_6 ?_
  obtain ⟨q2, hq2, h⟩ := bd_e h
  refine jj_invVC hC mvJ5_ensureCapacityInternal_d00df wd201 (fun _ _ hw hn9 => jj_selP hw wd237 rfl (by decide +kernel) (by decide +kernel) (va_Nw.use rfl (hn9 _ wd200)) wd201) wd199 hs0 (by decide) rfl (xJ5_ensureCapacityInternal_d00df (OKC.tr hC) hs0 (w32_r _) hq2) rfl rfl (c_le rfl) (c_le rfl) (by omega) (by omega) dJ5_append_3fe6f_7 noXk (poX_k (fun hx2 => po_kV ?_))
  refine jj_widen (k' := 1) (n' := 256) (by omega) (by omega) ?_
  refine jj_aload_n hC dJ5_append_3fe6f_10 rfl 0 rfl ?_
  obtain ⟨q3, hq3, h⟩ := bd_e h
  refine jj_invVC hC mvJ5_isLatin1_aae02 wd235 (fun _ _ hw _ => hw _ wd237) wd234 (ext_s hx2 hs0 (by decide)) (by decide) rfl (xJ5_isLatin1_aae02 (OKC.tr hC) (ext_s hx2 hs0 (by decide)) hq3) rfl rfl (c_le rfl) (c_le rfl) (by omega) (by omega) dJ5_append_3fe6f_11 noXk (po_kZ (fun hr3 => ?_))
  refine jj_if_eq (tgt := 45) hC dJ5_append_3fe6f_14 rfl (r_z hr3) (fun hc => ?_) (fun hc => ?_)
  · replace h := (if_pos hc).symm.trans h
    refine jj_widen (k' := 1) (n' := 256) (by omega) (by omega) ?_
    refine jj_lv (lv' := [(0, .ref a0)]) [0] rfl ?_
    exact hB45 q2.1 q2.2.1 q2.2.2.1 q2.2.2.2.1 q2.2.2.2.2 a0 hx2 (ext_s hx2 hs0 (by decide)) h
  · replace h := (if_neg (hc)).symm.trans h
    refine jj_iload_n hC dJ5_append_3fe6f_17 rfl 1 rfl ?_
    obtain ⟨q5, hq5, h⟩ := bd_e h
    refine jj_invS hC mvJ1_canEncode_fc78d wd472 wd471 (xJ1_canEncode_fc78d (OKC.tr hC) hp1 hq5) rfl rfl (c_le rfl) (c_le rfl) (by omega) (by omega) dJ5_append_3fe6f_18 noXk (po_kZ (fun hr5 => ?_))
    refine jj_if_eq (tgt := 45) hC dJ5_append_3fe6f_21 rfl (r_z hr5) (fun hc => ?_) (fun hc => ?_)
    · replace h := (if_pos hc).symm.trans h
      refine jj_widen (k' := 1) (n' := 256) (by omega) (by omega) ?_
      refine jj_lv (lv' := [(0, .ref a0)]) [0] rfl ?_
      exact hB45 q2.1 q2.2.1 q2.2.2.1 q2.2.2.2.1 q2.2.2.2.2 a0 hx2 (ext_s hx2 hs0 (by decide)) h
    · replace h := (if_neg (hc)).symm.trans h
      refine jj_aload_n hC dJ5_append_3fe6f_24 rfl 0 rfl ?_
      obtain ⟨b6, hb6, hs6, h⟩ := rf_e h
      refine jg_R hC kfJ4 0 rfl (ext_s hx2 hs0 (by decide)) (by decide) wd174 rfl hb6 dJ5_append_3fe6f_25 ?_
      refine jj_aload_n hC dJ5_append_3fe6f_28 rfl 0 rfl ?_
      refine jj_dup hC dJ5_append_3fe6f_29 rfl ?_
      refine jg_I hC kfJ4 3 rfl (ext_s hx2 hs0 (by decide)) (by decide) wd178 rfl dJ5_append_3fe6f_30 (fun hr7 => ?_)
      refine jj_dup_x1 hC dJ5_append_3fe6f_33 rfl rfl ?_
      refine jj_iconst hC dJ5_append_3fe6f_34 ?_
      refine jg_iadd hC dJ5_append_3fe6f_35 ?_
      obtain ⟨M8, hM8, h⟩ := nam_e h
      refine jp_I hC kfJ4 3 rfl (ext_s hx2 hs0 (by decide)) rfl (by decide) wd178 rfl rfl rfl (w32_r _) dJ5_append_3fe6f_36 (jj_M hM8 ?_)
      refine jj_iload_n hC dJ5_append_3fe6f_39 rfl 1 rfl ?_
      refine jg_i2b hC dJ5_append_3fe6f_40 ?_
      obtain ⟨⟨ha9, hb9⟩, h⟩ := gd_e h
      obtain ⟨M9, hM9, h⟩ := nam_e h
      refine jj_bast hC hs6 ha9 hb9 (i_i2b_r _) dJ5_append_3fe6f_41 (jj_M hM9 ?_)
      refine jj_goto (tgt := 75) hC dJ5_append_3fe6f_42 rfl ?_
      refine jj_aload_n hC dJ5_append_3fe6f_75 rfl 0 rfl ?_
      cases h
      exact jj_aret hC rfl (Or.inl ⟨_, rfl⟩) (by omega) (by omega) dJ5_append_3fe6f_76 ⟨⟨rfl, (ext_s hx2 hs0 (by decide)), rfl, rfl, rfl, rfl, rfl⟩, hx2⟩
def fJ4_append_cf468 (ad : Nat → Nat) (sz : Nat) (S Ln : Nat → Nat) (R : gR) (M : gM) (a0 : Nat) (x1 : Int) : Option (Nat × Nat × (Nat → Nat) × (Nat → Nat) × gM × gR) :=
  bd (fJ5_append_3fe6f ad sz S Ln R M a0 x1) fun q1 => some ((a0, q1.2.1, q1.2.2.1, q1.2.2.2.1, q1.2.2.2.2.1, q1.2.2.2.2.2))
theorem xJ4_append_cf468 {l : Launch} {G : gE} {sz : Nat} {S Ln : Nat → Nat} {M : gM} {R : gR} (hl : l.stackTraces = false) {a0 : Nat} (hs0 : S a0 = 2) {x1 : Int} (hp1 : (0 ≤ x1 ∧ x1 < 65536)) {r : Nat × Nat × (Nat → Nat) × (Nat → Nat) × gM × gR} (h : fJ4_append_cf468 G.2.2.2.2 sz S Ln R M a0 x1 = some r) : Ct l G yJ4_append_cf468 cJ4_append_cf468 2 (some (.object "java/lang/StringBuilder")) 11 1 256 [.ref a0, .int (iI x1)] sz S Ln M R (poX (poA 2 r.1 (r.2.1) (r.2.2.1) (r.2.2.2.1) (r.2.2.2.2.1) (r.2.2.2.2.2)) (Ext sz S Ln (r.2.1) (r.2.2.1) (r.2.2.2.1))) noX := by
  refine jj_start (own := RJ4) (lv0 := [(0, .ref a0), (1, .int (iI x1))]) hl (by decide +kernel) rfl rfl (c_le rfl) (fun C hCl hC => ?_)
  unfold fJ4_append_cf468 at h
  refine jj_aload_n hC dJ4_append_cf468_0 rfl 0 rfl ?_
  refine jj_iload_n hC dJ4_append_cf468_1 rfl 1 rfl ?_
  obtain ⟨q1, hq1, h⟩ := bd_e h
  refine jj_invSU hC mvJ5_append_3fe6f (by decide +kernel) wd469 wd1577 wd148 wd468 hs0 (by decide) rfl (xJ5_append_3fe6f (OKC.tr hC) hs0 hp1 hq1) rfl rfl (c_le rfl) (c_le rfl) (by omega) (by omega) dJ4_append_cf468_2 (poX_k (fun hx1 => po_kA (fun hr1 => ?_)))
  refine jj_widen (k' := 1) (n' := 256) (by omega) (by omega) ?_
  refine jj_pop hC dJ4_append_cf468_5 rfl ?_
  refine jj_aload_n hC dJ4_append_cf468_6 rfl 0 rfl ?_
  cases h
  exact jj_aret hC rfl (Or.inl ⟨_, rfl⟩) (by omega) (by omega) dJ4_append_cf468_7 ⟨⟨rfl, (ext_s hx1 hs0 (by decide)), rfl, rfl, rfl, rfl, rfl⟩, hx1⟩
def fJ5_inflateIfNeededFor_a7421 (ad S Ln : Nat → Nat) (R : gR) (M : gM) (a0 : Nat) (x1 : Nat) : Option Unit :=
  if (1 : Int) = 0 then (some (())) else (bd (fJ0_coder_7d493 ad S Ln R M x1) fun q3 => if (M a0 1) = q3 then (some (())) else (none))
theorem xJ5_inflateIfNeededFor_a7421 {l : Launch} {G : gE} {sz : Nat} {S Ln : Nat → Nat} {M : gM} {R : gR} (hl : l.stackTraces = false) {a0 : Nat} (hs0 : S a0 = 2) {x1 : Nat} (hp1 : S x1 = 1) {r : Unit} (h : fJ5_inflateIfNeededFor_a7421 G.2.2.2.2 S Ln R M a0 x1 = some r) : Ct l G yJ5_inflateIfNeededFor_a7421 cJ5_inflateIfNeededFor_a7421 2 none 2 0 0 [.ref a0, .ref x1] sz S Ln M R (poV sz S Ln (M) R) noX := by
  refine jj_start (own := RJ5) (lv0 := [(0, .ref a0), (1, .ref x1)]) hl (by decide +kernel) rfl rfl (c_le rfl) (fun C hCl hC => ?_)
  unfold fJ5_inflateIfNeededFor_a7421 at h
  refine jj_getsV (v := .int (iI 1)) hC 0 rfl wd165 dJ5_inflateIfNeededFor_a7421_0 ?_
  refine jj_if_eq (tgt := 21) hC dJ5_inflateIfNeededFor_a7421_3 rfl (show (-2147483648 ≤ (1 : Int) ∧ (1 : Int) < 2147483648) from by decide) (fun hc => ?_) (fun hc => ?_)
  · replace h := (if_pos hc).symm.trans h
    cases h
    exact jj_vret hC (c_le rfl) (c_le rfl) dJ5_inflateIfNeededFor_a7421_21 ⟨rfl, trivial, rfl, rfl, rfl, rfl, rfl⟩
  · replace h := (if_neg (hc)).symm.trans h
    refine jj_aload_n hC dJ5_inflateIfNeededFor_a7421_6 rfl 0 rfl ?_
    refine jg_B hC kfJ4 1 rfl hs0 (by decide) wd175 rfl dJ5_inflateIfNeededFor_a7421_7 (fun hr2 => ?_)
    refine jj_aload_n hC dJ5_inflateIfNeededFor_a7421_10 rfl 1 rfl ?_
    obtain ⟨q3, hq3, h⟩ := bd_e h
    refine jj_invV hC mvJ0_coder_7d493 wd270 wd271 wd282 hp1 (by decide) rfl (xJ0_coder_7d493 (OKC.tr hC) hp1 hq3) rfl rfl (c_le rfl) (c_le rfl) (c_le rfl) (c_le rfl) dJ5_inflateIfNeededFor_a7421_11 noXk (po_kB (fun hr3 => ?_))
    refine jj_icmp_eq (tgt := 21) hC dJ5_inflateIfNeededFor_a7421_14 rfl (r_b hr2) (r_b hr3) (fun hc => ?_) (fun hc => ?_)
    · replace h := (if_pos hc).symm.trans h
      cases h
      exact jj_vret hC (c_le rfl) (c_le rfl) dJ5_inflateIfNeededFor_a7421_21 ⟨rfl, trivial, rfl, rfl, rfl, rfl, rfl⟩
    · replace h := (if_neg (hc)).symm.trans h
      cases h
def fJ0_getBytes_840e7 (ad S Ln : Nat → Nat) (R : gR) (M : gM) (a0 : Nat) (x1 : Nat) (x2 : Int) (x3 : Int) : Option gM :=
  bd (fJ0_coder_7d493 ad S Ln R M a0) fun q1 => if ¬ q1 = x3 then (none) else (rf S (R a0 0) 28 fun b2 => rf S (R a0 0) 28 fun b3 => gd ((0 : Int) ≤ 0 ∧ (0 : Int) ≤ (i_shl x2 x3) ∧ (0 : Int) ≤ (Ln b3 : Int) ∧ 0 + (Ln b3 : Int) ≤ (Ln b2 : Int) ∧ (i_shl x2 x3) + (Ln b3 : Int) ≤ (Ln x1 : Int)) (nam (i_cpy M b2 x1 0 (i_shl x2 x3) (Ln b3 : Int)) fun M5 => some (M5)))
theorem xJ0_getBytes_840e7 {l : Launch} {G : gE} {sz : Nat} {S Ln : Nat → Nat} {M : gM} {R : gR} (hl : l.stackTraces = false) {a0 : Nat} (hs0 : S a0 = 1) {x1 : Nat} (hp1 : S x1 = 23) {x2 : Int} (hp2 : (-2147483648 ≤ x2 ∧ x2 < 2147483648)) {x3 : Int} (hp3 : (-128 ≤ x3 ∧ x3 < 128)) {r : gM} (h : fJ0_getBytes_840e7 G.2.2.2.2 S Ln R M a0 x1 x2 x3 = some r) : Ct l G yJ0_getBytes_840e7 cJ0_getBytes_840e7 4 none 2 0 0 [.ref a0, .ref x1, .int (iI x2), .int (iI x3)] sz S Ln M R (poV sz S Ln (r) R) noX := by
  refine jj_start (own := RJ0) (lv0 := [(0, .ref a0), (1, .ref x1), (2, .int (iI x2)), (3, .int (iI x3))]) hl (by decide +kernel) rfl rfl (c_le rfl) (fun C hCl hC => ?_)
  unfold fJ0_getBytes_840e7 at h
  refine jj_aload_n hC dJ0_getBytes_840e7_0 rfl 0 rfl ?_
  obtain ⟨q1, hq1, h⟩ := bd_e h
  refine jj_invV hC mvJ0_coder_7d493 wd270 wd271 wd269 hs0 (by decide) rfl (xJ0_coder_7d493 (OKC.tr hC) hs0 hq1) rfl rfl (c_le rfl) (c_le rfl) (c_le rfl) (c_le rfl) dJ0_getBytes_840e7_1 noXk (po_kB (fun hr1 => ?_))
  refine jj_iload_n hC dJ0_getBytes_840e7_4 rfl 3 rfl ?_
  refine jj_icmp_ne (tgt := 28) hC dJ0_getBytes_840e7_5 rfl (r_b hr1) (r_b hp3) (fun hc => ?_) (fun hc => ?_)
  · replace h := (if_pos hc).symm.trans h
    cases h
  · replace h := (if_neg (fun k => k hc)).symm.trans h
    refine jj_aload_n hC dJ0_getBytes_840e7_8 rfl 0 rfl ?_
    obtain ⟨b2, hb2, hs2, h⟩ := rf_e h
    refine jg_R hC kfJ0 0 rfl hs0 (by decide) wd403 rfl hb2 dJ0_getBytes_840e7_9 ?_
    refine jj_iconst hC dJ0_getBytes_840e7_12 ?_
    refine jj_aload_n hC dJ0_getBytes_840e7_13 rfl 1 rfl ?_
    refine jj_iload_n hC dJ0_getBytes_840e7_14 rfl 2 rfl ?_
    refine jj_iload_n hC dJ0_getBytes_840e7_15 rfl 3 rfl ?_
    refine jg_ishl hC dJ0_getBytes_840e7_16 ?_
    refine jj_aload_n hC dJ0_getBytes_840e7_17 rfl 0 rfl ?_
    obtain ⟨b3, hb3, hs3, h⟩ := rf_e h
    refine jg_R hC kfJ0 0 rfl hs0 (by decide) wd403 rfl hb3 dJ0_getBytes_840e7_18 ?_
    refine jj_alen hC hs3 8 (by decide) rfl dJ0_getBytes_840e7_21 (fun hr4 => ?_)
    obtain ⟨⟨ha5, hb5, hc5, hd5, he5⟩, h⟩ := gd_e h
    obtain ⟨M5, hM5, h⟩ := nam_e h
    refine jj_copyB28 hC hs2 hp1 ha5 hb5 hc5 hd5 he5 wd306 wd233 wd232 wd45 (c_le rfl) (c_le rfl) dJ0_getBytes_840e7_22 (jj_M hM5 ?_)
    refine jj_goto (tgt := 43) hC dJ0_getBytes_840e7_25 rfl ?_
    cases h
    exact jj_vret hC (c_le rfl) (c_le rfl) dJ0_getBytes_840e7_43 ⟨rfl, trivial, rfl, rfl, rfl, rfl, rfl⟩
def fJ5_putStringAt_47b60 (ad S Ln : Nat → Nat) (R : gR) (M : gM) (a0 : Nat) (x1 : Int) (x2 : Nat) : Option gM :=
  bd (fJ5_inflateIfNeededFor_a7421 ad S Ln R M a0 x2) fun q1 => rf S (R a0 0) 23 fun b2 => bd (fJ0_getBytes_840e7 ad S Ln R M x2 b2 x1 (M a0 1)) fun q4 => some (q4)
theorem xJ5_putStringAt_47b60 {l : Launch} {G : gE} {sz : Nat} {S Ln : Nat → Nat} {M : gM} {R : gR} (hl : l.stackTraces = false) {a0 : Nat} (hs0 : S a0 = 2) {x1 : Int} (hp1 : (-2147483648 ≤ x1 ∧ x1 < 2147483648)) {x2 : Nat} (hp2 : S x2 = 1) {r : gM} (h : fJ5_putStringAt_47b60 G.2.2.2.2 S Ln R M a0 x1 x2 = some r) : Ct l G yJ5_putStringAt_47b60 cJ5_putStringAt_47b60 3 none 3 0 0 [.ref a0, .int (iI x1), .ref x2] sz S Ln M R (poV sz S Ln (r) R) noX := by
  refine jj_start (own := RJ5) (lv0 := [(0, .ref a0), (1, .int (iI x1)), (2, .ref x2)]) hl (by decide +kernel) rfl rfl (c_le rfl) (fun C hCl hC => ?_)
  unfold fJ5_putStringAt_47b60 at h
  refine jj_aload_n hC dJ5_putStringAt_47b60_0 rfl 0 rfl ?_
  refine jj_aload_n hC dJ5_putStringAt_47b60_1 rfl 2 rfl ?_
  obtain ⟨q1, hq1, h⟩ := bd_e h
  refine jj_invVC hC mvJ5_inflateIfNeededFor_a7421 wd280 (fun _ _ hw hn9 => jj_selP hw wd237 rfl (by decide +kernel) (by decide +kernel) (va_Nw.use rfl (hn9 _ wd279)) wd280) wd278 hs0 (by decide) rfl (xJ5_inflateIfNeededFor_a7421 (OKC.tr hC) hs0 hp2 hq1) rfl rfl (c_le rfl) (c_le rfl) (c_le rfl) (c_le rfl) dJ5_putStringAt_47b60_2 noXk (po_kV ?_)
  refine jj_aload_n hC dJ5_putStringAt_47b60_5 rfl 2 rfl ?_
  refine jj_aload_n hC dJ5_putStringAt_47b60_6 rfl 0 rfl ?_
  obtain ⟨b2, hb2, hs2, h⟩ := rf_e h
  refine jg_R hC kfJ4 0 rfl hs0 (by decide) wd174 rfl hb2 dJ5_putStringAt_47b60_7 ?_
  refine jj_iload_n hC dJ5_putStringAt_47b60_10 rfl 1 rfl ?_
  refine jj_aload_n hC dJ5_putStringAt_47b60_11 rfl 0 rfl ?_
  refine jg_B hC kfJ4 1 rfl hs0 (by decide) wd175 rfl dJ5_putStringAt_47b60_12 (fun hr3 => ?_)
  obtain ⟨q4, hq4, h⟩ := bd_e h
  refine jj_invV hC mvJ0_getBytes_840e7 wd303 wd304 wd302 hp2 (by decide) rfl (xJ0_getBytes_840e7 (OKC.tr hC) hp2 hs2 hp1 hr3 hq4) rfl rfl (c_le rfl) (c_le rfl) (c_le rfl) (c_le rfl) dJ5_putStringAt_47b60_15 noXk (po_kV ?_)
  cases h
  exact jj_vret hC (c_le rfl) (c_le rfl) dJ5_putStringAt_47b60_18 ⟨rfl, trivial, rfl, rfl, rfl, rfl, rfl⟩
def fJ5_append_cf1ce (ad : Nat → Nat) (sz : Nat) (S Ln : Nat → Nat) (R : gR) (M : gM) (a0 : Nat) (x1 : Nat) : Option (Nat × Nat × (Nat → Nat) × (Nat → Nat) × gM × gR) :=
  bd (fJ0_length_8abf5 ad S Ln R M x1) fun q1 => bd (fJ5_ensureCapacityInternal_d00df ad sz S Ln R M a0 (w32 ((M a0 3) + q1))) fun q3 => bd (fJ5_putStringAt_47b60 ad q3.2.1 q3.2.2.1 q3.2.2.2.2 q3.2.2.2.1 a0 (q3.2.2.2.1 a0 3) x1) fun q5 => nam (wr q5 a0 3 (w32 ((q5 a0 3) + q1))) fun M7 => some ((a0, q3.1, q3.2.1, q3.2.2.1, M7, q3.2.2.2.2))
theorem xJ5_append_cf1ce {l : Launch} {G : gE} {sz : Nat} {S Ln : Nat → Nat} {M : gM} {R : gR} (hl : l.stackTraces = false) {a0 : Nat} (hs0 : S a0 = 2) {x1 : Nat} (hp1 : S x1 = 1) {r : Nat × Nat × (Nat → Nat) × (Nat → Nat) × gM × gR} (h : fJ5_append_cf1ce G.2.2.2.2 sz S Ln R M a0 x1 = some r) : Ct l G yJ5_append_cf1ce cJ5_append_cf1ce 3 (some (.object "java/lang/AbstractStringBuilder")) 10 1 256 [.ref a0, .ref x1] sz S Ln M R (poX (poA 2 r.1 (r.2.1) (r.2.2.1) (r.2.2.2.1) (r.2.2.2.2.1) (r.2.2.2.2.2)) (Ext sz S Ln (r.2.1) (r.2.2.1) (r.2.2.2.1))) noX := by
  refine jj_start (own := RJ5) (lv0 := [(0, .ref a0), (1, .ref x1)]) hl (by decide +kernel) rfl rfl (c_le rfl) (fun C hCl hC => ?_)
  unfold fJ5_append_cf1ce at h
  refine jj_aload_n hC dJ5_append_cf1ce_0 rfl 1 rfl ?_
  refine jj_ifnonnull (tgt := 9) hC dJ5_append_cf1ce_1 rfl ?_
  refine jj_aload_n hC dJ5_append_cf1ce_9 rfl 1 rfl ?_
  obtain ⟨q1, hq1, h⟩ := bd_e h
  refine jj_invV hC mvJ0_length_8abf5 wd266 wd267 wd265 hp1 (by decide) rfl (xJ0_length_8abf5 (OKC.tr hC) hp1 hq1) rfl rfl (c_le rfl) (c_le rfl) (by omega) (by omega) dJ5_append_cf1ce_10 noXk (po_kI (fun hr1 => ?_))
  refine jj_istore_n (lv' := [(2, .int (iI q1)), (0, .ref a0), (1, .ref x1)]) hC dJ5_append_cf1ce_13 rfl (by decide) rfl ?_
  refine jj_aload_n hC dJ5_append_cf1ce_14 rfl 1 rfl ?_
  refine jj_aload_n hC dJ5_append_cf1ce_15 rfl 1 rfl ?_
  refine jg_I hC kfJ4 3 rfl hs0 (by decide) wd178 rfl dJ5_append_cf1ce_16 (fun hr2 => ?_)
  refine jj_iload_n hC dJ5_append_cf1ce_19 rfl 0 rfl ?_
  refine jg_iadd hC dJ5_append_cf1ce_20 ?_
  obtain ⟨q3, hq3, h⟩ := bd_e h
  refine jj_invVC hC mvJ5_ensureCapacityInternal_d00df wd201 (fun _ _ hw hn9 => jj_selP hw wd237 rfl (by decide +kernel) (by decide +kernel) (va_Nw.use rfl (hn9 _ wd200)) wd201) wd199 hs0 (by decide) rfl (xJ5_ensureCapacityInternal_d00df (OKC.tr hC) hs0 (w32_r _) hq3) rfl rfl (c_le rfl) (c_le rfl) (by omega) (by omega) dJ5_append_cf1ce_21 noXk (poX_k (fun hx3 => po_kV ?_))
  refine jj_widen (k' := 1) (n' := 256) (by omega) (by omega) ?_
  refine jj_aload_n hC dJ5_append_cf1ce_24 rfl 1 rfl ?_
  refine jj_aload_n hC dJ5_append_cf1ce_25 rfl 1 rfl ?_
  refine jg_I hC kfJ4 3 rfl (ext_s hx3 hs0 (by decide)) (by decide) wd178 rfl dJ5_append_cf1ce_26 (fun hr4 => ?_)
  refine jj_aload_n hC dJ5_append_cf1ce_29 rfl 2 rfl ?_
  obtain ⟨q5, hq5, h⟩ := bd_e h
  refine jj_invVC hC mvJ5_putStringAt_47b60 wd276 (fun _ _ hw hn9 => jj_selP hw wd237 rfl (by decide +kernel) (by decide +kernel) (va_Nw.use rfl (hn9 _ wd275)) wd276) wd274 (ext_s hx3 hs0 (by decide)) (by decide) rfl (xJ5_putStringAt_47b60 (OKC.tr hC) (ext_s hx3 hs0 (by decide)) hr4 (ext_s hx3 hp1 (by decide)) hq5) rfl rfl (c_le rfl) (c_le rfl) (by omega) (by omega) dJ5_append_cf1ce_30 noXk (po_kV ?_)
  refine jj_aload_n hC dJ5_append_cf1ce_33 rfl 1 rfl ?_
  refine jj_dup hC dJ5_append_cf1ce_34 rfl ?_
  refine jg_I hC kfJ4 3 rfl (ext_s hx3 hs0 (by decide)) (by decide) wd178 rfl dJ5_append_cf1ce_35 (fun hr6 => ?_)
  refine jj_iload_n hC dJ5_append_cf1ce_38 rfl 0 rfl ?_
  refine jg_iadd hC dJ5_append_cf1ce_39 ?_
  obtain ⟨M7, hM7, h⟩ := nam_e h
  refine jp_I hC kfJ4 3 rfl (ext_s hx3 hs0 (by decide)) rfl (by decide) wd178 rfl rfl rfl (w32_r _) dJ5_append_cf1ce_40 (jj_M hM7 ?_)
  refine jj_aload_n hC dJ5_append_cf1ce_43 rfl 1 rfl ?_
  cases h
  exact jj_aret hC rfl (Or.inl ⟨_, rfl⟩) (by omega) (by omega) dJ5_append_cf1ce_44 ⟨⟨rfl, (ext_s hx3 hs0 (by decide)), rfl, rfl, rfl, rfl, rfl⟩, hx3⟩
def fJ4_append_15ec4 (ad : Nat → Nat) (sz : Nat) (S Ln : Nat → Nat) (R : gR) (M : gM) (a0 : Nat) (x1 : Nat) : Option (Nat × Nat × (Nat → Nat) × (Nat → Nat) × gM × gR) :=
  bd (fJ5_append_cf1ce ad sz S Ln R M a0 x1) fun q1 => some ((a0, q1.2.1, q1.2.2.1, q1.2.2.2.1, q1.2.2.2.2.1, q1.2.2.2.2.2))
theorem xJ4_append_15ec4 {l : Launch} {G : gE} {sz : Nat} {S Ln : Nat → Nat} {M : gM} {R : gR} (hl : l.stackTraces = false) {a0 : Nat} (hs0 : S a0 = 2) {x1 : Nat} (hp1 : S x1 = 1) {r : Nat × Nat × (Nat → Nat) × (Nat → Nat) × gM × gR} (h : fJ4_append_15ec4 G.2.2.2.2 sz S Ln R M a0 x1 = some r) : Ct l G yJ4_append_15ec4 cJ4_append_15ec4 2 (some (.object "java/lang/StringBuilder")) 11 1 256 [.ref a0, .ref x1] sz S Ln M R (poX (poA 2 r.1 (r.2.1) (r.2.2.1) (r.2.2.2.1) (r.2.2.2.2.1) (r.2.2.2.2.2)) (Ext sz S Ln (r.2.1) (r.2.2.1) (r.2.2.2.1))) noX := by
  refine jj_start (own := RJ4) (lv0 := [(0, .ref a0), (1, .ref x1)]) hl (by decide +kernel) rfl rfl (c_le rfl) (fun C hCl hC => ?_)
  unfold fJ4_append_15ec4 at h
  refine jj_aload_n hC dJ4_append_15ec4_0 rfl 0 rfl ?_
  refine jj_aload_n hC dJ4_append_15ec4_1 rfl 1 rfl ?_
  obtain ⟨q1, hq1, h⟩ := bd_e h
  refine jj_invSU hC mvJ5_append_cf1ce (by decide +kernel) wd193 wd1569 wd148 wd192 hs0 (by decide) rfl (xJ5_append_cf1ce (OKC.tr hC) hs0 hp1 hq1) rfl rfl (c_le rfl) (c_le rfl) (by omega) (by omega) dJ4_append_15ec4_2 (poX_k (fun hx1 => po_kA (fun hr1 => ?_)))
  refine jj_widen (k' := 1) (n' := 256) (by omega) (by omega) ?_
  refine jj_pop hC dJ4_append_15ec4_5 rfl ?_
  refine jj_aload_n hC dJ4_append_15ec4_6 rfl 0 rfl ?_
  cases h
  exact jj_aret hC rfl (Or.inl ⟨_, rfl⟩) (by omega) (by omega) dJ4_append_15ec4_7 ⟨⟨rfl, (ext_s hx1 hs0 (by decide)), rfl, rfl, rfl, rfl, rfl⟩, hx1⟩
def fJ5_setLength_d00df_B76 (ad : Nat → Nat) (sz76 : Nat) (S76 Ln76 : Nat → Nat) (R76 : gR) (M76 : gM) (l0_76 : Nat) (l1_76 : Int) : Option (Nat × (Nat → Nat) × (Nat → Nat) × gM × gR) :=
  nam (wr M76 l0_76 3 l1_76) fun M4 => some ((sz76, S76, Ln76, M4, R76))
def fJ5_setLength_d00df (ad : Nat → Nat) (sz : Nat) (S Ln : Nat → Nat) (R : gR) (M : gM) (a0 : Nat) (x1 : Int) : Option (Nat × (Nat → Nat) × (Nat → Nat) × gM × gR) :=
  if 0 ≤ x1 then (bd (fJ5_ensureCapacityInternal_d00df ad sz S Ln R M a0 x1) fun q1 => if x1 ≤ (q1.2.2.2.1 a0 3) then (if (q1.2.2.2.1 a0 3) ≤ x1 then (fJ5_setLength_d00df_B76 ad q1.1 q1.2.1 q1.2.2.1 q1.2.2.2.2 q1.2.2.2.1 a0 x1) else (nam (wr q1.2.2.2.1 a0 2 1) fun M5 => fJ5_setLength_d00df_B76 ad q1.1 q1.2.1 q1.2.2.1 q1.2.2.2.2 M5 a0 x1)) else (bd (fJ5_isLatin1_aae02 ad q1.2.1 q1.2.2.1 q1.2.2.2.2 q1.2.2.2.1 a0) fun q6 => if q6 = 0 then (none) else (none))) else (none)
theorem xJ5_setLength_d00df {l : Launch} {G : gE} {sz : Nat} {S Ln : Nat → Nat} {M : gM} {R : gR} (hl : l.stackTraces = false) {a0 : Nat} (hs0 : S a0 = 2) {x1 : Int} (hp1 : (-2147483648 ≤ x1 ∧ x1 < 2147483648)) {r : Nat × (Nat → Nat) × (Nat → Nat) × gM × gR} (h : fJ5_setLength_d00df G.2.2.2.2 sz S Ln R M a0 x1 = some r) : Ct l G yJ5_setLength_d00df cJ5_setLength_d00df 2 none 10 1 256 [.ref a0, .int (iI x1)] sz S Ln M R (poX (poV (r.1) (r.2.1) (r.2.2.1) (r.2.2.2.1) (r.2.2.2.2)) (Ext sz S Ln (r.1) (r.2.1) (r.2.2.1))) noX := by
  refine jj_start (own := RJ5) (lv0 := [(0, .ref a0), (1, .int (iI x1))]) hl (by decide +kernel) rfl rfl (c_le rfl) (fun C hCl hC => ?_)
  have hB76 : ∀ (sz76 : Nat) (S76 : (Nat → Nat)) (Ln76 : (Nat → Nat)) (M76 : gM) (R76 : gR) (l0_76 : Nat) (l1_76 : Int), Ext sz S Ln sz76 S76 Ln76 → S76 l0_76 = 2 → (-2147483648 ≤ l1_76 ∧ l1_76 < 2147483648) → fJ5_setLength_d00df_B76 G.2.2.2.2 sz76 S76 Ln76 R76 M76 l0_76 l1_76 = some r → JJ G C 1 256 sz76 S76 Ln76 M76 R76 76 [(0, .ref l0_76), (1, .int (iI l1_76))] [] := by
    intro sz76 S76 Ln76 M76 R76 l0_76 l1_76 hx76 hl0_76 hl1_76 h
    unfold fJ5_setLength_d00df_B76 at h
    refine jj_aload_n hC dJ5_setLength_d00df_76 rfl 0 rfl ?_
    refine jj_iload_n hC dJ5_setLength_d00df_77 rfl 1 rfl ?_
    obtain ⟨M4, hM4, h⟩ := nam_e h
    refine jp_I hC kfJ4 3 rfl hl0_76 rfl (by decide) wd178 rfl rfl rfl hl1_76 dJ5_setLength_d00df_78 (jj_M hM4 ?_)
    cases h
    exact jj_vret hC (by omega) (by omega) dJ5_setLength_d00df_81 ⟨⟨rfl, trivial, rfl, rfl, rfl, rfl, rfl⟩, hx76⟩
  unfold fJ5_setLength_d00df at h
  refine jj_iload_n hC dJ5_setLength_d00df_0 rfl 1 rfl ?_
  refine jj_if_ge (tgt := 13) hC dJ5_setLength_d00df_1 rfl hp1 (fun hc => ?_) (fun hc => ?_)
  · replace h := (if_pos hc).symm.trans h
    refine jj_aload_n hC dJ5_setLength_d00df_13 rfl 0 rfl ?_
    refine jj_iload_n hC dJ5_setLength_d00df_14 rfl 1 rfl ?_
    obtain ⟨q1, hq1, h⟩ := bd_e h
    refine jj_invVC hC mvJ5_ensureCapacityInternal_d00df wd201 (fun _ _ hw hn9 => jj_selP hw wd237 rfl (by decide +kernel) (by decide +kernel) (va_Nw.use rfl (hn9 _ wd200)) wd201) wd199 hs0 (by decide) rfl (xJ5_ensureCapacityInternal_d00df (OKC.tr hC) hs0 hp1 hq1) rfl rfl (c_le rfl) (c_le rfl) (by omega) (by omega) dJ5_setLength_d00df_15 noXk (poX_k (fun hx1 => po_kV ?_))
    refine jj_widen (k' := 1) (n' := 256) (by omega) (by omega) ?_
    refine jj_aload_n hC dJ5_setLength_d00df_18 rfl 0 rfl ?_
    refine jg_I hC kfJ4 3 rfl (ext_s hx1 hs0 (by decide)) (by decide) wd178 rfl dJ5_setLength_d00df_19 (fun hr2 => ?_)
    refine jj_iload_n hC dJ5_setLength_d00df_22 rfl 1 rfl ?_
    refine jj_icmp_ge (tgt := 63) hC dJ5_setLength_d00df_23 rfl hr2 hp1 (fun hc => ?_) (fun hc => ?_)
    · replace h := (if_pos hc).symm.trans h
      refine jj_aload_n hC dJ5_setLength_d00df_63 rfl 0 rfl ?_
      refine jg_I hC kfJ4 3 rfl (ext_s hx1 hs0 (by decide)) (by decide) wd178 rfl dJ5_setLength_d00df_64 (fun hr3 => ?_)
      refine jj_iload_n hC dJ5_setLength_d00df_67 rfl 1 rfl ?_
      refine jj_icmp_le (tgt := 76) hC dJ5_setLength_d00df_68 rfl hr3 hp1 (fun hc => ?_) (fun hc => ?_)
      · replace h := (if_pos hc).symm.trans h
        refine jj_widen (k' := 1) (n' := 256) (by omega) (by omega) ?_
        refine jj_lv (lv' := [(0, .ref a0), (1, .int (iI x1))]) [0, 1] rfl ?_
        exact hB76 q1.1 q1.2.1 q1.2.2.1 q1.2.2.2.1 q1.2.2.2.2 a0 x1 hx1 (ext_s hx1 hs0 (by decide)) hp1 h
      · replace h := (if_neg (Int.not_le.mpr hc)).symm.trans h
        refine jj_aload_n hC dJ5_setLength_d00df_71 rfl 0 rfl ?_
        refine jj_iconst hC dJ5_setLength_d00df_72 ?_
        obtain ⟨M5, hM5, h⟩ := nam_e h
        refine jp_Z hC kfJ4 2 rfl (ext_s hx1 hs0 (by decide)) rfl (by decide) wd176 rfl rfl rfl (show (0 ≤ (1 : Int) ∧ (1 : Int) ≤ 1) from by decide) dJ5_setLength_d00df_73 (jj_M hM5 ?_)
        refine jj_widen (k' := 1) (n' := 256) (by omega) (by omega) ?_
        refine jj_lv (lv' := [(0, .ref a0), (1, .int (iI x1))]) [0, 1] rfl ?_
        exact hB76 q1.1 q1.2.1 q1.2.2.1 M5 q1.2.2.2.2 a0 x1 hx1 (ext_s hx1 hs0 (by decide)) hp1 h
    · replace h := (if_neg (Int.not_le.mpr hc)).symm.trans h
      refine jj_aload_n hC dJ5_setLength_d00df_26 rfl 0 rfl ?_
      obtain ⟨q6, hq6, h⟩ := bd_e h
      refine jj_invVC hC mvJ5_isLatin1_aae02 wd235 (fun _ _ hw _ => hw _ wd237) wd234 (ext_s hx1 hs0 (by decide)) (by decide) rfl (xJ5_isLatin1_aae02 (OKC.tr hC) (ext_s hx1 hs0 (by decide)) hq6) rfl rfl (c_le rfl) (c_le rfl) (by omega) (by omega) dJ5_setLength_d00df_27 noXk (po_kZ (fun hr6 => ?_))
      refine jj_if_eq (tgt := 48) hC dJ5_setLength_d00df_30 rfl (r_z hr6) (fun hc => ?_) (fun hc => ?_)
      · replace h := (if_pos hc).symm.trans h
        cases h
      · replace h := (if_neg (hc)).symm.trans h
        cases h
  · replace h := (if_neg (Int.not_le.mpr hc)).symm.trans h
    cases h
def fJ4_setLength_d00df (ad : Nat → Nat) (sz : Nat) (S Ln : Nat → Nat) (R : gR) (M : gM) (a0 : Nat) (x1 : Int) : Option (Nat × (Nat → Nat) × (Nat → Nat) × gM × gR) :=
  bd (fJ5_setLength_d00df ad sz S Ln R M a0 x1) fun q1 => some ((q1.1, q1.2.1, q1.2.2.1, q1.2.2.2.1, q1.2.2.2.2))
theorem xJ4_setLength_d00df {l : Launch} {G : gE} {sz : Nat} {S Ln : Nat → Nat} {M : gM} {R : gR} (hl : l.stackTraces = false) {a0 : Nat} (hs0 : S a0 = 2) {x1 : Int} (hp1 : (-2147483648 ≤ x1 ∧ x1 < 2147483648)) {r : Nat × (Nat → Nat) × (Nat → Nat) × gM × gR} (h : fJ4_setLength_d00df G.2.2.2.2 sz S Ln R M a0 x1 = some r) : Ct l G yJ4_setLength_d00df cJ4_setLength_d00df 2 none 11 1 256 [.ref a0, .int (iI x1)] sz S Ln M R (poX (poV (r.1) (r.2.1) (r.2.2.1) (r.2.2.2.1) (r.2.2.2.2)) (Ext sz S Ln (r.1) (r.2.1) (r.2.2.1))) noX := by
  refine jj_start (own := RJ4) (lv0 := [(0, .ref a0), (1, .int (iI x1))]) hl (by decide +kernel) rfl rfl (c_le rfl) (fun C hCl hC => ?_)
  unfold fJ4_setLength_d00df at h
  refine jj_aload_n hC dJ4_setLength_d00df_0 rfl 0 rfl ?_
  refine jj_iload_n hC dJ4_setLength_d00df_1 rfl 1 rfl ?_
  obtain ⟨q1, hq1, h⟩ := bd_e h
  refine jj_invSU hC mvJ5_setLength_d00df (by decide +kernel) wd149 wd1568 wd148 wd147 hs0 (by decide) rfl (xJ5_setLength_d00df (OKC.tr hC) hs0 hp1 hq1) rfl rfl (c_le rfl) (c_le rfl) (by omega) (by omega) dJ4_setLength_d00df_2 (poX_k (fun hx1 => po_kV ?_))
  refine jj_widen (k' := 1) (n' := 256) (by omega) (by omega) ?_
  cases h
  exact jj_vret hC (by omega) (by omega) dJ4_setLength_d00df_5 ⟨⟨rfl, trivial, rfl, rfl, rfl, rfl, rfl⟩, hx1⟩
def fJ5_length_8abf5 (ad S Ln : Nat → Nat) (R : gR) (M : gM) (a0 : Nat) : Option Int :=
  some (M a0 3)
theorem xJ5_length_8abf5 {l : Launch} {G : gE} {sz : Nat} {S Ln : Nat → Nat} {M : gM} {R : gR} (hl : l.stackTraces = false) {a0 : Nat} (hs0 : S a0 = 2) {r : Int} (h : fJ5_length_8abf5 G.2.2.2.2 S Ln R M a0 = some r) : Ct l G yJ5_length_8abf5 cJ5_length_8abf5 1 (some .int) 1 0 0 [.ref a0] sz S Ln M R (poI r sz S Ln (M) R) noX := by
  refine jj_start (own := RJ5) (lv0 := [(0, .ref a0)]) hl (by decide +kernel) rfl rfl (c_le rfl) (fun C hCl hC => ?_)
  unfold fJ5_length_8abf5 at h
  refine jj_aload_n hC dJ5_length_8abf5_0 rfl 0 rfl ?_
  refine jg_I hC kfJ4 3 rfl hs0 (by decide) wd178 rfl dJ5_length_8abf5_1 (fun hr1 => ?_)
  cases h
  exact jj_iret hC (c_le rfl) (c_le rfl) dJ5_length_8abf5_4 ⟨rfl, hr1, rfl, rfl, rfl, rfl, rfl⟩
def fJ4_length_8abf5 (ad S Ln : Nat → Nat) (R : gR) (M : gM) (a0 : Nat) : Option Int :=
  bd (fJ5_length_8abf5 ad S Ln R M a0) fun q1 => some (q1)
theorem xJ4_length_8abf5 {l : Launch} {G : gE} {sz : Nat} {S Ln : Nat → Nat} {M : gM} {R : gR} (hl : l.stackTraces = false) {a0 : Nat} (hs0 : S a0 = 2) {r : Int} (h : fJ4_length_8abf5 G.2.2.2.2 S Ln R M a0 = some r) : Ct l G yJ4_length_8abf5 cJ4_length_8abf5 1 (some .int) 2 0 0 [.ref a0] sz S Ln M R (poI r sz S Ln (M) R) noX := by
  refine jj_start (own := RJ4) (lv0 := [(0, .ref a0)]) hl (by decide +kernel) rfl rfl (c_le rfl) (fun C hCl hC => ?_)
  unfold fJ4_length_8abf5 at h
  refine jj_aload_n hC dJ4_length_8abf5_0 rfl 0 rfl ?_
  obtain ⟨q1, hq1, h⟩ := bd_e h
  refine jj_invSU hC mvJ5_length_8abf5 (by decide +kernel) wd352 wd353 wd148 wd357 hs0 (by decide) rfl (xJ5_length_8abf5 (OKC.tr hC) hs0 hq1) rfl rfl (c_le rfl) (c_le rfl) (c_le rfl) (c_le rfl) dJ4_length_8abf5_1 (po_kI (fun hr1 => ?_))
  cases h
  exact jj_iret hC (c_le rfl) (c_le rfl) dJ4_length_8abf5_4 ⟨rfl, hr1, rfl, rfl, rfl, rfl, rfl⟩
