def fJ0_coder_7d493 (ad S Ln : Nat → Nat) (R : gR) (M : gM) (a0 : Nat) : Option Int :=
  if (1 : Int) = 0 then (some (1)) else (some (M a0 1))
theorem xJ0_coder_7d493 {l : Launch} {G : gE} {sz : Nat} {S Ln : Nat → Nat} {M : gM} {R : gR} (hl : l.stackTraces = false) {a0 : Nat} (hs0 : S a0 = 1) {r : Int} (h : fJ0_coder_7d493 G.2.2.2.2 S Ln R M a0 = some r) : Ct l G yJ0_coder_7d493 cJ0_coder_7d493 1 (some .byte) 1 0 0 [.ref a0] sz S Ln M R (poB r sz S Ln (M) R) noX := by
  refine jj_start (own := RJ0) (lv0 := [(0, .ref a0)]) hl (by decide +kernel) rfl rfl (c_le rfl) (fun C hCl hC => ?_)
  unfold fJ0_coder_7d493 at h
  refine jj_getsV (v := .int (iI 1)) hC 0 rfl wd273 dJ0_coder_7d493_0 ?_
  refine jj_if_eq (tgt := 13) hC dJ0_coder_7d493_3 rfl (show (-2147483648 ≤ (1 : Int) ∧ (1 : Int) < 2147483648) from by decide) (fun hc => ?_) (fun hc => ?_)
  · replace h := (if_pos hc).symm.trans h
    refine jj_iconst hC dJ0_coder_7d493_13 ?_
    cases h
    exact jj_bret hC (show (-128 ≤ (1 : Int) ∧ (1 : Int) < 128) from by decide) (c_le rfl) (c_le rfl) dJ0_coder_7d493_14 ⟨rfl, (show (-128 ≤ (1 : Int) ∧ (1 : Int) < 128) from by decide), rfl, rfl, rfl, rfl, rfl⟩
  · replace h := (if_neg (hc)).symm.trans h
    refine jj_aload_n hC dJ0_coder_7d493_6 rfl 0 rfl ?_
    refine jg_B hC kfJ0 1 rfl hs0 (by decide) wd404 rfl dJ0_coder_7d493_7 (fun hr2 => ?_)
    refine jj_goto (tgt := 14) hC dJ0_coder_7d493_10 rfl ?_
    cases h
    exact jj_bret hC hr2 (c_le rfl) (c_le rfl) dJ0_coder_7d493_14 ⟨rfl, hr2, rfl, rfl, rfl, rfl, rfl⟩
def fJ0_length_8abf5 (ad S Ln : Nat → Nat) (R : gR) (M : gM) (a0 : Nat) : Option Int :=
  rf S (R a0 0) 28 fun b1 => bd (fJ0_coder_7d493 ad S Ln R M a0) fun q3 => some (i_shr (Ln b1 : Int) q3)
theorem xJ0_length_8abf5 {l : Launch} {G : gE} {sz : Nat} {S Ln : Nat → Nat} {M : gM} {R : gR} (hl : l.stackTraces = false) {a0 : Nat} (hs0 : S a0 = 1) {r : Int} (h : fJ0_length_8abf5 G.2.2.2.2 S Ln R M a0 = some r) : Ct l G yJ0_length_8abf5 cJ0_length_8abf5 1 (some .int) 2 0 0 [.ref a0] sz S Ln M R (poI r sz S Ln (M) R) noX := by
  refine jj_start (own := RJ0) (lv0 := [(0, .ref a0)]) hl (by decide +kernel) rfl rfl (c_le rfl) (fun C hCl hC => ?_)
  unfold fJ0_length_8abf5 at h
  refine jj_aload_n hC dJ0_length_8abf5_0 rfl 0 rfl ?_
  obtain ⟨b1, hb1, hs1, h⟩ := rf_e h
  refine jg_R hC kfJ0 0 rfl hs0 (by decide) wd403 rfl hb1 dJ0_length_8abf5_1 ?_
  refine jj_alen hC hs1 8 (by decide) rfl dJ0_length_8abf5_4 (fun hr2 => ?_)
  refine jj_aload_n hC dJ0_length_8abf5_5 rfl 0 rfl ?_
  obtain ⟨q3, hq3, h⟩ := bd_e h
  refine jj_invV hC mvJ0_coder_7d493 wd270 wd271 wd269 hs0 (by decide) rfl (xJ0_coder_7d493 (OKC.tr hC) hs0 hq3) rfl rfl (c_le rfl) (c_le rfl) (c_le rfl) (c_le rfl) dJ0_length_8abf5_6 noXk (po_kB (fun hr3 => ?_))
  refine jg_ishr hC dJ0_length_8abf5_9 ?_
  cases h
  exact jj_iret hC (c_le rfl) (c_le rfl) dJ0_length_8abf5_10 ⟨rfl, (iI_rng _), rfl, rfl, rfl, rfl, rfl⟩
def fJ0_isLatin1_aae02 (ad S Ln : Nat → Nat) (R : gR) (M : gM) (a0 : Nat) : Option Int :=
  if (1 : Int) = 0 then (some (0)) else (if ¬ (M a0 1) = 0 then (some (0)) else (some (1)))
theorem xJ0_isLatin1_aae02 {l : Launch} {G : gE} {sz : Nat} {S Ln : Nat → Nat} {M : gM} {R : gR} (hl : l.stackTraces = false) {a0 : Nat} (hs0 : S a0 = 1) {r : Int} (h : fJ0_isLatin1_aae02 G.2.2.2.2 S Ln R M a0 = some r) : Ct l G yJ0_isLatin1_aae02 cJ0_isLatin1_aae02 1 (some .boolean) 1 0 0 [.ref a0] sz S Ln M R (poZ r sz S Ln (M) R) noX := by
  refine jj_start (own := RJ0) (lv0 := [(0, .ref a0)]) hl (by decide +kernel) rfl rfl (c_le rfl) (fun C hCl hC => ?_)
  unfold fJ0_isLatin1_aae02 at h
  refine jj_getsV (v := .int (iI 1)) hC 0 rfl wd273 dJ0_isLatin1_aae02_0 ?_
  refine jj_if_eq (tgt := 17) hC dJ0_isLatin1_aae02_3 rfl (show (-2147483648 ≤ (1 : Int) ∧ (1 : Int) < 2147483648) from by decide) (fun hc => ?_) (fun hc => ?_)
  · replace h := (if_pos hc).symm.trans h
    refine jj_iconst hC dJ0_isLatin1_aae02_17 ?_
    cases h
    exact jj_zret hC (show (0 ≤ (0 : Int) ∧ (0 : Int) ≤ 1) from by decide) (c_le rfl) (c_le rfl) dJ0_isLatin1_aae02_18 ⟨rfl, (show (0 ≤ (0 : Int) ∧ (0 : Int) ≤ 1) from by decide), rfl, rfl, rfl, rfl, rfl⟩
  · replace h := (if_neg (hc)).symm.trans h
    refine jj_aload_n hC dJ0_isLatin1_aae02_6 rfl 0 rfl ?_
    refine jg_B hC kfJ0 1 rfl hs0 (by decide) wd404 rfl dJ0_isLatin1_aae02_7 (fun hr2 => ?_)
    refine jj_if_ne (tgt := 17) hC dJ0_isLatin1_aae02_10 rfl (r_b hr2) (fun hc => ?_) (fun hc => ?_)
    · replace h := (if_pos hc).symm.trans h
      refine jj_iconst hC dJ0_isLatin1_aae02_17 ?_
      cases h
      exact jj_zret hC (show (0 ≤ (0 : Int) ∧ (0 : Int) ≤ 1) from by decide) (c_le rfl) (c_le rfl) dJ0_isLatin1_aae02_18 ⟨rfl, (show (0 ≤ (0 : Int) ∧ (0 : Int) ≤ 1) from by decide), rfl, rfl, rfl, rfl, rfl⟩
    · replace h := (if_neg (fun k => k hc)).symm.trans h
      refine jj_iconst hC dJ0_isLatin1_aae02_13 ?_
      refine jj_goto (tgt := 18) hC dJ0_isLatin1_aae02_14 rfl ?_
      cases h
      exact jj_zret hC (show (0 ≤ (1 : Int) ∧ (1 : Int) ≤ 1) from by decide) (c_le rfl) (c_le rfl) dJ0_isLatin1_aae02_18 ⟨rfl, (show (0 ≤ (1 : Int) ∧ (1 : Int) ≤ 1) from by decide), rfl, rfl, rfl, rfl, rfl⟩
def fJ3_checkIndex_8e157 (ad S Ln : Nat → Nat) (R : gR) (M : gM) (x0 : Int) (x1 : Int) : Option Int :=
  if x0 < 0 then (none) else (if x0 < x1 then (some (x0)) else (none))
theorem xJ3_checkIndex_8e157 {l : Launch} {G : gE} {sz : Nat} {S Ln : Nat → Nat} {M : gM} {R : gR} (hl : l.stackTraces = false) {x0 : Int} (hp0 : (-2147483648 ≤ x0 ∧ x0 < 2147483648)) {x1 : Int} (hp1 : (-2147483648 ≤ x1 ∧ x1 < 2147483648)) {x2 : Value} (hp2 : (x2 = Value.null ∨ ∃ t, x2 = Value.ref t)) {r : Int} (h : fJ3_checkIndex_8e157 G.2.2.2.2 S Ln R M x0 x1 = some r) : Ct l G yJ3_checkIndex_8e157 cJ3_checkIndex_8e157 3 (some .int) 8 0 0 [.int (iI x0), .int (iI x1), x2] sz S Ln M R (poI r sz S Ln (M) R) noX := by
  rcases hp2 with rfl | ⟨t0, rfl⟩
  · refine jj_start (own := RJ3) (lv0 := [(0, .int (iI x0)), (1, .int (iI x1)), (2, Value.null)]) hl (by decide +kernel) rfl rfl (c_le rfl) (fun C hCl hC => ?_)
    unfold fJ3_checkIndex_8e157 at h
    refine jj_iload_n hC dJ3_checkIndex_8e157_0 rfl 0 rfl ?_
    refine jj_if_lt (tgt := 9) hC dJ3_checkIndex_8e157_1 rfl hp0 (fun hc => ?_) (fun hc => ?_)
    · replace h := (if_pos hc).symm.trans h
      cases h
    · replace h := (if_neg (Int.not_lt.mpr hc)).symm.trans h
      refine jj_iload_n hC dJ3_checkIndex_8e157_4 rfl 0 rfl ?_
      refine jj_iload_n hC dJ3_checkIndex_8e157_5 rfl 1 rfl ?_
      refine jj_icmp_lt (tgt := 16) hC dJ3_checkIndex_8e157_6 rfl hp0 hp1 (fun hc => ?_) (fun hc => ?_)
      · replace h := (if_pos hc).symm.trans h
        refine jj_iload_n hC dJ3_checkIndex_8e157_16 rfl 0 rfl ?_
        cases h
        exact jj_iret hC (c_le rfl) (c_le rfl) dJ3_checkIndex_8e157_17 ⟨rfl, hp0, rfl, rfl, rfl, rfl, rfl⟩
      · replace h := (if_neg (Int.not_lt.mpr hc)).symm.trans h
        cases h
  · refine jj_start (own := RJ3) (lv0 := [(0, .int (iI x0)), (1, .int (iI x1)), (2, Value.ref t0)]) hl (by decide +kernel) rfl rfl (c_le rfl) (fun C hCl hC => ?_)
    unfold fJ3_checkIndex_8e157 at h
    refine jj_iload_n hC dJ3_checkIndex_8e157_0 rfl 0 rfl ?_
    refine jj_if_lt (tgt := 9) hC dJ3_checkIndex_8e157_1 rfl hp0 (fun hc => ?_) (fun hc => ?_)
    · replace h := (if_pos hc).symm.trans h
      cases h
    · replace h := (if_neg (Int.not_lt.mpr hc)).symm.trans h
      refine jj_iload_n hC dJ3_checkIndex_8e157_4 rfl 0 rfl ?_
      refine jj_iload_n hC dJ3_checkIndex_8e157_5 rfl 1 rfl ?_
      refine jj_icmp_lt (tgt := 16) hC dJ3_checkIndex_8e157_6 rfl hp0 hp1 (fun hc => ?_) (fun hc => ?_)
      · replace h := (if_pos hc).symm.trans h
        refine jj_iload_n hC dJ3_checkIndex_8e157_16 rfl 0 rfl ?_
        cases h
        exact jj_iret hC (c_le rfl) (c_le rfl) dJ3_checkIndex_8e157_17 ⟨rfl, hp0, rfl, rfl, rfl, rfl, rfl⟩
      · replace h := (if_neg (Int.not_lt.mpr hc)).symm.trans h
        cases h
def fJ0_checkIndex_df160 (ad S Ln : Nat → Nat) (R : gR) (M : gM) (x0 : Int) (x1 : Int) : Option Unit :=
  bd (fJ3_checkIndex_8e157 ad S Ln R M x0 x1) fun q2 => some (())
theorem xJ0_checkIndex_df160 {l : Launch} {G : gE} {sz : Nat} {S Ln : Nat → Nat} {M : gM} {R : gR} (hl : l.stackTraces = false) {x0 : Int} (hp0 : (-2147483648 ≤ x0 ∧ x0 < 2147483648)) {x1 : Int} (hp1 : (-2147483648 ≤ x1 ∧ x1 < 2147483648)) {r : Unit} (h : fJ0_checkIndex_df160 G.2.2.2.2 S Ln R M x0 x1 = some r) : Ct l G yJ0_checkIndex_df160 cJ0_checkIndex_df160 2 none 9 0 0 [.int (iI x0), .int (iI x1)] sz S Ln M R (poV sz S Ln (M) R) noX := by
  refine jj_start (own := RJ0) (lv0 := [(0, .int (iI x0)), (1, .int (iI x1))]) hl (by decide +kernel) rfl rfl (c_le rfl) (fun C hCl hC => ?_)
  unfold fJ0_checkIndex_df160 at h
  refine jj_iload_n hC dJ0_checkIndex_df160_0 rfl 0 rfl ?_
  refine jj_iload_n hC dJ0_checkIndex_df160_1 rfl 1 rfl ?_
  refine jj_getsQ hC wd251 dJ0_checkIndex_df160_2 (fun w1 hw1 => ?_)
  obtain ⟨q2, hq2, h⟩ := bd_e h
  refine jj_invS hC mvJ3_checkIndex_8e157 wd484 wd483 (xJ3_checkIndex_8e157 (OKC.tr hC) hp0 hp1 hw1 hq2) rfl rfl (c_le rfl) (c_le rfl) (c_le rfl) (c_le rfl) dJ0_checkIndex_df160_5 noXk (po_kI (fun hr2 => ?_))
  refine jj_pop hC dJ0_checkIndex_df160_8 rfl ?_
  cases h
  exact jj_vret hC (c_le rfl) (c_le rfl) dJ0_checkIndex_df160_9 ⟨rfl, trivial, rfl, rfl, rfl, rfl, rfl⟩
def fJ1_charAt_3b067 (ad S Ln : Nat → Nat) (R : gR) (M : gM) (x0 : Nat) (x1 : Int) : Option Int :=
  bd (fJ0_checkIndex_df160 ad S Ln R M x1 (Ln x0 : Int)) fun q2 => gd ((0 : Int) ≤ x1 ∧ x1 < (Ln x0 : Int)) (some (i_i2c (i_and (M x0 x1) 255)))
theorem xJ1_charAt_3b067 {l : Launch} {G : gE} {sz : Nat} {S Ln : Nat → Nat} {M : gM} {R : gR} (hl : l.stackTraces = false) {x0 : Nat} (hp0 : S x0 = 28) {x1 : Int} (hp1 : (-2147483648 ≤ x1 ∧ x1 < 2147483648)) {r : Int} (h : fJ1_charAt_3b067 G.2.2.2.2 S Ln R M x0 x1 = some r) : Ct l G yJ1_charAt_3b067 cJ1_charAt_3b067 2 (some .char) 10 0 0 [.ref x0, .int (iI x1)] sz S Ln M R (poC r sz S Ln (M) R) noX := by
  refine jj_start (own := RJ1) (lv0 := [(0, .ref x0), (1, .int (iI x1))]) hl (by decide +kernel) rfl rfl (c_le rfl) (fun C hCl hC => ?_)
  unfold fJ1_charAt_3b067 at h
  refine jj_iload_n hC dJ1_charAt_3b067_0 rfl 1 rfl ?_
  refine jj_aload_n hC dJ1_charAt_3b067_1 rfl 0 rfl ?_
  refine jj_alen hC hp0 8 (by decide) rfl dJ1_charAt_3b067_2 (fun hr1 => ?_)
  obtain ⟨q2, hq2, h⟩ := bd_e h
  refine jj_invS hC mvJ0_checkIndex_df160 wd481 wd1294 (xJ0_checkIndex_df160 (OKC.tr hC) hp1 (r_ln hr1) hq2) rfl rfl (c_le rfl) (c_le rfl) (c_le rfl) (c_le rfl) dJ1_charAt_3b067_3 noXk (po_kV ?_)
  refine jj_aload_n hC dJ1_charAt_3b067_6 rfl 0 rfl ?_
  refine jj_iload_n hC dJ1_charAt_3b067_7 rfl 1 rfl ?_
  obtain ⟨⟨ha3, hb3⟩, h⟩ := gd_e h
  refine jj_bald28 hC hp0 ha3 hb3 dJ1_charAt_3b067_8 (fun hr3 => ?_)
  refine jj_sipush hC dJ1_charAt_3b067_9 (by decide) ?_
  refine jg_iand hC dJ1_charAt_3b067_12 ?_
  refine jg_i2c hC dJ1_charAt_3b067_13 ?_
  cases h
  exact jj_cret hC (i_i2c_r _) (c_le rfl) (c_le rfl) dJ1_charAt_3b067_14 ⟨rfl, (i_i2c_r _), rfl, rfl, rfl, rfl, rfl⟩
def fJ0_charAt_5068e (ad S Ln : Nat → Nat) (R : gR) (M : gM) (a0 : Nat) (x1 : Int) : Option Int :=
  bd (fJ0_isLatin1_aae02 ad S Ln R M a0) fun q1 => if q1 = 0 then (none) else (rf S (R a0 0) 28 fun b2 => bd (fJ1_charAt_3b067 ad S Ln R M b2 x1) fun q3 => some (q3))
theorem xJ0_charAt_5068e {l : Launch} {G : gE} {sz : Nat} {S Ln : Nat → Nat} {M : gM} {R : gR} (hl : l.stackTraces = false) {a0 : Nat} (hs0 : S a0 = 1) {x1 : Int} (hp1 : (-2147483648 ≤ x1 ∧ x1 < 2147483648)) {r : Int} (h : fJ0_charAt_5068e G.2.2.2.2 S Ln R M a0 x1 = some r) : Ct l G yJ0_charAt_5068e cJ0_charAt_5068e 2 (some .char) 11 0 0 [.ref a0, .int (iI x1)] sz S Ln M R (poC r sz S Ln (M) R) noX := by
  refine jj_start (own := RJ0) (lv0 := [(0, .ref a0), (1, .int (iI x1))]) hl (by decide +kernel) rfl rfl (c_le rfl) (fun C hCl hC => ?_)
  unfold fJ0_charAt_5068e at h
  refine jj_aload_n hC dJ0_charAt_5068e_0 rfl 0 rfl ?_
  obtain ⟨q1, hq1, h⟩ := bd_e h
  refine jj_invV hC mvJ0_isLatin1_aae02 wd1288 wd1289 wd1287 hs0 (by decide) rfl (xJ0_isLatin1_aae02 (OKC.tr hC) hs0 hq1) rfl rfl (c_le rfl) (c_le rfl) (c_le rfl) (c_le rfl) dJ0_charAt_5068e_1 noXk (po_kZ (fun hr1 => ?_))
  refine jj_if_eq (tgt := 16) hC dJ0_charAt_5068e_4 rfl (r_z hr1) (fun hc => ?_) (fun hc => ?_)
  · replace h := (if_pos hc).symm.trans h
    cases h
  · replace h := (if_neg (hc)).symm.trans h
    refine jj_aload_n hC dJ0_charAt_5068e_7 rfl 0 rfl ?_
    obtain ⟨b2, hb2, hs2, h⟩ := rf_e h
    refine jg_R hC kfJ0 0 rfl hs0 (by decide) wd403 rfl hb2 dJ0_charAt_5068e_8 ?_
    refine jj_iload_n hC dJ0_charAt_5068e_11 rfl 1 rfl ?_
    obtain ⟨q3, hq3, h⟩ := bd_e h
    refine jj_invS hC mvJ1_charAt_3b067 wd1292 wd1291 (xJ1_charAt_3b067 (OKC.tr hC) hs2 hp1 hq3) rfl rfl (c_le rfl) (c_le rfl) (c_le rfl) (c_le rfl) dJ0_charAt_5068e_12 noXk (po_kC (fun hr3 => ?_))
    cases h
    exact jj_cret hC hr3 (c_le rfl) (c_le rfl) dJ0_charAt_5068e_15 ⟨rfl, hr3, rfl, rfl, rfl, rfl, rfl⟩
def fX7_hasRoom (ad S Ln : Nat → Nat) (R : gR) (M : gM) (a0 : Nat) : Option Int :=
  if 60 ≤ (M a0 1) then (some (0)) else (some (1))
theorem xX7_hasRoom {l : Launch} {G : gE} {sz : Nat} {S Ln : Nat → Nat} {M : gM} {R : gR} (hl : l.stackTraces = false) {a0 : Nat} (hs0 : S a0 = 10) {r : Int} (h : fX7_hasRoom G.2.2.2.2 S Ln R M a0 = some r) : Ct l G yX7_hasRoom cX7_hasRoom 1 (some .boolean) 1 0 0 [.ref a0] sz S Ln M R (poZ r sz S Ln (M) R) noX := by
  refine jj_start (own := RX7) (lv0 := [(0, .ref a0)]) hl (by decide +kernel) rfl rfl (c_le rfl) (fun C hCl hC => ?_)
  unfold fX7_hasRoom at h
  refine jj_aload_n hC dX7_hasRoom_0 rfl 0 rfl ?_
  refine jg_I hC kfX7 1 rfl hs0 (by decide) wd1092 rfl dX7_hasRoom_1 (fun hr1 => ?_)
  refine jj_bipush hC dX7_hasRoom_4 (by decide) ?_
  refine jj_icmp_ge (tgt := 13) hC dX7_hasRoom_6 rfl hr1 (show (-2147483648 ≤ (60 : Int) ∧ (60 : Int) < 2147483648) from by decide) (fun hc => ?_) (fun hc => ?_)
  · replace h := (if_pos hc).symm.trans h
    refine jj_iconst hC dX7_hasRoom_13 ?_
    cases h
    exact jj_zret hC (show (0 ≤ (0 : Int) ∧ (0 : Int) ≤ 1) from by decide) (c_le rfl) (c_le rfl) dX7_hasRoom_14 ⟨rfl, (show (0 ≤ (0 : Int) ∧ (0 : Int) ≤ 1) from by decide), rfl, rfl, rfl, rfl, rfl⟩
  · replace h := (if_neg (Int.not_le.mpr hc)).symm.trans h
    refine jj_iconst hC dX7_hasRoom_9 ?_
    refine jj_goto (tgt := 14) hC dX7_hasRoom_10 rfl ?_
    cases h
    exact jj_zret hC (show (0 ≤ (1 : Int) ∧ (1 : Int) ≤ 1) from by decide) (c_le rfl) (c_le rfl) dX7_hasRoom_14 ⟨rfl, (show (0 ≤ (1 : Int) ∧ (1 : Int) ≤ 1) from by decide), rfl, rfl, rfl, rfl, rfl⟩
def fX7_add (ad S Ln : Nat → Nat) (R : gR) (M : gM) (a0 : Nat) (x1 : Int) : Option (Int × gM) :=
  bd (fX7_hasRoom ad S Ln R M a0) fun q1 => if q1 = 0 then (some ((M a0 1, M))) else (rf S (R a0 0) 24 fun b3 => gd ((0 : Int) ≤ (M a0 1) ∧ (M a0 1) < (Ln b3 : Int)) (nam (wr M b3 (M a0 1) x1) fun M5 => nam (wr M5 a0 1 (w32 ((M5 a0 1) + 1))) fun M7 => some ((M7 a0 1, M7))))
theorem xX7_add {l : Launch} {G : gE} {sz : Nat} {S Ln : Nat → Nat} {M : gM} {R : gR} (hl : l.stackTraces = false) {a0 : Nat} (hs0 : S a0 = 10) {x1 : Int} (hp1 : (0 ≤ x1 ∧ x1 < 65536)) {r : Int × gM} (h : fX7_add G.2.2.2.2 S Ln R M a0 x1 = some r) : Ct l G yX7_add cX7_add 2 (some .int) 2 0 0 [.ref a0, .int (iI x1)] sz S Ln M R (poI r.1 sz S Ln (r.2) R) noX := by
  refine jj_start (own := RX7) (lv0 := [(0, .ref a0), (1, .int (iI x1))]) hl (by decide +kernel) rfl rfl (c_le rfl) (fun C hCl hC => ?_)
  unfold fX7_add at h
  refine jj_aload_n hC dX7_add_0 rfl 0 rfl ?_
  obtain ⟨q1, hq1, h⟩ := bd_e h
  refine jj_invV hC mvX7_hasRoom wd1303 wd1304 wd1311 hs0 (by decide) rfl (xX7_hasRoom (OKC.tr hC) hs0 hq1) rfl rfl (c_le rfl) (c_le rfl) (c_le rfl) (c_le rfl) dX7_add_1 noXk (po_kZ (fun hr1 => ?_))
  refine jj_if_eq (tgt := 27) hC dX7_add_4 rfl (r_z hr1) (fun hc => ?_) (fun hc => ?_)
  · replace h := (if_pos hc).symm.trans h
    refine jj_aload_n hC dX7_add_27 rfl 0 rfl ?_
    refine jg_I hC kfX7 1 rfl hs0 (by decide) wd1092 rfl dX7_add_28 (fun hr2 => ?_)
    cases h
    exact jj_iret hC (c_le rfl) (c_le rfl) dX7_add_31 ⟨rfl, hr2, rfl, rfl, rfl, rfl, rfl⟩
  · replace h := (if_neg (hc)).symm.trans h
    refine jj_aload_n hC dX7_add_7 rfl 0 rfl ?_
    obtain ⟨b3, hb3, hs3, h⟩ := rf_e h
    refine jg_R hC kfX7 0 rfl hs0 (by decide) wd1091 rfl hb3 dX7_add_8 ?_
    refine jj_aload_n hC dX7_add_11 rfl 0 rfl ?_
    refine jg_I hC kfX7 1 rfl hs0 (by decide) wd1092 rfl dX7_add_12 (fun hr4 => ?_)
    refine jj_iload_n hC dX7_add_15 rfl 1 rfl ?_
    obtain ⟨⟨ha5, hb5⟩, h⟩ := gd_e h
    obtain ⟨M5, hM5, h⟩ := nam_e h
    refine jj_cast hC hs3 ha5 hb5 hp1 dX7_add_16 (jj_M hM5 ?_)
    refine jj_aload_n hC dX7_add_17 rfl 0 rfl ?_
    refine jj_dup hC dX7_add_18 rfl ?_
    refine jg_I hC kfX7 1 rfl hs0 (by decide) wd1092 rfl dX7_add_19 (fun hr6 => ?_)
    refine jj_iconst hC dX7_add_22 ?_
    refine jg_iadd hC dX7_add_23 ?_
    obtain ⟨M7, hM7, h⟩ := nam_e h
    refine jp_I hC kfX7 1 rfl hs0 rfl (by decide) wd1092 rfl rfl rfl (w32_r _) dX7_add_24 (jj_M hM7 ?_)
    refine jj_aload_n hC dX7_add_27 rfl 0 rfl ?_
    refine jg_I hC kfX7 1 rfl hs0 (by decide) wd1092 rfl dX7_add_28 (fun hr8 => ?_)
    cases h
    exact jj_iret hC (c_le rfl) (c_le rfl) dX7_add_31 ⟨rfl, hr8, rfl, rfl, rfl, rfl, rfl⟩
def fX7_formOf (ad S Ln : Nat → Nat) (R : gR) (M : gM) (x0 : Int) : Option Nat :=
  if x0 = 0 then (rf S (some (ad 16)) 1 fun b10 => some (b10)) else (if x0 = 1 then (rf S (some (ad 17)) 1 fun b9 => some (b9)) else (if x0 = 2 then (rf S (some (ad 18)) 1 fun b8 => some (b8)) else (if x0 = 3 then (rf S (some (ad 19)) 1 fun b7 => some (b7)) else (if x0 = 4 then (rf S (some (ad 20)) 1 fun b6 => some (b6)) else (if x0 = 5 then (rf S (some (ad 21)) 1 fun b5 => some (b5)) else (if x0 = 6 then (rf S (some (ad 22)) 1 fun b4 => some (b4)) else (if x0 = 7 then (rf S (some (ad 23)) 1 fun b3 => some (b3)) else (rf S (some (ad 24)) 1 fun b1 => some (b1)))))))))
theorem xX7_formOf {l : Launch} {G : gE} {sz : Nat} {S Ln : Nat → Nat} {M : gM} {R : gR} (hl : l.stackTraces = false) {x0 : Int} (hp0 : (-2147483648 ≤ x0 ∧ x0 < 2147483648)) {r : Nat} (h : fX7_formOf G.2.2.2.2 S Ln R M x0 = some r) : Ct l G yX7_formOf cX7_formOf 1 (some (.object "java/lang/String")) 1 0 0 [.int (iI x0)] sz S Ln M R (poA 1 r sz S Ln (M) R) noX := by
  refine jj_start (own := RX7) (lv0 := [(0, .int (iI x0))]) hl (by decide +kernel) rfl rfl (c_le rfl) (fun C hCl hC => ?_)
  unfold fX7_formOf at h
  refine jj_iload_n hC dX7_formOf_0 rfl 0 rfl ?_
  by_cases hc2_0 : x0 = 0
  · replace h := (if_pos hc2_0).symm.trans h
    refine jj_tblIn (tgt := 48) hC dX7_formOf_1 hp0 (by omega) (by omega) (by rw [hc2_0]; rfl) rfl ?_
    obtain ⟨b10, hb10, hs10, h⟩ := rf_e h
    refine jg_ldcS hC 0 rfl (Option.some.inj hb10) dX7_formOf_48 ?_
    cases h
    exact jj_aret hC rfl (Or.inl ⟨_, rfl⟩) (c_le rfl) (c_le rfl) dX7_formOf_50 ⟨rfl, hs10, rfl, rfl, rfl, rfl, rfl⟩
  · replace h := (if_neg hc2_0).symm.trans h
    by_cases hc2_1 : x0 = 1
    · replace h := (if_pos hc2_1).symm.trans h
      refine jj_tblIn (tgt := 51) hC dX7_formOf_1 hp0 (by omega) (by omega) (by rw [hc2_1]; rfl) rfl ?_
      obtain ⟨b9, hb9, hs9, h⟩ := rf_e h
      refine jg_ldcS hC 1 rfl (Option.some.inj hb9) dX7_formOf_51 ?_
      cases h
      exact jj_aret hC rfl (Or.inl ⟨_, rfl⟩) (c_le rfl) (c_le rfl) dX7_formOf_53 ⟨rfl, hs9, rfl, rfl, rfl, rfl, rfl⟩
    · replace h := (if_neg hc2_1).symm.trans h
      by_cases hc2_2 : x0 = 2
      · replace h := (if_pos hc2_2).symm.trans h
        refine jj_tblIn (tgt := 54) hC dX7_formOf_1 hp0 (by omega) (by omega) (by rw [hc2_2]; rfl) rfl ?_
        obtain ⟨b8, hb8, hs8, h⟩ := rf_e h
        refine jg_ldcS hC 2 rfl (Option.some.inj hb8) dX7_formOf_54 ?_
        cases h
        exact jj_aret hC rfl (Or.inl ⟨_, rfl⟩) (c_le rfl) (c_le rfl) dX7_formOf_56 ⟨rfl, hs8, rfl, rfl, rfl, rfl, rfl⟩
      · replace h := (if_neg hc2_2).symm.trans h
        by_cases hc2_3 : x0 = 3
        · replace h := (if_pos hc2_3).symm.trans h
          refine jj_tblIn (tgt := 57) hC dX7_formOf_1 hp0 (by omega) (by omega) (by rw [hc2_3]; rfl) rfl ?_
          obtain ⟨b7, hb7, hs7, h⟩ := rf_e h
          refine jg_ldcS hC 3 rfl (Option.some.inj hb7) dX7_formOf_57 ?_
          cases h
          exact jj_aret hC rfl (Or.inl ⟨_, rfl⟩) (c_le rfl) (c_le rfl) dX7_formOf_59 ⟨rfl, hs7, rfl, rfl, rfl, rfl, rfl⟩
        · replace h := (if_neg hc2_3).symm.trans h
          by_cases hc2_4 : x0 = 4
          · replace h := (if_pos hc2_4).symm.trans h
            refine jj_tblIn (tgt := 60) hC dX7_formOf_1 hp0 (by omega) (by omega) (by rw [hc2_4]; rfl) rfl ?_
            obtain ⟨b6, hb6, hs6, h⟩ := rf_e h
            refine jg_ldcS hC 4 rfl (Option.some.inj hb6) dX7_formOf_60 ?_
            cases h
            exact jj_aret hC rfl (Or.inl ⟨_, rfl⟩) (c_le rfl) (c_le rfl) dX7_formOf_62 ⟨rfl, hs6, rfl, rfl, rfl, rfl, rfl⟩
          · replace h := (if_neg hc2_4).symm.trans h
            by_cases hc2_5 : x0 = 5
            · replace h := (if_pos hc2_5).symm.trans h
              refine jj_tblIn (tgt := 63) hC dX7_formOf_1 hp0 (by omega) (by omega) (by rw [hc2_5]; rfl) rfl ?_
              obtain ⟨b5, hb5, hs5, h⟩ := rf_e h
              refine jg_ldcS hC 5 rfl (Option.some.inj hb5) dX7_formOf_63 ?_
              cases h
              exact jj_aret hC rfl (Or.inl ⟨_, rfl⟩) (c_le rfl) (c_le rfl) dX7_formOf_65 ⟨rfl, hs5, rfl, rfl, rfl, rfl, rfl⟩
            · replace h := (if_neg hc2_5).symm.trans h
              by_cases hc2_6 : x0 = 6
              · replace h := (if_pos hc2_6).symm.trans h
                refine jj_tblIn (tgt := 66) hC dX7_formOf_1 hp0 (by omega) (by omega) (by rw [hc2_6]; rfl) rfl ?_
                obtain ⟨b4, hb4, hs4, h⟩ := rf_e h
                refine jg_ldcS hC 6 rfl (Option.some.inj hb4) dX7_formOf_66 ?_
                cases h
                exact jj_aret hC rfl (Or.inl ⟨_, rfl⟩) (c_le rfl) (c_le rfl) dX7_formOf_68 ⟨rfl, hs4, rfl, rfl, rfl, rfl, rfl⟩
              · replace h := (if_neg hc2_6).symm.trans h
                by_cases hc2_7 : x0 = 7
                · replace h := (if_pos hc2_7).symm.trans h
                  refine jj_tblIn (tgt := 69) hC dX7_formOf_1 hp0 (by omega) (by omega) (by rw [hc2_7]; rfl) rfl ?_
                  obtain ⟨b3, hb3, hs3, h⟩ := rf_e h
                  refine jg_ldcS hC 7 rfl (Option.some.inj hb3) dX7_formOf_69 ?_
                  cases h
                  exact jj_aret hC rfl (Or.inl ⟨_, rfl⟩) (c_le rfl) (c_le rfl) dX7_formOf_71 ⟨rfl, hs3, rfl, rfl, rfl, rfl, rfl⟩
                · replace h := (if_neg hc2_7).symm.trans h
                  refine jj_tblOut (tgt := 72) hC dX7_formOf_1 hp0 (by omega) rfl ?_
                  obtain ⟨b1, hb1, hs1, h⟩ := rf_e h
                  refine jg_ldcS hC 8 rfl (Option.some.inj hb1) dX7_formOf_72 ?_
                  cases h
                  exact jj_aret hC rfl (Or.inl ⟨_, rfl⟩) (c_le rfl) (c_le rfl) dX7_formOf_74 ⟨rfl, hs1, rfl, rfl, rfl, rfl, rfl⟩
def fX7_digitAt (ad S Ln : Nat → Nat) (R : gR) (M : gM) (a0 : Nat) (x1 : Int) : Option Int :=
  if x1 < 0 then (some ((-1))) else (if x1 < (M a0 1) then (rf S (R a0 0) 24 fun b2 => gd ((0 : Int) ≤ x1 ∧ x1 < (Ln b2 : Int)) (if (M b2 x1) < 48 then (some ((-1))) else (if 57 < (M b2 x1) then (some ((-1))) else (some (w32 ((M b2 x1) - 48)))))) else (some ((-1))))
theorem xX7_digitAt {l : Launch} {G : gE} {sz : Nat} {S Ln : Nat → Nat} {M : gM} {R : gR} (hl : l.stackTraces = false) {a0 : Nat} (hs0 : S a0 = 10) {x1 : Int} (hp1 : (-2147483648 ≤ x1 ∧ x1 < 2147483648)) {r : Int} (h : fX7_digitAt G.2.2.2.2 S Ln R M a0 x1 = some r) : Ct l G yX7_digitAt cX7_digitAt 3 (some .int) 1 0 0 [.ref a0, .int (iI x1)] sz S Ln M R (poI r sz S Ln (M) R) noX := by
  refine jj_start (own := RX7) (lv0 := [(0, .ref a0), (1, .int (iI x1))]) hl (by decide +kernel) rfl rfl (c_le rfl) (fun C hCl hC => ?_)
  unfold fX7_digitAt at h
  refine jj_iload_n hC dX7_digitAt_0 rfl 1 rfl ?_
  refine jj_if_lt (tgt := 12) hC dX7_digitAt_1 rfl hp1 (fun hc => ?_) (fun hc => ?_)
  · replace h := (if_pos hc).symm.trans h
    refine jj_iconst hC dX7_digitAt_12 ?_
    cases h
    exact jj_iret hC (c_le rfl) (c_le rfl) dX7_digitAt_13 ⟨rfl, (show (-2147483648 ≤ ((-1) : Int) ∧ ((-1) : Int) < 2147483648) from by decide), rfl, rfl, rfl, rfl, rfl⟩
  · replace h := (if_neg (Int.not_lt.mpr hc)).symm.trans h
    refine jj_iload_n hC dX7_digitAt_4 rfl 1 rfl ?_
    refine jj_aload_n hC dX7_digitAt_5 rfl 0 rfl ?_
    refine jg_I hC kfX7 1 rfl hs0 (by decide) wd1092 rfl dX7_digitAt_6 (fun hr1 => ?_)
    refine jj_icmp_lt (tgt := 14) hC dX7_digitAt_9 rfl hp1 hr1 (fun hc => ?_) (fun hc => ?_)
    · replace h := (if_pos hc).symm.trans h
      refine jj_aload_n hC dX7_digitAt_14 rfl 0 rfl ?_
      obtain ⟨b2, hb2, hs2, h⟩ := rf_e h
      refine jg_R hC kfX7 0 rfl hs0 (by decide) wd1091 rfl hb2 dX7_digitAt_15 ?_
      refine jj_iload_n hC dX7_digitAt_18 rfl 1 rfl ?_
      obtain ⟨⟨ha3, hb3⟩, h⟩ := gd_e h
      refine jj_cald hC hs2 ha3 hb3 dX7_digitAt_19 (fun hr3 => ?_)
      refine jj_istore_n (lv' := [(2, .int (iI (M b2 x1))), (0, .ref a0), (1, .int (iI x1))]) hC dX7_digitAt_20 rfl (by decide) rfl ?_
      refine jj_iload_n hC dX7_digitAt_21 rfl 0 rfl ?_
      refine jj_bipush hC dX7_digitAt_22 (by decide) ?_
      refine jj_icmp_lt (tgt := 40) hC dX7_digitAt_24 rfl (r_c hr3) (show (-2147483648 ≤ (48 : Int) ∧ (48 : Int) < 2147483648) from by decide) (fun hc => ?_) (fun hc => ?_)
      · replace h := (if_pos hc).symm.trans h
        refine jj_iconst hC dX7_digitAt_40 ?_
        cases h
        exact jj_iret hC (c_le rfl) (c_le rfl) dX7_digitAt_41 ⟨rfl, (show (-2147483648 ≤ ((-1) : Int) ∧ ((-1) : Int) < 2147483648) from by decide), rfl, rfl, rfl, rfl, rfl⟩
      · replace h := (if_neg (Int.not_lt.mpr hc)).symm.trans h
        refine jj_iload_n hC dX7_digitAt_27 rfl 0 rfl ?_
        refine jj_bipush hC dX7_digitAt_28 (by decide) ?_
        refine jj_icmp_gt (tgt := 40) hC dX7_digitAt_30 rfl (r_c hr3) (show (-2147483648 ≤ (57 : Int) ∧ (57 : Int) < 2147483648) from by decide) (fun hc => ?_) (fun hc => ?_)
        · replace h := (if_pos hc).symm.trans h
          refine jj_iconst hC dX7_digitAt_40 ?_
          cases h
          exact jj_iret hC (c_le rfl) (c_le rfl) dX7_digitAt_41 ⟨rfl, (show (-2147483648 ≤ ((-1) : Int) ∧ ((-1) : Int) < 2147483648) from by decide), rfl, rfl, rfl, rfl, rfl⟩
        · replace h := (if_neg (Int.not_lt.mpr hc)).symm.trans h
          refine jj_iload_n hC dX7_digitAt_33 rfl 0 rfl ?_
          refine jj_bipush hC dX7_digitAt_34 (by decide) ?_
          refine jg_isub hC dX7_digitAt_36 ?_
          refine jj_goto (tgt := 41) hC dX7_digitAt_37 rfl ?_
          cases h
          exact jj_iret hC (c_le rfl) (c_le rfl) dX7_digitAt_41 ⟨rfl, (w32_r _), rfl, rfl, rfl, rfl, rfl⟩
    · replace h := (if_neg (Int.not_lt.mpr hc)).symm.trans h
      refine jj_iconst hC dX7_digitAt_12 ?_
      cases h
      exact jj_iret hC (c_le rfl) (c_le rfl) dX7_digitAt_13 ⟨rfl, (show (-2147483648 ≤ ((-1) : Int) ∧ ((-1) : Int) < 2147483648) from by decide), rfl, rfl, rfl, rfl, rfl⟩
def fX7_isDigitAt (ad S Ln : Nat → Nat) (R : gR) (M : gM) (a0 : Nat) (x1 : Int) : Option Int :=
  bd (fX7_digitAt ad S Ln R M a0 x1) fun q1 => if q1 < 0 then (some (0)) else (some (1))
theorem xX7_isDigitAt {l : Launch} {G : gE} {sz : Nat} {S Ln : Nat → Nat} {M : gM} {R : gR} (hl : l.stackTraces = false) {a0 : Nat} (hs0 : S a0 = 10) {x1 : Int} (hp1 : (-2147483648 ≤ x1 ∧ x1 < 2147483648)) {r : Int} (h : fX7_isDigitAt G.2.2.2.2 S Ln R M a0 x1 = some r) : Ct l G yX7_isDigitAt cX7_isDigitAt 2 (some .boolean) 2 0 0 [.ref a0, .int (iI x1)] sz S Ln M R (poZ r sz S Ln (M) R) noX := by
  refine jj_start (own := RX7) (lv0 := [(0, .ref a0), (1, .int (iI x1))]) hl (by decide +kernel) rfl rfl (c_le rfl) (fun C hCl hC => ?_)
  unfold fX7_isDigitAt at h
  refine jj_aload_n hC dX7_isDigitAt_0 rfl 0 rfl ?_
  refine jj_iload_n hC dX7_isDigitAt_1 rfl 1 rfl ?_
  obtain ⟨q1, hq1, h⟩ := bd_e h
  refine jj_invV hC mvX7_digitAt wd1355 wd13 wd1353 hs0 (by decide) rfl (xX7_digitAt (OKC.tr hC) hs0 hp1 hq1) rfl rfl (c_le rfl) (c_le rfl) (c_le rfl) (c_le rfl) dX7_isDigitAt_2 noXk (po_kI (fun hr1 => ?_))
  refine jj_if_lt (tgt := 12) hC dX7_isDigitAt_5 rfl hr1 (fun hc => ?_) (fun hc => ?_)
  · replace h := (if_pos hc).symm.trans h
    refine jj_iconst hC dX7_isDigitAt_12 ?_
    cases h
    exact jj_zret hC (show (0 ≤ (0 : Int) ∧ (0 : Int) ≤ 1) from by decide) (c_le rfl) (c_le rfl) dX7_isDigitAt_13 ⟨rfl, (show (0 ≤ (0 : Int) ∧ (0 : Int) ≤ 1) from by decide), rfl, rfl, rfl, rfl, rfl⟩
  · replace h := (if_neg (Int.not_lt.mpr hc)).symm.trans h
    refine jj_iconst hC dX7_isDigitAt_8 ?_
    refine jj_goto (tgt := 13) hC dX7_isDigitAt_9 rfl ?_
    cases h
    exact jj_zret hC (show (0 ≤ (1 : Int) ∧ (1 : Int) ≤ 1) from by decide) (c_le rfl) (c_le rfl) dX7_isDigitAt_13 ⟨rfl, (show (0 ≤ (1 : Int) ∧ (1 : Int) ≤ 1) from by decide), rfl, rfl, rfl, rfl, rfl⟩
def fX7_wayAt_L16 (ad S Ln : Nat → Nat) (R : gR) (M : gM) (l0_16 : Nat) (l1_16 : Int) (s16 : Int) : Option ((Int) ⊕ ((Unit) ⊕ (Int))) :=
  rf S (some (ad 25)) 1 fun b2 => bd (fJ0_length_8abf5 ad S Ln R M b2) fun q3 => if q3 ≤ s16 then (some (.inr (.inl ()))) else (rf S (some (ad 25)) 1 fun b4 => bd (fJ0_charAt_5068e ad S Ln R M b4 s16) fun q5 => rf S (R l0_16 0) 24 fun b6 => gd ((0 : Int) ≤ l1_16 ∧ l1_16 < (Ln b6 : Int)) (if ¬ q5 = (M b6 l1_16) then (some (.inl (w32 (s16 + 1)))) else (some (.inr (.inr (s16))))))
def fX7_wayAt (ad S Ln : Nat → Nat) (R : gR) (M : gM) (a0 : Nat) (x1 : Int) : Option Int :=
  if x1 < 0 then (some ((-1))) else (if x1 < (M a0 1) then (bd (lp (fX7_wayAt_L16 ad S Ln R M a0 x1) FU 0) fun q9 => Sum.elim (fun e16_8 => some ((-1))) (fun c9 => some c9) q9) else (some ((-1))))
theorem xX7_wayAt {l : Launch} {G : gE} {sz : Nat} {S Ln : Nat → Nat} {M : gM} {R : gR} (hl : l.stackTraces = false) {a0 : Nat} (hs0 : S a0 = 10) {x1 : Int} (hp1 : (-2147483648 ≤ x1 ∧ x1 < 2147483648)) {r : Int} (h : fX7_wayAt G.2.2.2.2 S Ln R M a0 x1 = some r) : Ct l G yX7_wayAt cX7_wayAt 3 (some .int) 12 0 0 [.ref a0, .int (iI x1)] sz S Ln M R (poI r sz S Ln (M) R) noX := by
  refine jj_start (own := RX7) (lv0 := [(0, .ref a0), (1, .int (iI x1))]) hl (by decide +kernel) rfl rfl (c_le rfl) (fun C hCl hC => ?_)
  have hL16 : ∀ (l0_16 : Nat) (l1_16 : Int), S l0_16 = 10 → (-2147483648 ≤ l1_16 ∧ l1_16 < 2147483648) → ∀ (n : Nat) (s16 : Int) (q : (Unit) ⊕ (Int)), lp (fX7_wayAt_L16 G.2.2.2.2 S Ln R M l0_16 l1_16) n s16 = some q → (-2147483648 ≤ s16 ∧ s16 < 2147483648) → (∀ e16, q = .inl e16 → True → JJ G C 0 0 sz S Ln M R 48 [] []) → (∀ c, q = .inr c → c = r) → JJ G C 0 0 sz S Ln M R 16 [(0, .ref l0_16), (1, .int (iI l1_16)), (2, .int (iI s16))] [] := by
    intro l0_16 l1_16 hl0_16 hl1_16
    refine lp_ind ?_
    intro s16 r16 hI16 h hJ16 hE16 hR16
    have hs16_0 := hI16
    unfold fX7_wayAt_L16 at h
    refine jj_iload_n hC dX7_wayAt_16 rfl 2 rfl ?_
    obtain ⟨b2, hb2, hs2, h⟩ := rf_e h
    refine jg_ldcS hC 9 rfl (Option.some.inj hb2) dX7_wayAt_17 ?_
    obtain ⟨q3, hq3, h⟩ := bd_e h
    refine jj_invV hC mvJ0_length_8abf5 wd266 wd267 wd1343 hs2 (by decide) rfl (xJ0_length_8abf5 (OKC.tr hC) hs2 hq3) rfl rfl (c_le rfl) (c_le rfl) (c_le rfl) (c_le rfl) dX7_wayAt_19 noXk (po_kI (fun hr3 => ?_))
    refine jj_icmp_ge (tgt := 48) hC dX7_wayAt_22 rfl hs16_0 hr3 (fun hc => ?_) (fun hc => ?_)
    · replace h := (if_pos hc).symm.trans h
      refine jj_lv (lv' := []) [] rfl ?_
      exact hE16 _ (Option.some.inj h).symm trivial
    · replace h := (if_neg (Int.not_le.mpr hc)).symm.trans h
      obtain ⟨b4, hb4, hs4, h⟩ := rf_e h
      refine jg_ldcS hC 9 rfl (Option.some.inj hb4) dX7_wayAt_25 ?_
      refine jj_iload_n hC dX7_wayAt_27 rfl 2 rfl ?_
      obtain ⟨q5, hq5, h⟩ := bd_e h
      refine jj_invV hC mvJ0_charAt_5068e wd1284 wd1285 wd1344 hs4 (by decide) rfl (xJ0_charAt_5068e (OKC.tr hC) hs4 hs16_0 hq5) rfl rfl (c_le rfl) (c_le rfl) (c_le rfl) (c_le rfl) dX7_wayAt_28 noXk (po_kC (fun hr5 => ?_))
      refine jj_aload_n hC dX7_wayAt_31 rfl 0 rfl ?_
      obtain ⟨b6, hb6, hs6, h⟩ := rf_e h
      refine jg_R hC kfX7 0 rfl hl0_16 (by decide) wd1091 rfl hb6 dX7_wayAt_32 ?_
      refine jj_iload_n hC dX7_wayAt_35 rfl 1 rfl ?_
      obtain ⟨⟨ha7, hb7⟩, h⟩ := gd_e h
      refine jj_cald hC hs6 ha7 hb7 dX7_wayAt_36 (fun hr7 => ?_)
      refine jj_icmp_ne (tgt := 42) hC dX7_wayAt_37 rfl (r_c hr5) (r_c hr7) (fun hc => ?_) (fun hc => ?_)
      · replace h := (if_pos hc).symm.trans h
        refine jg_iinc (q := 2) (lv' := [(2, .int (iI (w32 (s16 + 1)))), (0, .ref l0_16), (1, .int (iI l1_16))]) hC dX7_wayAt_42 rfl (by decide) rfl ?_
        refine jj_goto (tgt := 16) hC dX7_wayAt_45 rfl ?_
        refine jj_lv (lv' := [(0, .ref l0_16), (1, .int (iI l1_16)), (2, .int (iI (w32 (s16 + 1))))]) [1, 2, 0] rfl ?_
        exact hJ16 _ (Option.some.inj h).symm (w32_r _)
      · replace h := (if_neg (fun k => k hc)).symm.trans h
        refine jj_iload_n hC dX7_wayAt_40 rfl 2 rfl ?_
        have h := hR16 _ (Option.some.inj h).symm
        subst h
        exact jj_iret hC (c_le rfl) (c_le rfl) dX7_wayAt_41 ⟨rfl, hs16_0, rfl, rfl, rfl, rfl, rfl⟩
  unfold fX7_wayAt at h
  refine jj_iload_n hC dX7_wayAt_0 rfl 1 rfl ?_
  refine jj_if_lt (tgt := 12) hC dX7_wayAt_1 rfl hp1 (fun hc => ?_) (fun hc => ?_)
  · replace h := (if_pos hc).symm.trans h
    refine jj_iconst hC dX7_wayAt_12 ?_
    cases h
    exact jj_iret hC (c_le rfl) (c_le rfl) dX7_wayAt_13 ⟨rfl, (show (-2147483648 ≤ ((-1) : Int) ∧ ((-1) : Int) < 2147483648) from by decide), rfl, rfl, rfl, rfl, rfl⟩
  · replace h := (if_neg (Int.not_lt.mpr hc)).symm.trans h
    refine jj_iload_n hC dX7_wayAt_4 rfl 1 rfl ?_
    refine jj_aload_n hC dX7_wayAt_5 rfl 0 rfl ?_
    refine jg_I hC kfX7 1 rfl hs0 (by decide) wd1092 rfl dX7_wayAt_6 (fun hr1 => ?_)
    refine jj_icmp_lt (tgt := 14) hC dX7_wayAt_9 rfl hp1 hr1 (fun hc => ?_) (fun hc => ?_)
    · replace h := (if_pos hc).symm.trans h
      refine jj_iconst hC dX7_wayAt_14 ?_
      refine jj_istore_n (lv' := [(2, .int (iI 0)), (0, .ref a0), (1, .int (iI x1))]) hC dX7_wayAt_15 rfl (by decide) rfl ?_
      obtain ⟨q9, hq9, h⟩ := bd_e h
      refine jj_lv (lv' := [(0, .ref a0), (1, .int (iI x1)), (2, .int (iI 0))]) [1, 2, 0] rfl ?_
      refine hL16 a0 x1 hs0 hp1 FU _ q9 hq9 (show (-2147483648 ≤ (0 : Int) ∧ (0 : Int) < 2147483648) from by decide) (fun e16_8 he9 hIE9 => ?_) (fun c9 hc9 => ?_)
      · subst he9
        replace h := el_l h
        refine jj_iconst hC dX7_wayAt_48 ?_
        cases h
        exact jj_iret hC (c_le rfl) (c_le rfl) dX7_wayAt_49 ⟨rfl, (show (-2147483648 ≤ ((-1) : Int) ∧ ((-1) : Int) < 2147483648) from by decide), rfl, rfl, rfl, rfl, rfl⟩
      · subst hc9
        replace h := el_r h
        exact Option.some.inj h
    · replace h := (if_neg (Int.not_lt.mpr hc)).symm.trans h
      refine jj_iconst hC dX7_wayAt_12 ?_
      cases h
      exact jj_iret hC (c_le rfl) (c_le rfl) dX7_wayAt_13 ⟨rfl, (show (-2147483648 ≤ ((-1) : Int) ∧ ((-1) : Int) < 2147483648) from by decide), rfl, rfl, rfl, rfl, rfl⟩
def fX7_widthOf (ad S Ln : Nat → Nat) (R : gR) (M : gM) (a0 : Nat) (x1 : Int) (x2 : Int) : Option Int :=
  if ¬ x1 = 78 then (if ¬ x1 = 68 then (if ¬ x1 = 87 then (if x2 < 0 then (some (0)) else (if (M a0 1) ≤ x2 then (some (0)) else (rf S (R a0 0) 24 fun b2 => gd ((0 : Int) ≤ x2 ∧ x2 < (Ln b2 : Int)) (if ¬ (M b2 x2) = x1 then (some (0)) else (some (1)))))) else (bd (fX7_wayAt ad S Ln R M a0 x2) fun q4 => if q4 < 0 then (some (0)) else (some (1)))) else (bd (fX7_isDigitAt ad S Ln R M a0 x2) fun q5 => if q5 = 0 then (some (0)) else (some (1)))) else (bd (fX7_isDigitAt ad S Ln R M a0 x2) fun q6 => if ¬ q6 = 0 then (bd (fX7_isDigitAt ad S Ln R M a0 (w32 (x2 + 1))) fun q7 => if q7 = 0 then (some (1)) else (some (2))) else (some (0)))
theorem xX7_widthOf {l : Launch} {G : gE} {sz : Nat} {S Ln : Nat → Nat} {M : gM} {R : gR} (hl : l.stackTraces = false) {a0 : Nat} (hs0 : S a0 = 10) {x1 : Int} (hp1 : (0 ≤ x1 ∧ x1 < 65536)) {x2 : Int} (hp2 : (-2147483648 ≤ x2 ∧ x2 < 2147483648)) {r : Int} (h : fX7_widthOf G.2.2.2.2 S Ln R M a0 x1 x2 = some r) : Ct l G yX7_widthOf cX7_widthOf 3 (some .int) 13 0 0 [.ref a0, .int (iI x1), .int (iI x2)] sz S Ln M R (poI r sz S Ln (M) R) noX := by
  refine jj_start (own := RX7) (lv0 := [(0, .ref a0), (1, .int (iI x1)), (2, .int (iI x2))]) hl (by decide +kernel) rfl rfl (c_le rfl) (fun C hCl hC => ?_)
  unfold fX7_widthOf at h
  refine jj_iload_n hC dX7_widthOf_0 rfl 1 rfl ?_
  refine jj_bipush hC dX7_widthOf_1 (by decide) ?_
  refine jj_icmp_ne (tgt := 32) hC dX7_widthOf_3 rfl (r_c hp1) (show (-2147483648 ≤ (78 : Int) ∧ (78 : Int) < 2147483648) from by decide) (fun hc => ?_) (fun hc => ?_)
  · replace h := (if_pos hc).symm.trans h
    refine jj_iload_n hC dX7_widthOf_32 rfl 1 rfl ?_
    refine jj_bipush hC dX7_widthOf_33 (by decide) ?_
    refine jj_icmp_ne (tgt := 52) hC dX7_widthOf_35 rfl (r_c hp1) (show (-2147483648 ≤ (68 : Int) ∧ (68 : Int) < 2147483648) from by decide) (fun hc => ?_) (fun hc => ?_)
    · replace h := (if_pos hc).symm.trans h
      refine jj_iload_n hC dX7_widthOf_52 rfl 1 rfl ?_
      refine jj_bipush hC dX7_widthOf_53 (by decide) ?_
      refine jj_icmp_ne (tgt := 72) hC dX7_widthOf_55 rfl (r_c hp1) (show (-2147483648 ≤ (87 : Int) ∧ (87 : Int) < 2147483648) from by decide) (fun hc => ?_) (fun hc => ?_)
      · replace h := (if_pos hc).symm.trans h
        refine jj_iload_n hC dX7_widthOf_72 rfl 2 rfl ?_
        refine jj_if_lt (tgt := 98) hC dX7_widthOf_73 rfl hp2 (fun hc => ?_) (fun hc => ?_)
        · replace h := (if_pos hc).symm.trans h
          refine jj_iconst hC dX7_widthOf_98 ?_
          cases h
          exact jj_iret hC (c_le rfl) (c_le rfl) dX7_widthOf_99 ⟨rfl, (show (-2147483648 ≤ (0 : Int) ∧ (0 : Int) < 2147483648) from by decide), rfl, rfl, rfl, rfl, rfl⟩
        · replace h := (if_neg (Int.not_lt.mpr hc)).symm.trans h
          refine jj_iload_n hC dX7_widthOf_76 rfl 2 rfl ?_
          refine jj_aload_n hC dX7_widthOf_77 rfl 0 rfl ?_
          refine jg_I hC kfX7 1 rfl hs0 (by decide) wd1092 rfl dX7_widthOf_78 (fun hr1 => ?_)
          refine jj_icmp_ge (tgt := 98) hC dX7_widthOf_81 rfl hp2 hr1 (fun hc => ?_) (fun hc => ?_)
          · replace h := (if_pos hc).symm.trans h
            refine jj_iconst hC dX7_widthOf_98 ?_
            cases h
            exact jj_iret hC (c_le rfl) (c_le rfl) dX7_widthOf_99 ⟨rfl, (show (-2147483648 ≤ (0 : Int) ∧ (0 : Int) < 2147483648) from by decide), rfl, rfl, rfl, rfl, rfl⟩
          · replace h := (if_neg (Int.not_le.mpr hc)).symm.trans h
            refine jj_aload_n hC dX7_widthOf_84 rfl 0 rfl ?_
            obtain ⟨b2, hb2, hs2, h⟩ := rf_e h
            refine jg_R hC kfX7 0 rfl hs0 (by decide) wd1091 rfl hb2 dX7_widthOf_85 ?_
            refine jj_iload_n hC dX7_widthOf_88 rfl 2 rfl ?_
            obtain ⟨⟨ha3, hb3⟩, h⟩ := gd_e h
            refine jj_cald hC hs2 ha3 hb3 dX7_widthOf_89 (fun hr3 => ?_)
            refine jj_iload_n hC dX7_widthOf_90 rfl 1 rfl ?_
            refine jj_icmp_ne (tgt := 98) hC dX7_widthOf_91 rfl (r_c hr3) (r_c hp1) (fun hc => ?_) (fun hc => ?_)
            · replace h := (if_pos hc).symm.trans h
              refine jj_iconst hC dX7_widthOf_98 ?_
              cases h
              exact jj_iret hC (c_le rfl) (c_le rfl) dX7_widthOf_99 ⟨rfl, (show (-2147483648 ≤ (0 : Int) ∧ (0 : Int) < 2147483648) from by decide), rfl, rfl, rfl, rfl, rfl⟩
            · replace h := (if_neg (fun k => k hc)).symm.trans h
              refine jj_iconst hC dX7_widthOf_94 ?_
              refine jj_goto (tgt := 99) hC dX7_widthOf_95 rfl ?_
              cases h
              exact jj_iret hC (c_le rfl) (c_le rfl) dX7_widthOf_99 ⟨rfl, (show (-2147483648 ≤ (1 : Int) ∧ (1 : Int) < 2147483648) from by decide), rfl, rfl, rfl, rfl, rfl⟩
      · replace h := (if_neg (fun k => k hc)).symm.trans h
        refine jj_aload_n hC dX7_widthOf_58 rfl 0 rfl ?_
        refine jj_iload_n hC dX7_widthOf_59 rfl 2 rfl ?_
        obtain ⟨q4, hq4, h⟩ := bd_e h
        refine jj_invV hC mvX7_wayAt wd1359 wd14 wd1357 hs0 (by decide) rfl (xX7_wayAt (OKC.tr hC) hs0 hp2 hq4) rfl rfl (c_le rfl) (c_le rfl) (c_le rfl) (c_le rfl) dX7_widthOf_60 noXk (po_kI (fun hr4 => ?_))
        refine jj_if_lt (tgt := 70) hC dX7_widthOf_63 rfl hr4 (fun hc => ?_) (fun hc => ?_)
        · replace h := (if_pos hc).symm.trans h
          refine jj_iconst hC dX7_widthOf_70 ?_
          cases h
          exact jj_iret hC (c_le rfl) (c_le rfl) dX7_widthOf_71 ⟨rfl, (show (-2147483648 ≤ (0 : Int) ∧ (0 : Int) < 2147483648) from by decide), rfl, rfl, rfl, rfl, rfl⟩
        · replace h := (if_neg (Int.not_lt.mpr hc)).symm.trans h
          refine jj_iconst hC dX7_widthOf_66 ?_
          refine jj_goto (tgt := 71) hC dX7_widthOf_67 rfl ?_
          cases h
          exact jj_iret hC (c_le rfl) (c_le rfl) dX7_widthOf_71 ⟨rfl, (show (-2147483648 ≤ (1 : Int) ∧ (1 : Int) < 2147483648) from by decide), rfl, rfl, rfl, rfl, rfl⟩
    · replace h := (if_neg (fun k => k hc)).symm.trans h
      refine jj_aload_n hC dX7_widthOf_38 rfl 0 rfl ?_
      refine jj_iload_n hC dX7_widthOf_39 rfl 2 rfl ?_
      obtain ⟨q5, hq5, h⟩ := bd_e h
      refine jj_invV hC mvX7_isDigitAt wd1351 wd12 wd1349 hs0 (by decide) rfl (xX7_isDigitAt (OKC.tr hC) hs0 hp2 hq5) rfl rfl (c_le rfl) (c_le rfl) (c_le rfl) (c_le rfl) dX7_widthOf_40 noXk (po_kZ (fun hr5 => ?_))
      refine jj_if_eq (tgt := 50) hC dX7_widthOf_43 rfl (r_z hr5) (fun hc => ?_) (fun hc => ?_)
      · replace h := (if_pos hc).symm.trans h
        refine jj_iconst hC dX7_widthOf_50 ?_
        cases h
        exact jj_iret hC (c_le rfl) (c_le rfl) dX7_widthOf_51 ⟨rfl, (show (-2147483648 ≤ (0 : Int) ∧ (0 : Int) < 2147483648) from by decide), rfl, rfl, rfl, rfl, rfl⟩
      · replace h := (if_neg (hc)).symm.trans h
        refine jj_iconst hC dX7_widthOf_46 ?_
        refine jj_goto (tgt := 51) hC dX7_widthOf_47 rfl ?_
        cases h
        exact jj_iret hC (c_le rfl) (c_le rfl) dX7_widthOf_51 ⟨rfl, (show (-2147483648 ≤ (1 : Int) ∧ (1 : Int) < 2147483648) from by decide), rfl, rfl, rfl, rfl, rfl⟩
  · replace h := (if_neg (fun k => k hc)).symm.trans h
    refine jj_aload_n hC dX7_widthOf_6 rfl 0 rfl ?_
    refine jj_iload_n hC dX7_widthOf_7 rfl 2 rfl ?_
    obtain ⟨q6, hq6, h⟩ := bd_e h
    refine jj_invV hC mvX7_isDigitAt wd1351 wd12 wd1349 hs0 (by decide) rfl (xX7_isDigitAt (OKC.tr hC) hs0 hp2 hq6) rfl rfl (c_le rfl) (c_le rfl) (c_le rfl) (c_le rfl) dX7_widthOf_8 noXk (po_kZ (fun hr6 => ?_))
    refine jj_if_ne (tgt := 16) hC dX7_widthOf_11 rfl (r_z hr6) (fun hc => ?_) (fun hc => ?_)
    · replace h := (if_pos hc).symm.trans h
      refine jj_aload_n hC dX7_widthOf_16 rfl 0 rfl ?_
      refine jj_iload_n hC dX7_widthOf_17 rfl 2 rfl ?_
      refine jj_iconst hC dX7_widthOf_18 ?_
      refine jg_iadd hC dX7_widthOf_19 ?_
      obtain ⟨q7, hq7, h⟩ := bd_e h
      refine jj_invV hC mvX7_isDigitAt wd1351 wd12 wd1349 hs0 (by decide) rfl (xX7_isDigitAt (OKC.tr hC) hs0 (w32_r _) hq7) rfl rfl (c_le rfl) (c_le rfl) (c_le rfl) (c_le rfl) dX7_widthOf_20 noXk (po_kZ (fun hr7 => ?_))
      refine jj_if_eq (tgt := 30) hC dX7_widthOf_23 rfl (r_z hr7) (fun hc => ?_) (fun hc => ?_)
      · replace h := (if_pos hc).symm.trans h
        refine jj_iconst hC dX7_widthOf_30 ?_
        cases h
        exact jj_iret hC (c_le rfl) (c_le rfl) dX7_widthOf_31 ⟨rfl, (show (-2147483648 ≤ (1 : Int) ∧ (1 : Int) < 2147483648) from by decide), rfl, rfl, rfl, rfl, rfl⟩
      · replace h := (if_neg (hc)).symm.trans h
        refine jj_iconst hC dX7_widthOf_26 ?_
        refine jj_goto (tgt := 31) hC dX7_widthOf_27 rfl ?_
        cases h
        exact jj_iret hC (c_le rfl) (c_le rfl) dX7_widthOf_31 ⟨rfl, (show (-2147483648 ≤ (2 : Int) ∧ (2 : Int) < 2147483648) from by decide), rfl, rfl, rfl, rfl, rfl⟩
    · replace h := (if_neg (fun k => k hc)).symm.trans h
      refine jj_iconst hC dX7_widthOf_14 ?_
      cases h
      exact jj_iret hC (c_le rfl) (c_le rfl) dX7_widthOf_15 ⟨rfl, (show (-2147483648 ≤ (0 : Int) ∧ (0 : Int) < 2147483648) from by decide), rfl, rfl, rfl, rfl, rfl⟩
def fX7_isSlot_B18 (ad S Ln : Nat → Nat) (R : gR) (M : gM)  : Option Int :=
  some (1)
def fX7_isSlot (ad S Ln : Nat → Nat) (R : gR) (M : gM) (x0 : Int) : Option Int :=
  if x0 = 78 then (fX7_isSlot_B18 ad S Ln R M ) else (if x0 = 68 then (fX7_isSlot_B18 ad S Ln R M ) else (if ¬ x0 = 87 then (some (0)) else (fX7_isSlot_B18 ad S Ln R M )))
theorem xX7_isSlot {l : Launch} {G : gE} {sz : Nat} {S Ln : Nat → Nat} {M : gM} {R : gR} (hl : l.stackTraces = false) {x0 : Int} (hp0 : (0 ≤ x0 ∧ x0 < 65536)) {r : Int} (h : fX7_isSlot G.2.2.2.2 S Ln R M x0 = some r) : Ct l G yX7_isSlot cX7_isSlot 1 (some .boolean) 1 0 0 [.int (iI x0)] sz S Ln M R (poZ r sz S Ln (M) R) noX := by
  refine jj_start (own := RX7) (lv0 := [(0, .int (iI x0))]) hl (by decide +kernel) rfl rfl (c_le rfl) (fun C hCl hC => ?_)
  have hB18 : fX7_isSlot_B18 G.2.2.2.2 S Ln R M  = some r → JJ G C 0 0 sz S Ln M R 18 [] [] := by
    intro h
    unfold fX7_isSlot_B18 at h
    refine jj_iconst hC dX7_isSlot_18 ?_
    refine jj_goto (tgt := 23) hC dX7_isSlot_19 rfl ?_
    cases h
    exact jj_zret hC (show (0 ≤ (1 : Int) ∧ (1 : Int) ≤ 1) from by decide) (c_le rfl) (c_le rfl) dX7_isSlot_23 ⟨rfl, (show (0 ≤ (1 : Int) ∧ (1 : Int) ≤ 1) from by decide), rfl, rfl, rfl, rfl, rfl⟩
  unfold fX7_isSlot at h
  refine jj_iload_n hC dX7_isSlot_0 rfl 0 rfl ?_
  refine jj_bipush hC dX7_isSlot_1 (by decide) ?_
  refine jj_icmp_eq (tgt := 18) hC dX7_isSlot_3 rfl (r_c hp0) (show (-2147483648 ≤ (78 : Int) ∧ (78 : Int) < 2147483648) from by decide) (fun hc => ?_) (fun hc => ?_)
  · replace h := (if_pos hc).symm.trans h
    refine jj_lv (lv' := []) [] rfl ?_
    exact hB18   h
  · replace h := (if_neg (hc)).symm.trans h
    refine jj_iload_n hC dX7_isSlot_6 rfl 0 rfl ?_
    refine jj_bipush hC dX7_isSlot_7 (by decide) ?_
    refine jj_icmp_eq (tgt := 18) hC dX7_isSlot_9 rfl (r_c hp0) (show (-2147483648 ≤ (68 : Int) ∧ (68 : Int) < 2147483648) from by decide) (fun hc => ?_) (fun hc => ?_)
    · replace h := (if_pos hc).symm.trans h
      refine jj_lv (lv' := []) [] rfl ?_
      exact hB18   h
    · replace h := (if_neg (hc)).symm.trans h
      refine jj_iload_n hC dX7_isSlot_12 rfl 0 rfl ?_
      refine jj_bipush hC dX7_isSlot_13 (by decide) ?_
      refine jj_icmp_ne (tgt := 22) hC dX7_isSlot_15 rfl (r_c hp0) (show (-2147483648 ≤ (87 : Int) ∧ (87 : Int) < 2147483648) from by decide) (fun hc => ?_) (fun hc => ?_)
      · replace h := (if_pos hc).symm.trans h
        refine jj_iconst hC dX7_isSlot_22 ?_
        cases h
        exact jj_zret hC (show (0 ≤ (0 : Int) ∧ (0 : Int) ≤ 1) from by decide) (c_le rfl) (c_le rfl) dX7_isSlot_23 ⟨rfl, (show (0 ≤ (0 : Int) ∧ (0 : Int) ≤ 1) from by decide), rfl, rfl, rfl, rfl, rfl⟩
      · replace h := (if_neg (fun k => k hc)).symm.trans h
        refine jj_lv (lv' := []) [] rfl ?_
        exact hB18   h
def fX7_valueOf (ad S Ln : Nat → Nat) (R : gR) (M : gM) (a0 : Nat) (x1 : Int) (x2 : Int) (x3 : Int) : Option Int :=
  if ¬ x1 = 87 then (bd (fX7_digitAt ad S Ln R M a0 x2) fun q1 => if ¬ x3 = 2 then (some (q1)) else (bd (fX7_digitAt ad S Ln R M a0 (w32 (x2 + 1))) fun q2 => some (w32 ((w32 (10 * q1)) + q2)))) else (bd (fX7_wayAt ad S Ln R M a0 x2) fun q3 => some (q3))
theorem xX7_valueOf {l : Launch} {G : gE} {sz : Nat} {S Ln : Nat → Nat} {M : gM} {R : gR} (hl : l.stackTraces = false) {a0 : Nat} (hs0 : S a0 = 10) {x1 : Int} (hp1 : (0 ≤ x1 ∧ x1 < 65536)) {x2 : Int} (hp2 : (-2147483648 ≤ x2 ∧ x2 < 2147483648)) {x3 : Int} (hp3 : (-2147483648 ≤ x3 ∧ x3 < 2147483648)) {r : Int} (h : fX7_valueOf G.2.2.2.2 S Ln R M a0 x1 x2 x3 = some r) : Ct l G yX7_valueOf cX7_valueOf 5 (some .int) 13 0 0 [.ref a0, .int (iI x1), .int (iI x2), .int (iI x3)] sz S Ln M R (poI r sz S Ln (M) R) noX := by
  refine jj_start (own := RX7) (lv0 := [(0, .ref a0), (1, .int (iI x1)), (2, .int (iI x2)), (3, .int (iI x3))]) hl (by decide +kernel) rfl rfl (c_le rfl) (fun C hCl hC => ?_)
  unfold fX7_valueOf at h
  refine jj_iload_n hC dX7_valueOf_0 rfl 1 rfl ?_
  refine jj_bipush hC dX7_valueOf_1 (by decide) ?_
  refine jj_icmp_ne (tgt := 12) hC dX7_valueOf_3 rfl (r_c hp1) (show (-2147483648 ≤ (87 : Int) ∧ (87 : Int) < 2147483648) from by decide) (fun hc => ?_) (fun hc => ?_)
  · replace h := (if_pos hc).symm.trans h
    refine jj_aload_n hC dX7_valueOf_12 rfl 0 rfl ?_
    refine jj_iload_n hC dX7_valueOf_13 rfl 2 rfl ?_
    obtain ⟨q1, hq1, h⟩ := bd_e h
    refine jj_invV hC mvX7_digitAt wd1355 wd13 wd1353 hs0 (by decide) rfl (xX7_digitAt (OKC.tr hC) hs0 hp2 hq1) rfl rfl (c_le rfl) (c_le rfl) (c_le rfl) (c_le rfl) dX7_valueOf_14 noXk (po_kI (fun hr1 => ?_))
    refine jj_istore (lv' := [(4, .int (iI q1)), (0, .ref a0), (1, .int (iI x1)), (2, .int (iI x2)), (3, .int (iI x3))]) hC dX7_valueOf_17 (by decide) rfl ?_
    refine jj_iload_n hC dX7_valueOf_19 rfl 4 rfl ?_
    refine jj_iconst hC dX7_valueOf_20 ?_
    refine jj_icmp_ne (tgt := 40) hC dX7_valueOf_21 rfl hp3 (show (-2147483648 ≤ (2 : Int) ∧ (2 : Int) < 2147483648) from by decide) (fun hc => ?_) (fun hc => ?_)
    · replace h := (if_pos hc).symm.trans h
      refine jj_iload hC dX7_valueOf_40 0 rfl ?_
      cases h
      exact jj_iret hC (c_le rfl) (c_le rfl) dX7_valueOf_42 ⟨rfl, hr1, rfl, rfl, rfl, rfl, rfl⟩
    · replace h := (if_neg (fun k => k hc)).symm.trans h
      refine jj_bipush hC dX7_valueOf_24 (by decide) ?_
      refine jj_iload hC dX7_valueOf_26 0 rfl ?_
      refine jg_imul hC dX7_valueOf_28 ?_
      refine jj_aload_n hC dX7_valueOf_29 rfl 1 rfl ?_
      refine jj_iload_n hC dX7_valueOf_30 rfl 3 rfl ?_
      refine jj_iconst hC dX7_valueOf_31 ?_
      refine jg_iadd hC dX7_valueOf_32 ?_
      obtain ⟨q2, hq2, h⟩ := bd_e h
      refine jj_invV hC mvX7_digitAt wd1355 wd13 wd1353 hs0 (by decide) rfl (xX7_digitAt (OKC.tr hC) hs0 (w32_r _) hq2) rfl rfl (c_le rfl) (c_le rfl) (c_le rfl) (c_le rfl) dX7_valueOf_33 noXk (po_kI (fun hr2 => ?_))
      refine jg_iadd hC dX7_valueOf_36 ?_
      refine jj_goto (tgt := 42) hC dX7_valueOf_37 rfl ?_
      cases h
      exact jj_iret hC (c_le rfl) (c_le rfl) dX7_valueOf_42 ⟨rfl, (w32_r _), rfl, rfl, rfl, rfl, rfl⟩
  · replace h := (if_neg (fun k => k hc)).symm.trans h
    refine jj_aload_n hC dX7_valueOf_6 rfl 0 rfl ?_
    refine jj_iload_n hC dX7_valueOf_7 rfl 2 rfl ?_
    obtain ⟨q3, hq3, h⟩ := bd_e h
    refine jj_invV hC mvX7_wayAt wd1359 wd14 wd1357 hs0 (by decide) rfl (xX7_wayAt (OKC.tr hC) hs0 hp2 hq3) rfl rfl (c_le rfl) (c_le rfl) (c_le rfl) (c_le rfl) dX7_valueOf_8 noXk (po_kI (fun hr3 => ?_))
    cases h
    exact jj_iret hC (c_le rfl) (c_le rfl) dX7_valueOf_11 ⟨rfl, hr3, rfl, rfl, rfl, rfl, rfl⟩
def fX7_putNumber (ad S Ln : Nat → Nat) (R : gR) (M : gM) (a0 : Nat) (x1 : Int) (x2 : Int) : Option gM :=
  if 4 ≤ x1 then (some (M)) else (if 15 ≤ (M a0 4) then (some (M)) else (rf S (R a0 3) 25 fun b2 => gd ((0 : Int) ≤ (M a0 4) ∧ (M a0 4) < (Ln b2 : Int)) (rf S (R b2 (M a0 4)) 20 fun b4 => gd ((0 : Int) ≤ x1 ∧ x1 < (Ln b4 : Int)) (nam (wr M b4 x1 x2) fun M5 => some (M5)))))
theorem xX7_putNumber {l : Launch} {G : gE} {sz : Nat} {S Ln : Nat → Nat} {M : gM} {R : gR} (hl : l.stackTraces = false) {a0 : Nat} (hs0 : S a0 = 10) {x1 : Int} (hp1 : (-2147483648 ≤ x1 ∧ x1 < 2147483648)) {x2 : Int} (hp2 : (-2147483648 ≤ x2 ∧ x2 < 2147483648)) {r : gM} (h : fX7_putNumber G.2.2.2.2 S Ln R M a0 x1 x2 = some r) : Ct l G yX7_putNumber cX7_putNumber 3 none 1 0 0 [.ref a0, .int (iI x1), .int (iI x2)] sz S Ln M R (poV sz S Ln (r) R) noX := by
  refine jj_start (own := RX7) (lv0 := [(0, .ref a0), (1, .int (iI x1)), (2, .int (iI x2))]) hl (by decide +kernel) rfl rfl (c_le rfl) (fun C hCl hC => ?_)
  unfold fX7_putNumber at h
  refine jj_iload_n hC dX7_putNumber_0 rfl 1 rfl ?_
  refine jj_iconst hC dX7_putNumber_1 ?_
  refine jj_icmp_ge (tgt := 26) hC dX7_putNumber_2 rfl hp1 (show (-2147483648 ≤ (4 : Int) ∧ (4 : Int) < 2147483648) from by decide) (fun hc => ?_) (fun hc => ?_)
  · replace h := (if_pos hc).symm.trans h
    cases h
    exact jj_vret hC (c_le rfl) (c_le rfl) dX7_putNumber_26 ⟨rfl, trivial, rfl, rfl, rfl, rfl, rfl⟩
  · replace h := (if_neg (Int.not_le.mpr hc)).symm.trans h
    refine jj_aload_n hC dX7_putNumber_5 rfl 0 rfl ?_
    refine jg_I hC kfX7 4 rfl hs0 (by decide) wd1098 rfl dX7_putNumber_6 (fun hr1 => ?_)
    refine jj_bipush hC dX7_putNumber_9 (by decide) ?_
    refine jj_icmp_ge (tgt := 26) hC dX7_putNumber_11 rfl hr1 (show (-2147483648 ≤ (15 : Int) ∧ (15 : Int) < 2147483648) from by decide) (fun hc => ?_) (fun hc => ?_)
    · replace h := (if_pos hc).symm.trans h
      cases h
      exact jj_vret hC (c_le rfl) (c_le rfl) dX7_putNumber_26 ⟨rfl, trivial, rfl, rfl, rfl, rfl, rfl⟩
    · replace h := (if_neg (Int.not_le.mpr hc)).symm.trans h
      refine jj_aload_n hC dX7_putNumber_14 rfl 0 rfl ?_
      obtain ⟨b2, hb2, hs2, h⟩ := rf_e h
      refine jg_R hC kfX7 3 rfl hs0 (by decide) wd1096 rfl hb2 dX7_putNumber_15 ?_
      refine jj_aload_n hC dX7_putNumber_18 rfl 0 rfl ?_
      refine jg_I hC kfX7 4 rfl hs0 (by decide) wd1098 rfl dX7_putNumber_19 (fun hr3 => ?_)
      obtain ⟨⟨ha4, hb4⟩, h⟩ := gd_e h
      obtain ⟨b4, hd4, hs4, h⟩ := rf_e h
      refine jj_aald hC hs2 (by decide) ha4 hb4 hd4 dX7_putNumber_22 ?_
      refine jj_iload_n hC dX7_putNumber_23 rfl 1 rfl ?_
      refine jj_iload_n hC dX7_putNumber_24 rfl 2 rfl ?_
      obtain ⟨⟨ha5, hb5⟩, h⟩ := gd_e h
      obtain ⟨M5, hM5, h⟩ := nam_e h
      refine jj_iast hC hs4 ha5 hb5 hp2 dX7_putNumber_25 (jj_M hM5 ?_)
      cases h
      exact jj_vret hC (c_le rfl) (c_le rfl) dX7_putNumber_26 ⟨rfl, trivial, rfl, rfl, rfl, rfl, rfl⟩
def fX7_fits_B65 (ad S Ln : Nat → Nat) (R : gR) (M65 : gM) (l0_8 : Nat) (l1_8 : Nat) (l3_65 : Int) (l4_65 : Int) (l5_65 : Int) (l7_65 : Int) : Option ((Int × Int × Int × gM) ⊕ ((gM) ⊕ (Int × gM))) :=
  nam (wr M65 l0_8 5 (i_max (M65 l0_8 5) (w32 (l3_65 + l7_65)))) fun M5 => if ¬ l7_65 = 0 then (some (.inl (w32 (l3_65 + l7_65), l4_65, w32 (l5_65 + 1), M5))) else (some (.inr (.inr ((0, M5)))))
def fX7_fits_L8 (ad S Ln : Nat → Nat) (R : gR) (l0_8 : Nat) (l1_8 : Nat) (s8 : Int × Int × Int × gM) : Option ((Int × Int × Int × gM) ⊕ ((gM) ⊕ (Int × gM))) :=
  bd (fJ0_length_8abf5 ad S Ln R s8.2.2.2 l1_8) fun q1 => if q1 ≤ s8.2.2.1 then (some (.inr (.inl s8.2.2.2))) else (bd (fJ0_charAt_5068e ad S Ln R s8.2.2.2 l1_8 s8.2.2.1) fun q2 => bd (fX7_widthOf ad S Ln R s8.2.2.2 l0_8 q2 s8.1) fun q3 => if q3 ≤ 0 then (fX7_fits_B65 ad S Ln R s8.2.2.2 l0_8 l1_8 s8.1 s8.2.1 s8.2.2.1 q3) else (bd (fX7_isSlot ad S Ln R s8.2.2.2 q2) fun q6 => if q6 = 0 then (fX7_fits_B65 ad S Ln R s8.2.2.2 l0_8 l1_8 s8.1 s8.2.1 s8.2.2.1 q3) else (bd (fX7_valueOf ad S Ln R s8.2.2.2 l0_8 q2 s8.1 q3) fun q7 => bd (fX7_putNumber ad S Ln R s8.2.2.2 l0_8 s8.2.1 q7) fun q8 => fX7_fits_B65 ad S Ln R q8 l0_8 l1_8 s8.1 (w32 (s8.2.1 + 1)) s8.2.2.1 q3)))
def fX7_fits (ad S Ln : Nat → Nat) (R : gR) (M : gM) (a0 : Nat) (x1 : Nat) (x2 : Int) : Option (Int × gM) :=
  bd (lp (fX7_fits_L8 ad S Ln R a0 x1) FU (x2, 0, 0, M)) fun q10 => Sum.elim (fun e8_9 => some ((1, e8_9))) (fun c10 => some c10) q10
theorem xX7_fits {l : Launch} {G : gE} {sz : Nat} {S Ln : Nat → Nat} {M : gM} {R : gR} (hl : l.stackTraces = false) {a0 : Nat} (hs0 : S a0 = 10) {x1 : Nat} (hp1 : S x1 = 1) {x2 : Int} (hp2 : (-2147483648 ≤ x2 ∧ x2 < 2147483648)) {r : Int × gM} (h : fX7_fits G.2.2.2.2 S Ln R M a0 x1 x2 = some r) : Ct l G yX7_fits cX7_fits 8 (some .boolean) 14 0 0 [.ref a0, .ref x1, .int (iI x2)] sz S Ln M R (poZ r.1 sz S Ln (r.2) R) noX := by
  refine jj_start (own := RX7) (lv0 := [(0, .ref a0), (1, .ref x1), (2, .int (iI x2))]) hl (by decide +kernel) rfl rfl (c_le rfl) (fun C hCl hC => ?_)
  have hL8 : ∀ (l0_8 : Nat) (l1_8 : Nat), S l0_8 = 10 → S l1_8 = 1 → ∀ (n : Nat) (s8 : Int × Int × Int × gM) (q : (gM) ⊕ (Int × gM)), lp (fX7_fits_L8 G.2.2.2.2 S Ln R l0_8 l1_8) n s8 = some q → (-2147483648 ≤ s8.1 ∧ s8.1 < 2147483648) ∧ (-2147483648 ≤ s8.2.1 ∧ s8.2.1 < 2147483648) ∧ (-2147483648 ≤ s8.2.2.1 ∧ s8.2.2.1 < 2147483648) → (∀ e8, q = .inl e8 → True → JJ G C 0 0 sz S Ln e8 R 95 [] []) → (∀ c, q = .inr c → c = r) → JJ G C 0 0 sz S Ln s8.2.2.2 R 8 [(0, .ref l0_8), (1, .ref l1_8), (3, .int (iI s8.1)), (4, .int (iI s8.2.1)), (5, .int (iI s8.2.2.1))] [] := by
    intro l0_8 l1_8 hl0_8 hl1_8
    refine lp_ind ?_
    intro s8 r8 hI8 h hJ8 hE8 hR8
    obtain ⟨hs8_0, hs8_1, hs8_2⟩ := hI8
    have hB65 : ∀ (M65 : gM) (l3_65 : Int) (l4_65 : Int) (l5_65 : Int) (l7_65 : Int), (-2147483648 ≤ l3_65 ∧ l3_65 < 2147483648) → (-2147483648 ≤ l4_65 ∧ l4_65 < 2147483648) → (-2147483648 ≤ l5_65 ∧ l5_65 < 2147483648) → (-2147483648 ≤ l7_65 ∧ l7_65 < 2147483648) → fX7_fits_B65 G.2.2.2.2 S Ln R M65 l0_8 l1_8 l3_65 l4_65 l5_65 l7_65 = some r8 → JJ G C 0 0 sz S Ln M65 R 65 [(0, .ref l0_8), (1, .ref l1_8), (3, .int (iI l3_65)), (4, .int (iI l4_65)), (5, .int (iI l5_65)), (7, .int (iI l7_65))] [] := by
      intro M65 l3_65 l4_65 l5_65 l7_65 hl3_65 hl4_65 hl5_65 hl7_65 h
      unfold fX7_fits_B65 at h
      refine jj_iload_n hC dX7_fits_65 rfl 2 rfl ?_
      refine jj_iload hC dX7_fits_66 5 rfl ?_
      refine jg_iadd hC dX7_fits_68 ?_
      refine jj_istore_n (lv' := [(3, .int (iI (w32 (l3_65 + l7_65)))), (0, .ref l0_8), (1, .ref l1_8), (4, .int (iI l4_65)), (5, .int (iI l5_65)), (7, .int (iI l7_65))]) hC dX7_fits_69 rfl (by decide) rfl ?_
      refine jj_aload_n hC dX7_fits_70 rfl 1 rfl ?_
      refine jj_aload_n hC dX7_fits_71 rfl 1 rfl ?_
      refine jg_I hC kfX7 5 rfl hl0_8 (by decide) wd1100 rfl dX7_fits_72 (fun hr4 => ?_)
      refine jj_iload_n hC dX7_fits_75 rfl 0 rfl ?_
      refine jj_mmax hC hr4 (w32_r _) wd1373 wd211 wd47 wd212 (c_le rfl) (c_le rfl) (c_le rfl) (c_le rfl) dX7_fits_76 ?_
      obtain ⟨M5, hM5, h⟩ := nam_e h
      refine jp_I hC kfX7 5 rfl hl0_8 rfl (by decide) wd1100 rfl rfl rfl (i_max_r hr4 (w32_r _)) dX7_fits_79 (jj_M hM5 ?_)
      refine jj_iload hC dX7_fits_82 5 rfl ?_
      refine jj_if_ne (tgt := 89) hC dX7_fits_84 rfl hl7_65 (fun hc => ?_) (fun hc => ?_)
      · replace h := (if_pos hc).symm.trans h
        refine jg_iinc (q := 4) (lv' := [(5, .int (iI (w32 (l5_65 + 1)))), (3, .int (iI (w32 (l3_65 + l7_65)))), (0, .ref l0_8), (1, .ref l1_8), (4, .int (iI l4_65)), (7, .int (iI l7_65))]) hC dX7_fits_89 rfl (by decide) rfl ?_
        refine jj_goto (tgt := 8) hC dX7_fits_92 rfl ?_
        refine jj_lv (lv' := [(0, .ref l0_8), (1, .ref l1_8), (3, .int (iI (w32 (l3_65 + l7_65)))), (4, .int (iI l4_65)), (5, .int (iI (w32 (l5_65 + 1))))]) [2, 3, 1, 4, 0] rfl ?_
        exact hJ8 _ (Option.some.inj h).symm ⟨(w32_r _), hl4_65, (w32_r _)⟩
      · replace h := (if_neg (fun k => k hc)).symm.trans h
        refine jj_iconst hC dX7_fits_87 ?_
        have h := hR8 _ (Option.some.inj h).symm
        subst h
        exact jj_zret hC (show (0 ≤ (0 : Int) ∧ (0 : Int) ≤ 1) from by decide) (c_le rfl) (c_le rfl) dX7_fits_88 ⟨rfl, (show (0 ≤ (0 : Int) ∧ (0 : Int) ≤ 1) from by decide), rfl, rfl, rfl, rfl, rfl⟩
    unfold fX7_fits_L8 at h
    refine jj_iload hC dX7_fits_8 4 rfl ?_
    refine jj_aload_n hC dX7_fits_10 rfl 1 rfl ?_
    obtain ⟨q1, hq1, h⟩ := bd_e h
    refine jj_invV hC mvJ0_length_8abf5 wd266 wd267 wd1343 hl1_8 (by decide) rfl (xJ0_length_8abf5 (OKC.tr hC) hl1_8 hq1) rfl rfl (c_le rfl) (c_le rfl) (c_le rfl) (c_le rfl) dX7_fits_11 noXk (po_kI (fun hr1 => ?_))
    refine jj_icmp_ge (tgt := 95) hC dX7_fits_14 rfl hs8_2 hr1 (fun hc => ?_) (fun hc => ?_)
    · replace h := (if_pos hc).symm.trans h
      refine jj_lv (lv' := []) [] rfl ?_
      exact hE8 _ (Option.some.inj h).symm trivial
    · replace h := (if_neg (Int.not_le.mpr hc)).symm.trans h
      refine jj_aload_n hC dX7_fits_17 rfl 1 rfl ?_
      refine jj_iload hC dX7_fits_18 4 rfl ?_
      obtain ⟨q2, hq2, h⟩ := bd_e h
      refine jj_invV hC mvJ0_charAt_5068e wd1284 wd1285 wd1344 hl1_8 (by decide) rfl (xJ0_charAt_5068e (OKC.tr hC) hl1_8 hs8_2 hq2) rfl rfl (c_le rfl) (c_le rfl) (c_le rfl) (c_le rfl) dX7_fits_20 noXk (po_kC (fun hr2 => ?_))
      refine jj_istore (lv' := [(6, .int (iI q2)), (0, .ref l0_8), (1, .ref l1_8), (3, .int (iI s8.1)), (4, .int (iI s8.2.1)), (5, .int (iI s8.2.2.1))]) hC dX7_fits_23 (by decide) rfl ?_
      refine jj_aload_n hC dX7_fits_25 rfl 1 rfl ?_
      refine jj_iload hC dX7_fits_26 0 rfl ?_
      refine jj_iload_n hC dX7_fits_28 rfl 3 rfl ?_
      obtain ⟨q3, hq3, h⟩ := bd_e h
      refine jj_invV hC mvX7_widthOf wd1347 wd11 wd1345 hl0_8 (by decide) rfl (xX7_widthOf (OKC.tr hC) hl0_8 hr2 hs8_0 hq3) rfl rfl (c_le rfl) (c_le rfl) (c_le rfl) (c_le rfl) dX7_fits_29 noXk (po_kI (fun hr3 => ?_))
      refine jj_istore (lv' := [(7, .int (iI q3)), (6, .int (iI q2)), (0, .ref l0_8), (1, .ref l1_8), (3, .int (iI s8.1)), (4, .int (iI s8.2.1)), (5, .int (iI s8.2.2.1))]) hC dX7_fits_32 (by decide) rfl ?_
      refine jj_iload hC dX7_fits_34 0 rfl ?_
      refine jj_if_le (tgt := 65) hC dX7_fits_36 rfl hr3 (fun hc => ?_) (fun hc => ?_)
      · replace h := (if_pos hc).symm.trans h
        refine jj_lv (lv' := [(0, .ref l0_8), (1, .ref l1_8), (3, .int (iI s8.1)), (4, .int (iI s8.2.1)), (5, .int (iI s8.2.2.1)), (7, .int (iI q3))]) [2, 3, 4, 5, 6, 0] rfl ?_
        exact hB65 s8.2.2.2 s8.1 s8.2.1 s8.2.2.1 q3 hs8_0 hs8_1 hs8_2 hr3 h
      · replace h := (if_neg (Int.not_le.mpr hc)).symm.trans h
        refine jj_iload hC dX7_fits_39 1 rfl ?_
        obtain ⟨q6, hq6, h⟩ := bd_e h
        refine jj_invS hC mvX7_isSlot wd1363 wd1362 (xX7_isSlot (OKC.tr hC) hr2 hq6) rfl rfl (c_le rfl) (c_le rfl) (c_le rfl) (c_le rfl) dX7_fits_41 noXk (po_kZ (fun hr6 => ?_))
        refine jj_if_eq (tgt := 65) hC dX7_fits_44 rfl (r_z hr6) (fun hc => ?_) (fun hc => ?_)
        · replace h := (if_pos hc).symm.trans h
          refine jj_lv (lv' := [(0, .ref l0_8), (1, .ref l1_8), (3, .int (iI s8.1)), (4, .int (iI s8.2.1)), (5, .int (iI s8.2.2.1)), (7, .int (iI q3))]) [2, 3, 4, 5, 6, 0] rfl ?_
          exact hB65 s8.2.2.2 s8.1 s8.2.1 s8.2.2.1 q3 hs8_0 hs8_1 hs8_2 hr3 h
        · replace h := (if_neg (hc)).symm.trans h
          refine jj_aload_n hC dX7_fits_47 rfl 2 rfl ?_
          refine jj_iload hC dX7_fits_48 5 rfl ?_
          refine jj_aload_n hC dX7_fits_50 rfl 2 rfl ?_
          refine jj_iload hC dX7_fits_51 1 rfl ?_
          refine jj_iload_n hC dX7_fits_53 rfl 4 rfl ?_
          refine jj_iload hC dX7_fits_54 0 rfl ?_
          obtain ⟨q7, hq7, h⟩ := bd_e h
          refine jj_invV hC mvX7_valueOf wd1367 wd15 wd1365 hl0_8 (by decide) rfl (xX7_valueOf (OKC.tr hC) hl0_8 hr2 hs8_0 hr3 hq7) rfl rfl (c_le rfl) (c_le rfl) (c_le rfl) (c_le rfl) dX7_fits_56 noXk (po_kI (fun hr7 => ?_))
          obtain ⟨q8, hq8, h⟩ := bd_e h
          refine jj_invV hC mvX7_putNumber wd1371 wd16 wd1369 hl0_8 (by decide) rfl (xX7_putNumber (OKC.tr hC) hl0_8 hs8_1 hr7 hq8) rfl rfl (c_le rfl) (c_le rfl) (c_le rfl) (c_le rfl) dX7_fits_59 noXk (po_kV ?_)
          refine jg_iinc (q := 5) (lv' := [(4, .int (iI (w32 (s8.2.1 + 1)))), (7, .int (iI q3)), (6, .int (iI q2)), (0, .ref l0_8), (1, .ref l1_8), (3, .int (iI s8.1)), (5, .int (iI s8.2.2.1))]) hC dX7_fits_62 rfl (by decide) rfl ?_
          refine jj_lv (lv' := [(0, .ref l0_8), (1, .ref l1_8), (3, .int (iI s8.1)), (4, .int (iI (w32 (s8.2.1 + 1)))), (5, .int (iI s8.2.2.1)), (7, .int (iI q3))]) [3, 4, 5, 0, 6, 1] rfl ?_
          exact hB65 q8 s8.1 (w32 (s8.2.1 + 1)) s8.2.2.1 q3 hs8_0 (w32_r _) hs8_2 hr3 h
  unfold fX7_fits at h
  refine jj_iload_n hC dX7_fits_0 rfl 2 rfl ?_
  refine jj_istore_n (lv' := [(3, .int (iI x2)), (0, .ref a0), (1, .ref x1), (2, .int (iI x2))]) hC dX7_fits_1 rfl (by decide) rfl ?_
  refine jj_iconst hC dX7_fits_2 ?_
  refine jj_istore (lv' := [(4, .int (iI 0)), (3, .int (iI x2)), (0, .ref a0), (1, .ref x1), (2, .int (iI x2))]) hC dX7_fits_3 (by decide) rfl ?_
  refine jj_iconst hC dX7_fits_5 ?_
  refine jj_istore (lv' := [(5, .int (iI 0)), (4, .int (iI 0)), (3, .int (iI x2)), (0, .ref a0), (1, .ref x1), (2, .int (iI x2))]) hC dX7_fits_6 (by decide) rfl ?_
  obtain ⟨q10, hq10, h⟩ := bd_e h
  refine jj_lv (lv' := [(0, .ref a0), (1, .ref x1), (3, .int (iI x2)), (4, .int (iI 0)), (5, .int (iI 0))]) [3, 4, 2, 1, 0] rfl ?_
  refine hL8 a0 x1 hs0 hp1 FU _ q10 hq10 ⟨hp2, (show (-2147483648 ≤ (0 : Int) ∧ (0 : Int) < 2147483648) from by decide), (show (-2147483648 ≤ (0 : Int) ∧ (0 : Int) < 2147483648) from by decide)⟩ (fun e8_9 he10 hIE10 => ?_) (fun c10 hc10 => ?_)
  · subst he10
    replace h := el_l h
    refine jj_iconst hC dX7_fits_95 ?_
    cases h
    exact jj_zret hC (show (0 ≤ (1 : Int) ∧ (1 : Int) ≤ 1) from by decide) (c_le rfl) (c_le rfl) dX7_fits_96 ⟨rfl, (show (0 ≤ (1 : Int) ∧ (1 : Int) ≤ 1) from by decide), rfl, rfl, rfl, rfl, rfl⟩
  · subst hc10
    replace h := el_r h
    exact Option.some.inj h
def fX7_readCommand_L7 (ad S Ln : Nat → Nat) (R : gR) (l0_7 : Nat) (l1_7 : Int) (s7 : Int × gM) : Option ((Int × gM) ⊕ ((Int × gM) ⊕ (Int × gM))) :=
  if 9 ≤ s7.1 then (some (.inr (.inr ((0, s7.2))))) else (bd (fX7_formOf ad S Ln R s7.2 s7.1) fun q2 => bd (fX7_fits ad S Ln R s7.2 l0_7 q2 l1_7) fun q3 => if q3.1 = 0 then (some (.inl (w32 (s7.1 + 1), q3.2))) else (some (.inr (.inl (s7.1, q3.2)))))
def fX7_readCommand (ad S Ln : Nat → Nat) (R : gR) (M : gM) (a0 : Nat) (x1 : Int) : Option (Int × gM) :=
  nam (wr M a0 5 x1) fun M1 => bd (lp (fX7_readCommand_L7 ad S Ln R a0 x1) FU (0, M1)) fun q8 => Sum.elim (fun e7_4 => rf S (R a0 2) 20 fun b5 => gd ((0 : Int) ≤ (e7_4.2 a0 4) ∧ (e7_4.2 a0 4) < (Ln b5 : Int)) (nam (wr e7_4.2 b5 (e7_4.2 a0 4) e7_4.1) fun M7 => some ((1, M7)))) (fun c8 => some c8) q8
theorem xX7_readCommand {l : Launch} {G : gE} {sz : Nat} {S Ln : Nat → Nat} {M : gM} {R : gR} (hl : l.stackTraces = false) {a0 : Nat} (hs0 : S a0 = 10) {x1 : Int} (hp1 : (-2147483648 ≤ x1 ∧ x1 < 2147483648)) {r : Int × gM} (h : fX7_readCommand G.2.2.2.2 S Ln R M a0 x1 = some r) : Ct l G yX7_readCommand cX7_readCommand 3 (some .boolean) 15 0 0 [.ref a0, .int (iI x1)] sz S Ln M R (poZ r.1 sz S Ln (r.2) R) noX := by
  refine jj_start (own := RX7) (lv0 := [(0, .ref a0), (1, .int (iI x1))]) hl (by decide +kernel) rfl rfl (c_le rfl) (fun C hCl hC => ?_)
  have hL7 : ∀ (l0_7 : Nat) (l1_7 : Int), S l0_7 = 10 → (-2147483648 ≤ l1_7 ∧ l1_7 < 2147483648) → ∀ (n : Nat) (s7 : Int × gM) (q : (Int × gM) ⊕ (Int × gM)), lp (fX7_readCommand_L7 G.2.2.2.2 S Ln R l0_7 l1_7) n s7 = some q → (-2147483648 ≤ s7.1 ∧ s7.1 < 2147483648) → (∀ e7, q = .inl e7 → (-2147483648 ≤ e7.1 ∧ e7.1 < 2147483648) → JJ G C 0 0 sz S Ln e7.2 R 25 [(0, .ref l0_7), (2, .int (iI e7.1))] []) → (∀ c, q = .inr c → c = r) → JJ G C 0 0 sz S Ln s7.2 R 7 [(0, .ref l0_7), (1, .int (iI l1_7)), (2, .int (iI s7.1))] [] := by
    intro l0_7 l1_7 hl0_7 hl1_7
    refine lp_ind ?_
    intro s7 r7 hI7 h hJ7 hE7 hR7
    have hs7_0 := hI7
    unfold fX7_readCommand_L7 at h
    refine jj_iload_n hC dX7_readCommand_7 rfl 2 rfl ?_
    refine jj_bipush hC dX7_readCommand_8 (by decide) ?_
    refine jj_icmp_ge (tgt := 43) hC dX7_readCommand_10 rfl hs7_0 (show (-2147483648 ≤ (9 : Int) ∧ (9 : Int) < 2147483648) from by decide) (fun hc => ?_) (fun hc => ?_)
    · replace h := (if_pos hc).symm.trans h
      refine jj_iconst hC dX7_readCommand_43 ?_
      have h := hR7 _ (Option.some.inj h).symm
      subst h
      exact jj_zret hC (show (0 ≤ (0 : Int) ∧ (0 : Int) ≤ 1) from by decide) (c_le rfl) (c_le rfl) dX7_readCommand_44 ⟨rfl, (show (0 ≤ (0 : Int) ∧ (0 : Int) ≤ 1) from by decide), rfl, rfl, rfl, rfl, rfl⟩
    · replace h := (if_neg (Int.not_le.mpr hc)).symm.trans h
      refine jj_aload_n hC dX7_readCommand_13 rfl 0 rfl ?_
      refine jj_iload_n hC dX7_readCommand_14 rfl 2 rfl ?_
      obtain ⟨q2, hq2, h⟩ := bd_e h
      refine jj_invS hC mvX7_formOf wd1328 wd1327 (xX7_formOf (OKC.tr hC) hs7_0 hq2) rfl rfl (c_le rfl) (c_le rfl) (c_le rfl) (c_le rfl) dX7_readCommand_15 noXk (po_kA (fun hr2 => ?_))
      refine jj_iload_n hC dX7_readCommand_18 rfl 1 rfl ?_
      obtain ⟨q3, hq3, h⟩ := bd_e h
      refine jj_invV hC mvX7_fits wd1341 wd10 wd1339 hl0_7 (by decide) rfl (xX7_fits (OKC.tr hC) hl0_7 hr2 hl1_7 hq3) rfl rfl (c_le rfl) (c_le rfl) (c_le rfl) (c_le rfl) dX7_readCommand_19 noXk (po_kZ (fun hr3 => ?_))
      refine jj_if_eq (tgt := 37) hC dX7_readCommand_22 rfl (r_z hr3) (fun hc => ?_) (fun hc => ?_)
      · replace h := (if_pos hc).symm.trans h
        refine jg_iinc (q := 2) (lv' := [(2, .int (iI (w32 (s7.1 + 1)))), (0, .ref l0_7), (1, .int (iI l1_7))]) hC dX7_readCommand_37 rfl (by decide) rfl ?_
        refine jj_goto (tgt := 7) hC dX7_readCommand_40 rfl ?_
        refine jj_lv (lv' := [(0, .ref l0_7), (1, .int (iI l1_7)), (2, .int (iI (w32 (s7.1 + 1))))]) [1, 2, 0] rfl ?_
        exact hJ7 _ (Option.some.inj h).symm (w32_r _)
      · replace h := (if_neg (hc)).symm.trans h
        refine jj_lv (lv' := [(0, .ref l0_7), (2, .int (iI s7.1))]) [0, 2] rfl ?_
        exact hE7 _ (Option.some.inj h).symm hs7_0
  unfold fX7_readCommand at h
  refine jj_aload_n hC dX7_readCommand_0 rfl 0 rfl ?_
  refine jj_iload_n hC dX7_readCommand_1 rfl 1 rfl ?_
  obtain ⟨M1, hM1, h⟩ := nam_e h
  refine jp_I hC kfX7 5 rfl hs0 rfl (by decide) wd1100 rfl rfl rfl hp1 dX7_readCommand_2 (jj_M hM1 ?_)
  refine jj_iconst hC dX7_readCommand_5 ?_
  refine jj_istore_n (lv' := [(2, .int (iI 0)), (0, .ref a0), (1, .int (iI x1))]) hC dX7_readCommand_6 rfl (by decide) rfl ?_
  obtain ⟨q8, hq8, h⟩ := bd_e h
  refine jj_lv (lv' := [(0, .ref a0), (1, .int (iI x1)), (2, .int (iI 0))]) [1, 2, 0] rfl ?_
  refine hL7 a0 x1 hs0 hp1 FU _ q8 hq8 (show (-2147483648 ≤ (0 : Int) ∧ (0 : Int) < 2147483648) from by decide) (fun e7_4 he8 hIE8 => ?_) (fun c8 hc8 => ?_)
  · subst he8
    replace h := el_l h
    have he7_4_0 := hIE8
    refine jj_aload_n hC dX7_readCommand_25 rfl 0 rfl ?_
    obtain ⟨b5, hb5, hs5, h⟩ := rf_e h
    refine jg_R hC kfX7 2 rfl hs0 (by decide) wd1094 rfl hb5 dX7_readCommand_26 ?_
    refine jj_aload_n hC dX7_readCommand_29 rfl 0 rfl ?_
    refine jg_I hC kfX7 4 rfl hs0 (by decide) wd1098 rfl dX7_readCommand_30 (fun hr6 => ?_)
    refine jj_iload_n hC dX7_readCommand_33 rfl 1 rfl ?_
    obtain ⟨⟨ha7, hb7⟩, h⟩ := gd_e h
    obtain ⟨M7, hM7, h⟩ := nam_e h
    refine jj_iast hC hs5 ha7 hb7 he7_4_0 dX7_readCommand_34 (jj_M hM7 ?_)
    refine jj_iconst hC dX7_readCommand_35 ?_
    cases h
    exact jj_zret hC (show (0 ≤ (1 : Int) ∧ (1 : Int) ≤ 1) from by decide) (c_le rfl) (c_le rfl) dX7_readCommand_36 ⟨rfl, (show (0 ≤ (1 : Int) ∧ (1 : Int) ≤ 1) from by decide), rfl, rfl, rfl, rfl, rfl⟩
  · subst hc8
    replace h := el_r h
    exact Option.some.inj h
def fX7_findError_L7 (ad S Ln : Nat → Nat) (R : gR) (l0_7 : Nat) (s7 : Int × gM) : Option ((Int × gM) ⊕ ((Int × gM) ⊕ (Int × gM))) :=
  if 15 ≤ (s7.2 l0_7 4) then (some (.inr (.inl (s7.1, s7.2)))) else (bd (fX7_readCommand ad S Ln R s7.2 l0_7 s7.1) fun q3 => if ¬ q3.1 = 0 then (nam (wr q3.2 l0_7 4 (w32 ((q3.2 l0_7 4) + 1))) fun M5 => if (M5 l0_7 5) < (M5 l0_7 1) then (rf S (R l0_7 0) 24 fun b8 => gd ((0 : Int) ≤ (M5 l0_7 5) ∧ (M5 l0_7 5) < (Ln b8 : Int)) (if (M5 b8 (M5 l0_7 5)) = 59 then (some (.inl (w32 ((M5 l0_7 5) + 1), M5))) else (some (.inr (.inr ((M5 l0_7 5, M5))))))) else (some (.inr (.inr (((-1), M5)))))) else (some (.inr (.inr ((q3.2 l0_7 5, q3.2))))))
def fX7_findError (ad S Ln : Nat → Nat) (R : gR) (M : gM) (a0 : Nat) : Option (Int × gM) :=
  nam (wr M a0 4 0) fun M1 => bd (lp (fX7_findError_L7 ad S Ln R a0) FU (0, M1)) fun q15 => Sum.elim (fun e7_14 => some ((e7_14.1, e7_14.2))) (fun c15 => some c15) q15
theorem xX7_findError {l : Launch} {G : gE} {sz : Nat} {S Ln : Nat → Nat} {M : gM} {R : gR} (hl : l.stackTraces = false) {a0 : Nat} (hs0 : S a0 = 10) {r : Int × gM} (h : fX7_findError G.2.2.2.2 S Ln R M a0 = some r) : Ct l G yX7_findError cX7_findError 2 (some .int) 16 0 0 [.ref a0] sz S Ln M R (poI r.1 sz S Ln (r.2) R) noX := by
  refine jj_start (own := RX7) (lv0 := [(0, .ref a0)]) hl (by decide +kernel) rfl rfl (c_le rfl) (fun C hCl hC => ?_)
  have hL7 : ∀ (l0_7 : Nat), S l0_7 = 10 → ∀ (n : Nat) (s7 : Int × gM) (q : (Int × gM) ⊕ (Int × gM)), lp (fX7_findError_L7 G.2.2.2.2 S Ln R l0_7) n s7 = some q → (-2147483648 ≤ s7.1 ∧ s7.1 < 2147483648) → (∀ e7, q = .inl e7 → (-2147483648 ≤ e7.1 ∧ e7.1 < 2147483648) → JJ G C 0 0 sz S Ln e7.2 R 81 [(1, .int (iI e7.1))] []) → (∀ c, q = .inr c → c = r) → JJ G C 0 0 sz S Ln s7.2 R 7 [(0, .ref l0_7), (1, .int (iI s7.1))] [] := by
    intro l0_7 hl0_7
    refine lp_ind ?_
    intro s7 r7 hI7 h hJ7 hE7 hR7
    have hs7_0 := hI7
    unfold fX7_findError_L7 at h
    refine jj_aload_n hC dX7_findError_7 rfl 0 rfl ?_
    refine jg_I hC kfX7 4 rfl hl0_7 (by decide) wd1098 rfl dX7_findError_8 (fun hr2 => ?_)
    refine jj_bipush hC dX7_findError_11 (by decide) ?_
    refine jj_icmp_ge (tgt := 81) hC dX7_findError_13 rfl hr2 (show (-2147483648 ≤ (15 : Int) ∧ (15 : Int) < 2147483648) from by decide) (fun hc => ?_) (fun hc => ?_)
    · replace h := (if_pos hc).symm.trans h
      refine jj_lv (lv' := [(1, .int (iI s7.1))]) [1] rfl ?_
      exact hE7 _ (Option.some.inj h).symm hs7_0
    · replace h := (if_neg (Int.not_le.mpr hc)).symm.trans h
      refine jj_aload_n hC dX7_findError_16 rfl 0 rfl ?_
      refine jj_iload_n hC dX7_findError_17 rfl 1 rfl ?_
      obtain ⟨q3, hq3, h⟩ := bd_e h
      refine jj_invV hC mvX7_readCommand wd1325 wd9 wd1323 hl0_7 (by decide) rfl (xX7_readCommand (OKC.tr hC) hl0_7 hs7_0 hq3) rfl rfl (c_le rfl) (c_le rfl) (c_le rfl) (c_le rfl) dX7_findError_18 noXk (po_kZ (fun hr3 => ?_))
      refine jj_if_ne (tgt := 29) hC dX7_findError_21 rfl (r_z hr3) (fun hc => ?_) (fun hc => ?_)
      · replace h := (if_pos hc).symm.trans h
        refine jj_aload_n hC dX7_findError_29 rfl 0 rfl ?_
        refine jj_dup hC dX7_findError_30 rfl ?_
        refine jg_I hC kfX7 4 rfl hl0_7 (by decide) wd1098 rfl dX7_findError_31 (fun hr4 => ?_)
        refine jj_iconst hC dX7_findError_34 ?_
        refine jg_iadd hC dX7_findError_35 ?_
        obtain ⟨M5, hM5, h⟩ := nam_e h
        refine jp_I hC kfX7 4 rfl hl0_7 rfl (by decide) wd1098 rfl rfl rfl (w32_r _) dX7_findError_36 (jj_M hM5 ?_)
        refine jj_aload_n hC dX7_findError_39 rfl 0 rfl ?_
        refine jg_I hC kfX7 5 rfl hl0_7 (by decide) wd1100 rfl dX7_findError_40 (fun hr6 => ?_)
        refine jj_aload_n hC dX7_findError_43 rfl 0 rfl ?_
        refine jg_I hC kfX7 1 rfl hl0_7 (by decide) wd1092 rfl dX7_findError_44 (fun hr7 => ?_)
        refine jj_icmp_lt (tgt := 52) hC dX7_findError_47 rfl hr6 hr7 (fun hc => ?_) (fun hc => ?_)
        · replace h := (if_pos hc).symm.trans h
          refine jj_aload_n hC dX7_findError_52 rfl 0 rfl ?_
          obtain ⟨b8, hb8, hs8, h⟩ := rf_e h
          refine jg_R hC kfX7 0 rfl hl0_7 (by decide) wd1091 rfl hb8 dX7_findError_53 ?_
          refine jj_aload_n hC dX7_findError_56 rfl 0 rfl ?_
          refine jg_I hC kfX7 5 rfl hl0_7 (by decide) wd1100 rfl dX7_findError_57 (fun hr9 => ?_)
          obtain ⟨⟨ha10, hb10⟩, h⟩ := gd_e h
          refine jj_cald hC hs8 ha10 hb10 dX7_findError_60 (fun hr10 => ?_)
          refine jj_bipush hC dX7_findError_61 (by decide) ?_
          refine jj_icmp_eq (tgt := 71) hC dX7_findError_63 rfl (r_c hr10) (show (-2147483648 ≤ (59 : Int) ∧ (59 : Int) < 2147483648) from by decide) (fun hc => ?_) (fun hc => ?_)
          · replace h := (if_pos hc).symm.trans h
            refine jj_aload_n hC dX7_findError_71 rfl 0 rfl ?_
            refine jg_I hC kfX7 5 rfl hl0_7 (by decide) wd1100 rfl dX7_findError_72 (fun hr11 => ?_)
            refine jj_iconst hC dX7_findError_75 ?_
            refine jg_iadd hC dX7_findError_76 ?_
            refine jj_istore_n (lv' := [(1, .int (iI (w32 ((M5 l0_7 5) + 1)))), (0, .ref l0_7)]) hC dX7_findError_77 rfl (by decide) rfl ?_
            refine jj_goto (tgt := 7) hC dX7_findError_78 rfl ?_
            refine jj_lv (lv' := [(0, .ref l0_7), (1, .int (iI (w32 ((M5 l0_7 5) + 1))))]) [1, 0] rfl ?_
            exact hJ7 _ (Option.some.inj h).symm (w32_r _)
          · replace h := (if_neg (hc)).symm.trans h
            refine jj_aload_n hC dX7_findError_66 rfl 0 rfl ?_
            refine jg_I hC kfX7 5 rfl hl0_7 (by decide) wd1100 rfl dX7_findError_67 (fun hr12 => ?_)
            have h := hR7 _ (Option.some.inj h).symm
            subst h
            exact jj_iret hC (c_le rfl) (c_le rfl) dX7_findError_70 ⟨rfl, hr12, rfl, rfl, rfl, rfl, rfl⟩
        · replace h := (if_neg (Int.not_lt.mpr hc)).symm.trans h
          refine jj_iconst hC dX7_findError_50 ?_
          have h := hR7 _ (Option.some.inj h).symm
          subst h
          exact jj_iret hC (c_le rfl) (c_le rfl) dX7_findError_51 ⟨rfl, (show (-2147483648 ≤ ((-1) : Int) ∧ ((-1) : Int) < 2147483648) from by decide), rfl, rfl, rfl, rfl, rfl⟩
      · replace h := (if_neg (fun k => k hc)).symm.trans h
        refine jj_aload_n hC dX7_findError_24 rfl 0 rfl ?_
        refine jg_I hC kfX7 5 rfl hl0_7 (by decide) wd1100 rfl dX7_findError_25 (fun hr13 => ?_)
        have h := hR7 _ (Option.some.inj h).symm
        subst h
        exact jj_iret hC (c_le rfl) (c_le rfl) dX7_findError_28 ⟨rfl, hr13, rfl, rfl, rfl, rfl, rfl⟩
  unfold fX7_findError at h
  refine jj_aload_n hC dX7_findError_0 rfl 0 rfl ?_
  refine jj_iconst hC dX7_findError_1 ?_
  obtain ⟨M1, hM1, h⟩ := nam_e h
  refine jp_I hC kfX7 4 rfl hs0 rfl (by decide) wd1098 rfl rfl rfl (show (-2147483648 ≤ (0 : Int) ∧ (0 : Int) < 2147483648) from by decide) dX7_findError_2 (jj_M hM1 ?_)
  refine jj_iconst hC dX7_findError_5 ?_
  refine jj_istore_n (lv' := [(1, .int (iI 0)), (0, .ref a0)]) hC dX7_findError_6 rfl (by decide) rfl ?_
  obtain ⟨q15, hq15, h⟩ := bd_e h
  refine jj_lv (lv' := [(0, .ref a0), (1, .int (iI 0))]) [1, 0] rfl ?_
  refine hL7 a0 hs0 FU _ q15 hq15 (show (-2147483648 ≤ (0 : Int) ∧ (0 : Int) < 2147483648) from by decide) (fun e7_14 he15 hIE15 => ?_) (fun c15 hc15 => ?_)
  · subst he15
    replace h := el_l h
    have he7_14_0 := hIE15
    refine jj_iload_n hC dX7_findError_81 rfl 0 rfl ?_
    cases h
    exact jj_iret hC (c_le rfl) (c_le rfl) dX7_findError_82 ⟨rfl, he7_14_0, rfl, rfl, rfl, rfl, rfl⟩
  · subst hc15
    replace h := el_r h
    exact Option.some.inj h
