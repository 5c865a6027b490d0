def fX10_thrown (ad S Ln : Nat → Nat) (R : gR) (M : gM) (a0 : Nat) : Option Int :=
  some (M a0 5)
theorem xX10_thrown {l : Launch} {G : gE} {sz : Nat} {S Ln : Nat → Nat} {M : gM} {R : gR} (hl : l.stackTraces = false) {a0 : Nat} (hs0 : S a0 = 13) {r : Int} (h : fX10_thrown G.2.2.2.2 S Ln R M a0 = some r) : Ct l G yX10_thrown cX10_thrown 1 (some .int) 1 0 0 [.ref a0] sz S Ln M R (poI r sz S Ln (M) R) noX := by
  refine jj_start (own := RX10) (lv0 := [(0, .ref a0)]) hl (by decide +kernel) rfl rfl (c_le rfl) (fun C hCl hC => ?_)
  unfold fX10_thrown at h
  refine jj_aload_n hC dX10_thrown_0 rfl 0 rfl ?_
  refine jg_I hC kfX10 5 rfl hs0 (by decide) wd1714 rfl dX10_thrown_1 (fun hr1 => ?_)
  cases h
  exact jj_iret hC (c_le rfl) (c_le rfl) dX10_thrown_4 ⟨rfl, hr1, rfl, rfl, rfl, rfl, rfl⟩
def fX10_isIn (ad S Ln : Nat → Nat) (R : gR) (M : gM) (x0 : Int) (x1 : Int) (x2 : Int) : Option Int :=
  if x0 < x1 then (some (0)) else (if x2 < x0 then (some (0)) else (some (1)))
theorem xX10_isIn {l : Launch} {G : gE} {sz : Nat} {S Ln : Nat → Nat} {M : gM} {R : gR} (hl : l.stackTraces = false) {x0 : Int} (hx0 : (-2147483648 ≤ x0 ∧ x0 < 2147483648)) {x1 : Int} (hx1 : (-2147483648 ≤ x1 ∧ x1 < 2147483648)) {x2 : Int} (hx2 : (-2147483648 ≤ x2 ∧ x2 < 2147483648)) {r : Int} (h : fX10_isIn G.2.2.2.2 S Ln R M x0 x1 x2 = some r) : Ct l G yX10_isIn cX10_isIn 3 (some .boolean) 1 0 0 [.int (iI x0), .int (iI x1), .int (iI x2)] sz S Ln M R (poZ r sz S Ln (M) R) noX := by
  refine jj_start (own := RX10) (lv0 := [(0, .int (iI x0)), (1, .int (iI x1)), (2, .int (iI x2))]) hl (by decide +kernel) rfl rfl (c_le rfl) (fun C hCl hC => ?_)
  unfold fX10_isIn at h
  refine jj_iload_n hC dX10_isIn_0 rfl 0 rfl ?_
  refine jj_iload_n hC dX10_isIn_1 rfl 1 rfl ?_
  refine jj_icmp_lt (tgt := 14) hC dX10_isIn_2 rfl hx0 hx1 (fun hc => ?_) (fun hc => ?_)
  · replace h := (if_pos hc).symm.trans h
    refine jj_iconst hC dX10_isIn_14 ?_
    cases h
    exact jj_zret hC (show (0 ≤ (0 : Int) ∧ (0 : Int) ≤ 1) from by decide) (c_le rfl) (c_le rfl) dX10_isIn_15 ⟨rfl, (show (0 ≤ (0 : Int) ∧ (0 : Int) ≤ 1) from by decide), rfl, rfl, rfl, rfl, rfl⟩
  · replace h := (if_neg (Int.not_lt.mpr hc)).symm.trans h
    refine jj_iload_n hC dX10_isIn_5 rfl 0 rfl ?_
    refine jj_iload_n hC dX10_isIn_6 rfl 2 rfl ?_
    refine jj_icmp_gt (tgt := 14) hC dX10_isIn_7 rfl hx0 hx2 (fun hc => ?_) (fun hc => ?_)
    · replace h := (if_pos hc).symm.trans h
      refine jj_iconst hC dX10_isIn_14 ?_
      cases h
      exact jj_zret hC (show (0 ≤ (0 : Int) ∧ (0 : Int) ≤ 1) from by decide) (c_le rfl) (c_le rfl) dX10_isIn_15 ⟨rfl, (show (0 ≤ (0 : Int) ∧ (0 : Int) ≤ 1) from by decide), rfl, rfl, rfl, rfl, rfl⟩
    · replace h := (if_neg (Int.not_lt.mpr hc)).symm.trans h
      refine jj_iconst hC dX10_isIn_10 ?_
      refine jj_goto (tgt := 15) hC dX10_isIn_11 rfl ?_
      cases h
      exact jj_zret hC (show (0 ≤ (1 : Int) ∧ (1 : Int) ≤ 1) from by decide) (c_le rfl) (c_le rfl) dX10_isIn_15 ⟨rfl, (show (0 ≤ (1 : Int) ∧ (1 : Int) ≤ 1) from by decide), rfl, rfl, rfl, rfl, rfl⟩
def fX10_between (ad S Ln : Nat → Nat) (R : gR) (M : gM) (x0 : Int) (x1 : Int) : Option Int :=
  if x0 ≤ x1 then (some (w32 (x1 - x0))) else (some (w32 (x0 - x1)))
theorem xX10_between {l : Launch} {G : gE} {sz : Nat} {S Ln : Nat → Nat} {M : gM} {R : gR} (hl : l.stackTraces = false) {x0 : Int} (hx0 : (-2147483648 ≤ x0 ∧ x0 < 2147483648)) {x1 : Int} (hx1 : (-2147483648 ≤ x1 ∧ x1 < 2147483648)) {r : Int} (h : fX10_between G.2.2.2.2 S Ln R M x0 x1 = some r) : Ct l G yX10_between cX10_between 2 (some .int) 1 0 0 [.int (iI x0), .int (iI x1)] sz S Ln M R (poI r sz S Ln (M) R) noX := by
  refine jj_start (own := RX10) (lv0 := [(0, .int (iI x0)), (1, .int (iI x1))]) hl (by decide +kernel) rfl rfl (c_le rfl) (fun C hCl hC => ?_)
  unfold fX10_between at h
  refine jj_iload_n hC dX10_between_0 rfl 0 rfl ?_
  refine jj_iload_n hC dX10_between_1 rfl 1 rfl ?_
  refine jj_icmp_le (tgt := 11) hC dX10_between_2 rfl hx0 hx1 (fun hc => ?_) (fun hc => ?_)
  · replace h := (if_pos hc).symm.trans h
    refine jj_iload_n hC dX10_between_11 rfl 1 rfl ?_
    refine jj_iload_n hC dX10_between_12 rfl 0 rfl ?_
    refine jg_isub hC dX10_between_13 ?_
    cases h
    exact jj_iret hC (c_le rfl) (c_le rfl) dX10_between_14 ⟨rfl, (w32_r _), rfl, rfl, rfl, rfl, rfl⟩
  · replace h := (if_neg (Int.not_le.mpr hc)).symm.trans h
    refine jj_iload_n hC dX10_between_5 rfl 0 rfl ?_
    refine jj_iload_n hC dX10_between_6 rfl 1 rfl ?_
    refine jg_isub hC dX10_between_7 ?_
    refine jj_goto (tgt := 14) hC dX10_between_8 rfl ?_
    cases h
    exact jj_iret hC (c_le rfl) (c_le rfl) dX10_between_14 ⟨rfl, (w32_r _), rfl, rfl, rfl, rfl, rfl⟩
def fX10_copies_L3 (ad S Ln : Nat → Nat) (R : gR) (l0_3 : Nat) (l1_3 : Int) (l2_3 : Nat) (l3_3 : Int) (s3 : Int × gM) : Option ((Int × gM) ⊕ ((gM) ⊕ (gM))) :=
  if 113 ≤ s3.1 then (some (.inr (.inl s3.2))) else (gd ((0 : Int) ≤ (w32 (l1_3 + s3.1)) ∧ (w32 (l1_3 + s3.1)) < (Ln l0_3 : Int)) (gd ((0 : Int) ≤ (w32 (l3_3 + s3.1)) ∧ (w32 (l3_3 + s3.1)) < (Ln l2_3 : Int)) (nam (wr s3.2 l2_3 (w32 (l3_3 + s3.1)) (s3.2 l0_3 (w32 (l1_3 + s3.1)))) fun M2 => some (.inl (w32 (s3.1 + 1), M2)))))
def fX10_copies (ad S Ln : Nat → Nat) (R : gR) (M : gM) (x0 : Nat) (x1 : Int) (x2 : Nat) (x3 : Int) : Option gM :=
  bd (lp (fX10_copies_L3 ad S Ln R x0 x1 x2 x3) FU (0, M)) fun q4 => Sum.elim (fun e3_3 => some (e3_3)) (fun c4 => some c4) q4
theorem xX10_copies {l : Launch} {G : gE} {sz : Nat} {S Ln : Nat → Nat} {M : gM} {R : gR} (hl : l.stackTraces = false) {x0 : Nat} (hx0 : S x0 = 20) {x1 : Int} (hx1 : (-2147483648 ≤ x1 ∧ x1 < 2147483648)) {x2 : Nat} (hx2 : S x2 = 20) {x3 : Int} (hx3 : (-2147483648 ≤ x3 ∧ x3 < 2147483648)) {r : gM} (h : fX10_copies G.2.2.2.2 S Ln R M x0 x1 x2 x3 = some r) : Ct l G yX10_copies cX10_copies 5 none 1 0 0 [.ref x0, .int (iI x1), .ref x2, .int (iI x3)] sz S Ln M R (poV sz S Ln (r) R) noX := by
  refine jj_start (own := RX10) (lv0 := [(0, .ref x0), (1, .int (iI x1)), (2, .ref x2), (3, .int (iI x3))]) hl (by decide +kernel) rfl rfl (c_le rfl) (fun C hCl hC => ?_)
  have hL3 : ∀ (l0_3 : Nat) (l1_3 : Int) (l2_3 : Nat) (l3_3 : Int), S l0_3 = 20 → (-2147483648 ≤ l1_3 ∧ l1_3 < 2147483648) → S l2_3 = 20 → (-2147483648 ≤ l3_3 ∧ l3_3 < 2147483648) → ∀ (n : Nat) (s3 : Int × gM) (q : (gM) ⊕ (gM)), lp (fX10_copies_L3 G.2.2.2.2 S Ln R l0_3 l1_3 l2_3 l3_3) n s3 = some q → (-2147483648 ≤ s3.1 ∧ s3.1 < 2147483648) → (∀ e3, q = .inl e3 → True → JJ G C 0 0 sz S Ln e3 R 28 [] []) → (∀ c, q = .inr c → c = r) → JJ G C 0 0 sz S Ln s3.2 R 3 [(0, .ref l0_3), (1, .int (iI l1_3)), (2, .ref l2_3), (3, .int (iI l3_3)), (4, .int (iI s3.1))] [] := by
    intro l0_3 l1_3 l2_3 l3_3 hl0_3 hl1_3 hl2_3 hl3_3
    refine lp_ind ?_
    intro s3 r3 hI3 h hJ3 hE3 hR3
    have hs3_0 := hI3
    unfold fX10_copies_L3 at h
    refine jj_iload hC dX10_copies_3 4 rfl ?_
    refine jj_bipush hC dX10_copies_5 (by decide) ?_
    refine jj_icmp_ge (tgt := 28) hC dX10_copies_7 rfl hs3_0 (show (-2147483648 ≤ (113 : Int) ∧ (113 : Int) < 2147483648) from by decide) (fun hc => ?_) (fun hc => ?_)
    · replace h := (if_pos hc).symm.trans h
      refine jj_lv (lv' := []) [] rfl ?_
      exact hE3 _ (Option.some.inj h).symm trivial
    · replace h := (if_neg (Int.not_le.mpr hc)).symm.trans h
      refine jj_aload_n hC dX10_copies_10 rfl 2 rfl ?_
      refine jj_iload_n hC dX10_copies_11 rfl 3 rfl ?_
      refine jj_iload hC dX10_copies_12 4 rfl ?_
      refine jg_iadd hC dX10_copies_14 ?_
      refine jj_aload_n hC dX10_copies_15 rfl 0 rfl ?_
      refine jj_iload_n hC dX10_copies_16 rfl 1 rfl ?_
      refine jj_iload hC dX10_copies_17 4 rfl ?_
      refine jg_iadd hC dX10_copies_19 ?_
      obtain ⟨⟨ha1, hb1⟩, h⟩ := gd_e h
      refine jj_iald hC hl0_3 ha1 hb1 dX10_copies_20 (fun hr1 => ?_)
      obtain ⟨⟨ha2, hb2⟩, h⟩ := gd_e h
      obtain ⟨M2, hM2, h⟩ := nam_e h
      refine jj_iast hC hl2_3 ha2 hb2 hr1 dX10_copies_21 (jj_M hM2 ?_)
      refine jg_iinc (q := 4) (lv' := [(4, .int (iI (w32 (s3.1 + 1)))), (0, .ref l0_3), (1, .int (iI l1_3)), (2, .ref l2_3), (3, .int (iI l3_3))]) hC dX10_copies_22 rfl (by decide) rfl ?_
      refine jj_goto (tgt := 3) hC dX10_copies_25 rfl ?_
      refine jj_lv (lv' := [(0, .ref l0_3), (1, .int (iI l1_3)), (2, .ref l2_3), (3, .int (iI l3_3)), (4, .int (iI (w32 (s3.1 + 1))))]) [1, 2, 3, 4, 0] rfl ?_
      exact hJ3 _ (Option.some.inj h).symm (w32_r _)
  unfold fX10_copies at h
  refine jj_iconst hC dX10_copies_0 ?_
  refine jj_istore (lv' := [(4, .int (iI 0)), (0, .ref x0), (1, .int (iI x1)), (2, .ref x2), (3, .int (iI x3))]) hC dX10_copies_1 (by decide) rfl ?_
  obtain ⟨q4, hq4, h⟩ := bd_e h
  refine jj_lv (lv' := [(0, .ref x0), (1, .int (iI x1)), (2, .ref x2), (3, .int (iI x3)), (4, .int (iI 0))]) [1, 2, 3, 4, 0] rfl ?_
  refine hL3 x0 x1 x2 x3 hx0 hx1 hx2 hx3 FU _ q4 hq4 (show (-2147483648 ≤ (0 : Int) ∧ (0 : Int) < 2147483648) from by decide) (fun e3_3 he4 hIE4 => ?_) (fun c4 hc4 => ?_)
  · subst he4
    replace h := el_l h
    cases h
    exact jj_vret hC (c_le rfl) (c_le rfl) dX10_copies_28 ⟨rfl, trivial, rfl, rfl, rfl, rfl, rfl⟩
  · subst hc4
    replace h := el_r h
    exact Option.some.inj h
def fX10_keeps (ad S Ln : Nat → Nat) (R : gR) (M : gM) (a0 : Nat) : Option gM :=
  rf S (R a0 0) 20 fun b1 => rf S (R a0 1) 20 fun b2 => bd (fX10_copies ad S Ln R M b1 0 b2 0) fun q3 => nam (wr q3 a0 5 0) fun M4 => some (M4)
theorem xX10_keeps {l : Launch} {G : gE} {sz : Nat} {S Ln : Nat → Nat} {M : gM} {R : gR} (hl : l.stackTraces = false) {a0 : Nat} (hs0 : S a0 = 13) {r : gM} (h : fX10_keeps G.2.2.2.2 S Ln R M a0 = some r) : Ct l G yX10_keeps cX10_keeps 1 none 2 0 0 [.ref a0] sz S Ln M R (poV sz S Ln (r) R) noX := by
  refine jj_start (own := RX10) (lv0 := [(0, .ref a0)]) hl (by decide +kernel) rfl rfl (c_le rfl) (fun C hCl hC => ?_)
  unfold fX10_keeps at h
  refine jj_aload_n hC dX10_keeps_0 rfl 0 rfl ?_
  obtain ⟨b1, hb1, hs1, h⟩ := rf_e h
  refine jg_R hC kfX10 0 rfl hs0 (by decide) wd1709 rfl hb1 dX10_keeps_1 ?_
  refine jj_iconst hC dX10_keeps_4 ?_
  refine jj_aload_n hC dX10_keeps_5 rfl 0 rfl ?_
  obtain ⟨b2, hb2, hs2, h⟩ := rf_e h
  refine jg_R hC kfX10 1 rfl hs0 (by decide) wd1710 rfl hb2 dX10_keeps_6 ?_
  refine jj_iconst hC dX10_keeps_9 ?_
  obtain ⟨q3, hq3, h⟩ := bd_e h
  refine jj_invS hC mvX10_copies wd1777 wd1776 (xX10_copies (OKC.tr hC) hs1 (show (-2147483648 ≤ (0 : Int) ∧ (0 : Int) < 2147483648) from by decide) hs2 (show (-2147483648 ≤ (0 : Int) ∧ (0 : Int) < 2147483648) from by decide) hq3) rfl rfl (c_le rfl) (c_le rfl) (c_le rfl) (c_le rfl) dX10_keeps_10 noXk (po_kV ?_)
  refine jj_aload_n hC dX10_keeps_13 rfl 0 rfl ?_
  refine jj_iconst hC dX10_keeps_14 ?_
  obtain ⟨M4, hM4, h⟩ := nam_e h
  refine jp_I hC kfX10 5 rfl hs0 rfl (by decide) wd1714 rfl rfl rfl (show (-2147483648 ≤ (0 : Int) ∧ (0 : Int) < 2147483648) from by decide) dX10_keeps_15 (jj_M hM4 ?_)
  cases h
  exact jj_vret hC (c_le rfl) (c_le rfl) dX10_keeps_18 ⟨rfl, trivial, rfl, rfl, rfl, rfl, rfl⟩
def fX10_ends_B63 (ad S Ln : Nat → Nat) (R : gR) (M63 : gM) (l0_63 : Nat) (l1_63 : Int) : Option (Int × gM) :=
  rf S (R l0_63 1) 20 fun b3 => rf S (R l0_63 3) 20 fun b4 => bd (fX10_copies ad S Ln R M63 b3 0 b4 (w32 (113 * (M63 l0_63 4)))) fun q6 => nam (wr q6 l0_63 4 (w32 ((q6 l0_63 4) + 1))) fun M8 => some ((l1_63, M8))
def fX10_ends_L20 (ad S Ln : Nat → Nat) (R : gR) (l0_20 : Nat) (l1_20 : Int) (s20 : Int × gM) : Option ((Int × gM) ⊕ ((gM) ⊕ (Int × gM))) :=
  if 8 ≤ s20.1 then (some (.inr (.inl s20.2))) else (rf S (R l0_20 3) 20 fun b9 => rf S (R l0_20 3) 20 fun b10 => bd (fX10_copies ad S Ln R s20.2 b9 (w32 (113 * s20.1)) b10 (w32 (113 * (w32 (s20.1 - 1))))) fun q11 => some (.inl (w32 (s20.1 + 1), q11)))
def fX10_ends (ad S Ln : Nat → Nat) (R : gR) (M : gM) (a0 : Nat) (x1 : Int) : Option (Int × gM) :=
  if (M a0 5) = 0 then (if ¬ (M a0 4) = 8 then (fX10_ends_B63 ad S Ln R M a0 x1) else (bd (lp (fX10_ends_L20 ad S Ln R a0 x1) FU (1, M)) fun q15 => Sum.elim (fun e20_12 => nam (wr e20_12 a0 4 (w32 ((e20_12 a0 4) - 1))) fun M14 => fX10_ends_B63 ad S Ln R M14 a0 x1) (fun c15 => some c15) q15)) else (some ((0, M)))
theorem xX10_ends {l : Launch} {G : gE} {sz : Nat} {S Ln : Nat → Nat} {M : gM} {R : gR} (hl : l.stackTraces = false) {a0 : Nat} (hs0 : S a0 = 13) {x1 : Int} (hx1 : (-2147483648 ≤ x1 ∧ x1 < 2147483648)) {r : Int × gM} (h : fX10_ends G.2.2.2.2 S Ln R M a0 x1 = some r) : Ct l G yX10_ends cX10_ends 3 (some .int) 2 0 0 [.ref a0, .int (iI x1)] sz S Ln M R (poI r.1 sz S Ln (r.2) R) noX := by
  refine jj_start (own := RX10) (lv0 := [(0, .ref a0), (1, .int (iI x1))]) hl (by decide +kernel) rfl rfl (c_le rfl) (fun C hCl hC => ?_)
  have hB63 : ∀ (M63 : gM) (l0_63 : Nat) (l1_63 : Int), S l0_63 = 13 → (-2147483648 ≤ l1_63 ∧ l1_63 < 2147483648) → fX10_ends_B63 G.2.2.2.2 S Ln R M63 l0_63 l1_63 = some r → JJ G C 0 0 sz S Ln M63 R 63 [(0, .ref l0_63), (1, .int (iI l1_63))] [] := by
    intro M63 l0_63 l1_63 hl0_63 hl1_63 h
    unfold fX10_ends_B63 at h
    refine jj_aload_n hC dX10_ends_63 rfl 0 rfl ?_
    obtain ⟨b3, hb3, hs3, h⟩ := rf_e h
    refine jg_R hC kfX10 1 rfl hl0_63 (by decide) wd1710 rfl hb3 dX10_ends_64 ?_
    refine jj_iconst hC dX10_ends_67 ?_
    refine jj_aload_n hC dX10_ends_68 rfl 0 rfl ?_
    obtain ⟨b4, hb4, hs4, h⟩ := rf_e h
    refine jg_R hC kfX10 3 rfl hl0_63 (by decide) wd1712 rfl hb4 dX10_ends_69 ?_
    refine jj_bipush hC dX10_ends_72 (by decide) ?_
    refine jj_aload_n hC dX10_ends_74 rfl 0 rfl ?_
    refine jg_I hC kfX10 4 rfl hl0_63 (by decide) wd1713 rfl dX10_ends_75 (fun hr5 => ?_)
    refine jg_imul hC dX10_ends_78 ?_
    obtain ⟨q6, hq6, h⟩ := bd_e h
    refine jj_invS hC mvX10_copies wd1777 wd1776 (xX10_copies (OKC.tr hC) hs3 (show (-2147483648 ≤ (0 : Int) ∧ (0 : Int) < 2147483648) from by decide) hs4 (w32_r _) hq6) rfl rfl (c_le rfl) (c_le rfl) (c_le rfl) (c_le rfl) dX10_ends_79 noXk (po_kV ?_)
    refine jj_aload_n hC dX10_ends_82 rfl 0 rfl ?_
    refine jj_dup hC dX10_ends_83 rfl ?_
    refine jg_I hC kfX10 4 rfl hl0_63 (by decide) wd1713 rfl dX10_ends_84 (fun hr7 => ?_)
    refine jj_iconst hC dX10_ends_87 ?_
    refine jg_iadd hC dX10_ends_88 ?_
    obtain ⟨M8, hM8, h⟩ := nam_e h
    refine jp_I hC kfX10 4 rfl hl0_63 rfl (by decide) wd1713 rfl rfl rfl (w32_r _) dX10_ends_89 (jj_M hM8 ?_)
    refine jj_iload_n hC dX10_ends_92 rfl 1 rfl ?_
    cases h
    exact jj_iret hC (c_le rfl) (c_le rfl) dX10_ends_93 ⟨rfl, hl1_63, rfl, rfl, rfl, rfl, rfl⟩
  have hL20 : ∀ (l0_20 : Nat) (l1_20 : Int), S l0_20 = 13 → (-2147483648 ≤ l1_20 ∧ l1_20 < 2147483648) → ∀ (n : Nat) (s20 : Int × gM) (q : (gM) ⊕ (Int × gM)), lp (fX10_ends_L20 G.2.2.2.2 S Ln R l0_20 l1_20) n s20 = some q → (-2147483648 ≤ s20.1 ∧ s20.1 < 2147483648) → (∀ e20, q = .inl e20 → True → JJ G C 0 0 sz S Ln e20 R 53 [(0, .ref l0_20), (1, .int (iI l1_20))] []) → (∀ c, q = .inr c → c = r) → JJ G C 0 0 sz S Ln s20.2 R 20 [(0, .ref l0_20), (1, .int (iI l1_20)), (2, .int (iI s20.1))] [] := by
    intro l0_20 l1_20 hl0_20 hl1_20
    refine lp_ind ?_
    intro s20 r20 hI20 h hJ20 hE20 hR20
    have hs20_0 := hI20
    unfold fX10_ends_L20 at h
    refine jj_iload_n hC dX10_ends_20 rfl 2 rfl ?_
    refine jj_bipush hC dX10_ends_21 (by decide) ?_
    refine jj_icmp_ge (tgt := 53) hC dX10_ends_23 rfl hs20_0 (show (-2147483648 ≤ (8 : Int) ∧ (8 : Int) < 2147483648) from by decide) (fun hc => ?_) (fun hc => ?_)
    · replace h := (if_pos hc).symm.trans h
      refine jj_lv (lv' := [(0, .ref l0_20), (1, .int (iI l1_20))]) [0, 1] rfl ?_
      exact hE20 _ (Option.some.inj h).symm trivial
    · replace h := (if_neg (Int.not_le.mpr hc)).symm.trans h
      refine jj_aload_n hC dX10_ends_26 rfl 0 rfl ?_
      obtain ⟨b9, hb9, hs9, h⟩ := rf_e h
      refine jg_R hC kfX10 3 rfl hl0_20 (by decide) wd1712 rfl hb9 dX10_ends_27 ?_
      refine jj_bipush hC dX10_ends_30 (by decide) ?_
      refine jj_iload_n hC dX10_ends_32 rfl 2 rfl ?_
      refine jg_imul hC dX10_ends_33 ?_
      refine jj_aload_n hC dX10_ends_34 rfl 0 rfl ?_
      obtain ⟨b10, hb10, hs10, h⟩ := rf_e h
      refine jg_R hC kfX10 3 rfl hl0_20 (by decide) wd1712 rfl hb10 dX10_ends_35 ?_
      refine jj_bipush hC dX10_ends_38 (by decide) ?_
      refine jj_iload_n hC dX10_ends_40 rfl 2 rfl ?_
      refine jj_iconst hC dX10_ends_41 ?_
      refine jg_isub hC dX10_ends_42 ?_
      refine jg_imul hC dX10_ends_43 ?_
      obtain ⟨q11, hq11, h⟩ := bd_e h
      refine jj_invS hC mvX10_copies wd1777 wd1776 (xX10_copies (OKC.tr hC) hs9 (w32_r _) hs10 (w32_r _) hq11) rfl rfl (c_le rfl) (c_le rfl) (c_le rfl) (c_le rfl) dX10_ends_44 noXk (po_kV ?_)
      refine jg_iinc (q := 2) (lv' := [(2, .int (iI (w32 (s20.1 + 1)))), (0, .ref l0_20), (1, .int (iI l1_20))]) hC dX10_ends_47 rfl (by decide) rfl ?_
      refine jj_goto (tgt := 20) hC dX10_ends_50 rfl ?_
      refine jj_lv (lv' := [(0, .ref l0_20), (1, .int (iI l1_20)), (2, .int (iI (w32 (s20.1 + 1))))]) [1, 2, 0] rfl ?_
      exact hJ20 _ (Option.some.inj h).symm (w32_r _)
  unfold fX10_ends at h
  refine jj_aload_n hC dX10_ends_0 rfl 0 rfl ?_
  refine jg_I hC kfX10 5 rfl hs0 (by decide) wd1714 rfl dX10_ends_1 (fun hr1 => ?_)
  refine jj_if_eq (tgt := 9) hC dX10_ends_4 rfl hr1 (fun hc => ?_) (fun hc => ?_)
  · replace h := (if_pos hc).symm.trans h
    refine jj_aload_n hC dX10_ends_9 rfl 0 rfl ?_
    refine jg_I hC kfX10 4 rfl hs0 (by decide) wd1713 rfl dX10_ends_10 (fun hr2 => ?_)
    refine jj_bipush hC dX10_ends_13 (by decide) ?_
    refine jj_icmp_ne (tgt := 63) hC dX10_ends_15 rfl hr2 (show (-2147483648 ≤ (8 : Int) ∧ (8 : Int) < 2147483648) from by decide) (fun hc => ?_) (fun hc => ?_)
    · replace h := (if_pos hc).symm.trans h
      refine jj_lv (lv' := [(0, .ref a0), (1, .int (iI x1))]) [0, 1] rfl ?_
      exact hB63 M a0 x1 hs0 hx1 h
    · replace h := (if_neg (fun k => k hc)).symm.trans h
      refine jj_iconst hC dX10_ends_18 ?_
      refine jj_istore_n (lv' := [(2, .int (iI 1)), (0, .ref a0), (1, .int (iI x1))]) hC dX10_ends_19 rfl (by decide) rfl ?_
      obtain ⟨q15, hq15, h⟩ := bd_e h
      refine jj_lv (lv' := [(0, .ref a0), (1, .int (iI x1)), (2, .int (iI 1))]) [1, 2, 0] rfl ?_
      refine hL20 a0 x1 hs0 hx1 FU _ q15 hq15 (show (-2147483648 ≤ (1 : Int) ∧ (1 : Int) < 2147483648) from by decide) (fun e20_12 he15 hIE15 => ?_) (fun c15 hc15 => ?_)
      · subst he15
        replace h := el_l h
        refine jj_aload_n hC dX10_ends_53 rfl 0 rfl ?_
        refine jj_dup hC dX10_ends_54 rfl ?_
        refine jg_I hC kfX10 4 rfl hs0 (by decide) wd1713 rfl dX10_ends_55 (fun hr13 => ?_)
        refine jj_iconst hC dX10_ends_58 ?_
        refine jg_isub hC dX10_ends_59 ?_
        obtain ⟨M14, hM14, h⟩ := nam_e h
        refine jp_I hC kfX10 4 rfl hs0 rfl (by decide) wd1713 rfl rfl rfl (w32_r _) dX10_ends_60 (jj_M hM14 ?_)
        refine jj_lv (lv' := [(0, .ref a0), (1, .int (iI x1))]) [0, 1] rfl ?_
        exact hB63 M14 a0 x1 hs0 hx1 h
      · subst hc15
        replace h := el_r h
        exact Option.some.inj h
  · replace h := (if_neg (hc)).symm.trans h
    refine jj_iconst hC dX10_ends_7 ?_
    cases h
    exact jj_iret hC (c_le rfl) (c_le rfl) dX10_ends_8 ⟨rfl, (show (-2147483648 ≤ (0 : Int) ∧ (0 : Int) < 2147483648) from by decide), rfl, rfl, rfl, rfl, rfl⟩
def fX10_isThrown (ad S Ln : Nat → Nat) (R : gR) (M : gM) (a0 : Nat) (x1 : Int) (x2 : Int) : Option (Int × gM) :=
  if x1 = 0 then (nam (wr M a0 5 0) fun M1 => some ((x1, M1))) else (nam (wr M a0 5 x2) fun M2 => some ((x1, M2)))
theorem xX10_isThrown {l : Launch} {G : gE} {sz : Nat} {S Ln : Nat → Nat} {M : gM} {R : gR} (hl : l.stackTraces = false) {a0 : Nat} (hs0 : S a0 = 13) {x1 : Int} (hx1 : (0 ≤ x1 ∧ x1 ≤ 1)) {x2 : Int} (hx2 : (-2147483648 ≤ x2 ∧ x2 < 2147483648)) {r : Int × gM} (h : fX10_isThrown G.2.2.2.2 S Ln R M a0 x1 x2 = some r) : Ct l G yX10_isThrown cX10_isThrown 3 (some .boolean) 1 0 0 [.ref a0, .int (iI x1), .int (iI x2)] sz S Ln M R (poZ r.1 sz S Ln (r.2) R) noX := by
  refine jj_start (own := RX10) (lv0 := [(0, .ref a0), (1, .int (iI x1)), (2, .int (iI x2))]) hl (by decide +kernel) rfl rfl (c_le rfl) (fun C hCl hC => ?_)
  unfold fX10_isThrown at h
  refine jj_aload_n hC dX10_isThrown_0 rfl 0 rfl ?_
  refine jj_iload_n hC dX10_isThrown_1 rfl 1 rfl ?_
  refine jj_if_eq (tgt := 9) hC dX10_isThrown_2 rfl (r_z hx1) (fun hc => ?_) (fun hc => ?_)
  · replace h := (if_pos hc).symm.trans h
    refine jj_iconst hC dX10_isThrown_9 ?_
    obtain ⟨M1, hM1, h⟩ := nam_e h
    refine jp_I hC kfX10 5 rfl hs0 rfl (by decide) wd1714 rfl rfl rfl (show (-2147483648 ≤ (0 : Int) ∧ (0 : Int) < 2147483648) from by decide) dX10_isThrown_10 (jj_M hM1 ?_)
    refine jj_iload_n hC dX10_isThrown_13 rfl 1 rfl ?_
    cases h
    exact jj_zret hC hx1 (c_le rfl) (c_le rfl) dX10_isThrown_14 ⟨rfl, hx1, rfl, rfl, rfl, rfl, rfl⟩
  · replace h := (if_neg (hc)).symm.trans h
    refine jj_iload_n hC dX10_isThrown_5 rfl 2 rfl ?_
    refine jj_goto (tgt := 10) hC dX10_isThrown_6 rfl ?_
    obtain ⟨M2, hM2, h⟩ := nam_e h
    refine jp_I hC kfX10 5 rfl hs0 rfl (by decide) wd1714 rfl rfl rfl hx2 dX10_isThrown_10 (jj_M hM2 ?_)
    refine jj_iload_n hC dX10_isThrown_13 rfl 1 rfl ?_
    cases h
    exact jj_zret hC hx1 (c_le rfl) (c_le rfl) dX10_isThrown_14 ⟨rfl, hx1, rfl, rfl, rfl, rfl, rfl⟩
def fX10_isPlace (ad S Ln : Nat → Nat) (R : gR) (M : gM) (x0 : Int) (x1 : Int) : Option Int :=
  bd (fX10_isIn ad S Ln R M x0 0 60) fun q1 => if q1 = 0 then (some (0)) else (bd (fX10_isIn ad S Ln R M x1 0 60) fun q2 => if q2 = 0 then (some (0)) else (some (1)))
theorem xX10_isPlace {l : Launch} {G : gE} {sz : Nat} {S Ln : Nat → Nat} {M : gM} {R : gR} (hl : l.stackTraces = false) {x0 : Int} (hx0 : (-2147483648 ≤ x0 ∧ x0 < 2147483648)) {x1 : Int} (hx1 : (-2147483648 ≤ x1 ∧ x1 < 2147483648)) {r : Int} (h : fX10_isPlace G.2.2.2.2 S Ln R M x0 x1 = some r) : Ct l G yX10_isPlace cX10_isPlace 2 (some .boolean) 2 0 0 [.int (iI x0), .int (iI x1)] sz S Ln M R (poZ r sz S Ln (M) R) noX := by
  refine jj_start (own := RX10) (lv0 := [(0, .int (iI x0)), (1, .int (iI x1))]) hl (by decide +kernel) rfl rfl (c_le rfl) (fun C hCl hC => ?_)
  unfold fX10_isPlace at h
  refine jj_iload_n hC dX10_isPlace_0 rfl 0 rfl ?_
  refine jj_iconst hC dX10_isPlace_1 ?_
  refine jj_bipush hC dX10_isPlace_2 (by decide) ?_
  obtain ⟨q1, hq1, h⟩ := bd_e h
  refine jj_invS hC mvX10_isIn wd1787 wd1786 (xX10_isIn (OKC.tr hC) hx0 (show (-2147483648 ≤ (0 : Int) ∧ (0 : Int) < 2147483648) from by decide) (show (-2147483648 ≤ (60 : Int) ∧ (60 : Int) < 2147483648) from by decide) hq1) rfl rfl (c_le rfl) (c_le rfl) (c_le rfl) (c_le rfl) dX10_isPlace_4 noXk (po_kZ (fun hr1 => ?_))
  refine jj_if_eq (tgt := 24) hC dX10_isPlace_7 rfl (r_z hr1) (fun hc => ?_) (fun hc => ?_)
  · replace h := (if_pos hc).symm.trans h
    refine jj_iconst hC dX10_isPlace_24 ?_
    cases h
    exact jj_zret hC (show (0 ≤ (0 : Int) ∧ (0 : Int) ≤ 1) from by decide) (c_le rfl) (c_le rfl) dX10_isPlace_25 ⟨rfl, (show (0 ≤ (0 : Int) ∧ (0 : Int) ≤ 1) from by decide), rfl, rfl, rfl, rfl, rfl⟩
  · replace h := (if_neg (hc)).symm.trans h
    refine jj_iload_n hC dX10_isPlace_10 rfl 1 rfl ?_
    refine jj_iconst hC dX10_isPlace_11 ?_
    refine jj_bipush hC dX10_isPlace_12 (by decide) ?_
    obtain ⟨q2, hq2, h⟩ := bd_e h
    refine jj_invS hC mvX10_isIn wd1787 wd1786 (xX10_isIn (OKC.tr hC) hx1 (show (-2147483648 ≤ (0 : Int) ∧ (0 : Int) < 2147483648) from by decide) (show (-2147483648 ≤ (60 : Int) ∧ (60 : Int) < 2147483648) from by decide) hq2) rfl rfl (c_le rfl) (c_le rfl) (c_le rfl) (c_le rfl) dX10_isPlace_14 noXk (po_kZ (fun hr2 => ?_))
    refine jj_if_eq (tgt := 24) hC dX10_isPlace_17 rfl (r_z hr2) (fun hc => ?_) (fun hc => ?_)
    · replace h := (if_pos hc).symm.trans h
      refine jj_iconst hC dX10_isPlace_24 ?_
      cases h
      exact jj_zret hC (show (0 ≤ (0 : Int) ∧ (0 : Int) ≤ 1) from by decide) (c_le rfl) (c_le rfl) dX10_isPlace_25 ⟨rfl, (show (0 ≤ (0 : Int) ∧ (0 : Int) ≤ 1) from by decide), rfl, rfl, rfl, rfl, rfl⟩
    · replace h := (if_neg (hc)).symm.trans h
      refine jj_iconst hC dX10_isPlace_20 ?_
      refine jj_goto (tgt := 25) hC dX10_isPlace_21 rfl ?_
      cases h
      exact jj_zret hC (show (0 ≤ (1 : Int) ∧ (1 : Int) ≤ 1) from by decide) (c_le rfl) (c_le rfl) dX10_isPlace_25 ⟨rfl, (show (0 ≤ (1 : Int) ∧ (1 : Int) ≤ 1) from by decide), rfl, rfl, rfl, rfl, rfl⟩
def fX10_isPoint (ad S Ln : Nat → Nat) (R : gR) (M : gM) (a0 : Nat) (x1 : Int) : Option Int :=
  rf S (R a0 0) 20 fun b1 => gd ((0 : Int) ≤ 0 ∧ 0 < (Ln b1 : Int)) (bd (fX10_isIn ad S Ln R M x1 0 (w32 ((M b1 0) - 1))) fun q3 => some (q3))
theorem xX10_isPoint {l : Launch} {G : gE} {sz : Nat} {S Ln : Nat → Nat} {M : gM} {R : gR} (hl : l.stackTraces = false) {a0 : Nat} (hs0 : S a0 = 13) {x1 : Int} (hx1 : (-2147483648 ≤ x1 ∧ x1 < 2147483648)) {r : Int} (h : fX10_isPoint G.2.2.2.2 S Ln R M a0 x1 = some r) : Ct l G yX10_isPoint cX10_isPoint 2 (some .boolean) 2 0 0 [.ref a0, .int (iI x1)] sz S Ln M R (poZ r sz S Ln (M) R) noX := by
  refine jj_start (own := RX10) (lv0 := [(0, .ref a0), (1, .int (iI x1))]) hl (by decide +kernel) rfl rfl (c_le rfl) (fun C hCl hC => ?_)
  unfold fX10_isPoint at h
  refine jj_iload_n hC dX10_isPoint_0 rfl 1 rfl ?_
  refine jj_iconst hC dX10_isPoint_1 ?_
  refine jj_aload_n hC dX10_isPoint_2 rfl 0 rfl ?_
  obtain ⟨b1, hb1, hs1, h⟩ := rf_e h
  refine jg_R hC kfX10 0 rfl hs0 (by decide) wd1709 rfl hb1 dX10_isPoint_3 ?_
  refine jj_iconst hC dX10_isPoint_6 ?_
  obtain ⟨⟨ha2, hb2⟩, h⟩ := gd_e h
  refine jj_iald hC hs1 ha2 hb2 dX10_isPoint_7 (fun hr2 => ?_)
  refine jj_iconst hC dX10_isPoint_8 ?_
  refine jg_isub hC dX10_isPoint_9 ?_
  obtain ⟨q3, hq3, h⟩ := bd_e h
  refine jj_invS hC mvX10_isIn wd1787 wd1786 (xX10_isIn (OKC.tr hC) hx1 (show (-2147483648 ≤ (0 : Int) ∧ (0 : Int) < 2147483648) from by decide) (w32_r _) hq3) rfl rfl (c_le rfl) (c_le rfl) (c_le rfl) (c_le rfl) dX10_isPoint_10 noXk (po_kZ (fun hr3 => ?_))
  cases h
  exact jj_zret hC hr3 (c_le rfl) (c_le rfl) dX10_isPoint_13 ⟨rfl, hr3, rfl, rfl, rfl, rfl, rfl⟩
def fX10_isPilot (ad S Ln : Nat → Nat) (R : gR) (M : gM) (a0 : Nat) (x1 : Int) : Option Int :=
  rf S (R a0 0) 20 fun b1 => gd ((0 : Int) ≤ 4 ∧ 4 < (Ln b1 : Int)) (bd (fX10_isIn ad S Ln R M x1 0 (w32 ((M b1 4) - 1))) fun q3 => some (q3))
theorem xX10_isPilot {l : Launch} {G : gE} {sz : Nat} {S Ln : Nat → Nat} {M : gM} {R : gR} (hl : l.stackTraces = false) {a0 : Nat} (hs0 : S a0 = 13) {x1 : Int} (hx1 : (-2147483648 ≤ x1 ∧ x1 < 2147483648)) {r : Int} (h : fX10_isPilot G.2.2.2.2 S Ln R M a0 x1 = some r) : Ct l G yX10_isPilot cX10_isPilot 2 (some .boolean) 2 0 0 [.ref a0, .int (iI x1)] sz S Ln M R (poZ r sz S Ln (M) R) noX := by
  refine jj_start (own := RX10) (lv0 := [(0, .ref a0), (1, .int (iI x1))]) hl (by decide +kernel) rfl rfl (c_le rfl) (fun C hCl hC => ?_)
  unfold fX10_isPilot at h
  refine jj_iload_n hC dX10_isPilot_0 rfl 1 rfl ?_
  refine jj_iconst hC dX10_isPilot_1 ?_
  refine jj_aload_n hC dX10_isPilot_2 rfl 0 rfl ?_
  obtain ⟨b1, hb1, hs1, h⟩ := rf_e h
  refine jg_R hC kfX10 0 rfl hs0 (by decide) wd1709 rfl hb1 dX10_isPilot_3 ?_
  refine jj_iconst hC dX10_isPilot_6 ?_
  obtain ⟨⟨ha2, hb2⟩, h⟩ := gd_e h
  refine jj_iald hC hs1 ha2 hb2 dX10_isPilot_7 (fun hr2 => ?_)
  refine jj_iconst hC dX10_isPilot_8 ?_
  refine jg_isub hC dX10_isPilot_9 ?_
  obtain ⟨q3, hq3, h⟩ := bd_e h
  refine jj_invS hC mvX10_isIn wd1787 wd1786 (xX10_isIn (OKC.tr hC) hx1 (show (-2147483648 ≤ (0 : Int) ∧ (0 : Int) < 2147483648) from by decide) (w32_r _) hq3) rfl rfl (c_le rfl) (c_le rfl) (c_le rfl) (c_le rfl) dX10_isPilot_10 noXk (po_kZ (fun hr3 => ?_))
  cases h
  exact jj_zret hC hr3 (c_le rfl) (c_le rfl) dX10_isPilot_13 ⟨rfl, hr3, rfl, rfl, rfl, rfl, rfl⟩
def fX10_of (ad S Ln : Nat → Nat) (R : gR) (M : gM) (a0 : Nat) (x1 : Int) (x2 : Int) : Option Int :=
  rf S (R a0 0) 20 fun b1 => gd ((0 : Int) ≤ (w32 ((w32 (59 + (w32 (9 * x1)))) + x2)) ∧ (w32 ((w32 (59 + (w32 (9 * x1)))) + x2)) < (Ln b1 : Int)) (some (M b1 (w32 ((w32 (59 + (w32 (9 * x1)))) + x2))))
theorem xX10_of {l : Launch} {G : gE} {sz : Nat} {S Ln : Nat → Nat} {M : gM} {R : gR} (hl : l.stackTraces = false) {a0 : Nat} (hs0 : S a0 = 13) {x1 : Int} (hx1 : (-2147483648 ≤ x1 ∧ x1 < 2147483648)) {x2 : Int} (hx2 : (-2147483648 ≤ x2 ∧ x2 < 2147483648)) {r : Int} (h : fX10_of G.2.2.2.2 S Ln R M a0 x1 x2 = some r) : Ct l G yX10_of cX10_of 3 (some .int) 1 0 0 [.ref a0, .int (iI x1), .int (iI x2)] sz S Ln M R (poI r sz S Ln (M) R) noX := by
  refine jj_start (own := RX10) (lv0 := [(0, .ref a0), (1, .int (iI x1)), (2, .int (iI x2))]) hl (by decide +kernel) rfl rfl (c_le rfl) (fun C hCl hC => ?_)
  unfold fX10_of at h
  refine jj_aload_n hC dX10_of_0 rfl 0 rfl ?_
  obtain ⟨b1, hb1, hs1, h⟩ := rf_e h
  refine jg_R hC kfX10 0 rfl hs0 (by decide) wd1709 rfl hb1 dX10_of_1 ?_
  refine jj_bipush hC dX10_of_4 (by decide) ?_
  refine jj_bipush hC dX10_of_6 (by decide) ?_
  refine jj_iload_n hC dX10_of_8 rfl 1 rfl ?_
  refine jg_imul hC dX10_of_9 ?_
  refine jg_iadd hC dX10_of_10 ?_
  refine jj_iload_n hC dX10_of_11 rfl 2 rfl ?_
  refine jg_iadd hC dX10_of_12 ?_
  obtain ⟨⟨ha2, hb2⟩, h⟩ := gd_e h
  refine jj_iald hC hs1 ha2 hb2 dX10_of_13 (fun hr2 => ?_)
  cases h
  exact jj_iret hC (c_le rfl) (c_le rfl) dX10_of_14 ⟨rfl, hr2, rfl, rfl, rfl, rfl, rfl⟩
def fX10_sets (ad S Ln : Nat → Nat) (R : gR) (M : gM) (a0 : Nat) (x1 : Int) (x2 : Int) (x3 : Int) : Option gM :=
  rf S (R a0 0) 20 fun b1 => gd ((0 : Int) ≤ (w32 ((w32 (59 + (w32 (9 * x1)))) + x2)) ∧ (w32 ((w32 (59 + (w32 (9 * x1)))) + x2)) < (Ln b1 : Int)) (nam (wr M b1 (w32 ((w32 (59 + (w32 (9 * x1)))) + x2)) x3) fun M2 => some (M2))
theorem xX10_sets {l : Launch} {G : gE} {sz : Nat} {S Ln : Nat → Nat} {M : gM} {R : gR} (hl : l.stackTraces = false) {a0 : Nat} (hs0 : S a0 = 13) {x1 : Int} (hx1 : (-2147483648 ≤ x1 ∧ x1 < 2147483648)) {x2 : Int} (hx2 : (-2147483648 ≤ x2 ∧ x2 < 2147483648)) {x3 : Int} (hx3 : (-2147483648 ≤ x3 ∧ x3 < 2147483648)) {r : gM} (h : fX10_sets G.2.2.2.2 S Ln R M a0 x1 x2 x3 = some r) : Ct l G yX10_sets cX10_sets 4 none 1 0 0 [.ref a0, .int (iI x1), .int (iI x2), .int (iI x3)] sz S Ln M R (poV sz S Ln (r) R) noX := by
  refine jj_start (own := RX10) (lv0 := [(0, .ref a0), (1, .int (iI x1)), (2, .int (iI x2)), (3, .int (iI x3))]) hl (by decide +kernel) rfl rfl (c_le rfl) (fun C hCl hC => ?_)
  unfold fX10_sets at h
  refine jj_aload_n hC dX10_sets_0 rfl 0 rfl ?_
  obtain ⟨b1, hb1, hs1, h⟩ := rf_e h
  refine jg_R hC kfX10 0 rfl hs0 (by decide) wd1709 rfl hb1 dX10_sets_1 ?_
  refine jj_bipush hC dX10_sets_4 (by decide) ?_
  refine jj_bipush hC dX10_sets_6 (by decide) ?_
  refine jj_iload_n hC dX10_sets_8 rfl 1 rfl ?_
  refine jg_imul hC dX10_sets_9 ?_
  refine jg_iadd hC dX10_sets_10 ?_
  refine jj_iload_n hC dX10_sets_11 rfl 2 rfl ?_
  refine jg_iadd hC dX10_sets_12 ?_
  refine jj_iload_n hC dX10_sets_13 rfl 3 rfl ?_
  obtain ⟨⟨ha2, hb2⟩, h⟩ := gd_e h
  obtain ⟨M2, hM2, h⟩ := nam_e h
  refine jj_iast hC hs1 ha2 hb2 hx3 dX10_sets_14 (jj_M hM2 ?_)
  cases h
  exact jj_vret hC (c_le rfl) (c_le rfl) dX10_sets_15 ⟨rfl, trivial, rfl, rfl, rfl, rfl, rfl⟩
def fX10_pointX (ad S Ln : Nat → Nat) (R : gR) (M : gM) (a0 : Nat) (x1 : Int) : Option Int :=
  rf S (R a0 0) 20 fun b1 => gd ((0 : Int) ≤ (w32 (7 + (w32 (2 * x1)))) ∧ (w32 (7 + (w32 (2 * x1)))) < (Ln b1 : Int)) (some (M b1 (w32 (7 + (w32 (2 * x1))))))
theorem xX10_pointX {l : Launch} {G : gE} {sz : Nat} {S Ln : Nat → Nat} {M : gM} {R : gR} (hl : l.stackTraces = false) {a0 : Nat} (hs0 : S a0 = 13) {x1 : Int} (hx1 : (-2147483648 ≤ x1 ∧ x1 < 2147483648)) {r : Int} (h : fX10_pointX G.2.2.2.2 S Ln R M a0 x1 = some r) : Ct l G yX10_pointX cX10_pointX 2 (some .int) 1 0 0 [.ref a0, .int (iI x1)] sz S Ln M R (poI r sz S Ln (M) R) noX := by
  refine jj_start (own := RX10) (lv0 := [(0, .ref a0), (1, .int (iI x1))]) hl (by decide +kernel) rfl rfl (c_le rfl) (fun C hCl hC => ?_)
  unfold fX10_pointX at h
  refine jj_aload_n hC dX10_pointX_0 rfl 0 rfl ?_
  obtain ⟨b1, hb1, hs1, h⟩ := rf_e h
  refine jg_R hC kfX10 0 rfl hs0 (by decide) wd1709 rfl hb1 dX10_pointX_1 ?_
  refine jj_bipush hC dX10_pointX_4 (by decide) ?_
  refine jj_iconst hC dX10_pointX_6 ?_
  refine jj_iload_n hC dX10_pointX_7 rfl 1 rfl ?_
  refine jg_imul hC dX10_pointX_8 ?_
  refine jg_iadd hC dX10_pointX_9 ?_
  obtain ⟨⟨ha2, hb2⟩, h⟩ := gd_e h
  refine jj_iald hC hs1 ha2 hb2 dX10_pointX_10 (fun hr2 => ?_)
  cases h
  exact jj_iret hC (c_le rfl) (c_le rfl) dX10_pointX_11 ⟨rfl, hr2, rfl, rfl, rfl, rfl, rfl⟩
def fX10_pointY (ad S Ln : Nat → Nat) (R : gR) (M : gM) (a0 : Nat) (x1 : Int) : Option Int :=
  rf S (R a0 0) 20 fun b1 => gd ((0 : Int) ≤ (w32 ((w32 (7 + (w32 (2 * x1)))) + 1)) ∧ (w32 ((w32 (7 + (w32 (2 * x1)))) + 1)) < (Ln b1 : Int)) (some (M b1 (w32 ((w32 (7 + (w32 (2 * x1)))) + 1))))
theorem xX10_pointY {l : Launch} {G : gE} {sz : Nat} {S Ln : Nat → Nat} {M : gM} {R : gR} (hl : l.stackTraces = false) {a0 : Nat} (hs0 : S a0 = 13) {x1 : Int} (hx1 : (-2147483648 ≤ x1 ∧ x1 < 2147483648)) {r : Int} (h : fX10_pointY G.2.2.2.2 S Ln R M a0 x1 = some r) : Ct l G yX10_pointY cX10_pointY 2 (some .int) 1 0 0 [.ref a0, .int (iI x1)] sz S Ln M R (poI r sz S Ln (M) R) noX := by
  refine jj_start (own := RX10) (lv0 := [(0, .ref a0), (1, .int (iI x1))]) hl (by decide +kernel) rfl rfl (c_le rfl) (fun C hCl hC => ?_)
  unfold fX10_pointY at h
  refine jj_aload_n hC dX10_pointY_0 rfl 0 rfl ?_
  obtain ⟨b1, hb1, hs1, h⟩ := rf_e h
  refine jg_R hC kfX10 0 rfl hs0 (by decide) wd1709 rfl hb1 dX10_pointY_1 ?_
  refine jj_bipush hC dX10_pointY_4 (by decide) ?_
  refine jj_iconst hC dX10_pointY_6 ?_
  refine jj_iload_n hC dX10_pointY_7 rfl 1 rfl ?_
  refine jg_imul hC dX10_pointY_8 ?_
  refine jg_iadd hC dX10_pointY_9 ?_
  refine jj_iconst hC dX10_pointY_10 ?_
  refine jg_iadd hC dX10_pointY_11 ?_
  obtain ⟨⟨ha2, hb2⟩, h⟩ := gd_e h
  refine jj_iald hC hs1 ha2 hb2 dX10_pointY_12 (fun hr2 => ?_)
  cases h
  exact jj_iret hC (c_le rfl) (c_le rfl) dX10_pointY_13 ⟨rfl, hr2, rfl, rfl, rfl, rfl, rfl⟩
def fX10_apart (ad S Ln : Nat → Nat) (R : gR) (M : gM) (a0 : Nat) (x1 : Int) (x2 : Int) : Option Int :=
  bd (fX10_pointX ad S Ln R M a0 x1) fun q1 => bd (fX10_pointX ad S Ln R M a0 x2) fun q2 => bd (fX10_between ad S Ln R M q1 q2) fun q3 => bd (fX10_pointY ad S Ln R M a0 x1) fun q4 => bd (fX10_pointY ad S Ln R M a0 x2) fun q5 => bd (fX10_between ad S Ln R M q4 q5) fun q6 => some (w32 (q3 + q6))
theorem xX10_apart {l : Launch} {G : gE} {sz : Nat} {S Ln : Nat → Nat} {M : gM} {R : gR} (hl : l.stackTraces = false) {a0 : Nat} (hs0 : S a0 = 13) {x1 : Int} (hx1 : (-2147483648 ≤ x1 ∧ x1 < 2147483648)) {x2 : Int} (hx2 : (-2147483648 ≤ x2 ∧ x2 < 2147483648)) {r : Int} (h : fX10_apart G.2.2.2.2 S Ln R M a0 x1 x2 = some r) : Ct l G yX10_apart cX10_apart 3 (some .int) 2 0 0 [.ref a0, .int (iI x1), .int (iI x2)] sz S Ln M R (poI r sz S Ln (M) R) noX := by
  refine jj_start (own := RX10) (lv0 := [(0, .ref a0), (1, .int (iI x1)), (2, .int (iI x2))]) hl (by decide +kernel) rfl rfl (c_le rfl) (fun C hCl hC => ?_)
  unfold fX10_apart at h
  refine jj_aload_n hC dX10_apart_0 rfl 0 rfl ?_
  refine jj_iload_n hC dX10_apart_1 rfl 1 rfl ?_
  obtain ⟨q1, hq1, h⟩ := bd_e h
  refine jj_invV hC mvX10_pointX wd1827 wd32 wd1825 hs0 (by decide) rfl (xX10_pointX (OKC.tr hC) hs0 hx1 hq1) rfl rfl (c_le rfl) (c_le rfl) (c_le rfl) (c_le rfl) dX10_apart_2 noXk (po_kI (fun hr1 => ?_))
  refine jj_aload_n hC dX10_apart_5 rfl 0 rfl ?_
  refine jj_iload_n hC dX10_apart_6 rfl 2 rfl ?_
  obtain ⟨q2, hq2, h⟩ := bd_e h
  refine jj_invV hC mvX10_pointX wd1827 wd32 wd1825 hs0 (by decide) rfl (xX10_pointX (OKC.tr hC) hs0 hx2 hq2) rfl rfl (c_le rfl) (c_le rfl) (c_le rfl) (c_le rfl) dX10_apart_7 noXk (po_kI (fun hr2 => ?_))
  obtain ⟨q3, hq3, h⟩ := bd_e h
  refine jj_invS hC mvX10_between wd1830 wd1829 (xX10_between (OKC.tr hC) hr1 hr2 hq3) rfl rfl (c_le rfl) (c_le rfl) (c_le rfl) (c_le rfl) dX10_apart_10 noXk (po_kI (fun hr3 => ?_))
  refine jj_aload_n hC dX10_apart_13 rfl 0 rfl ?_
  refine jj_iload_n hC dX10_apart_14 rfl 1 rfl ?_
  obtain ⟨q4, hq4, h⟩ := bd_e h
  refine jj_invV hC mvX10_pointY wd1834 wd33 wd1832 hs0 (by decide) rfl (xX10_pointY (OKC.tr hC) hs0 hx1 hq4) rfl rfl (c_le rfl) (c_le rfl) (c_le rfl) (c_le rfl) dX10_apart_15 noXk (po_kI (fun hr4 => ?_))
  refine jj_aload_n hC dX10_apart_18 rfl 0 rfl ?_
  refine jj_iload_n hC dX10_apart_19 rfl 2 rfl ?_
  obtain ⟨q5, hq5, h⟩ := bd_e h
  refine jj_invV hC mvX10_pointY wd1834 wd33 wd1832 hs0 (by decide) rfl (xX10_pointY (OKC.tr hC) hs0 hx2 hq5) rfl rfl (c_le rfl) (c_le rfl) (c_le rfl) (c_le rfl) dX10_apart_20 noXk (po_kI (fun hr5 => ?_))
  obtain ⟨q6, hq6, h⟩ := bd_e h
  refine jj_invS hC mvX10_between wd1830 wd1829 (xX10_between (OKC.tr hC) hr4 hr5 hq6) rfl rfl (c_le rfl) (c_le rfl) (c_le rfl) (c_le rfl) dX10_apart_23 noXk (po_kI (fun hr6 => ?_))
  refine jg_iadd hC dX10_apart_26 ?_
  cases h
  exact jj_iret hC (c_le rfl) (c_le rfl) dX10_apart_27 ⟨rfl, (w32_r _), rfl, rfl, rfl, rfl, rfl⟩
def fX10_inTask (ad S Ln : Nat → Nat) (R : gR) (M : gM) (a0 : Nat) (x1 : Int) : Option Int :=
  rf S (R a0 0) 20 fun b1 => gd ((0 : Int) ≤ (w32 (23 + x1)) ∧ (w32 (23 + x1)) < (Ln b1 : Int)) (some (M b1 (w32 (23 + x1))))
theorem xX10_inTask {l : Launch} {G : gE} {sz : Nat} {S Ln : Nat → Nat} {M : gM} {R : gR} (hl : l.stackTraces = false) {a0 : Nat} (hs0 : S a0 = 13) {x1 : Int} (hx1 : (-2147483648 ≤ x1 ∧ x1 < 2147483648)) {r : Int} (h : fX10_inTask G.2.2.2.2 S Ln R M a0 x1 = some r) : Ct l G yX10_inTask cX10_inTask 2 (some .int) 1 0 0 [.ref a0, .int (iI x1)] sz S Ln M R (poI r sz S Ln (M) R) noX := by
  refine jj_start (own := RX10) (lv0 := [(0, .ref a0), (1, .int (iI x1))]) hl (by decide +kernel) rfl rfl (c_le rfl) (fun C hCl hC => ?_)
  unfold fX10_inTask at h
  refine jj_aload_n hC dX10_inTask_0 rfl 0 rfl ?_
  obtain ⟨b1, hb1, hs1, h⟩ := rf_e h
  refine jg_R hC kfX10 0 rfl hs0 (by decide) wd1709 rfl hb1 dX10_inTask_1 ?_
  refine jj_bipush hC dX10_inTask_4 (by decide) ?_
  refine jj_iload_n hC dX10_inTask_6 rfl 1 rfl ?_
  refine jg_iadd hC dX10_inTask_7 ?_
  obtain ⟨⟨ha2, hb2⟩, h⟩ := gd_e h
  refine jj_iald hC hs1 ha2 hb2 dX10_inTask_8 (fun hr2 => ?_)
  cases h
  exact jj_iret hC (c_le rfl) (c_le rfl) dX10_inTask_9 ⟨rfl, hr2, rfl, rfl, rfl, rfl, rfl⟩
def fX10_leg (ad S Ln : Nat → Nat) (R : gR) (M : gM) (a0 : Nat) (x1 : Int) : Option Int :=
  bd (fX10_inTask ad S Ln R M a0 x1) fun q1 => bd (fX10_inTask ad S Ln R M a0 (w32 (x1 + 1))) fun q2 => bd (fX10_apart ad S Ln R M a0 q1 q2) fun q3 => some (q3)
theorem xX10_leg {l : Launch} {G : gE} {sz : Nat} {S Ln : Nat → Nat} {M : gM} {R : gR} (hl : l.stackTraces = false) {a0 : Nat} (hs0 : S a0 = 13) {x1 : Int} (hx1 : (-2147483648 ≤ x1 ∧ x1 < 2147483648)) {r : Int} (h : fX10_leg G.2.2.2.2 S Ln R M a0 x1 = some r) : Ct l G yX10_leg cX10_leg 2 (some .int) 3 0 0 [.ref a0, .int (iI x1)] sz S Ln M R (poI r sz S Ln (M) R) noX := by
  refine jj_start (own := RX10) (lv0 := [(0, .ref a0), (1, .int (iI x1))]) hl (by decide +kernel) rfl rfl (c_le rfl) (fun C hCl hC => ?_)
  unfold fX10_leg at h
  refine jj_aload_n hC dX10_leg_0 rfl 0 rfl ?_
  refine jj_aload_n hC dX10_leg_1 rfl 0 rfl ?_
  refine jj_iload_n hC dX10_leg_2 rfl 1 rfl ?_
  obtain ⟨q1, hq1, h⟩ := bd_e h
  refine jj_invV hC mvX10_inTask wd1819 wd30 wd1817 hs0 (by decide) rfl (xX10_inTask (OKC.tr hC) hs0 hx1 hq1) rfl rfl (c_le rfl) (c_le rfl) (c_le rfl) (c_le rfl) dX10_leg_3 noXk (po_kI (fun hr1 => ?_))
  refine jj_aload_n hC dX10_leg_6 rfl 0 rfl ?_
  refine jj_iload_n hC dX10_leg_7 rfl 1 rfl ?_
  refine jj_iconst hC dX10_leg_8 ?_
  refine jg_iadd hC dX10_leg_9 ?_
  obtain ⟨q2, hq2, h⟩ := bd_e h
  refine jj_invV hC mvX10_inTask wd1819 wd30 wd1817 hs0 (by decide) rfl (xX10_inTask (OKC.tr hC) hs0 (w32_r _) hq2) rfl rfl (c_le rfl) (c_le rfl) (c_le rfl) (c_le rfl) dX10_leg_10 noXk (po_kI (fun hr2 => ?_))
  obtain ⟨q3, hq3, h⟩ := bd_e h
  refine jj_invV hC mvX10_apart wd1823 wd31 wd1821 hs0 (by decide) rfl (xX10_apart (OKC.tr hC) hs0 hr1 hr2 hq3) rfl rfl (c_le rfl) (c_le rfl) (c_le rfl) (c_le rfl) dX10_leg_13 noXk (po_kI (fun hr3 => ?_))
  cases h
  exact jj_iret hC (c_le rfl) (c_le rfl) dX10_leg_16 ⟨rfl, hr3, rfl, rfl, rfl, rfl, rfl⟩
def fX10_legs_L4 (ad S Ln : Nat → Nat) (R : gR) (M : gM) (l0_4 : Nat) (l1_4 : Int) (s4 : Int × Int) : Option ((Int × Int) ⊕ ((Int) ⊕ (Int))) :=
  if l1_4 ≤ s4.2 then (some (.inr (.inl s4.1))) else (bd (fX10_leg ad S Ln R M l0_4 s4.2) fun q1 => some (.inl (w32 (s4.1 + q1), w32 (s4.2 + 1))))
def fX10_legs (ad S Ln : Nat → Nat) (R : gR) (M : gM) (a0 : Nat) (x1 : Int) : Option Int :=
  bd (lp (fX10_legs_L4 ad S Ln R M a0 x1) FU (0, 0)) fun q3 => Sum.elim (fun e4_2 => some (e4_2)) (fun c3 => some c3) q3
theorem xX10_legs {l : Launch} {G : gE} {sz : Nat} {S Ln : Nat → Nat} {M : gM} {R : gR} (hl : l.stackTraces = false) {a0 : Nat} (hs0 : S a0 = 13) {x1 : Int} (hx1 : (-2147483648 ≤ x1 ∧ x1 < 2147483648)) {r : Int} (h : fX10_legs G.2.2.2.2 S Ln R M a0 x1 = some r) : Ct l G yX10_legs cX10_legs 4 (some .int) 4 0 0 [.ref a0, .int (iI x1)] sz S Ln M R (poI r sz S Ln (M) R) noX := by
  refine jj_start (own := RX10) (lv0 := [(0, .ref a0), (1, .int (iI x1))]) hl (by decide +kernel) rfl rfl (c_le rfl) (fun C hCl hC => ?_)
  have hL4 : ∀ (l0_4 : Nat) (l1_4 : Int), S l0_4 = 13 → (-2147483648 ≤ l1_4 ∧ l1_4 < 2147483648) → ∀ (n : Nat) (s4 : Int × Int) (q : (Int) ⊕ (Int)), lp (fX10_legs_L4 G.2.2.2.2 S Ln R M l0_4 l1_4) n s4 = some q → (-2147483648 ≤ s4.1 ∧ s4.1 < 2147483648) ∧ (-2147483648 ≤ s4.2 ∧ s4.2 < 2147483648) → (∀ e4, q = .inl e4 → (-2147483648 ≤ e4 ∧ e4 < 2147483648) → JJ G C 0 0 sz S Ln M R 23 [(2, .int (iI e4))] []) → (∀ c, q = .inr c → c = r) → JJ G C 0 0 sz S Ln M R 4 [(0, .ref l0_4), (1, .int (iI l1_4)), (2, .int (iI s4.1)), (3, .int (iI s4.2))] [] := by
    intro l0_4 l1_4 hl0_4 hl1_4
    refine lp_ind ?_
    intro s4 r4 hI4 h hJ4 hE4 hR4
    obtain ⟨hs4_0, hs4_1⟩ := hI4
    unfold fX10_legs_L4 at h
    refine jj_iload_n hC dX10_legs_4 rfl 3 rfl ?_
    refine jj_iload_n hC dX10_legs_5 rfl 1 rfl ?_
    refine jj_icmp_ge (tgt := 23) hC dX10_legs_6 rfl hs4_1 hl1_4 (fun hc => ?_) (fun hc => ?_)
    · replace h := (if_pos hc).symm.trans h
      refine jj_lv (lv' := [(2, .int (iI s4.1))]) [2] rfl ?_
      exact hE4 _ (Option.some.inj h).symm hs4_0
    · replace h := (if_neg (Int.not_le.mpr hc)).symm.trans h
      refine jj_iload_n hC dX10_legs_9 rfl 2 rfl ?_
      refine jj_aload_n hC dX10_legs_10 rfl 0 rfl ?_
      refine jj_iload_n hC dX10_legs_11 rfl 3 rfl ?_
      obtain ⟨q1, hq1, h⟩ := bd_e h
      refine jj_invV hC mvX10_leg wd1964 wd55 wd1962 hl0_4 (by decide) rfl (xX10_leg (OKC.tr hC) hl0_4 hs4_1 hq1) rfl rfl (c_le rfl) (c_le rfl) (c_le rfl) (c_le rfl) dX10_legs_12 noXk (po_kI (fun hr1 => ?_))
      refine jg_iadd hC dX10_legs_15 ?_
      refine jj_istore_n (lv' := [(2, .int (iI (w32 (s4.1 + q1)))), (0, .ref l0_4), (1, .int (iI l1_4)), (3, .int (iI s4.2))]) hC dX10_legs_16 rfl (by decide) rfl ?_
      refine jg_iinc (q := 3) (lv' := [(3, .int (iI (w32 (s4.2 + 1)))), (2, .int (iI (w32 (s4.1 + q1)))), (0, .ref l0_4), (1, .int (iI l1_4))]) hC dX10_legs_17 rfl (by decide) rfl ?_
      refine jj_goto (tgt := 4) hC dX10_legs_20 rfl ?_
      refine jj_lv (lv' := [(0, .ref l0_4), (1, .int (iI l1_4)), (2, .int (iI (w32 (s4.1 + q1)))), (3, .int (iI (w32 (s4.2 + 1))))]) [2, 3, 1, 0] rfl ?_
      exact hJ4 _ (Option.some.inj h).symm ⟨(w32_r _), (w32_r _)⟩
  unfold fX10_legs at h
  refine jj_iconst hC dX10_legs_0 ?_
  refine jj_istore_n (lv' := [(2, .int (iI 0)), (0, .ref a0), (1, .int (iI x1))]) hC dX10_legs_1 rfl (by decide) rfl ?_
  refine jj_iconst hC dX10_legs_2 ?_
  refine jj_istore_n (lv' := [(3, .int (iI 0)), (2, .int (iI 0)), (0, .ref a0), (1, .int (iI x1))]) hC dX10_legs_3 rfl (by decide) rfl ?_
  obtain ⟨q3, hq3, h⟩ := bd_e h
  refine jj_lv (lv' := [(0, .ref a0), (1, .int (iI x1)), (2, .int (iI 0)), (3, .int (iI 0))]) [2, 3, 1, 0] rfl ?_
  refine hL4 a0 x1 hs0 hx1 FU _ q3 hq3 ⟨(show (-2147483648 ≤ (0 : Int) ∧ (0 : Int) < 2147483648) from by decide), (show (-2147483648 ≤ (0 : Int) ∧ (0 : Int) < 2147483648) from by decide)⟩ (fun e4_2 he3 hIE3 => ?_) (fun c3 hc3 => ?_)
  · subst he3
    replace h := el_l h
    have he4_2_0 := hIE3
    refine jj_iload_n hC dX10_legs_23 rfl 0 rfl ?_
    cases h
    exact jj_iret hC (c_le rfl) (c_le rfl) dX10_legs_24 ⟨rfl, he4_2_0, rfl, rfl, rfl, rfl, rfl⟩
  · subst hc3
    replace h := el_r h
    exact Option.some.inj h
def fX10_whole (ad S Ln : Nat → Nat) (R : gR) (M : gM) (a0 : Nat) : Option Int :=
  rf S (R a0 0) 20 fun b1 => gd ((0 : Int) ≤ 1 ∧ 1 < (Ln b1 : Int)) (if 2 ≤ (M b1 1) then (rf S (R a0 0) 20 fun b3 => gd ((0 : Int) ≤ 1 ∧ 1 < (Ln b3 : Int)) (bd (fX10_legs ad S Ln R M a0 (w32 ((M b3 1) - 1))) fun q5 => some (q5))) else (some (0)))
theorem xX10_whole {l : Launch} {G : gE} {sz : Nat} {S Ln : Nat → Nat} {M : gM} {R : gR} (hl : l.stackTraces = false) {a0 : Nat} (hs0 : S a0 = 13) {r : Int} (h : fX10_whole G.2.2.2.2 S Ln R M a0 = some r) : Ct l G yX10_whole cX10_whole 1 (some .int) 5 0 0 [.ref a0] sz S Ln M R (poI r sz S Ln (M) R) noX := by
  refine jj_start (own := RX10) (lv0 := [(0, .ref a0)]) hl (by decide +kernel) rfl rfl (c_le rfl) (fun C hCl hC => ?_)
  unfold fX10_whole at h
  refine jj_aload_n hC dX10_whole_0 rfl 0 rfl ?_
  obtain ⟨b1, hb1, hs1, h⟩ := rf_e h
  refine jg_R hC kfX10 0 rfl hs0 (by decide) wd1709 rfl hb1 dX10_whole_1 ?_
  refine jj_iconst hC dX10_whole_4 ?_
  obtain ⟨⟨ha2, hb2⟩, h⟩ := gd_e h
  refine jj_iald hC hs1 ha2 hb2 dX10_whole_5 (fun hr2 => ?_)
  refine jj_iconst hC dX10_whole_6 ?_
  refine jj_icmp_ge (tgt := 14) hC dX10_whole_7 rfl hr2 (show (-2147483648 ≤ (2 : Int) ∧ (2 : Int) < 2147483648) from by decide) (fun hc => ?_) (fun hc => ?_)
  · replace h := (if_pos hc).symm.trans h
    refine jj_aload_n hC dX10_whole_14 rfl 0 rfl ?_
    refine jj_aload_n hC dX10_whole_15 rfl 0 rfl ?_
    obtain ⟨b3, hb3, hs3, h⟩ := rf_e h
    refine jg_R hC kfX10 0 rfl hs0 (by decide) wd1709 rfl hb3 dX10_whole_16 ?_
    refine jj_iconst hC dX10_whole_19 ?_
    obtain ⟨⟨ha4, hb4⟩, h⟩ := gd_e h
    refine jj_iald hC hs3 ha4 hb4 dX10_whole_20 (fun hr4 => ?_)
    refine jj_iconst hC dX10_whole_21 ?_
    refine jg_isub hC dX10_whole_22 ?_
    obtain ⟨q5, hq5, h⟩ := bd_e h
    refine jj_invV hC mvX10_legs wd1960 wd54 wd1958 hs0 (by decide) rfl (xX10_legs (OKC.tr hC) hs0 (w32_r _) hq5) rfl rfl (c_le rfl) (c_le rfl) (c_le rfl) (c_le rfl) dX10_whole_23 noXk (po_kI (fun hr5 => ?_))
    cases h
    exact jj_iret hC (c_le rfl) (c_le rfl) dX10_whole_26 ⟨rfl, hr5, rfl, rfl, rfl, rfl, rfl⟩
  · replace h := (if_neg (Int.not_le.mpr hc)).symm.trans h
    refine jj_iconst hC dX10_whole_10 ?_
    refine jj_goto (tgt := 26) hC dX10_whole_11 rfl ?_
    cases h
    exact jj_iret hC (c_le rfl) (c_le rfl) dX10_whole_26 ⟨rfl, (show (-2147483648 ≤ (0 : Int) ∧ (0 : Int) < 2147483648) from by decide), rfl, rfl, rfl, rfl, rfl⟩
def fX10_planning_L2 (ad S Ln : Nat → Nat) (R : gR) (M : gM) (l0_2 : Nat) (s2 : Int) : Option ((Int) ⊕ ((Unit) ⊕ (Int))) :=
  rf S (R l0_2 0) 20 fun b1 => gd ((0 : Int) ≤ 4 ∧ 4 < (Ln b1 : Int)) (if (M b1 4) ≤ s2 then (some (.inr (.inl ()))) else (bd (fX10_of ad S Ln R M l0_2 s2 1) fun q3 => if q3 = 0 then (some (.inl (w32 (s2 + 1)))) else (some (.inr (.inr (0))))))
def fX10_planning (ad S Ln : Nat → Nat) (R : gR) (M : gM) (a0 : Nat) : Option Int :=
  bd (lp (fX10_planning_L2 ad S Ln R M a0) FU 0) fun q5 => Sum.elim (fun e2_4 => some (1)) (fun c5 => some c5) q5
theorem xX10_planning {l : Launch} {G : gE} {sz : Nat} {S Ln : Nat → Nat} {M : gM} {R : gR} (hl : l.stackTraces = false) {a0 : Nat} (hs0 : S a0 = 13) {r : Int} (h : fX10_planning G.2.2.2.2 S Ln R M a0 = some r) : Ct l G yX10_planning cX10_planning 2 (some .boolean) 2 0 0 [.ref a0] sz S Ln M R (poZ r sz S Ln (M) R) noX := by
  refine jj_start (own := RX10) (lv0 := [(0, .ref a0)]) hl (by decide +kernel) rfl rfl (c_le rfl) (fun C hCl hC => ?_)
  have hL2 : ∀ (l0_2 : Nat), S l0_2 = 13 → ∀ (n : Nat) (s2 : Int) (q : (Unit) ⊕ (Int)), lp (fX10_planning_L2 G.2.2.2.2 S Ln R M l0_2) n s2 = some q → (-2147483648 ≤ s2 ∧ s2 < 2147483648) → (∀ e2, q = .inl e2 → True → JJ G C 0 0 sz S Ln M R 29 [] []) → (∀ c, q = .inr c → c = r) → JJ G C 0 0 sz S Ln M R 2 [(0, .ref l0_2), (1, .int (iI s2))] [] := by
    intro l0_2 hl0_2
    refine lp_ind ?_
    intro s2 r2 hI2 h hJ2 hE2 hR2
    have hs2_0 := hI2
    unfold fX10_planning_L2 at h
    refine jj_iload_n hC dX10_planning_2 rfl 1 rfl ?_
    refine jj_aload_n hC dX10_planning_3 rfl 0 rfl ?_
    obtain ⟨b1, hb1, hs1, h⟩ := rf_e h
    refine jg_R hC kfX10 0 rfl hl0_2 (by decide) wd1709 rfl hb1 dX10_planning_4 ?_
    refine jj_iconst hC dX10_planning_7 ?_
    obtain ⟨⟨ha2, hb2⟩, h⟩ := gd_e h
    refine jj_iald hC hs1 ha2 hb2 dX10_planning_8 (fun hr2 => ?_)
    refine jj_icmp_ge (tgt := 29) hC dX10_planning_9 rfl hs2_0 hr2 (fun hc => ?_) (fun hc => ?_)
    · replace h := (if_pos hc).symm.trans h
      refine jj_lv (lv' := []) [] rfl ?_
      exact hE2 _ (Option.some.inj h).symm trivial
    · replace h := (if_neg (Int.not_le.mpr hc)).symm.trans h
      refine jj_aload_n hC dX10_planning_12 rfl 0 rfl ?_
      refine jj_iload_n hC dX10_planning_13 rfl 1 rfl ?_
      refine jj_iconst hC dX10_planning_14 ?_
      obtain ⟨q3, hq3, h⟩ := bd_e h
      refine jj_invV hC mvX10_of wd1815 wd29 wd1813 hl0_2 (by decide) rfl (xX10_of (OKC.tr hC) hl0_2 hs2_0 (show (-2147483648 ≤ (1 : Int) ∧ (1 : Int) < 2147483648) from by decide) hq3) rfl rfl (c_le rfl) (c_le rfl) (c_le rfl) (c_le rfl) dX10_planning_15 noXk (po_kI (fun hr3 => ?_))
      refine jj_if_eq (tgt := 23) hC dX10_planning_18 rfl hr3 (fun hc => ?_) (fun hc => ?_)
      · replace h := (if_pos hc).symm.trans h
        refine jg_iinc (q := 1) (lv' := [(1, .int (iI (w32 (s2 + 1)))), (0, .ref l0_2)]) hC dX10_planning_23 rfl (by decide) rfl ?_
        refine jj_goto (tgt := 2) hC dX10_planning_26 rfl ?_
        refine jj_lv (lv' := [(0, .ref l0_2), (1, .int (iI (w32 (s2 + 1))))]) [1, 0] rfl ?_
        exact hJ2 _ (Option.some.inj h).symm (w32_r _)
      · replace h := (if_neg (hc)).symm.trans h
        refine jj_iconst hC dX10_planning_21 ?_
        have h := hR2 _ (Option.some.inj h).symm
        subst h
        exact jj_zret hC (show (0 ≤ (0 : Int) ∧ (0 : Int) ≤ 1) from by decide) (c_le rfl) (c_le rfl) dX10_planning_22 ⟨rfl, (show (0 ≤ (0 : Int) ∧ (0 : Int) ≤ 1) from by decide), rfl, rfl, rfl, rfl, rfl⟩
  unfold fX10_planning at h
  refine jj_iconst hC dX10_planning_0 ?_
  refine jj_istore_n (lv' := [(1, .int (iI 0)), (0, .ref a0)]) hC dX10_planning_1 rfl (by decide) rfl ?_
  obtain ⟨q5, hq5, h⟩ := bd_e h
  refine jj_lv (lv' := [(0, .ref a0), (1, .int (iI 0))]) [1, 0] rfl ?_
  refine hL2 a0 hs0 FU _ q5 hq5 (show (-2147483648 ≤ (0 : Int) ∧ (0 : Int) < 2147483648) from by decide) (fun e2_4 he5 hIE5 => ?_) (fun c5 hc5 => ?_)
  · subst he5
    replace h := el_l h
    refine jj_iconst hC dX10_planning_29 ?_
    cases h
    exact jj_zret hC (show (0 ≤ (1 : Int) ∧ (1 : Int) ≤ 1) from by decide) (c_le rfl) (c_le rfl) dX10_planning_30 ⟨rfl, (show (0 ≤ (1 : Int) ∧ (1 : Int) ≤ 1) from by decide), rfl, rfl, rfl, rfl, rfl⟩
  · subst hc5
    replace h := el_r h
    exact Option.some.inj h
def fX10_points_B38 (ad S Ln : Nat → Nat) (R : gR) (M38 : gM) (l0_38 : Nat) (l1_38 : Int) (l2_38 : Int) (s0_38 : Int) (s1_38 : Nat) : Option (Int × gM) :=
  bd (fX10_isThrown ad S Ln R M38 s1_38 s0_38 2) fun q5 => if q5.1 = 0 then (rf S (R l0_38 0) 20 fun b6 => rf S (R l0_38 0) 20 fun b7 => gd ((0 : Int) ≤ 0 ∧ 0 < (Ln b7 : Int)) (gd ((0 : Int) ≤ (w32 (7 + (w32 (2 * (q5.2 b7 0))))) ∧ (w32 (7 + (w32 (2 * (q5.2 b7 0))))) < (Ln b6 : Int)) (nam (wr q5.2 b6 (w32 (7 + (w32 (2 * (q5.2 b7 0))))) l1_38) fun M9 => rf S (R l0_38 0) 20 fun b10 => rf S (R l0_38 0) 20 fun b11 => gd ((0 : Int) ≤ 0 ∧ 0 < (Ln b11 : Int)) (gd ((0 : Int) ≤ (w32 ((w32 (7 + (w32 (2 * (M9 b11 0))))) + 1)) ∧ (w32 ((w32 (7 + (w32 (2 * (M9 b11 0))))) + 1)) < (Ln b10 : Int)) (nam (wr M9 b10 (w32 ((w32 (7 + (w32 (2 * (M9 b11 0))))) + 1)) l2_38) fun M13 => rf S (R l0_38 0) 20 fun b14 => gd ((0 : Int) ≤ 0 ∧ 0 < (Ln b14 : Int)) (gd ((0 : Int) ≤ 0 ∧ 0 < (Ln b14 : Int)) (nam (wr M13 b14 0 (w32 ((M13 b14 0) + 1))) fun M16 => rf S (R l0_38 0) 20 fun b17 => gd ((0 : Int) ≤ 0 ∧ 0 < (Ln b17 : Int)) (some ((w32 ((M16 b17 0) - 1), M16)))))))))) else (some ((0, q5.2)))
def fX10_points_B14 (ad S Ln : Nat → Nat) (R : gR) (M14 : gM) (l0_14 : Nat) (l1_14 : Int) (l2_14 : Int) (s0_14 : Int) (s1_14 : Nat) : Option (Int × gM) :=
  bd (fX10_isThrown ad S Ln R M14 s1_14 s0_14 1) fun q2 => if ¬ q2.1 = 0 then (some ((0, q2.2))) else (rf S (R l0_14 0) 20 fun b3 => gd ((0 : Int) ≤ 0 ∧ 0 < (Ln b3 : Int)) (if ¬ (q2.2 b3 0) = 8 then (fX10_points_B38 ad S Ln R q2.2 l0_14 l1_14 l2_14 0 l0_14) else (fX10_points_B38 ad S Ln R q2.2 l0_14 l1_14 l2_14 1 l0_14)))
def fX10_points (ad S Ln : Nat → Nat) (R : gR) (M : gM) (a0 : Nat) (x1 : Int) (x2 : Int) : Option (Int × gM) :=
  bd (fX10_isPlace ad S Ln R M x1 x2) fun q1 => if ¬ q1 = 0 then (fX10_points_B14 ad S Ln R M a0 x1 x2 0 a0) else (fX10_points_B14 ad S Ln R M a0 x1 x2 1 a0)
theorem xX10_points {l : Launch} {G : gE} {sz : Nat} {S Ln : Nat → Nat} {M : gM} {R : gR} (hl : l.stackTraces = false) {a0 : Nat} (hs0 : S a0 = 13) {x1 : Int} (hx1 : (-2147483648 ≤ x1 ∧ x1 < 2147483648)) {x2 : Int} (hx2 : (-2147483648 ≤ x2 ∧ x2 < 2147483648)) {r : Int × gM} (h : fX10_points G.2.2.2.2 S Ln R M a0 x1 x2 = some r) : Ct l G yX10_points cX10_points 3 (some .int) 3 0 0 [.ref a0, .int (iI x1), .int (iI x2)] sz S Ln M R (poI r.1 sz S Ln (r.2) R) noX := by
  refine jj_start (own := RX10) (lv0 := [(0, .ref a0), (1, .int (iI x1)), (2, .int (iI x2))]) hl (by decide +kernel) rfl rfl (c_le rfl) (fun C hCl hC => ?_)
  have hB38 : ∀ (M38 : gM) (l0_38 : Nat) (l1_38 : Int) (l2_38 : Int) (s0_38 : Int) (s1_38 : Nat), S l0_38 = 13 → (-2147483648 ≤ l1_38 ∧ l1_38 < 2147483648) → (-2147483648 ≤ l2_38 ∧ l2_38 < 2147483648) → (0 ≤ s0_38 ∧ s0_38 ≤ 1) → S s1_38 = 13 → fX10_points_B38 G.2.2.2.2 S Ln R M38 l0_38 l1_38 l2_38 s0_38 s1_38 = some r → JJ G C 0 0 sz S Ln M38 R 38 [(0, .ref l0_38), (1, .int (iI l1_38)), (2, .int (iI l2_38))] [.int (iI s0_38), .ref s1_38] := by
    intro M38 l0_38 l1_38 l2_38 s0_38 s1_38 hl0_38 hl1_38 hl2_38 hs0_38 hs1_38 h
    unfold fX10_points_B38 at h
    refine jj_iconst hC dX10_points_38 ?_
    obtain ⟨q5, hq5, h⟩ := bd_e h
    refine jj_invV hC mvX10_isThrown wd1791 wd24 wd1789 hs1_38 (by decide) rfl (xX10_isThrown (OKC.tr hC) hs1_38 hs0_38 (show (-2147483648 ≤ (2 : Int) ∧ (2 : Int) < 2147483648) from by decide) hq5) rfl rfl (c_le rfl) (c_le rfl) (c_le rfl) (c_le rfl) dX10_points_39 noXk (po_kZ (fun hr5 => ?_))
    refine jj_if_eq (tgt := 47) hC dX10_points_42 rfl (r_z hr5) (fun hc => ?_) (fun hc => ?_)
    · replace h := (if_pos hc).symm.trans h
      refine jj_aload_n hC dX10_points_47 rfl 0 rfl ?_
      obtain ⟨b6, hb6, hs6, h⟩ := rf_e h
      refine jg_R hC kfX10 0 rfl hl0_38 (by decide) wd1709 rfl hb6 dX10_points_48 ?_
      refine jj_bipush hC dX10_points_51 (by decide) ?_
      refine jj_iconst hC dX10_points_53 ?_
      refine jj_aload_n hC dX10_points_54 rfl 0 rfl ?_
      obtain ⟨b7, hb7, hs7, h⟩ := rf_e h
      refine jg_R hC kfX10 0 rfl hl0_38 (by decide) wd1709 rfl hb7 dX10_points_55 ?_
      refine jj_iconst hC dX10_points_58 ?_
      obtain ⟨⟨ha8, hb8⟩, h⟩ := gd_e h
      refine jj_iald hC hs7 ha8 hb8 dX10_points_59 (fun hr8 => ?_)
      refine jg_imul hC dX10_points_60 ?_
      refine jg_iadd hC dX10_points_61 ?_
      refine jj_iload_n hC dX10_points_62 rfl 1 rfl ?_
      obtain ⟨⟨ha9, hb9⟩, h⟩ := gd_e h
      obtain ⟨M9, hM9, h⟩ := nam_e h
      refine jj_iast hC hs6 ha9 hb9 hl1_38 dX10_points_63 (jj_M hM9 ?_)
      refine jj_aload_n hC dX10_points_64 rfl 0 rfl ?_
      obtain ⟨b10, hb10, hs10, h⟩ := rf_e h
      refine jg_R hC kfX10 0 rfl hl0_38 (by decide) wd1709 rfl hb10 dX10_points_65 ?_
      refine jj_bipush hC dX10_points_68 (by decide) ?_
      refine jj_iconst hC dX10_points_70 ?_
      refine jj_aload_n hC dX10_points_71 rfl 0 rfl ?_
      obtain ⟨b11, hb11, hs11, h⟩ := rf_e h
      refine jg_R hC kfX10 0 rfl hl0_38 (by decide) wd1709 rfl hb11 dX10_points_72 ?_
      refine jj_iconst hC dX10_points_75 ?_
      obtain ⟨⟨ha12, hb12⟩, h⟩ := gd_e h
      refine jj_iald hC hs11 ha12 hb12 dX10_points_76 (fun hr12 => ?_)
      refine jg_imul hC dX10_points_77 ?_
      refine jg_iadd hC dX10_points_78 ?_
      refine jj_iconst hC dX10_points_79 ?_
      refine jg_iadd hC dX10_points_80 ?_
      refine jj_iload_n hC dX10_points_81 rfl 2 rfl ?_
      obtain ⟨⟨ha13, hb13⟩, h⟩ := gd_e h
      obtain ⟨M13, hM13, h⟩ := nam_e h
      refine jj_iast hC hs10 ha13 hb13 hl2_38 dX10_points_82 (jj_M hM13 ?_)
      refine jj_aload_n hC dX10_points_83 rfl 0 rfl ?_
      obtain ⟨b14, hb14, hs14, h⟩ := rf_e h
      refine jg_R hC kfX10 0 rfl hl0_38 (by decide) wd1709 rfl hb14 dX10_points_84 ?_
      refine jj_iconst hC dX10_points_87 ?_
      refine jj_dup2 hC dX10_points_88 rfl rfl ?_
      obtain ⟨⟨ha15, hb15⟩, h⟩ := gd_e h
      refine jj_iald hC hs14 ha15 hb15 dX10_points_89 (fun hr15 => ?_)
      refine jj_iconst hC dX10_points_90 ?_
      refine jg_iadd hC dX10_points_91 ?_
      obtain ⟨⟨ha16, hb16⟩, h⟩ := gd_e h
      obtain ⟨M16, hM16, h⟩ := nam_e h
      refine jj_iast hC hs14 ha16 hb16 (w32_r _) dX10_points_92 (jj_M hM16 ?_)
      refine jj_aload_n hC dX10_points_93 rfl 0 rfl ?_
      obtain ⟨b17, hb17, hs17, h⟩ := rf_e h
      refine jg_R hC kfX10 0 rfl hl0_38 (by decide) wd1709 rfl hb17 dX10_points_94 ?_
      refine jj_iconst hC dX10_points_97 ?_
      obtain ⟨⟨ha18, hb18⟩, h⟩ := gd_e h
      refine jj_iald hC hs17 ha18 hb18 dX10_points_98 (fun hr18 => ?_)
      refine jj_iconst hC dX10_points_99 ?_
      refine jg_isub hC dX10_points_100 ?_
      cases h
      exact jj_iret hC (c_le rfl) (c_le rfl) dX10_points_101 ⟨rfl, (w32_r _), rfl, rfl, rfl, rfl, rfl⟩
    · replace h := (if_neg (hc)).symm.trans h
      refine jj_iconst hC dX10_points_45 ?_
      cases h
      exact jj_iret hC (c_le rfl) (c_le rfl) dX10_points_46 ⟨rfl, (show (-2147483648 ≤ (0 : Int) ∧ (0 : Int) < 2147483648) from by decide), rfl, rfl, rfl, rfl, rfl⟩
  have hB14 : ∀ (M14 : gM) (l0_14 : Nat) (l1_14 : Int) (l2_14 : Int) (s0_14 : Int) (s1_14 : Nat), S l0_14 = 13 → (-2147483648 ≤ l1_14 ∧ l1_14 < 2147483648) → (-2147483648 ≤ l2_14 ∧ l2_14 < 2147483648) → (0 ≤ s0_14 ∧ s0_14 ≤ 1) → S s1_14 = 13 → fX10_points_B14 G.2.2.2.2 S Ln R M14 l0_14 l1_14 l2_14 s0_14 s1_14 = some r → JJ G C 0 0 sz S Ln M14 R 14 [(0, .ref l0_14), (1, .int (iI l1_14)), (2, .int (iI l2_14))] [.int (iI s0_14), .ref s1_14] := by
    intro M14 l0_14 l1_14 l2_14 s0_14 s1_14 hl0_14 hl1_14 hl2_14 hs0_14 hs1_14 h
    unfold fX10_points_B14 at h
    refine jj_iconst hC dX10_points_14 ?_
    obtain ⟨q2, hq2, h⟩ := bd_e h
    refine jj_invV hC mvX10_isThrown wd1791 wd24 wd1789 hs1_14 (by decide) rfl (xX10_isThrown (OKC.tr hC) hs1_14 hs0_14 (show (-2147483648 ≤ (1 : Int) ∧ (1 : Int) < 2147483648) from by decide) hq2) rfl rfl (c_le rfl) (c_le rfl) (c_le rfl) (c_le rfl) dX10_points_15 noXk (po_kZ (fun hr2 => ?_))
    refine jj_if_ne (tgt := 45) hC dX10_points_18 rfl (r_z hr2) (fun hc => ?_) (fun hc => ?_)
    · replace h := (if_pos hc).symm.trans h
      refine jj_iconst hC dX10_points_45 ?_
      cases h
      exact jj_iret hC (c_le rfl) (c_le rfl) dX10_points_46 ⟨rfl, (show (-2147483648 ≤ (0 : Int) ∧ (0 : Int) < 2147483648) from by decide), rfl, rfl, rfl, rfl, rfl⟩
    · replace h := (if_neg (fun k => k hc)).symm.trans h
      refine jj_aload_n hC dX10_points_21 rfl 0 rfl ?_
      refine jj_aload_n hC dX10_points_22 rfl 0 rfl ?_
      obtain ⟨b3, hb3, hs3, h⟩ := rf_e h
      refine jg_R hC kfX10 0 rfl hl0_14 (by decide) wd1709 rfl hb3 dX10_points_23 ?_
      refine jj_iconst hC dX10_points_26 ?_
      obtain ⟨⟨ha4, hb4⟩, h⟩ := gd_e h
      refine jj_iald hC hs3 ha4 hb4 dX10_points_27 (fun hr4 => ?_)
      refine jj_bipush hC dX10_points_28 (by decide) ?_
      refine jj_icmp_ne (tgt := 37) hC dX10_points_30 rfl hr4 (show (-2147483648 ≤ (8 : Int) ∧ (8 : Int) < 2147483648) from by decide) (fun hc => ?_) (fun hc => ?_)
      · replace h := (if_pos hc).symm.trans h
        refine jj_iconst hC dX10_points_37 ?_
        refine jj_lv (lv' := [(0, .ref l0_14), (1, .int (iI l1_14)), (2, .int (iI l2_14))]) [0, 1, 2] rfl ?_
        exact hB38 q2.2 l0_14 l1_14 l2_14 0 l0_14 hl0_14 hl1_14 hl2_14 (show (0 ≤ (0 : Int) ∧ (0 : Int) ≤ 1) from by decide) hl0_14 h
      · replace h := (if_neg (fun k => k hc)).symm.trans h
        refine jj_iconst hC dX10_points_33 ?_
        refine jj_goto (tgt := 38) hC dX10_points_34 rfl ?_
        refine jj_lv (lv' := [(0, .ref l0_14), (1, .int (iI l1_14)), (2, .int (iI l2_14))]) [0, 1, 2] rfl ?_
        exact hB38 q2.2 l0_14 l1_14 l2_14 1 l0_14 hl0_14 hl1_14 hl2_14 (show (0 ≤ (1 : Int) ∧ (1 : Int) ≤ 1) from by decide) hl0_14 h
  unfold fX10_points at h
  refine jj_aload_n hC dX10_points_0 rfl 0 rfl ?_
  refine jj_iload_n hC dX10_points_1 rfl 1 rfl ?_
  refine jj_iload_n hC dX10_points_2 rfl 2 rfl ?_
  obtain ⟨q1, hq1, h⟩ := bd_e h
  refine jj_invS hC mvX10_isPlace wd1784 wd1783 (xX10_isPlace (OKC.tr hC) hx1 hx2 hq1) rfl rfl (c_le rfl) (c_le rfl) (c_le rfl) (c_le rfl) dX10_points_3 noXk (po_kZ (fun hr1 => ?_))
  refine jj_if_ne (tgt := 13) hC dX10_points_6 rfl (r_z hr1) (fun hc => ?_) (fun hc => ?_)
  · replace h := (if_pos hc).symm.trans h
    refine jj_iconst hC dX10_points_13 ?_
    refine jj_lv (lv' := [(0, .ref a0), (1, .int (iI x1)), (2, .int (iI x2))]) [0, 1, 2] rfl ?_
    exact hB14 M a0 x1 x2 0 a0 hs0 hx1 hx2 (show (0 ≤ (0 : Int) ∧ (0 : Int) ≤ 1) from by decide) hs0 h
  · replace h := (if_neg (fun k => k hc)).symm.trans h
    refine jj_iconst hC dX10_points_9 ?_
    refine jj_goto (tgt := 14) hC dX10_points_10 rfl ?_
    refine jj_lv (lv' := [(0, .ref a0), (1, .int (iI x1)), (2, .int (iI x2))]) [0, 1, 2] rfl ?_
    exact hB14 M a0 x1 x2 1 a0 hs0 hx1 hx2 (show (0 ≤ (1 : Int) ∧ (1 : Int) ≤ 1) from by decide) hs0 h
def fX10_addPoint (ad S Ln : Nat → Nat) (R : gR) (M : gM) (a0 : Nat) (x1 : Int) (x2 : Int) : Option (Int × gM) :=
  bd (fX10_keeps ad S Ln R M a0) fun q1 => bd (fX10_points ad S Ln R q1 a0 x1 x2) fun q2 => bd (fX10_ends ad S Ln R q2.2 a0 q2.1) fun q3 => some ((q3.1, q3.2))
theorem xX10_addPoint {l : Launch} {G : gE} {sz : Nat} {S Ln : Nat → Nat} {M : gM} {R : gR} (hl : l.stackTraces = false) {a0 : Nat} (hs0 : S a0 = 13) {x1 : Int} (hx1 : (-2147483648 ≤ x1 ∧ x1 < 2147483648)) {x2 : Int} (hx2 : (-2147483648 ≤ x2 ∧ x2 < 2147483648)) {r : Int × gM} (h : fX10_addPoint G.2.2.2.2 S Ln R M a0 x1 x2 = some r) : Ct l G yX10_addPoint cX10_addPoint 3 (some .int) 4 0 0 [.ref a0, .int (iI x1), .int (iI x2)] sz S Ln M R (poI r.1 sz S Ln (r.2) R) noX := by
  refine jj_start (own := RX10) (lv0 := [(0, .ref a0), (1, .int (iI x1)), (2, .int (iI x2))]) hl (by decide +kernel) rfl rfl (c_le rfl) (fun C hCl hC => ?_)
  unfold fX10_addPoint at h
  refine jj_aload_n hC dX10_addPoint_0 rfl 0 rfl ?_
  obtain ⟨q1, hq1, h⟩ := bd_e h
  refine jj_invV hC mvX10_keeps wd1774 wd22 wd1772 hs0 (by decide) rfl (xX10_keeps (OKC.tr hC) hs0 hq1) rfl rfl (c_le rfl) (c_le rfl) (c_le rfl) (c_le rfl) dX10_addPoint_1 noXk (po_kV ?_)
  refine jj_aload_n hC dX10_addPoint_4 rfl 0 rfl ?_
  refine jj_aload_n hC dX10_addPoint_5 rfl 0 rfl ?_
  refine jj_iload_n hC dX10_addPoint_6 rfl 1 rfl ?_
  refine jj_iload_n hC dX10_addPoint_7 rfl 2 rfl ?_
  obtain ⟨q2, hq2, h⟩ := bd_e h
  refine jj_invV hC mvX10_points wd1781 wd23 wd1779 hs0 (by decide) rfl (xX10_points (OKC.tr hC) hs0 hx1 hx2 hq2) rfl rfl (c_le rfl) (c_le rfl) (c_le rfl) (c_le rfl) dX10_addPoint_8 noXk (po_kI (fun hr2 => ?_))
  obtain ⟨q3, hq3, h⟩ := bd_e h
  refine jj_invV hC mvX10_ends wd1795 wd25 wd1793 hs0 (by decide) rfl (xX10_ends (OKC.tr hC) hs0 hr2 hq3) rfl rfl (c_le rfl) (c_le rfl) (c_le rfl) (c_le rfl) dX10_addPoint_11 noXk (po_kI (fun hr3 => ?_))
  cases h
  exact jj_iret hC (c_le rfl) (c_le rfl) dX10_addPoint_14 ⟨rfl, hr3, rfl, rfl, rfl, rfl, rfl⟩
def fX10_tasks_B87 (ad S Ln : Nat → Nat) (R : gR) (M87 : gM) (l0_87 : Nat) (l1_87 : Int) (s0_87 : Int) (s1_87 : Nat) : Option (Int × gM) :=
  bd (fX10_isThrown ad S Ln R M87 s1_87 s0_87 3) fun q7 => if q7.1 = 0 then (rf S (R l0_87 0) 20 fun b8 => rf S (R l0_87 0) 20 fun b9 => gd ((0 : Int) ≤ 1 ∧ 1 < (Ln b9 : Int)) (gd ((0 : Int) ≤ (w32 (23 + (q7.2 b9 1))) ∧ (w32 (23 + (q7.2 b9 1))) < (Ln b8 : Int)) (nam (wr q7.2 b8 (w32 (23 + (q7.2 b9 1))) l1_87) fun M11 => rf S (R l0_87 0) 20 fun b12 => gd ((0 : Int) ≤ 1 ∧ 1 < (Ln b12 : Int)) (gd ((0 : Int) ≤ 1 ∧ 1 < (Ln b12 : Int)) (nam (wr M11 b12 1 (w32 ((M11 b12 1) + 1))) fun M14 => rf S (R l0_87 0) 20 fun b15 => gd ((0 : Int) ≤ 1 ∧ 1 < (Ln b15 : Int)) (some ((M14 b15 1, M14)))))))) else (some ((0, q7.2)))
def fX10_tasks_B86 (ad S Ln : Nat → Nat) (R : gR) (M86 : gM) (l0_86 : Nat) (l1_86 : Int) (s0_86 : Nat) : Option (Int × gM) :=
  fX10_tasks_B87 ad S Ln R M86 l0_86 l1_86 0 s0_86
def fX10_tasks_B45 (ad S Ln : Nat → Nat) (R : gR) (M45 : gM) (l0_45 : Nat) (l1_45 : Int) (s0_45 : Int) (s1_45 : Nat) : Option (Int × gM) :=
  bd (fX10_isThrown ad S Ln R M45 s1_45 s0_45 2) fun q4 => if ¬ q4.1 = 0 then (some ((0, q4.2))) else (rf S (R l0_45 0) 20 fun b5 => gd ((0 : Int) ≤ 1 ∧ 1 < (Ln b5 : Int)) (if (q4.2 b5 1) ≤ 0 then (fX10_tasks_B86 ad S Ln R q4.2 l0_45 l1_45 l0_45) else (rf S (R l0_45 0) 20 fun b17 => gd ((0 : Int) ≤ 1 ∧ 1 < (Ln b17 : Int)) (bd (fX10_inTask ad S Ln R q4.2 l0_45 (w32 ((q4.2 b17 1) - 1))) fun q19 => bd (fX10_apart ad S Ln R q4.2 l0_45 q19 l1_45) fun q20 => if ¬ q20 = 0 then (fX10_tasks_B86 ad S Ln R q4.2 l0_45 l1_45 l0_45) else (fX10_tasks_B87 ad S Ln R q4.2 l0_45 l1_45 1 l0_45)))))
def fX10_tasks_B40 (ad S Ln : Nat → Nat) (R : gR) (M40 : gM) (l0_40 : Nat) (l1_40 : Int) (s0_40 : Nat) : Option (Int × gM) :=
  fX10_tasks_B45 ad S Ln R M40 l0_40 l1_40 1 s0_40
def fX10_tasks_B14 (ad S Ln : Nat → Nat) (R : gR) (M14 : gM) (l0_14 : Nat) (l1_14 : Int) (s0_14 : Int) (s1_14 : Nat) : Option (Int × gM) :=
  bd (fX10_isThrown ad S Ln R M14 s1_14 s0_14 1) fun q2 => if ¬ q2.1 = 0 then (some ((0, q2.2))) else (bd (fX10_planning ad S Ln R q2.2 l0_14) fun q3 => if q3 = 0 then (fX10_tasks_B40 ad S Ln R q2.2 l0_14 l1_14 l0_14) else (rf S (R l0_14 0) 20 fun b21 => gd ((0 : Int) ≤ 1 ∧ 1 < (Ln b21 : Int)) (if ¬ (q2.2 b21 1) = 6 then (fX10_tasks_B45 ad S Ln R q2.2 l0_14 l1_14 0 l0_14) else (fX10_tasks_B40 ad S Ln R q2.2 l0_14 l1_14 l0_14))))
def fX10_tasks (ad S Ln : Nat → Nat) (R : gR) (M : gM) (a0 : Nat) (x1 : Int) : Option (Int × gM) :=
  bd (fX10_isPoint ad S Ln R M a0 x1) fun q1 => if ¬ q1 = 0 then (fX10_tasks_B14 ad S Ln R M a0 x1 0 a0) else (fX10_tasks_B14 ad S Ln R M a0 x1 1 a0)
theorem xX10_tasks {l : Launch} {G : gE} {sz : Nat} {S Ln : Nat → Nat} {M : gM} {R : gR} (hl : l.stackTraces = false) {a0 : Nat} (hs0 : S a0 = 13) {x1 : Int} (hx1 : (-2147483648 ≤ x1 ∧ x1 < 2147483648)) {r : Int × gM} (h : fX10_tasks G.2.2.2.2 S Ln R M a0 x1 = some r) : Ct l G yX10_tasks cX10_tasks 2 (some .int) 3 0 0 [.ref a0, .int (iI x1)] sz S Ln M R (poI r.1 sz S Ln (r.2) R) noX := by
  refine jj_start (own := RX10) (lv0 := [(0, .ref a0), (1, .int (iI x1))]) hl (by decide +kernel) rfl rfl (c_le rfl) (fun C hCl hC => ?_)
  have hB87 : ∀ (M87 : gM) (l0_87 : Nat) (l1_87 : Int) (s0_87 : Int) (s1_87 : Nat), S l0_87 = 13 → (-2147483648 ≤ l1_87 ∧ l1_87 < 2147483648) → (0 ≤ s0_87 ∧ s0_87 ≤ 1) → S s1_87 = 13 → fX10_tasks_B87 G.2.2.2.2 S Ln R M87 l0_87 l1_87 s0_87 s1_87 = some r → JJ G C 0 0 sz S Ln M87 R 87 [(0, .ref l0_87), (1, .int (iI l1_87))] [.int (iI s0_87), .ref s1_87] := by
    intro M87 l0_87 l1_87 s0_87 s1_87 hl0_87 hl1_87 hs0_87 hs1_87 h
    unfold fX10_tasks_B87 at h
    refine jj_iconst hC dX10_tasks_87 ?_
    obtain ⟨q7, hq7, h⟩ := bd_e h
    refine jj_invV hC mvX10_isThrown wd1791 wd24 wd1789 hs1_87 (by decide) rfl (xX10_isThrown (OKC.tr hC) hs1_87 hs0_87 (show (-2147483648 ≤ (3 : Int) ∧ (3 : Int) < 2147483648) from by decide) hq7) rfl rfl (c_le rfl) (c_le rfl) (c_le rfl) (c_le rfl) dX10_tasks_88 noXk (po_kZ (fun hr7 => ?_))
    refine jj_if_eq (tgt := 96) hC dX10_tasks_91 rfl (r_z hr7) (fun hc => ?_) (fun hc => ?_)
    · replace h := (if_pos hc).symm.trans h
      refine jj_aload_n hC dX10_tasks_96 rfl 0 rfl ?_
      obtain ⟨b8, hb8, hs8, h⟩ := rf_e h
      refine jg_R hC kfX10 0 rfl hl0_87 (by decide) wd1709 rfl hb8 dX10_tasks_97 ?_
      refine jj_bipush hC dX10_tasks_100 (by decide) ?_
      refine jj_aload_n hC dX10_tasks_102 rfl 0 rfl ?_
      obtain ⟨b9, hb9, hs9, h⟩ := rf_e h
      refine jg_R hC kfX10 0 rfl hl0_87 (by decide) wd1709 rfl hb9 dX10_tasks_103 ?_
      refine jj_iconst hC dX10_tasks_106 ?_
      obtain ⟨⟨ha10, hb10⟩, h⟩ := gd_e h
      refine jj_iald hC hs9 ha10 hb10 dX10_tasks_107 (fun hr10 => ?_)
      refine jg_iadd hC dX10_tasks_108 ?_
      refine jj_iload_n hC dX10_tasks_109 rfl 1 rfl ?_
      obtain ⟨⟨ha11, hb11⟩, h⟩ := gd_e h
      obtain ⟨M11, hM11, h⟩ := nam_e h
      refine jj_iast hC hs8 ha11 hb11 hl1_87 dX10_tasks_110 (jj_M hM11 ?_)
      refine jj_aload_n hC dX10_tasks_111 rfl 0 rfl ?_
      obtain ⟨b12, hb12, hs12, h⟩ := rf_e h
      refine jg_R hC kfX10 0 rfl hl0_87 (by decide) wd1709 rfl hb12 dX10_tasks_112 ?_
      refine jj_iconst hC dX10_tasks_115 ?_
      refine jj_dup2 hC dX10_tasks_116 rfl rfl ?_
      obtain ⟨⟨ha13, hb13⟩, h⟩ := gd_e h
      refine jj_iald hC hs12 ha13 hb13 dX10_tasks_117 (fun hr13 => ?_)
      refine jj_iconst hC dX10_tasks_118 ?_
      refine jg_iadd hC dX10_tasks_119 ?_
      obtain ⟨⟨ha14, hb14⟩, h⟩ := gd_e h
      obtain ⟨M14, hM14, h⟩ := nam_e h
      refine jj_iast hC hs12 ha14 hb14 (w32_r _) dX10_tasks_120 (jj_M hM14 ?_)
      refine jj_aload_n hC dX10_tasks_121 rfl 0 rfl ?_
      obtain ⟨b15, hb15, hs15, h⟩ := rf_e h
      refine jg_R hC kfX10 0 rfl hl0_87 (by decide) wd1709 rfl hb15 dX10_tasks_122 ?_
      refine jj_iconst hC dX10_tasks_125 ?_
      obtain ⟨⟨ha16, hb16⟩, h⟩ := gd_e h
      refine jj_iald hC hs15 ha16 hb16 dX10_tasks_126 (fun hr16 => ?_)
      cases h
      exact jj_iret hC (c_le rfl) (c_le rfl) dX10_tasks_127 ⟨rfl, hr16, rfl, rfl, rfl, rfl, rfl⟩
    · replace h := (if_neg (hc)).symm.trans h
      refine jj_iconst hC dX10_tasks_94 ?_
      cases h
      exact jj_iret hC (c_le rfl) (c_le rfl) dX10_tasks_95 ⟨rfl, (show (-2147483648 ≤ (0 : Int) ∧ (0 : Int) < 2147483648) from by decide), rfl, rfl, rfl, rfl, rfl⟩
  have hB86 : ∀ (M86 : gM) (l0_86 : Nat) (l1_86 : Int) (s0_86 : Nat), S l0_86 = 13 → (-2147483648 ≤ l1_86 ∧ l1_86 < 2147483648) → S s0_86 = 13 → fX10_tasks_B86 G.2.2.2.2 S Ln R M86 l0_86 l1_86 s0_86 = some r → JJ G C 0 0 sz S Ln M86 R 86 [(0, .ref l0_86), (1, .int (iI l1_86))] [.ref s0_86] := by
    intro M86 l0_86 l1_86 s0_86 hl0_86 hl1_86 hs0_86 h
    unfold fX10_tasks_B86 at h
    refine jj_iconst hC dX10_tasks_86 ?_
    refine jj_lv (lv' := [(0, .ref l0_86), (1, .int (iI l1_86))]) [0, 1] rfl ?_
    exact hB87 M86 l0_86 l1_86 0 s0_86 hl0_86 hl1_86 (show (0 ≤ (0 : Int) ∧ (0 : Int) ≤ 1) from by decide) hs0_86 h
  have hB45 : ∀ (M45 : gM) (l0_45 : Nat) (l1_45 : Int) (s0_45 : Int) (s1_45 : Nat), S l0_45 = 13 → (-2147483648 ≤ l1_45 ∧ l1_45 < 2147483648) → (0 ≤ s0_45 ∧ s0_45 ≤ 1) → S s1_45 = 13 → fX10_tasks_B45 G.2.2.2.2 S Ln R M45 l0_45 l1_45 s0_45 s1_45 = some r → JJ G C 0 0 sz S Ln M45 R 45 [(0, .ref l0_45), (1, .int (iI l1_45))] [.int (iI s0_45), .ref s1_45] := by
    intro M45 l0_45 l1_45 s0_45 s1_45 hl0_45 hl1_45 hs0_45 hs1_45 h
    unfold fX10_tasks_B45 at h
    refine jj_iconst hC dX10_tasks_45 ?_
    obtain ⟨q4, hq4, h⟩ := bd_e h
    refine jj_invV hC mvX10_isThrown wd1791 wd24 wd1789 hs1_45 (by decide) rfl (xX10_isThrown (OKC.tr hC) hs1_45 hs0_45 (show (-2147483648 ≤ (2 : Int) ∧ (2 : Int) < 2147483648) from by decide) hq4) rfl rfl (c_le rfl) (c_le rfl) (c_le rfl) (c_le rfl) dX10_tasks_46 noXk (po_kZ (fun hr4 => ?_))
    refine jj_if_ne (tgt := 94) hC dX10_tasks_49 rfl (r_z hr4) (fun hc => ?_) (fun hc => ?_)
    · replace h := (if_pos hc).symm.trans h
      refine jj_iconst hC dX10_tasks_94 ?_
      cases h
      exact jj_iret hC (c_le rfl) (c_le rfl) dX10_tasks_95 ⟨rfl, (show (-2147483648 ≤ (0 : Int) ∧ (0 : Int) < 2147483648) from by decide), rfl, rfl, rfl, rfl, rfl⟩
    · replace h := (if_neg (fun k => k hc)).symm.trans h
      refine jj_aload_n hC dX10_tasks_52 rfl 0 rfl ?_
      refine jj_aload_n hC dX10_tasks_53 rfl 0 rfl ?_
      obtain ⟨b5, hb5, hs5, h⟩ := rf_e h
      refine jg_R hC kfX10 0 rfl hl0_45 (by decide) wd1709 rfl hb5 dX10_tasks_54 ?_
      refine jj_iconst hC dX10_tasks_57 ?_
      obtain ⟨⟨ha6, hb6⟩, h⟩ := gd_e h
      refine jj_iald hC hs5 ha6 hb6 dX10_tasks_58 (fun hr6 => ?_)
      refine jj_if_le (tgt := 86) hC dX10_tasks_59 rfl hr6 (fun hc => ?_) (fun hc => ?_)
      · replace h := (if_pos hc).symm.trans h
        refine jj_lv (lv' := [(0, .ref l0_45), (1, .int (iI l1_45))]) [0, 1] rfl ?_
        exact hB86 q4.2 l0_45 l1_45 l0_45 hl0_45 hl1_45 hl0_45 h
      · replace h := (if_neg (Int.not_le.mpr hc)).symm.trans h
        refine jj_aload_n hC dX10_tasks_62 rfl 0 rfl ?_
        refine jj_aload_n hC dX10_tasks_63 rfl 0 rfl ?_
        refine jj_aload_n hC dX10_tasks_64 rfl 0 rfl ?_
        obtain ⟨b17, hb17, hs17, h⟩ := rf_e h
        refine jg_R hC kfX10 0 rfl hl0_45 (by decide) wd1709 rfl hb17 dX10_tasks_65 ?_
        refine jj_iconst hC dX10_tasks_68 ?_
        obtain ⟨⟨ha18, hb18⟩, h⟩ := gd_e h
        refine jj_iald hC hs17 ha18 hb18 dX10_tasks_69 (fun hr18 => ?_)
        refine jj_iconst hC dX10_tasks_70 ?_
        refine jg_isub hC dX10_tasks_71 ?_
        obtain ⟨q19, hq19, h⟩ := bd_e h
        refine jj_invV hC mvX10_inTask wd1819 wd30 wd1817 hl0_45 (by decide) rfl (xX10_inTask (OKC.tr hC) hl0_45 (w32_r _) hq19) rfl rfl (c_le rfl) (c_le rfl) (c_le rfl) (c_le rfl) dX10_tasks_72 noXk (po_kI (fun hr19 => ?_))
        refine jj_iload_n hC dX10_tasks_75 rfl 1 rfl ?_
        obtain ⟨q20, hq20, h⟩ := bd_e h
        refine jj_invV hC mvX10_apart wd1823 wd31 wd1821 hl0_45 (by decide) rfl (xX10_apart (OKC.tr hC) hl0_45 hr19 hl1_45 hq20) rfl rfl (c_le rfl) (c_le rfl) (c_le rfl) (c_le rfl) dX10_tasks_76 noXk (po_kI (fun hr20 => ?_))
        refine jj_if_ne (tgt := 86) hC dX10_tasks_79 rfl hr20 (fun hc => ?_) (fun hc => ?_)
        · replace h := (if_pos hc).symm.trans h
          refine jj_lv (lv' := [(0, .ref l0_45), (1, .int (iI l1_45))]) [0, 1] rfl ?_
          exact hB86 q4.2 l0_45 l1_45 l0_45 hl0_45 hl1_45 hl0_45 h
        · replace h := (if_neg (fun k => k hc)).symm.trans h
          refine jj_iconst hC dX10_tasks_82 ?_
          refine jj_goto (tgt := 87) hC dX10_tasks_83 rfl ?_
          refine jj_lv (lv' := [(0, .ref l0_45), (1, .int (iI l1_45))]) [0, 1] rfl ?_
          exact hB87 q4.2 l0_45 l1_45 1 l0_45 hl0_45 hl1_45 (show (0 ≤ (1 : Int) ∧ (1 : Int) ≤ 1) from by decide) hl0_45 h
  have hB40 : ∀ (M40 : gM) (l0_40 : Nat) (l1_40 : Int) (s0_40 : Nat), S l0_40 = 13 → (-2147483648 ≤ l1_40 ∧ l1_40 < 2147483648) → S s0_40 = 13 → fX10_tasks_B40 G.2.2.2.2 S Ln R M40 l0_40 l1_40 s0_40 = some r → JJ G C 0 0 sz S Ln M40 R 40 [(0, .ref l0_40), (1, .int (iI l1_40))] [.ref s0_40] := by
    intro M40 l0_40 l1_40 s0_40 hl0_40 hl1_40 hs0_40 h
    unfold fX10_tasks_B40 at h
    refine jj_iconst hC dX10_tasks_40 ?_
    refine jj_goto (tgt := 45) hC dX10_tasks_41 rfl ?_
    refine jj_lv (lv' := [(0, .ref l0_40), (1, .int (iI l1_40))]) [0, 1] rfl ?_
    exact hB45 M40 l0_40 l1_40 1 s0_40 hl0_40 hl1_40 (show (0 ≤ (1 : Int) ∧ (1 : Int) ≤ 1) from by decide) hs0_40 h
  have hB14 : ∀ (M14 : gM) (l0_14 : Nat) (l1_14 : Int) (s0_14 : Int) (s1_14 : Nat), S l0_14 = 13 → (-2147483648 ≤ l1_14 ∧ l1_14 < 2147483648) → (0 ≤ s0_14 ∧ s0_14 ≤ 1) → S s1_14 = 13 → fX10_tasks_B14 G.2.2.2.2 S Ln R M14 l0_14 l1_14 s0_14 s1_14 = some r → JJ G C 0 0 sz S Ln M14 R 14 [(0, .ref l0_14), (1, .int (iI l1_14))] [.int (iI s0_14), .ref s1_14] := by
    intro M14 l0_14 l1_14 s0_14 s1_14 hl0_14 hl1_14 hs0_14 hs1_14 h
    unfold fX10_tasks_B14 at h
    refine jj_iconst hC dX10_tasks_14 ?_
    obtain ⟨q2, hq2, h⟩ := bd_e h
    refine jj_invV hC mvX10_isThrown wd1791 wd24 wd1789 hs1_14 (by decide) rfl (xX10_isThrown (OKC.tr hC) hs1_14 hs0_14 (show (-2147483648 ≤ (1 : Int) ∧ (1 : Int) < 2147483648) from by decide) hq2) rfl rfl (c_le rfl) (c_le rfl) (c_le rfl) (c_le rfl) dX10_tasks_15 noXk (po_kZ (fun hr2 => ?_))
    refine jj_if_ne (tgt := 94) hC dX10_tasks_18 rfl (r_z hr2) (fun hc => ?_) (fun hc => ?_)
    · replace h := (if_pos hc).symm.trans h
      refine jj_iconst hC dX10_tasks_94 ?_
      cases h
      exact jj_iret hC (c_le rfl) (c_le rfl) dX10_tasks_95 ⟨rfl, (show (-2147483648 ≤ (0 : Int) ∧ (0 : Int) < 2147483648) from by decide), rfl, rfl, rfl, rfl, rfl⟩
    · replace h := (if_neg (fun k => k hc)).symm.trans h
      refine jj_aload_n hC dX10_tasks_21 rfl 0 rfl ?_
      refine jj_aload_n hC dX10_tasks_22 rfl 0 rfl ?_
      obtain ⟨q3, hq3, h⟩ := bd_e h
      refine jj_invV hC mvX10_planning wd1811 wd28 wd1809 hl0_14 (by decide) rfl (xX10_planning (OKC.tr hC) hl0_14 hq3) rfl rfl (c_le rfl) (c_le rfl) (c_le rfl) (c_le rfl) dX10_tasks_23 noXk (po_kZ (fun hr3 => ?_))
      refine jj_if_eq (tgt := 40) hC dX10_tasks_26 rfl (r_z hr3) (fun hc => ?_) (fun hc => ?_)
      · replace h := (if_pos hc).symm.trans h
        refine jj_lv (lv' := [(0, .ref l0_14), (1, .int (iI l1_14))]) [0, 1] rfl ?_
        exact hB40 q2.2 l0_14 l1_14 l0_14 hl0_14 hl1_14 hl0_14 h
      · replace h := (if_neg (hc)).symm.trans h
        refine jj_aload_n hC dX10_tasks_29 rfl 0 rfl ?_
        obtain ⟨b21, hb21, hs21, h⟩ := rf_e h
        refine jg_R hC kfX10 0 rfl hl0_14 (by decide) wd1709 rfl hb21 dX10_tasks_30 ?_
        refine jj_iconst hC dX10_tasks_33 ?_
        obtain ⟨⟨ha22, hb22⟩, h⟩ := gd_e h
        refine jj_iald hC hs21 ha22 hb22 dX10_tasks_34 (fun hr22 => ?_)
        refine jj_bipush hC dX10_tasks_35 (by decide) ?_
        refine jj_icmp_ne (tgt := 44) hC dX10_tasks_37 rfl hr22 (show (-2147483648 ≤ (6 : Int) ∧ (6 : Int) < 2147483648) from by decide) (fun hc => ?_) (fun hc => ?_)
        · replace h := (if_pos hc).symm.trans h
          refine jj_iconst hC dX10_tasks_44 ?_
          refine jj_lv (lv' := [(0, .ref l0_14), (1, .int (iI l1_14))]) [0, 1] rfl ?_
          exact hB45 q2.2 l0_14 l1_14 0 l0_14 hl0_14 hl1_14 (show (0 ≤ (0 : Int) ∧ (0 : Int) ≤ 1) from by decide) hl0_14 h
        · replace h := (if_neg (fun k => k hc)).symm.trans h
          refine jj_lv (lv' := [(0, .ref l0_14), (1, .int (iI l1_14))]) [0, 1] rfl ?_
          exact hB40 q2.2 l0_14 l1_14 l0_14 hl0_14 hl1_14 hl0_14 h
  unfold fX10_tasks at h
  refine jj_aload_n hC dX10_tasks_0 rfl 0 rfl ?_
  refine jj_aload_n hC dX10_tasks_1 rfl 0 rfl ?_
  refine jj_iload_n hC dX10_tasks_2 rfl 1 rfl ?_
  obtain ⟨q1, hq1, h⟩ := bd_e h
  refine jj_invV hC mvX10_isPoint wd1807 wd27 wd1805 hs0 (by decide) rfl (xX10_isPoint (OKC.tr hC) hs0 hx1 hq1) rfl rfl (c_le rfl) (c_le rfl) (c_le rfl) (c_le rfl) dX10_tasks_3 noXk (po_kZ (fun hr1 => ?_))
  refine jj_if_ne (tgt := 13) hC dX10_tasks_6 rfl (r_z hr1) (fun hc => ?_) (fun hc => ?_)
  · replace h := (if_pos hc).symm.trans h
    refine jj_iconst hC dX10_tasks_13 ?_
    refine jj_lv (lv' := [(0, .ref a0), (1, .int (iI x1))]) [0, 1] rfl ?_
    exact hB14 M a0 x1 0 a0 hs0 hx1 (show (0 ≤ (0 : Int) ∧ (0 : Int) ≤ 1) from by decide) hs0 h
  · replace h := (if_neg (fun k => k hc)).symm.trans h
    refine jj_iconst hC dX10_tasks_9 ?_
    refine jj_goto (tgt := 14) hC dX10_tasks_10 rfl ?_
    refine jj_lv (lv' := [(0, .ref a0), (1, .int (iI x1))]) [0, 1] rfl ?_
    exact hB14 M a0 x1 1 a0 hs0 hx1 (show (0 ≤ (1 : Int) ∧ (1 : Int) ≤ 1) from by decide) hs0 h
def fX10_addTaskPoint (ad S Ln : Nat → Nat) (R : gR) (M : gM) (a0 : Nat) (x1 : Int) : Option (Int × gM) :=
  bd (fX10_keeps ad S Ln R M a0) fun q1 => bd (fX10_tasks ad S Ln R q1 a0 x1) fun q2 => bd (fX10_ends ad S Ln R q2.2 a0 q2.1) fun q3 => some ((q3.1, q3.2))
theorem xX10_addTaskPoint {l : Launch} {G : gE} {sz : Nat} {S Ln : Nat → Nat} {M : gM} {R : gR} (hl : l.stackTraces = false) {a0 : Nat} (hs0 : S a0 = 13) {x1 : Int} (hx1 : (-2147483648 ≤ x1 ∧ x1 < 2147483648)) {r : Int × gM} (h : fX10_addTaskPoint G.2.2.2.2 S Ln R M a0 x1 = some r) : Ct l G yX10_addTaskPoint cX10_addTaskPoint 2 (some .int) 4 0 0 [.ref a0, .int (iI x1)] sz S Ln M R (poI r.1 sz S Ln (r.2) R) noX := by
  refine jj_start (own := RX10) (lv0 := [(0, .ref a0), (1, .int (iI x1))]) hl (by decide +kernel) rfl rfl (c_le rfl) (fun C hCl hC => ?_)
  unfold fX10_addTaskPoint at h
  refine jj_aload_n hC dX10_addTaskPoint_0 rfl 0 rfl ?_
  obtain ⟨q1, hq1, h⟩ := bd_e h
  refine jj_invV hC mvX10_keeps wd1774 wd22 wd1772 hs0 (by decide) rfl (xX10_keeps (OKC.tr hC) hs0 hq1) rfl rfl (c_le rfl) (c_le rfl) (c_le rfl) (c_le rfl) dX10_addTaskPoint_1 noXk (po_kV ?_)
  refine jj_aload_n hC dX10_addTaskPoint_4 rfl 0 rfl ?_
  refine jj_aload_n hC dX10_addTaskPoint_5 rfl 0 rfl ?_
  refine jj_iload_n hC dX10_addTaskPoint_6 rfl 1 rfl ?_
  obtain ⟨q2, hq2, h⟩ := bd_e h
  refine jj_invV hC mvX10_tasks wd1803 wd26 wd1801 hs0 (by decide) rfl (xX10_tasks (OKC.tr hC) hs0 hx1 hq2) rfl rfl (c_le rfl) (c_le rfl) (c_le rfl) (c_le rfl) dX10_addTaskPoint_7 noXk (po_kI (fun hr2 => ?_))
  obtain ⟨q3, hq3, h⟩ := bd_e h
  refine jj_invV hC mvX10_ends wd1795 wd25 wd1793 hs0 (by decide) rfl (xX10_ends (OKC.tr hC) hs0 hr2 hq3) rfl rfl (c_le rfl) (c_le rfl) (c_le rfl) (c_le rfl) dX10_addTaskPoint_10 noXk (po_kI (fun hr3 => ?_))
  cases h
  exact jj_iret hC (c_le rfl) (c_le rfl) dX10_addTaskPoint_13 ⟨rfl, hr3, rfl, rfl, rfl, rfl, rfl⟩
def fX10_clears_L31 (ad S Ln : Nat → Nat) (R : gR) (l0_31 : Nat) (l1_31 : Int) (s31 : Int × gM) : Option ((Int × gM) ⊕ ((gM) ⊕ (Int × gM))) :=
  if 6 ≤ s31.1 then (some (.inr (.inl s31.2))) else (rf S (R l0_31 0) 20 fun b5 => gd ((0 : Int) ≤ (w32 (23 + s31.1)) ∧ (w32 (23 + s31.1)) < (Ln b5 : Int)) (nam (wr s31.2 b5 (w32 (23 + s31.1)) 0) fun M6 => some (.inl (w32 (s31.1 + 1), M6))))
def fX10_clears_B13 (ad S Ln : Nat → Nat) (R : gR) (M13 : gM) (l0_13 : Nat) (s0_13 : Int) (s1_13 : Nat) : Option (Int × gM) :=
  bd (fX10_isThrown ad S Ln R M13 s1_13 s0_13 1) fun q2 => if q2.1 = 0 then (rf S (R l0_13 0) 20 fun b3 => gd ((0 : Int) ≤ 1 ∧ 1 < (Ln b3 : Int)) (bd (lp (fX10_clears_L31 ad S Ln R l0_13 (q2.2 b3 1)) FU (0, q2.2)) fun q10 => Sum.elim (fun e31_7 => rf S (R l0_13 0) 20 fun b8 => gd ((0 : Int) ≤ 1 ∧ 1 < (Ln b8 : Int)) (nam (wr e31_7 b8 1 0) fun M9 => some ((q2.2 b3 1, M9)))) (fun c10 => some c10) q10)) else (some ((0, q2.2)))
def fX10_clears (ad S Ln : Nat → Nat) (R : gR) (M : gM) (a0 : Nat) : Option (Int × gM) :=
  bd (fX10_planning ad S Ln R M a0) fun q1 => if ¬ q1 = 0 then (fX10_clears_B13 ad S Ln R M a0 0 a0) else (fX10_clears_B13 ad S Ln R M a0 1 a0)
theorem xX10_clears {l : Launch} {G : gE} {sz : Nat} {S Ln : Nat → Nat} {M : gM} {R : gR} (hl : l.stackTraces = false) {a0 : Nat} (hs0 : S a0 = 13) {r : Int × gM} (h : fX10_clears G.2.2.2.2 S Ln R M a0 = some r) : Ct l G yX10_clears cX10_clears 3 (some .int) 3 0 0 [.ref a0] sz S Ln M R (poI r.1 sz S Ln (r.2) R) noX := by
  refine jj_start (own := RX10) (lv0 := [(0, .ref a0)]) hl (by decide +kernel) rfl rfl (c_le rfl) (fun C hCl hC => ?_)
  have hL31 : ∀ (l0_31 : Nat) (l1_31 : Int), S l0_31 = 13 → (-2147483648 ≤ l1_31 ∧ l1_31 < 2147483648) → ∀ (n : Nat) (s31 : Int × gM) (q : (gM) ⊕ (Int × gM)), lp (fX10_clears_L31 G.2.2.2.2 S Ln R l0_31 l1_31) n s31 = some q → (-2147483648 ≤ s31.1 ∧ s31.1 < 2147483648) → (∀ e31, q = .inl e31 → True → JJ G C 0 0 sz S Ln e31 R 53 [(0, .ref l0_31), (1, .int (iI l1_31))] []) → (∀ c, q = .inr c → c = r) → JJ G C 0 0 sz S Ln s31.2 R 31 [(0, .ref l0_31), (1, .int (iI l1_31)), (2, .int (iI s31.1))] [] := by
    intro l0_31 l1_31 hl0_31 hl1_31
    refine lp_ind ?_
    intro s31 r31 hI31 h hJ31 hE31 hR31
    have hs31_0 := hI31
    unfold fX10_clears_L31 at h
    refine jj_iload_n hC dX10_clears_31 rfl 2 rfl ?_
    refine jj_bipush hC dX10_clears_32 (by decide) ?_
    refine jj_icmp_ge (tgt := 53) hC dX10_clears_34 rfl hs31_0 (show (-2147483648 ≤ (6 : Int) ∧ (6 : Int) < 2147483648) from by decide) (fun hc => ?_) (fun hc => ?_)
    · replace h := (if_pos hc).symm.trans h
      refine jj_lv (lv' := [(0, .ref l0_31), (1, .int (iI l1_31))]) [0, 1] rfl ?_
      exact hE31 _ (Option.some.inj h).symm trivial
    · replace h := (if_neg (Int.not_le.mpr hc)).symm.trans h
      refine jj_aload_n hC dX10_clears_37 rfl 0 rfl ?_
      obtain ⟨b5, hb5, hs5, h⟩ := rf_e h
      refine jg_R hC kfX10 0 rfl hl0_31 (by decide) wd1709 rfl hb5 dX10_clears_38 ?_
      refine jj_bipush hC dX10_clears_41 (by decide) ?_
      refine jj_iload_n hC dX10_clears_43 rfl 2 rfl ?_
      refine jg_iadd hC dX10_clears_44 ?_
      refine jj_iconst hC dX10_clears_45 ?_
      obtain ⟨⟨ha6, hb6⟩, h⟩ := gd_e h
      obtain ⟨M6, hM6, h⟩ := nam_e h
      refine jj_iast hC hs5 ha6 hb6 (show (-2147483648 ≤ (0 : Int) ∧ (0 : Int) < 2147483648) from by decide) dX10_clears_46 (jj_M hM6 ?_)
      refine jg_iinc (q := 2) (lv' := [(2, .int (iI (w32 (s31.1 + 1)))), (0, .ref l0_31), (1, .int (iI l1_31))]) hC dX10_clears_47 rfl (by decide) rfl ?_
      refine jj_goto (tgt := 31) hC dX10_clears_50 rfl ?_
      refine jj_lv (lv' := [(0, .ref l0_31), (1, .int (iI l1_31)), (2, .int (iI (w32 (s31.1 + 1))))]) [1, 2, 0] rfl ?_
      exact hJ31 _ (Option.some.inj h).symm (w32_r _)
  have hB13 : ∀ (M13 : gM) (l0_13 : Nat) (s0_13 : Int) (s1_13 : Nat), S l0_13 = 13 → (0 ≤ s0_13 ∧ s0_13 ≤ 1) → S s1_13 = 13 → fX10_clears_B13 G.2.2.2.2 S Ln R M13 l0_13 s0_13 s1_13 = some r → JJ G C 0 0 sz S Ln M13 R 13 [(0, .ref l0_13)] [.int (iI s0_13), .ref s1_13] := by
    intro M13 l0_13 s0_13 s1_13 hl0_13 hs0_13 hs1_13 h
    unfold fX10_clears_B13 at h
    refine jj_iconst hC dX10_clears_13 ?_
    obtain ⟨q2, hq2, h⟩ := bd_e h
    refine jj_invV hC mvX10_isThrown wd1791 wd24 wd1789 hs1_13 (by decide) rfl (xX10_isThrown (OKC.tr hC) hs1_13 hs0_13 (show (-2147483648 ≤ (1 : Int) ∧ (1 : Int) < 2147483648) from by decide) hq2) rfl rfl (c_le rfl) (c_le rfl) (c_le rfl) (c_le rfl) dX10_clears_14 noXk (po_kZ (fun hr2 => ?_))
    refine jj_if_eq (tgt := 22) hC dX10_clears_17 rfl (r_z hr2) (fun hc => ?_) (fun hc => ?_)
    · replace h := (if_pos hc).symm.trans h
      refine jj_aload_n hC dX10_clears_22 rfl 0 rfl ?_
      obtain ⟨b3, hb3, hs3, h⟩ := rf_e h
      refine jg_R hC kfX10 0 rfl hl0_13 (by decide) wd1709 rfl hb3 dX10_clears_23 ?_
      refine jj_iconst hC dX10_clears_26 ?_
      obtain ⟨⟨ha4, hb4⟩, h⟩ := gd_e h
      refine jj_iald hC hs3 ha4 hb4 dX10_clears_27 (fun hr4 => ?_)
      refine jj_istore_n (lv' := [(1, .int (iI (q2.2 b3 1))), (0, .ref l0_13)]) hC dX10_clears_28 rfl (by decide) rfl ?_
      refine jj_iconst hC dX10_clears_29 ?_
      refine jj_istore_n (lv' := [(2, .int (iI 0)), (1, .int (iI (q2.2 b3 1))), (0, .ref l0_13)]) hC dX10_clears_30 rfl (by decide) rfl ?_
      obtain ⟨q10, hq10, h⟩ := bd_e h
      refine jj_lv (lv' := [(0, .ref l0_13), (1, .int (iI (q2.2 b3 1))), (2, .int (iI 0))]) [2, 1, 0] rfl ?_
      refine hL31 l0_13 (q2.2 b3 1) hl0_13 hr4 FU _ q10 hq10 (show (-2147483648 ≤ (0 : Int) ∧ (0 : Int) < 2147483648) from by decide) (fun e31_7 he10 hIE10 => ?_) (fun c10 hc10 => ?_)
      · subst he10
        replace h := el_l h
        refine jj_aload_n hC dX10_clears_53 rfl 0 rfl ?_
        obtain ⟨b8, hb8, hs8, h⟩ := rf_e h
        refine jg_R hC kfX10 0 rfl hl0_13 (by decide) wd1709 rfl hb8 dX10_clears_54 ?_
        refine jj_iconst hC dX10_clears_57 ?_
        refine jj_iconst hC dX10_clears_58 ?_
        obtain ⟨⟨ha9, hb9⟩, h⟩ := gd_e h
        obtain ⟨M9, hM9, h⟩ := nam_e h
        refine jj_iast hC hs8 ha9 hb9 (show (-2147483648 ≤ (0 : Int) ∧ (0 : Int) < 2147483648) from by decide) dX10_clears_59 (jj_M hM9 ?_)
        refine jj_iload_n hC dX10_clears_60 rfl 1 rfl ?_
        cases h
        exact jj_iret hC (c_le rfl) (c_le rfl) dX10_clears_61 ⟨rfl, hr4, rfl, rfl, rfl, rfl, rfl⟩
      · subst hc10
        replace h := el_r h
        exact Option.some.inj h
    · replace h := (if_neg (hc)).symm.trans h
      refine jj_iconst hC dX10_clears_20 ?_
      cases h
      exact jj_iret hC (c_le rfl) (c_le rfl) dX10_clears_21 ⟨rfl, (show (-2147483648 ≤ (0 : Int) ∧ (0 : Int) < 2147483648) from by decide), rfl, rfl, rfl, rfl, rfl⟩
  unfold fX10_clears at h
  refine jj_aload_n hC dX10_clears_0 rfl 0 rfl ?_
  refine jj_aload_n hC dX10_clears_1 rfl 0 rfl ?_
  obtain ⟨q1, hq1, h⟩ := bd_e h
  refine jj_invV hC mvX10_planning wd1811 wd28 wd1809 hs0 (by decide) rfl (xX10_planning (OKC.tr hC) hs0 hq1) rfl rfl (c_le rfl) (c_le rfl) (c_le rfl) (c_le rfl) dX10_clears_2 noXk (po_kZ (fun hr1 => ?_))
  refine jj_if_ne (tgt := 12) hC dX10_clears_5 rfl (r_z hr1) (fun hc => ?_) (fun hc => ?_)
  · replace h := (if_pos hc).symm.trans h
    refine jj_iconst hC dX10_clears_12 ?_
    refine jj_lv (lv' := [(0, .ref a0)]) [0] rfl ?_
    exact hB13 M a0 0 a0 hs0 (show (0 ≤ (0 : Int) ∧ (0 : Int) ≤ 1) from by decide) hs0 h
  · replace h := (if_neg (fun k => k hc)).symm.trans h
    refine jj_iconst hC dX10_clears_8 ?_
    refine jj_goto (tgt := 13) hC dX10_clears_9 rfl ?_
    refine jj_lv (lv' := [(0, .ref a0)]) [0] rfl ?_
    exact hB13 M a0 1 a0 hs0 (show (0 ≤ (1 : Int) ∧ (1 : Int) ≤ 1) from by decide) hs0 h
def fX10_clearTask (ad S Ln : Nat → Nat) (R : gR) (M : gM) (a0 : Nat) : Option (Int × gM) :=
  bd (fX10_keeps ad S Ln R M a0) fun q1 => bd (fX10_clears ad S Ln R q1 a0) fun q2 => bd (fX10_ends ad S Ln R q2.2 a0 q2.1) fun q3 => some ((q3.1, q3.2))
theorem xX10_clearTask {l : Launch} {G : gE} {sz : Nat} {S Ln : Nat → Nat} {M : gM} {R : gR} (hl : l.stackTraces = false) {a0 : Nat} (hs0 : S a0 = 13) {r : Int × gM} (h : fX10_clearTask G.2.2.2.2 S Ln R M a0 = some r) : Ct l G yX10_clearTask cX10_clearTask 1 (some .int) 4 0 0 [.ref a0] sz S Ln M R (poI r.1 sz S Ln (r.2) R) noX := by
  refine jj_start (own := RX10) (lv0 := [(0, .ref a0)]) hl (by decide +kernel) rfl rfl (c_le rfl) (fun C hCl hC => ?_)
  unfold fX10_clearTask at h
  refine jj_aload_n hC dX10_clearTask_0 rfl 0 rfl ?_
  obtain ⟨q1, hq1, h⟩ := bd_e h
  refine jj_invV hC mvX10_keeps wd1774 wd22 wd1772 hs0 (by decide) rfl (xX10_keeps (OKC.tr hC) hs0 hq1) rfl rfl (c_le rfl) (c_le rfl) (c_le rfl) (c_le rfl) dX10_clearTask_1 noXk (po_kV ?_)
  refine jj_aload_n hC dX10_clearTask_4 rfl 0 rfl ?_
  refine jj_aload_n hC dX10_clearTask_5 rfl 0 rfl ?_
  obtain ⟨q2, hq2, h⟩ := bd_e h
  refine jj_invV hC mvX10_clears wd1842 wd34 wd1840 hs0 (by decide) rfl (xX10_clears (OKC.tr hC) hs0 hq2) rfl rfl (c_le rfl) (c_le rfl) (c_le rfl) (c_le rfl) dX10_clearTask_6 noXk (po_kI (fun hr2 => ?_))
  obtain ⟨q3, hq3, h⟩ := bd_e h
  refine jj_invV hC mvX10_ends wd1795 wd25 wd1793 hs0 (by decide) rfl (xX10_ends (OKC.tr hC) hs0 hr2 hq3) rfl rfl (c_le rfl) (c_le rfl) (c_le rfl) (c_le rfl) dX10_clearTask_9 noXk (po_kI (fun hr3 => ?_))
  cases h
  exact jj_iret hC (c_le rfl) (c_le rfl) dX10_clearTask_12 ⟨rfl, hr3, rfl, rfl, rfl, rfl, rfl⟩
def fX10_thermals_B47 (ad S Ln : Nat → Nat) (R : gR) (M47 : gM) (l0_47 : Nat) (l1_47 : Int) (l2_47 : Int) (l3_47 : Int) (s0_47 : Int) (s1_47 : Nat) : Option (Int × gM) :=
  bd (fX10_isThrown ad S Ln R M47 s1_47 s0_47 2) fun q5 => if q5.1 = 0 then (rf S (R l0_47 0) 20 fun b6 => gd ((0 : Int) ≤ 2 ∧ 2 < (Ln b6 : Int)) (rf S (R l0_47 0) 20 fun b8 => gd ((0 : Int) ≤ (w32 (29 + (w32 (3 * (q5.2 b6 2))))) ∧ (w32 (29 + (w32 (3 * (q5.2 b6 2))))) < (Ln b8 : Int)) (nam (wr q5.2 b8 (w32 (29 + (w32 (3 * (q5.2 b6 2))))) l1_47) fun M9 => rf S (R l0_47 0) 20 fun b10 => gd ((0 : Int) ≤ (w32 ((w32 (29 + (w32 (3 * (q5.2 b6 2))))) + 1)) ∧ (w32 ((w32 (29 + (w32 (3 * (q5.2 b6 2))))) + 1)) < (Ln b10 : Int)) (nam (wr M9 b10 (w32 ((w32 (29 + (w32 (3 * (q5.2 b6 2))))) + 1)) l2_47) fun M11 => rf S (R l0_47 0) 20 fun b12 => gd ((0 : Int) ≤ (w32 ((w32 (29 + (w32 (3 * (q5.2 b6 2))))) + 2)) ∧ (w32 ((w32 (29 + (w32 (3 * (q5.2 b6 2))))) + 2)) < (Ln b12 : Int)) (nam (wr M11 b12 (w32 ((w32 (29 + (w32 (3 * (q5.2 b6 2))))) + 2)) l3_47) fun M13 => rf S (R l0_47 0) 20 fun b14 => gd ((0 : Int) ≤ 2 ∧ 2 < (Ln b14 : Int)) (gd ((0 : Int) ≤ 2 ∧ 2 < (Ln b14 : Int)) (nam (wr M13 b14 2 (w32 ((M13 b14 2) + 1))) fun M16 => rf S (R l0_47 0) 20 fun b17 => gd ((0 : Int) ≤ 2 ∧ 2 < (Ln b17 : Int)) (some ((M16 b17 2, M16)))))))))) else (some ((0, q5.2)))
def fX10_thermals_B23 (ad S Ln : Nat → Nat) (R : gR) (M23 : gM) (l0_23 : Nat) (l1_23 : Int) (l2_23 : Int) (l3_23 : Int) (s0_23 : Int) (s1_23 : Nat) : Option (Int × gM) :=
  bd (fX10_isThrown ad S Ln R M23 s1_23 s0_23 1) fun q2 => if ¬ q2.1 = 0 then (some ((0, q2.2))) else (rf S (R l0_23 0) 20 fun b3 => gd ((0 : Int) ≤ 2 ∧ 2 < (Ln b3 : Int)) (if ¬ (q2.2 b3 2) = 6 then (fX10_thermals_B47 ad S Ln R q2.2 l0_23 l1_23 l2_23 l3_23 0 l0_23) else (fX10_thermals_B47 ad S Ln R q2.2 l0_23 l1_23 l2_23 l3_23 1 l0_23)))
def fX10_thermals_B18 (ad S Ln : Nat → Nat) (R : gR) (M18 : gM) (l0_18 : Nat) (l1_18 : Int) (l2_18 : Int) (l3_18 : Int) (s0_18 : Nat) : Option (Int × gM) :=
  fX10_thermals_B23 ad S Ln R M18 l0_18 l1_18 l2_18 l3_18 1 s0_18
def fX10_thermals (ad S Ln : Nat → Nat) (R : gR) (M : gM) (a0 : Nat) (x1 : Int) (x2 : Int) (x3 : Int) : Option (Int × gM) :=
  bd (fX10_isPlace ad S Ln R M x1 x2) fun q1 => if q1 = 0 then (fX10_thermals_B18 ad S Ln R M a0 x1 x2 x3 a0) else (bd (fX10_isIn ad S Ln R M x3 1 5) fun q19 => if ¬ q19 = 0 then (fX10_thermals_B23 ad S Ln R M a0 x1 x2 x3 0 a0) else (fX10_thermals_B18 ad S Ln R M a0 x1 x2 x3 a0))
theorem xX10_thermals {l : Launch} {G : gE} {sz : Nat} {S Ln : Nat → Nat} {M : gM} {R : gR} (hl : l.stackTraces = false) {a0 : Nat} (hs0 : S a0 = 13) {x1 : Int} (hx1 : (-2147483648 ≤ x1 ∧ x1 < 2147483648)) {x2 : Int} (hx2 : (-2147483648 ≤ x2 ∧ x2 < 2147483648)) {x3 : Int} (hx3 : (-2147483648 ≤ x3 ∧ x3 < 2147483648)) {r : Int × gM} (h : fX10_thermals G.2.2.2.2 S Ln R M a0 x1 x2 x3 = some r) : Ct l G yX10_thermals cX10_thermals 5 (some .int) 3 0 0 [.ref a0, .int (iI x1), .int (iI x2), .int (iI x3)] sz S Ln M R (poI r.1 sz S Ln (r.2) R) noX := by
  refine jj_start (own := RX10) (lv0 := [(0, .ref a0), (1, .int (iI x1)), (2, .int (iI x2)), (3, .int (iI x3))]) hl (by decide +kernel) rfl rfl (c_le rfl) (fun C hCl hC => ?_)
  have hB47 : ∀ (M47 : gM) (l0_47 : Nat) (l1_47 : Int) (l2_47 : Int) (l3_47 : Int) (s0_47 : Int) (s1_47 : Nat), S l0_47 = 13 → (-2147483648 ≤ l1_47 ∧ l1_47 < 2147483648) → (-2147483648 ≤ l2_47 ∧ l2_47 < 2147483648) → (-2147483648 ≤ l3_47 ∧ l3_47 < 2147483648) → (0 ≤ s0_47 ∧ s0_47 ≤ 1) → S s1_47 = 13 → fX10_thermals_B47 G.2.2.2.2 S Ln R M47 l0_47 l1_47 l2_47 l3_47 s0_47 s1_47 = some r → JJ G C 0 0 sz S Ln M47 R 47 [(0, .ref l0_47), (1, .int (iI l1_47)), (2, .int (iI l2_47)), (3, .int (iI l3_47))] [.int (iI s0_47), .ref s1_47] := by
    intro M47 l0_47 l1_47 l2_47 l3_47 s0_47 s1_47 hl0_47 hl1_47 hl2_47 hl3_47 hs0_47 hs1_47 h
    unfold fX10_thermals_B47 at h
    refine jj_iconst hC dX10_thermals_47 ?_
    obtain ⟨q5, hq5, h⟩ := bd_e h
    refine jj_invV hC mvX10_isThrown wd1791 wd24 wd1789 hs1_47 (by decide) rfl (xX10_isThrown (OKC.tr hC) hs1_47 hs0_47 (show (-2147483648 ≤ (2 : Int) ∧ (2 : Int) < 2147483648) from by decide) hq5) rfl rfl (c_le rfl) (c_le rfl) (c_le rfl) (c_le rfl) dX10_thermals_48 noXk (po_kZ (fun hr5 => ?_))
    refine jj_if_eq (tgt := 56) hC dX10_thermals_51 rfl (r_z hr5) (fun hc => ?_) (fun hc => ?_)
    · replace h := (if_pos hc).symm.trans h
      refine jj_bipush hC dX10_thermals_56 (by decide) ?_
      refine jj_iconst hC dX10_thermals_58 ?_
      refine jj_aload_n hC dX10_thermals_59 rfl 0 rfl ?_
      obtain ⟨b6, hb6, hs6, h⟩ := rf_e h
      refine jg_R hC kfX10 0 rfl hl0_47 (by decide) wd1709 rfl hb6 dX10_thermals_60 ?_
      refine jj_iconst hC dX10_thermals_63 ?_
      obtain ⟨⟨ha7, hb7⟩, h⟩ := gd_e h
      refine jj_iald hC hs6 ha7 hb7 dX10_thermals_64 (fun hr7 => ?_)
      refine jg_imul hC dX10_thermals_65 ?_
      refine jg_iadd hC dX10_thermals_66 ?_
      refine jj_istore (lv' := [(4, .int (iI (w32 (29 + (w32 (3 * (q5.2 b6 2))))))), (0, .ref l0_47), (1, .int (iI l1_47)), (2, .int (iI l2_47)), (3, .int (iI l3_47))]) hC dX10_thermals_67 (by decide) rfl ?_
      refine jj_aload_n hC dX10_thermals_69 rfl 1 rfl ?_
      obtain ⟨b8, hb8, hs8, h⟩ := rf_e h
      refine jg_R hC kfX10 0 rfl hl0_47 (by decide) wd1709 rfl hb8 dX10_thermals_70 ?_
      refine jj_iload hC dX10_thermals_73 0 rfl ?_
      refine jj_iload_n hC dX10_thermals_75 rfl 2 rfl ?_
      obtain ⟨⟨ha9, hb9⟩, h⟩ := gd_e h
      obtain ⟨M9, hM9, h⟩ := nam_e h
      refine jj_iast hC hs8 ha9 hb9 hl1_47 dX10_thermals_76 (jj_M hM9 ?_)
      refine jj_aload_n hC dX10_thermals_77 rfl 1 rfl ?_
      obtain ⟨b10, hb10, hs10, h⟩ := rf_e h
      refine jg_R hC kfX10 0 rfl hl0_47 (by decide) wd1709 rfl hb10 dX10_thermals_78 ?_
      refine jj_iload hC dX10_thermals_81 0 rfl ?_
      refine jj_iconst hC dX10_thermals_83 ?_
      refine jg_iadd hC dX10_thermals_84 ?_
      refine jj_iload_n hC dX10_thermals_85 rfl 3 rfl ?_
      obtain ⟨⟨ha11, hb11⟩, h⟩ := gd_e h
      obtain ⟨M11, hM11, h⟩ := nam_e h
      refine jj_iast hC hs10 ha11 hb11 hl2_47 dX10_thermals_86 (jj_M hM11 ?_)
      refine jj_aload_n hC dX10_thermals_87 rfl 1 rfl ?_
      obtain ⟨b12, hb12, hs12, h⟩ := rf_e h
      refine jg_R hC kfX10 0 rfl hl0_47 (by decide) wd1709 rfl hb12 dX10_thermals_88 ?_
      refine jj_iload hC dX10_thermals_91 0 rfl ?_
      refine jj_iconst hC dX10_thermals_93 ?_
      refine jg_iadd hC dX10_thermals_94 ?_
      refine jj_iload_n hC dX10_thermals_95 rfl 4 rfl ?_
      obtain ⟨⟨ha13, hb13⟩, h⟩ := gd_e h
      obtain ⟨M13, hM13, h⟩ := nam_e h
      refine jj_iast hC hs12 ha13 hb13 hl3_47 dX10_thermals_96 (jj_M hM13 ?_)
      refine jj_aload_n hC dX10_thermals_97 rfl 1 rfl ?_
      obtain ⟨b14, hb14, hs14, h⟩ := rf_e h
      refine jg_R hC kfX10 0 rfl hl0_47 (by decide) wd1709 rfl hb14 dX10_thermals_98 ?_
      refine jj_iconst hC dX10_thermals_101 ?_
      refine jj_dup2 hC dX10_thermals_102 rfl rfl ?_
      obtain ⟨⟨ha15, hb15⟩, h⟩ := gd_e h
      refine jj_iald hC hs14 ha15 hb15 dX10_thermals_103 (fun hr15 => ?_)
      refine jj_iconst hC dX10_thermals_104 ?_
      refine jg_iadd hC dX10_thermals_105 ?_
      obtain ⟨⟨ha16, hb16⟩, h⟩ := gd_e h
      obtain ⟨M16, hM16, h⟩ := nam_e h
      refine jj_iast hC hs14 ha16 hb16 (w32_r _) dX10_thermals_106 (jj_M hM16 ?_)
      refine jj_aload_n hC dX10_thermals_107 rfl 1 rfl ?_
      obtain ⟨b17, hb17, hs17, h⟩ := rf_e h
      refine jg_R hC kfX10 0 rfl hl0_47 (by decide) wd1709 rfl hb17 dX10_thermals_108 ?_
      refine jj_iconst hC dX10_thermals_111 ?_
      obtain ⟨⟨ha18, hb18⟩, h⟩ := gd_e h
      refine jj_iald hC hs17 ha18 hb18 dX10_thermals_112 (fun hr18 => ?_)
      cases h
      exact jj_iret hC (c_le rfl) (c_le rfl) dX10_thermals_113 ⟨rfl, hr18, rfl, rfl, rfl, rfl, rfl⟩
    · replace h := (if_neg (hc)).symm.trans h
      refine jj_iconst hC dX10_thermals_54 ?_
      cases h
      exact jj_iret hC (c_le rfl) (c_le rfl) dX10_thermals_55 ⟨rfl, (show (-2147483648 ≤ (0 : Int) ∧ (0 : Int) < 2147483648) from by decide), rfl, rfl, rfl, rfl, rfl⟩
  have hB23 : ∀ (M23 : gM) (l0_23 : Nat) (l1_23 : Int) (l2_23 : Int) (l3_23 : Int) (s0_23 : Int) (s1_23 : Nat), S l0_23 = 13 → (-2147483648 ≤ l1_23 ∧ l1_23 < 2147483648) → (-2147483648 ≤ l2_23 ∧ l2_23 < 2147483648) → (-2147483648 ≤ l3_23 ∧ l3_23 < 2147483648) → (0 ≤ s0_23 ∧ s0_23 ≤ 1) → S s1_23 = 13 → fX10_thermals_B23 G.2.2.2.2 S Ln R M23 l0_23 l1_23 l2_23 l3_23 s0_23 s1_23 = some r → JJ G C 0 0 sz S Ln M23 R 23 [(0, .ref l0_23), (1, .int (iI l1_23)), (2, .int (iI l2_23)), (3, .int (iI l3_23))] [.int (iI s0_23), .ref s1_23] := by
    intro M23 l0_23 l1_23 l2_23 l3_23 s0_23 s1_23 hl0_23 hl1_23 hl2_23 hl3_23 hs0_23 hs1_23 h
    unfold fX10_thermals_B23 at h
    refine jj_iconst hC dX10_thermals_23 ?_
    obtain ⟨q2, hq2, h⟩ := bd_e h
    refine jj_invV hC mvX10_isThrown wd1791 wd24 wd1789 hs1_23 (by decide) rfl (xX10_isThrown (OKC.tr hC) hs1_23 hs0_23 (show (-2147483648 ≤ (1 : Int) ∧ (1 : Int) < 2147483648) from by decide) hq2) rfl rfl (c_le rfl) (c_le rfl) (c_le rfl) (c_le rfl) dX10_thermals_24 noXk (po_kZ (fun hr2 => ?_))
    refine jj_if_ne (tgt := 54) hC dX10_thermals_27 rfl (r_z hr2) (fun hc => ?_) (fun hc => ?_)
    · replace h := (if_pos hc).symm.trans h
      refine jj_iconst hC dX10_thermals_54 ?_
      cases h
      exact jj_iret hC (c_le rfl) (c_le rfl) dX10_thermals_55 ⟨rfl, (show (-2147483648 ≤ (0 : Int) ∧ (0 : Int) < 2147483648) from by decide), rfl, rfl, rfl, rfl, rfl⟩
    · replace h := (if_neg (fun k => k hc)).symm.trans h
      refine jj_aload_n hC dX10_thermals_30 rfl 0 rfl ?_
      refine jj_aload_n hC dX10_thermals_31 rfl 0 rfl ?_
      obtain ⟨b3, hb3, hs3, h⟩ := rf_e h
      refine jg_R hC kfX10 0 rfl hl0_23 (by decide) wd1709 rfl hb3 dX10_thermals_32 ?_
      refine jj_iconst hC dX10_thermals_35 ?_
      obtain ⟨⟨ha4, hb4⟩, h⟩ := gd_e h
      refine jj_iald hC hs3 ha4 hb4 dX10_thermals_36 (fun hr4 => ?_)
      refine jj_bipush hC dX10_thermals_37 (by decide) ?_
      refine jj_icmp_ne (tgt := 46) hC dX10_thermals_39 rfl hr4 (show (-2147483648 ≤ (6 : Int) ∧ (6 : Int) < 2147483648) from by decide) (fun hc => ?_) (fun hc => ?_)
      · replace h := (if_pos hc).symm.trans h
        refine jj_iconst hC dX10_thermals_46 ?_
        refine jj_lv (lv' := [(0, .ref l0_23), (1, .int (iI l1_23)), (2, .int (iI l2_23)), (3, .int (iI l3_23))]) [0, 1, 2, 3] rfl ?_
        exact hB47 q2.2 l0_23 l1_23 l2_23 l3_23 0 l0_23 hl0_23 hl1_23 hl2_23 hl3_23 (show (0 ≤ (0 : Int) ∧ (0 : Int) ≤ 1) from by decide) hl0_23 h
      · replace h := (if_neg (fun k => k hc)).symm.trans h
        refine jj_iconst hC dX10_thermals_42 ?_
        refine jj_goto (tgt := 47) hC dX10_thermals_43 rfl ?_
        refine jj_lv (lv' := [(0, .ref l0_23), (1, .int (iI l1_23)), (2, .int (iI l2_23)), (3, .int (iI l3_23))]) [0, 1, 2, 3] rfl ?_
        exact hB47 q2.2 l0_23 l1_23 l2_23 l3_23 1 l0_23 hl0_23 hl1_23 hl2_23 hl3_23 (show (0 ≤ (1 : Int) ∧ (1 : Int) ≤ 1) from by decide) hl0_23 h
  have hB18 : ∀ (M18 : gM) (l0_18 : Nat) (l1_18 : Int) (l2_18 : Int) (l3_18 : Int) (s0_18 : Nat), S l0_18 = 13 → (-2147483648 ≤ l1_18 ∧ l1_18 < 2147483648) → (-2147483648 ≤ l2_18 ∧ l2_18 < 2147483648) → (-2147483648 ≤ l3_18 ∧ l3_18 < 2147483648) → S s0_18 = 13 → fX10_thermals_B18 G.2.2.2.2 S Ln R M18 l0_18 l1_18 l2_18 l3_18 s0_18 = some r → JJ G C 0 0 sz S Ln M18 R 18 [(0, .ref l0_18), (1, .int (iI l1_18)), (2, .int (iI l2_18)), (3, .int (iI l3_18))] [.ref s0_18] := by
    intro M18 l0_18 l1_18 l2_18 l3_18 s0_18 hl0_18 hl1_18 hl2_18 hl3_18 hs0_18 h
    unfold fX10_thermals_B18 at h
    refine jj_iconst hC dX10_thermals_18 ?_
    refine jj_goto (tgt := 23) hC dX10_thermals_19 rfl ?_
    refine jj_lv (lv' := [(0, .ref l0_18), (1, .int (iI l1_18)), (2, .int (iI l2_18)), (3, .int (iI l3_18))]) [0, 1, 2, 3] rfl ?_
    exact hB23 M18 l0_18 l1_18 l2_18 l3_18 1 s0_18 hl0_18 hl1_18 hl2_18 hl3_18 (show (0 ≤ (1 : Int) ∧ (1 : Int) ≤ 1) from by decide) hs0_18 h
  unfold fX10_thermals at h
  refine jj_aload_n hC dX10_thermals_0 rfl 0 rfl ?_
  refine jj_iload_n hC dX10_thermals_1 rfl 1 rfl ?_
  refine jj_iload_n hC dX10_thermals_2 rfl 2 rfl ?_
  obtain ⟨q1, hq1, h⟩ := bd_e h
  refine jj_invS hC mvX10_isPlace wd1784 wd1783 (xX10_isPlace (OKC.tr hC) hx1 hx2 hq1) rfl rfl (c_le rfl) (c_le rfl) (c_le rfl) (c_le rfl) dX10_thermals_3 noXk (po_kZ (fun hr1 => ?_))
  refine jj_if_eq (tgt := 18) hC dX10_thermals_6 rfl (r_z hr1) (fun hc => ?_) (fun hc => ?_)
  · replace h := (if_pos hc).symm.trans h
    refine jj_lv (lv' := [(0, .ref a0), (1, .int (iI x1)), (2, .int (iI x2)), (3, .int (iI x3))]) [0, 1, 2, 3] rfl ?_
    exact hB18 M a0 x1 x2 x3 a0 hs0 hx1 hx2 hx3 hs0 h
  · replace h := (if_neg (hc)).symm.trans h
    refine jj_iload_n hC dX10_thermals_9 rfl 3 rfl ?_
    refine jj_iconst hC dX10_thermals_10 ?_
    refine jj_iconst hC dX10_thermals_11 ?_
    obtain ⟨q19, hq19, h⟩ := bd_e h
    refine jj_invS hC mvX10_isIn wd1787 wd1786 (xX10_isIn (OKC.tr hC) hx3 (show (-2147483648 ≤ (1 : Int) ∧ (1 : Int) < 2147483648) from by decide) (show (-2147483648 ≤ (5 : Int) ∧ (5 : Int) < 2147483648) from by decide) hq19) rfl rfl (c_le rfl) (c_le rfl) (c_le rfl) (c_le rfl) dX10_thermals_12 noXk (po_kZ (fun hr19 => ?_))
    refine jj_if_ne (tgt := 22) hC dX10_thermals_15 rfl (r_z hr19) (fun hc => ?_) (fun hc => ?_)
    · replace h := (if_pos hc).symm.trans h
      refine jj_iconst hC dX10_thermals_22 ?_
      refine jj_lv (lv' := [(0, .ref a0), (1, .int (iI x1)), (2, .int (iI x2)), (3, .int (iI x3))]) [0, 1, 2, 3] rfl ?_
      exact hB23 M a0 x1 x2 x3 0 a0 hs0 hx1 hx2 hx3 (show (0 ≤ (0 : Int) ∧ (0 : Int) ≤ 1) from by decide) hs0 h
    · replace h := (if_neg (fun k => k hc)).symm.trans h
      refine jj_lv (lv' := [(0, .ref a0), (1, .int (iI x1)), (2, .int (iI x2)), (3, .int (iI x3))]) [0, 1, 2, 3] rfl ?_
      exact hB18 M a0 x1 x2 x3 a0 hs0 hx1 hx2 hx3 hs0 h
def fX10_addThermal (ad S Ln : Nat → Nat) (R : gR) (M : gM) (a0 : Nat) (x1 : Int) (x2 : Int) (x3 : Int) : Option (Int × gM) :=
  bd (fX10_keeps ad S Ln R M a0) fun q1 => bd (fX10_thermals ad S Ln R q1 a0 x1 x2 x3) fun q2 => bd (fX10_ends ad S Ln R q2.2 a0 q2.1) fun q3 => some ((q3.1, q3.2))
theorem xX10_addThermal {l : Launch} {G : gE} {sz : Nat} {S Ln : Nat → Nat} {M : gM} {R : gR} (hl : l.stackTraces = false) {a0 : Nat} (hs0 : S a0 = 13) {x1 : Int} (hx1 : (-2147483648 ≤ x1 ∧ x1 < 2147483648)) {x2 : Int} (hx2 : (-2147483648 ≤ x2 ∧ x2 < 2147483648)) {x3 : Int} (hx3 : (-2147483648 ≤ x3 ∧ x3 < 2147483648)) {r : Int × gM} (h : fX10_addThermal G.2.2.2.2 S Ln R M a0 x1 x2 x3 = some r) : Ct l G yX10_addThermal cX10_addThermal 4 (some .int) 4 0 0 [.ref a0, .int (iI x1), .int (iI x2), .int (iI x3)] sz S Ln M R (poI r.1 sz S Ln (r.2) R) noX := by
  refine jj_start (own := RX10) (lv0 := [(0, .ref a0), (1, .int (iI x1)), (2, .int (iI x2)), (3, .int (iI x3))]) hl (by decide +kernel) rfl rfl (c_le rfl) (fun C hCl hC => ?_)
  unfold fX10_addThermal at h
  refine jj_aload_n hC dX10_addThermal_0 rfl 0 rfl ?_
  obtain ⟨q1, hq1, h⟩ := bd_e h
  refine jj_invV hC mvX10_keeps wd1774 wd22 wd1772 hs0 (by decide) rfl (xX10_keeps (OKC.tr hC) hs0 hq1) rfl rfl (c_le rfl) (c_le rfl) (c_le rfl) (c_le rfl) dX10_addThermal_1 noXk (po_kV ?_)
  refine jj_aload_n hC dX10_addThermal_4 rfl 0 rfl ?_
  refine jj_aload_n hC dX10_addThermal_5 rfl 0 rfl ?_
  refine jj_iload_n hC dX10_addThermal_6 rfl 1 rfl ?_
  refine jj_iload_n hC dX10_addThermal_7 rfl 2 rfl ?_
  refine jj_iload_n hC dX10_addThermal_8 rfl 3 rfl ?_
  obtain ⟨q2, hq2, h⟩ := bd_e h
  refine jj_invV hC mvX10_thermals wd1850 wd35 wd1848 hs0 (by decide) rfl (xX10_thermals (OKC.tr hC) hs0 hx1 hx2 hx3 hq2) rfl rfl (c_le rfl) (c_le rfl) (c_le rfl) (c_le rfl) dX10_addThermal_9 noXk (po_kI (fun hr2 => ?_))
  obtain ⟨q3, hq3, h⟩ := bd_e h
  refine jj_invV hC mvX10_ends wd1795 wd25 wd1793 hs0 (by decide) rfl (xX10_ends (OKC.tr hC) hs0 hr2 hq3) rfl rfl (c_le rfl) (c_le rfl) (c_le rfl) (c_le rfl) dX10_addThermal_12 noXk (po_kI (fun hr3 => ?_))
  cases h
  exact jj_iret hC (c_le rfl) (c_le rfl) dX10_addThermal_15 ⟨rfl, hr3, rfl, rfl, rfl, rfl, rfl⟩
def fX10_bases_B19 (ad S Ln : Nat → Nat) (R : gR) (M19 : gM) (l0_19 : Nat) (l1_19 : Int) (s0_19 : Int) (s1_19 : Nat) : Option (Int × gM) :=
  bd (fX10_isThrown ad S Ln R M19 s1_19 s0_19 1) fun q2 => if q2.1 = 0 then (rf S (R l0_19 0) 20 fun b3 => gd ((0 : Int) ≤ 5 ∧ 5 < (Ln b3 : Int)) (rf S (R l0_19 0) 20 fun b5 => gd ((0 : Int) ≤ 5 ∧ 5 < (Ln b5 : Int)) (nam (wr q2.2 b5 5 l1_19) fun M6 => some ((q2.2 b3 5, M6))))) else (some ((0, q2.2)))
def fX10_bases (ad S Ln : Nat → Nat) (R : gR) (M : gM) (a0 : Nat) (x1 : Int) : Option (Int × gM) :=
  bd (fX10_isIn ad S Ln R M x1 500 3000) fun q1 => if ¬ q1 = 0 then (fX10_bases_B19 ad S Ln R M a0 x1 0 a0) else (fX10_bases_B19 ad S Ln R M a0 x1 1 a0)
theorem xX10_bases {l : Launch} {G : gE} {sz : Nat} {S Ln : Nat → Nat} {M : gM} {R : gR} (hl : l.stackTraces = false) {a0 : Nat} (hs0 : S a0 = 13) {x1 : Int} (hx1 : (-2147483648 ≤ x1 ∧ x1 < 2147483648)) {r : Int × gM} (h : fX10_bases G.2.2.2.2 S Ln R M a0 x1 = some r) : Ct l G yX10_bases cX10_bases 3 (some .int) 2 0 0 [.ref a0, .int (iI x1)] sz S Ln M R (poI r.1 sz S Ln (r.2) R) noX := by
  refine jj_start (own := RX10) (lv0 := [(0, .ref a0), (1, .int (iI x1))]) hl (by decide +kernel) rfl rfl (c_le rfl) (fun C hCl hC => ?_)
  have hB19 : ∀ (M19 : gM) (l0_19 : Nat) (l1_19 : Int) (s0_19 : Int) (s1_19 : Nat), S l0_19 = 13 → (-2147483648 ≤ l1_19 ∧ l1_19 < 2147483648) → (0 ≤ s0_19 ∧ s0_19 ≤ 1) → S s1_19 = 13 → fX10_bases_B19 G.2.2.2.2 S Ln R M19 l0_19 l1_19 s0_19 s1_19 = some r → JJ G C 0 0 sz S Ln M19 R 19 [(0, .ref l0_19), (1, .int (iI l1_19))] [.int (iI s0_19), .ref s1_19] := by
    intro M19 l0_19 l1_19 s0_19 s1_19 hl0_19 hl1_19 hs0_19 hs1_19 h
    unfold fX10_bases_B19 at h
    refine jj_iconst hC dX10_bases_19 ?_
    obtain ⟨q2, hq2, h⟩ := bd_e h
    refine jj_invV hC mvX10_isThrown wd1791 wd24 wd1789 hs1_19 (by decide) rfl (xX10_isThrown (OKC.tr hC) hs1_19 hs0_19 (show (-2147483648 ≤ (1 : Int) ∧ (1 : Int) < 2147483648) from by decide) hq2) rfl rfl (c_le rfl) (c_le rfl) (c_le rfl) (c_le rfl) dX10_bases_20 noXk (po_kZ (fun hr2 => ?_))
    refine jj_if_eq (tgt := 28) hC dX10_bases_23 rfl (r_z hr2) (fun hc => ?_) (fun hc => ?_)
    · replace h := (if_pos hc).symm.trans h
      refine jj_aload_n hC dX10_bases_28 rfl 0 rfl ?_
      obtain ⟨b3, hb3, hs3, h⟩ := rf_e h
      refine jg_R hC kfX10 0 rfl hl0_19 (by decide) wd1709 rfl hb3 dX10_bases_29 ?_
      refine jj_iconst hC dX10_bases_32 ?_
      obtain ⟨⟨ha4, hb4⟩, h⟩ := gd_e h
      refine jj_iald hC hs3 ha4 hb4 dX10_bases_33 (fun hr4 => ?_)
      refine jj_istore_n (lv' := [(2, .int (iI (q2.2 b3 5))), (0, .ref l0_19), (1, .int (iI l1_19))]) hC dX10_bases_34 rfl (by decide) rfl ?_
      refine jj_aload_n hC dX10_bases_35 rfl 1 rfl ?_
      obtain ⟨b5, hb5, hs5, h⟩ := rf_e h
      refine jg_R hC kfX10 0 rfl hl0_19 (by decide) wd1709 rfl hb5 dX10_bases_36 ?_
      refine jj_iconst hC dX10_bases_39 ?_
      refine jj_iload_n hC dX10_bases_40 rfl 2 rfl ?_
      obtain ⟨⟨ha6, hb6⟩, h⟩ := gd_e h
      obtain ⟨M6, hM6, h⟩ := nam_e h
      refine jj_iast hC hs5 ha6 hb6 hl1_19 dX10_bases_41 (jj_M hM6 ?_)
      refine jj_iload_n hC dX10_bases_42 rfl 0 rfl ?_
      cases h
      exact jj_iret hC (c_le rfl) (c_le rfl) dX10_bases_43 ⟨rfl, hr4, rfl, rfl, rfl, rfl, rfl⟩
    · replace h := (if_neg (hc)).symm.trans h
      refine jj_iconst hC dX10_bases_26 ?_
      cases h
      exact jj_iret hC (c_le rfl) (c_le rfl) dX10_bases_27 ⟨rfl, (show (-2147483648 ≤ (0 : Int) ∧ (0 : Int) < 2147483648) from by decide), rfl, rfl, rfl, rfl, rfl⟩
  unfold fX10_bases at h
  refine jj_aload_n hC dX10_bases_0 rfl 0 rfl ?_
  refine jj_iload_n hC dX10_bases_1 rfl 1 rfl ?_
  refine jj_sipush hC dX10_bases_2 (by decide) ?_
  refine jj_sipush hC dX10_bases_5 (by decide) ?_
  obtain ⟨q1, hq1, h⟩ := bd_e h
  refine jj_invS hC mvX10_isIn wd1787 wd1786 (xX10_isIn (OKC.tr hC) hx1 (show (-2147483648 ≤ (500 : Int) ∧ (500 : Int) < 2147483648) from by decide) (show (-2147483648 ≤ (3000 : Int) ∧ (3000 : Int) < 2147483648) from by decide) hq1) rfl rfl (c_le rfl) (c_le rfl) (c_le rfl) (c_le rfl) dX10_bases_8 noXk (po_kZ (fun hr1 => ?_))
  refine jj_if_ne (tgt := 18) hC dX10_bases_11 rfl (r_z hr1) (fun hc => ?_) (fun hc => ?_)
  · replace h := (if_pos hc).symm.trans h
    refine jj_iconst hC dX10_bases_18 ?_
    refine jj_lv (lv' := [(0, .ref a0), (1, .int (iI x1))]) [0, 1] rfl ?_
    exact hB19 M a0 x1 0 a0 hs0 hx1 (show (0 ≤ (0 : Int) ∧ (0 : Int) ≤ 1) from by decide) hs0 h
  · replace h := (if_neg (fun k => k hc)).symm.trans h
    refine jj_iconst hC dX10_bases_14 ?_
    refine jj_goto (tgt := 19) hC dX10_bases_15 rfl ?_
    refine jj_lv (lv' := [(0, .ref a0), (1, .int (iI x1))]) [0, 1] rfl ?_
    exact hB19 M a0 x1 1 a0 hs0 hx1 (show (0 ≤ (1 : Int) ∧ (1 : Int) ≤ 1) from by decide) hs0 h
def fX10_setCloudBase (ad S Ln : Nat → Nat) (R : gR) (M : gM) (a0 : Nat) (x1 : Int) : Option (Int × gM) :=
  bd (fX10_keeps ad S Ln R M a0) fun q1 => bd (fX10_bases ad S Ln R q1 a0 x1) fun q2 => bd (fX10_ends ad S Ln R q2.2 a0 q2.1) fun q3 => some ((q3.1, q3.2))
theorem xX10_setCloudBase {l : Launch} {G : gE} {sz : Nat} {S Ln : Nat → Nat} {M : gM} {R : gR} (hl : l.stackTraces = false) {a0 : Nat} (hs0 : S a0 = 13) {x1 : Int} (hx1 : (-2147483648 ≤ x1 ∧ x1 < 2147483648)) {r : Int × gM} (h : fX10_setCloudBase G.2.2.2.2 S Ln R M a0 x1 = some r) : Ct l G yX10_setCloudBase cX10_setCloudBase 2 (some .int) 3 0 0 [.ref a0, .int (iI x1)] sz S Ln M R (poI r.1 sz S Ln (r.2) R) noX := by
  refine jj_start (own := RX10) (lv0 := [(0, .ref a0), (1, .int (iI x1))]) hl (by decide +kernel) rfl rfl (c_le rfl) (fun C hCl hC => ?_)
  unfold fX10_setCloudBase at h
  refine jj_aload_n hC dX10_setCloudBase_0 rfl 0 rfl ?_
  obtain ⟨q1, hq1, h⟩ := bd_e h
  refine jj_invV hC mvX10_keeps wd1774 wd22 wd1772 hs0 (by decide) rfl (xX10_keeps (OKC.tr hC) hs0 hq1) rfl rfl (c_le rfl) (c_le rfl) (c_le rfl) (c_le rfl) dX10_setCloudBase_1 noXk (po_kV ?_)
  refine jj_aload_n hC dX10_setCloudBase_4 rfl 0 rfl ?_
  refine jj_aload_n hC dX10_setCloudBase_5 rfl 0 rfl ?_
  refine jj_iload_n hC dX10_setCloudBase_6 rfl 1 rfl ?_
  obtain ⟨q2, hq2, h⟩ := bd_e h
  refine jj_invV hC mvX10_bases wd1858 wd36 wd1856 hs0 (by decide) rfl (xX10_bases (OKC.tr hC) hs0 hx1 hq2) rfl rfl (c_le rfl) (c_le rfl) (c_le rfl) (c_le rfl) dX10_setCloudBase_7 noXk (po_kI (fun hr2 => ?_))
  obtain ⟨q3, hq3, h⟩ := bd_e h
  refine jj_invV hC mvX10_ends wd1795 wd25 wd1793 hs0 (by decide) rfl (xX10_ends (OKC.tr hC) hs0 hr2 hq3) rfl rfl (c_le rfl) (c_le rfl) (c_le rfl) (c_le rfl) dX10_setCloudBase_10 noXk (po_kI (fun hr3 => ?_))
  cases h
  exact jj_iret hC (c_le rfl) (c_le rfl) dX10_setCloudBase_13 ⟨rfl, hr3, rfl, rfl, rfl, rfl, rfl⟩
def fX10_areas_B58 (ad S Ln : Nat → Nat) (R : gR) (M58 : gM) (l0_58 : Nat) (l1_58 : Int) (l2_58 : Int) (l3_58 : Int) (l4_58 : Int) (s0_58 : Int) (s1_58 : Nat) : Option (Int × gM) :=
  bd (fX10_isThrown ad S Ln R M58 s1_58 s0_58 2) fun q5 => if q5.1 = 0 then (rf S (R l0_58 0) 20 fun b6 => gd ((0 : Int) ≤ 3 ∧ 3 < (Ln b6 : Int)) (rf S (R l0_58 0) 20 fun b8 => gd ((0 : Int) ≤ (w32 (47 + (w32 (4 * (q5.2 b6 3))))) ∧ (w32 (47 + (w32 (4 * (q5.2 b6 3))))) < (Ln b8 : Int)) (nam (wr q5.2 b8 (w32 (47 + (w32 (4 * (q5.2 b6 3))))) l1_58) fun M9 => rf S (R l0_58 0) 20 fun b10 => gd ((0 : Int) ≤ (w32 ((w32 (47 + (w32 (4 * (q5.2 b6 3))))) + 1)) ∧ (w32 ((w32 (47 + (w32 (4 * (q5.2 b6 3))))) + 1)) < (Ln b10 : Int)) (nam (wr M9 b10 (w32 ((w32 (47 + (w32 (4 * (q5.2 b6 3))))) + 1)) l2_58) fun M11 => rf S (R l0_58 0) 20 fun b12 => gd ((0 : Int) ≤ (w32 ((w32 (47 + (w32 (4 * (q5.2 b6 3))))) + 2)) ∧ (w32 ((w32 (47 + (w32 (4 * (q5.2 b6 3))))) + 2)) < (Ln b12 : Int)) (nam (wr M11 b12 (w32 ((w32 (47 + (w32 (4 * (q5.2 b6 3))))) + 2)) l3_58) fun M13 => rf S (R l0_58 0) 20 fun b14 => gd ((0 : Int) ≤ (w32 ((w32 (47 + (w32 (4 * (q5.2 b6 3))))) + 3)) ∧ (w32 ((w32 (47 + (w32 (4 * (q5.2 b6 3))))) + 3)) < (Ln b14 : Int)) (nam (wr M13 b14 (w32 ((w32 (47 + (w32 (4 * (q5.2 b6 3))))) + 3)) l4_58) fun M15 => rf S (R l0_58 0) 20 fun b16 => gd ((0 : Int) ≤ 3 ∧ 3 < (Ln b16 : Int)) (gd ((0 : Int) ≤ 3 ∧ 3 < (Ln b16 : Int)) (nam (wr M15 b16 3 (w32 ((M15 b16 3) + 1))) fun M18 => rf S (R l0_58 0) 20 fun b19 => gd ((0 : Int) ≤ 3 ∧ 3 < (Ln b19 : Int)) (some ((M18 b19 3, M18))))))))))) else (some ((0, q5.2)))
def fX10_areas_B35 (ad S Ln : Nat → Nat) (R : gR) (M35 : gM) (l0_35 : Nat) (l1_35 : Int) (l2_35 : Int) (l3_35 : Int) (l4_35 : Int) (s0_35 : Int) (s1_35 : Nat) : Option (Int × gM) :=
  bd (fX10_isThrown ad S Ln R M35 s1_35 s0_35 1) fun q2 => if ¬ q2.1 = 0 then (some ((0, q2.2))) else (rf S (R l0_35 0) 20 fun b3 => gd ((0 : Int) ≤ 3 ∧ 3 < (Ln b3 : Int)) (if ¬ (q2.2 b3 3) = 3 then (fX10_areas_B58 ad S Ln R q2.2 l0_35 l1_35 l2_35 l3_35 l4_35 0 l0_35) else (fX10_areas_B58 ad S Ln R q2.2 l0_35 l1_35 l2_35 l3_35 l4_35 1 l0_35)))
def fX10_areas_B30 (ad S Ln : Nat → Nat) (R : gR) (M30 : gM) (l0_30 : Nat) (l1_30 : Int) (l2_30 : Int) (l3_30 : Int) (l4_30 : Int) (s0_30 : Nat) : Option (Int × gM) :=
  fX10_areas_B35 ad S Ln R M30 l0_30 l1_30 l2_30 l3_30 l4_30 1 s0_30
def fX10_areas (ad S Ln : Nat → Nat) (R : gR) (M : gM) (a0 : Nat) (x1 : Int) (x2 : Int) (x3 : Int) (x4 : Int) : Option (Int × gM) :=
  bd (fX10_isPlace ad S Ln R M x1 x2) fun q1 => if q1 = 0 then (fX10_areas_B30 ad S Ln R M a0 x1 x2 x3 x4 a0) else (bd (fX10_isIn ad S Ln R M x3 x1 60) fun q21 => if q21 = 0 then (fX10_areas_B30 ad S Ln R M a0 x1 x2 x3 x4 a0) else (bd (fX10_isIn ad S Ln R M x4 x2 60) fun q22 => if ¬ q22 = 0 then (fX10_areas_B35 ad S Ln R M a0 x1 x2 x3 x4 0 a0) else (fX10_areas_B30 ad S Ln R M a0 x1 x2 x3 x4 a0)))
theorem xX10_areas {l : Launch} {G : gE} {sz : Nat} {S Ln : Nat → Nat} {M : gM} {R : gR} (hl : l.stackTraces = false) {a0 : Nat} (hs0 : S a0 = 13) {x1 : Int} (hx1 : (-2147483648 ≤ x1 ∧ x1 < 2147483648)) {x2 : Int} (hx2 : (-2147483648 ≤ x2 ∧ x2 < 2147483648)) {x3 : Int} (hx3 : (-2147483648 ≤ x3 ∧ x3 < 2147483648)) {x4 : Int} (hx4 : (-2147483648 ≤ x4 ∧ x4 < 2147483648)) {r : Int × gM} (h : fX10_areas G.2.2.2.2 S Ln R M a0 x1 x2 x3 x4 = some r) : Ct l G yX10_areas cX10_areas 6 (some .int) 3 0 0 [.ref a0, .int (iI x1), .int (iI x2), .int (iI x3), .int (iI x4)] sz S Ln M R (poI r.1 sz S Ln (r.2) R) noX := by
  refine jj_start (own := RX10) (lv0 := [(0, .ref a0), (1, .int (iI x1)), (2, .int (iI x2)), (3, .int (iI x3)), (4, .int (iI x4))]) hl (by decide +kernel) rfl rfl (c_le rfl) (fun C hCl hC => ?_)
  have hB58 : ∀ (M58 : gM) (l0_58 : Nat) (l1_58 : Int) (l2_58 : Int) (l3_58 : Int) (l4_58 : Int) (s0_58 : Int) (s1_58 : Nat), S l0_58 = 13 → (-2147483648 ≤ l1_58 ∧ l1_58 < 2147483648) → (-2147483648 ≤ l2_58 ∧ l2_58 < 2147483648) → (-2147483648 ≤ l3_58 ∧ l3_58 < 2147483648) → (-2147483648 ≤ l4_58 ∧ l4_58 < 2147483648) → (0 ≤ s0_58 ∧ s0_58 ≤ 1) → S s1_58 = 13 → fX10_areas_B58 G.2.2.2.2 S Ln R M58 l0_58 l1_58 l2_58 l3_58 l4_58 s0_58 s1_58 = some r → JJ G C 0 0 sz S Ln M58 R 58 [(0, .ref l0_58), (1, .int (iI l1_58)), (2, .int (iI l2_58)), (3, .int (iI l3_58)), (4, .int (iI l4_58))] [.int (iI s0_58), .ref s1_58] := by
    intro M58 l0_58 l1_58 l2_58 l3_58 l4_58 s0_58 s1_58 hl0_58 hl1_58 hl2_58 hl3_58 hl4_58 hs0_58 hs1_58 h
    unfold fX10_areas_B58 at h
    refine jj_iconst hC dX10_areas_58 ?_
    obtain ⟨q5, hq5, h⟩ := bd_e h
    refine jj_invV hC mvX10_isThrown wd1791 wd24 wd1789 hs1_58 (by decide) rfl (xX10_isThrown (OKC.tr hC) hs1_58 hs0_58 (show (-2147483648 ≤ (2 : Int) ∧ (2 : Int) < 2147483648) from by decide) hq5) rfl rfl (c_le rfl) (c_le rfl) (c_le rfl) (c_le rfl) dX10_areas_59 noXk (po_kZ (fun hr5 => ?_))
    refine jj_if_eq (tgt := 67) hC dX10_areas_62 rfl (r_z hr5) (fun hc => ?_) (fun hc => ?_)
    · replace h := (if_pos hc).symm.trans h
      refine jj_bipush hC dX10_areas_67 (by decide) ?_
      refine jj_iconst hC dX10_areas_69 ?_
      refine jj_aload_n hC dX10_areas_70 rfl 0 rfl ?_
      obtain ⟨b6, hb6, hs6, h⟩ := rf_e h
      refine jg_R hC kfX10 0 rfl hl0_58 (by decide) wd1709 rfl hb6 dX10_areas_71 ?_
      refine jj_iconst hC dX10_areas_74 ?_
      obtain ⟨⟨ha7, hb7⟩, h⟩ := gd_e h
      refine jj_iald hC hs6 ha7 hb7 dX10_areas_75 (fun hr7 => ?_)
      refine jg_imul hC dX10_areas_76 ?_
      refine jg_iadd hC dX10_areas_77 ?_
      refine jj_istore (lv' := [(5, .int (iI (w32 (47 + (w32 (4 * (q5.2 b6 3))))))), (0, .ref l0_58), (1, .int (iI l1_58)), (2, .int (iI l2_58)), (3, .int (iI l3_58)), (4, .int (iI l4_58))]) hC dX10_areas_78 (by decide) rfl ?_
      refine jj_aload_n hC dX10_areas_80 rfl 1 rfl ?_
      obtain ⟨b8, hb8, hs8, h⟩ := rf_e h
      refine jg_R hC kfX10 0 rfl hl0_58 (by decide) wd1709 rfl hb8 dX10_areas_81 ?_
      refine jj_iload hC dX10_areas_84 0 rfl ?_
      refine jj_iload_n hC dX10_areas_86 rfl 2 rfl ?_
      obtain ⟨⟨ha9, hb9⟩, h⟩ := gd_e h
      obtain ⟨M9, hM9, h⟩ := nam_e h
      refine jj_iast hC hs8 ha9 hb9 hl1_58 dX10_areas_87 (jj_M hM9 ?_)
      refine jj_aload_n hC dX10_areas_88 rfl 1 rfl ?_
      obtain ⟨b10, hb10, hs10, h⟩ := rf_e h
      refine jg_R hC kfX10 0 rfl hl0_58 (by decide) wd1709 rfl hb10 dX10_areas_89 ?_
      refine jj_iload hC dX10_areas_92 0 rfl ?_
      refine jj_iconst hC dX10_areas_94 ?_
      refine jg_iadd hC dX10_areas_95 ?_
      refine jj_iload_n hC dX10_areas_96 rfl 3 rfl ?_
      obtain ⟨⟨ha11, hb11⟩, h⟩ := gd_e h
      obtain ⟨M11, hM11, h⟩ := nam_e h
      refine jj_iast hC hs10 ha11 hb11 hl2_58 dX10_areas_97 (jj_M hM11 ?_)
      refine jj_aload_n hC dX10_areas_98 rfl 1 rfl ?_
      obtain ⟨b12, hb12, hs12, h⟩ := rf_e h
      refine jg_R hC kfX10 0 rfl hl0_58 (by decide) wd1709 rfl hb12 dX10_areas_99 ?_
      refine jj_iload hC dX10_areas_102 0 rfl ?_
      refine jj_iconst hC dX10_areas_104 ?_
      refine jg_iadd hC dX10_areas_105 ?_
      refine jj_iload_n hC dX10_areas_106 rfl 4 rfl ?_
      obtain ⟨⟨ha13, hb13⟩, h⟩ := gd_e h
      obtain ⟨M13, hM13, h⟩ := nam_e h
      refine jj_iast hC hs12 ha13 hb13 hl3_58 dX10_areas_107 (jj_M hM13 ?_)
      refine jj_aload_n hC dX10_areas_108 rfl 1 rfl ?_
      obtain ⟨b14, hb14, hs14, h⟩ := rf_e h
      refine jg_R hC kfX10 0 rfl hl0_58 (by decide) wd1709 rfl hb14 dX10_areas_109 ?_
      refine jj_iload hC dX10_areas_112 0 rfl ?_
      refine jj_iconst hC dX10_areas_114 ?_
      refine jg_iadd hC dX10_areas_115 ?_
      refine jj_iload hC dX10_areas_116 5 rfl ?_
      obtain ⟨⟨ha15, hb15⟩, h⟩ := gd_e h
      obtain ⟨M15, hM15, h⟩ := nam_e h
      refine jj_iast hC hs14 ha15 hb15 hl4_58 dX10_areas_118 (jj_M hM15 ?_)
      refine jj_aload_n hC dX10_areas_119 rfl 1 rfl ?_
      obtain ⟨b16, hb16, hs16, h⟩ := rf_e h
      refine jg_R hC kfX10 0 rfl hl0_58 (by decide) wd1709 rfl hb16 dX10_areas_120 ?_
      refine jj_iconst hC dX10_areas_123 ?_
      refine jj_dup2 hC dX10_areas_124 rfl rfl ?_
      obtain ⟨⟨ha17, hb17⟩, h⟩ := gd_e h
      refine jj_iald hC hs16 ha17 hb17 dX10_areas_125 (fun hr17 => ?_)
      refine jj_iconst hC dX10_areas_126 ?_
      refine jg_iadd hC dX10_areas_127 ?_
      obtain ⟨⟨ha18, hb18⟩, h⟩ := gd_e h
      obtain ⟨M18, hM18, h⟩ := nam_e h
      refine jj_iast hC hs16 ha18 hb18 (w32_r _) dX10_areas_128 (jj_M hM18 ?_)
      refine jj_aload_n hC dX10_areas_129 rfl 1 rfl ?_
      obtain ⟨b19, hb19, hs19, h⟩ := rf_e h
      refine jg_R hC kfX10 0 rfl hl0_58 (by decide) wd1709 rfl hb19 dX10_areas_130 ?_
      refine jj_iconst hC dX10_areas_133 ?_
      obtain ⟨⟨ha20, hb20⟩, h⟩ := gd_e h
      refine jj_iald hC hs19 ha20 hb20 dX10_areas_134 (fun hr20 => ?_)
      cases h
      exact jj_iret hC (c_le rfl) (c_le rfl) dX10_areas_135 ⟨rfl, hr20, rfl, rfl, rfl, rfl, rfl⟩
    · replace h := (if_neg (hc)).symm.trans h
      refine jj_iconst hC dX10_areas_65 ?_
      cases h
      exact jj_iret hC (c_le rfl) (c_le rfl) dX10_areas_66 ⟨rfl, (show (-2147483648 ≤ (0 : Int) ∧ (0 : Int) < 2147483648) from by decide), rfl, rfl, rfl, rfl, rfl⟩
  have hB35 : ∀ (M35 : gM) (l0_35 : Nat) (l1_35 : Int) (l2_35 : Int) (l3_35 : Int) (l4_35 : Int) (s0_35 : Int) (s1_35 : Nat), S l0_35 = 13 → (-2147483648 ≤ l1_35 ∧ l1_35 < 2147483648) → (-2147483648 ≤ l2_35 ∧ l2_35 < 2147483648) → (-2147483648 ≤ l3_35 ∧ l3_35 < 2147483648) → (-2147483648 ≤ l4_35 ∧ l4_35 < 2147483648) → (0 ≤ s0_35 ∧ s0_35 ≤ 1) → S s1_35 = 13 → fX10_areas_B35 G.2.2.2.2 S Ln R M35 l0_35 l1_35 l2_35 l3_35 l4_35 s0_35 s1_35 = some r → JJ G C 0 0 sz S Ln M35 R 35 [(0, .ref l0_35), (1, .int (iI l1_35)), (2, .int (iI l2_35)), (3, .int (iI l3_35)), (4, .int (iI l4_35))] [.int (iI s0_35), .ref s1_35] := by
    intro M35 l0_35 l1_35 l2_35 l3_35 l4_35 s0_35 s1_35 hl0_35 hl1_35 hl2_35 hl3_35 hl4_35 hs0_35 hs1_35 h
    unfold fX10_areas_B35 at h
    refine jj_iconst hC dX10_areas_35 ?_
    obtain ⟨q2, hq2, h⟩ := bd_e h
    refine jj_invV hC mvX10_isThrown wd1791 wd24 wd1789 hs1_35 (by decide) rfl (xX10_isThrown (OKC.tr hC) hs1_35 hs0_35 (show (-2147483648 ≤ (1 : Int) ∧ (1 : Int) < 2147483648) from by decide) hq2) rfl rfl (c_le rfl) (c_le rfl) (c_le rfl) (c_le rfl) dX10_areas_36 noXk (po_kZ (fun hr2 => ?_))
    refine jj_if_ne (tgt := 65) hC dX10_areas_39 rfl (r_z hr2) (fun hc => ?_) (fun hc => ?_)
    · replace h := (if_pos hc).symm.trans h
      refine jj_iconst hC dX10_areas_65 ?_
      cases h
      exact jj_iret hC (c_le rfl) (c_le rfl) dX10_areas_66 ⟨rfl, (show (-2147483648 ≤ (0 : Int) ∧ (0 : Int) < 2147483648) from by decide), rfl, rfl, rfl, rfl, rfl⟩
    · replace h := (if_neg (fun k => k hc)).symm.trans h
      refine jj_aload_n hC dX10_areas_42 rfl 0 rfl ?_
      refine jj_aload_n hC dX10_areas_43 rfl 0 rfl ?_
      obtain ⟨b3, hb3, hs3, h⟩ := rf_e h
      refine jg_R hC kfX10 0 rfl hl0_35 (by decide) wd1709 rfl hb3 dX10_areas_44 ?_
      refine jj_iconst hC dX10_areas_47 ?_
      obtain ⟨⟨ha4, hb4⟩, h⟩ := gd_e h
      refine jj_iald hC hs3 ha4 hb4 dX10_areas_48 (fun hr4 => ?_)
      refine jj_iconst hC dX10_areas_49 ?_
      refine jj_icmp_ne (tgt := 57) hC dX10_areas_50 rfl hr4 (show (-2147483648 ≤ (3 : Int) ∧ (3 : Int) < 2147483648) from by decide) (fun hc => ?_) (fun hc => ?_)
      · replace h := (if_pos hc).symm.trans h
        refine jj_iconst hC dX10_areas_57 ?_
        refine jj_lv (lv' := [(0, .ref l0_35), (1, .int (iI l1_35)), (2, .int (iI l2_35)), (3, .int (iI l3_35)), (4, .int (iI l4_35))]) [0, 1, 2, 3, 4] rfl ?_
        exact hB58 q2.2 l0_35 l1_35 l2_35 l3_35 l4_35 0 l0_35 hl0_35 hl1_35 hl2_35 hl3_35 hl4_35 (show (0 ≤ (0 : Int) ∧ (0 : Int) ≤ 1) from by decide) hl0_35 h
      · replace h := (if_neg (fun k => k hc)).symm.trans h
        refine jj_iconst hC dX10_areas_53 ?_
        refine jj_goto (tgt := 58) hC dX10_areas_54 rfl ?_
        refine jj_lv (lv' := [(0, .ref l0_35), (1, .int (iI l1_35)), (2, .int (iI l2_35)), (3, .int (iI l3_35)), (4, .int (iI l4_35))]) [0, 1, 2, 3, 4] rfl ?_
        exact hB58 q2.2 l0_35 l1_35 l2_35 l3_35 l4_35 1 l0_35 hl0_35 hl1_35 hl2_35 hl3_35 hl4_35 (show (0 ≤ (1 : Int) ∧ (1 : Int) ≤ 1) from by decide) hl0_35 h
  have hB30 : ∀ (M30 : gM) (l0_30 : Nat) (l1_30 : Int) (l2_30 : Int) (l3_30 : Int) (l4_30 : Int) (s0_30 : Nat), S l0_30 = 13 → (-2147483648 ≤ l1_30 ∧ l1_30 < 2147483648) → (-2147483648 ≤ l2_30 ∧ l2_30 < 2147483648) → (-2147483648 ≤ l3_30 ∧ l3_30 < 2147483648) → (-2147483648 ≤ l4_30 ∧ l4_30 < 2147483648) → S s0_30 = 13 → fX10_areas_B30 G.2.2.2.2 S Ln R M30 l0_30 l1_30 l2_30 l3_30 l4_30 s0_30 = some r → JJ G C 0 0 sz S Ln M30 R 30 [(0, .ref l0_30), (1, .int (iI l1_30)), (2, .int (iI l2_30)), (3, .int (iI l3_30)), (4, .int (iI l4_30))] [.ref s0_30] := by
    intro M30 l0_30 l1_30 l2_30 l3_30 l4_30 s0_30 hl0_30 hl1_30 hl2_30 hl3_30 hl4_30 hs0_30 h
    unfold fX10_areas_B30 at h
    refine jj_iconst hC dX10_areas_30 ?_
    refine jj_goto (tgt := 35) hC dX10_areas_31 rfl ?_
    refine jj_lv (lv' := [(0, .ref l0_30), (1, .int (iI l1_30)), (2, .int (iI l2_30)), (3, .int (iI l3_30)), (4, .int (iI l4_30))]) [0, 1, 2, 3, 4] rfl ?_
    exact hB35 M30 l0_30 l1_30 l2_30 l3_30 l4_30 1 s0_30 hl0_30 hl1_30 hl2_30 hl3_30 hl4_30 (show (0 ≤ (1 : Int) ∧ (1 : Int) ≤ 1) from by decide) hs0_30 h
  unfold fX10_areas at h
  refine jj_aload_n hC dX10_areas_0 rfl 0 rfl ?_
  refine jj_iload_n hC dX10_areas_1 rfl 1 rfl ?_
  refine jj_iload_n hC dX10_areas_2 rfl 2 rfl ?_
  obtain ⟨q1, hq1, h⟩ := bd_e h
  refine jj_invS hC mvX10_isPlace wd1784 wd1783 (xX10_isPlace (OKC.tr hC) hx1 hx2 hq1) rfl rfl (c_le rfl) (c_le rfl) (c_le rfl) (c_le rfl) dX10_areas_3 noXk (po_kZ (fun hr1 => ?_))
  refine jj_if_eq (tgt := 30) hC dX10_areas_6 rfl (r_z hr1) (fun hc => ?_) (fun hc => ?_)
  · replace h := (if_pos hc).symm.trans h
    refine jj_lv (lv' := [(0, .ref a0), (1, .int (iI x1)), (2, .int (iI x2)), (3, .int (iI x3)), (4, .int (iI x4))]) [0, 1, 2, 3, 4] rfl ?_
    exact hB30 M a0 x1 x2 x3 x4 a0 hs0 hx1 hx2 hx3 hx4 hs0 h
  · replace h := (if_neg (hc)).symm.trans h
    refine jj_iload_n hC dX10_areas_9 rfl 3 rfl ?_
    refine jj_iload_n hC dX10_areas_10 rfl 1 rfl ?_
    refine jj_bipush hC dX10_areas_11 (by decide) ?_
    obtain ⟨q21, hq21, h⟩ := bd_e h
    refine jj_invS hC mvX10_isIn wd1787 wd1786 (xX10_isIn (OKC.tr hC) hx3 hx1 (show (-2147483648 ≤ (60 : Int) ∧ (60 : Int) < 2147483648) from by decide) hq21) rfl rfl (c_le rfl) (c_le rfl) (c_le rfl) (c_le rfl) dX10_areas_13 noXk (po_kZ (fun hr21 => ?_))
    refine jj_if_eq (tgt := 30) hC dX10_areas_16 rfl (r_z hr21) (fun hc => ?_) (fun hc => ?_)
    · replace h := (if_pos hc).symm.trans h
      refine jj_lv (lv' := [(0, .ref a0), (1, .int (iI x1)), (2, .int (iI x2)), (3, .int (iI x3)), (4, .int (iI x4))]) [0, 1, 2, 3, 4] rfl ?_
      exact hB30 M a0 x1 x2 x3 x4 a0 hs0 hx1 hx2 hx3 hx4 hs0 h
    · replace h := (if_neg (hc)).symm.trans h
      refine jj_iload hC dX10_areas_19 4 rfl ?_
      refine jj_iload_n hC dX10_areas_21 rfl 2 rfl ?_
      refine jj_bipush hC dX10_areas_22 (by decide) ?_
      obtain ⟨q22, hq22, h⟩ := bd_e h
      refine jj_invS hC mvX10_isIn wd1787 wd1786 (xX10_isIn (OKC.tr hC) hx4 hx2 (show (-2147483648 ≤ (60 : Int) ∧ (60 : Int) < 2147483648) from by decide) hq22) rfl rfl (c_le rfl) (c_le rfl) (c_le rfl) (c_le rfl) dX10_areas_24 noXk (po_kZ (fun hr22 => ?_))
      refine jj_if_ne (tgt := 34) hC dX10_areas_27 rfl (r_z hr22) (fun hc => ?_) (fun hc => ?_)
      · replace h := (if_pos hc).symm.trans h
        refine jj_iconst hC dX10_areas_34 ?_
        refine jj_lv (lv' := [(0, .ref a0), (1, .int (iI x1)), (2, .int (iI x2)), (3, .int (iI x3)), (4, .int (iI x4))]) [0, 1, 2, 3, 4] rfl ?_
        exact hB35 M a0 x1 x2 x3 x4 0 a0 hs0 hx1 hx2 hx3 hx4 (show (0 ≤ (0 : Int) ∧ (0 : Int) ≤ 1) from by decide) hs0 h
      · replace h := (if_neg (fun k => k hc)).symm.trans h
        refine jj_lv (lv' := [(0, .ref a0), (1, .int (iI x1)), (2, .int (iI x2)), (3, .int (iI x3)), (4, .int (iI x4))]) [0, 1, 2, 3, 4] rfl ?_
        exact hB30 M a0 x1 x2 x3 x4 a0 hs0 hx1 hx2 hx3 hx4 hs0 h
def fX10_addArea (ad S Ln : Nat → Nat) (R : gR) (M : gM) (a0 : Nat) (x1 : Int) (x2 : Int) (x3 : Int) (x4 : Int) : Option (Int × gM) :=
  bd (fX10_keeps ad S Ln R M a0) fun q1 => bd (fX10_areas ad S Ln R q1 a0 x1 x2 x3 x4) fun q2 => bd (fX10_ends ad S Ln R q2.2 a0 q2.1) fun q3 => some ((q3.1, q3.2))
theorem xX10_addArea {l : Launch} {G : gE} {sz : Nat} {S Ln : Nat → Nat} {M : gM} {R : gR} (hl : l.stackTraces = false) {a0 : Nat} (hs0 : S a0 = 13) {x1 : Int} (hx1 : (-2147483648 ≤ x1 ∧ x1 < 2147483648)) {x2 : Int} (hx2 : (-2147483648 ≤ x2 ∧ x2 < 2147483648)) {x3 : Int} (hx3 : (-2147483648 ≤ x3 ∧ x3 < 2147483648)) {x4 : Int} (hx4 : (-2147483648 ≤ x4 ∧ x4 < 2147483648)) {r : Int × gM} (h : fX10_addArea G.2.2.2.2 S Ln R M a0 x1 x2 x3 x4 = some r) : Ct l G yX10_addArea cX10_addArea 5 (some .int) 4 0 0 [.ref a0, .int (iI x1), .int (iI x2), .int (iI x3), .int (iI x4)] sz S Ln M R (poI r.1 sz S Ln (r.2) R) noX := by
  refine jj_start (own := RX10) (lv0 := [(0, .ref a0), (1, .int (iI x1)), (2, .int (iI x2)), (3, .int (iI x3)), (4, .int (iI x4))]) hl (by decide +kernel) rfl rfl (c_le rfl) (fun C hCl hC => ?_)
  unfold fX10_addArea at h
  refine jj_aload_n hC dX10_addArea_0 rfl 0 rfl ?_
  obtain ⟨q1, hq1, h⟩ := bd_e h
  refine jj_invV hC mvX10_keeps wd1774 wd22 wd1772 hs0 (by decide) rfl (xX10_keeps (OKC.tr hC) hs0 hq1) rfl rfl (c_le rfl) (c_le rfl) (c_le rfl) (c_le rfl) dX10_addArea_1 noXk (po_kV ?_)
  refine jj_aload_n hC dX10_addArea_4 rfl 0 rfl ?_
  refine jj_aload_n hC dX10_addArea_5 rfl 0 rfl ?_
  refine jj_iload_n hC dX10_addArea_6 rfl 1 rfl ?_
  refine jj_iload_n hC dX10_addArea_7 rfl 2 rfl ?_
  refine jj_iload_n hC dX10_addArea_8 rfl 3 rfl ?_
  refine jj_iload hC dX10_addArea_9 4 rfl ?_
  obtain ⟨q2, hq2, h⟩ := bd_e h
  refine jj_invV hC mvX10_areas wd1866 wd37 wd1864 hs0 (by decide) rfl (xX10_areas (OKC.tr hC) hs0 hx1 hx2 hx3 hx4 hq2) rfl rfl (c_le rfl) (c_le rfl) (c_le rfl) (c_le rfl) dX10_addArea_11 noXk (po_kI (fun hr2 => ?_))
  obtain ⟨q3, hq3, h⟩ := bd_e h
  refine jj_invV hC mvX10_ends wd1795 wd25 wd1793 hs0 (by decide) rfl (xX10_ends (OKC.tr hC) hs0 hr2 hq3) rfl rfl (c_le rfl) (c_le rfl) (c_le rfl) (c_le rfl) dX10_addArea_14 noXk (po_kI (fun hr3 => ?_))
  cases h
  exact jj_iret hC (c_le rfl) (c_le rfl) dX10_addArea_17 ⟨rfl, hr3, rfl, rfl, rfl, rfl, rfl⟩
def fX10_restricted_B70 (ad S Ln : Nat → Nat) (R : gR) (M : gM) (l0_2 : Nat) (l1_2 : Int) (l2_2 : Int) (l3_70 : Int) : Option ((Int) ⊕ ((Unit) ⊕ (Int))) :=
  some (.inl (w32 (l3_70 + 1)))
def fX10_restricted_L2 (ad S Ln : Nat → Nat) (R : gR) (M : gM) (l0_2 : Nat) (l1_2 : Int) (l2_2 : Int) (s2 : Int) : Option ((Int) ⊕ ((Unit) ⊕ (Int))) :=
  rf S (R l0_2 0) 20 fun b1 => gd ((0 : Int) ≤ 3 ∧ 3 < (Ln b1 : Int)) (if (M b1 3) ≤ s2 then (some (.inr (.inl ()))) else (rf S (R l0_2 0) 20 fun b3 => gd ((0 : Int) ≤ (w32 (47 + (w32 (4 * s2)))) ∧ (w32 (47 + (w32 (4 * s2)))) < (Ln b3 : Int)) (rf S (R l0_2 0) 20 fun b5 => gd ((0 : Int) ≤ (w32 ((w32 (47 + (w32 (4 * s2)))) + 2)) ∧ (w32 ((w32 (47 + (w32 (4 * s2)))) + 2)) < (Ln b5 : Int)) (bd (fX10_isIn ad S Ln R M l1_2 (M b3 (w32 (47 + (w32 (4 * s2))))) (M b5 (w32 ((w32 (47 + (w32 (4 * s2)))) + 2)))) fun q7 => if q7 = 0 then (fX10_restricted_B70 ad S Ln R M l0_2 l1_2 l2_2 s2) else (rf S (R l0_2 0) 20 fun b8 => gd ((0 : Int) ≤ (w32 ((w32 (47 + (w32 (4 * s2)))) + 1)) ∧ (w32 ((w32 (47 + (w32 (4 * s2)))) + 1)) < (Ln b8 : Int)) (rf S (R l0_2 0) 20 fun b10 => gd ((0 : Int) ≤ (w32 ((w32 (47 + (w32 (4 * s2)))) + 3)) ∧ (w32 ((w32 (47 + (w32 (4 * s2)))) + 3)) < (Ln b10 : Int)) (bd (fX10_isIn ad S Ln R M l2_2 (M b8 (w32 ((w32 (47 + (w32 (4 * s2)))) + 1))) (M b10 (w32 ((w32 (47 + (w32 (4 * s2)))) + 3)))) fun q12 => if q12 = 0 then (fX10_restricted_B70 ad S Ln R M l0_2 l1_2 l2_2 s2) else (some (.inr (.inr (1)))))))))))
def fX10_restricted (ad S Ln : Nat → Nat) (R : gR) (M : gM) (a0 : Nat) (x1 : Int) (x2 : Int) : Option Int :=
  bd (lp (fX10_restricted_L2 ad S Ln R M a0 x1 x2) FU 0) fun q14 => Sum.elim (fun e2_13 => some (0)) (fun c14 => some c14) q14
theorem xX10_restricted {l : Launch} {G : gE} {sz : Nat} {S Ln : Nat → Nat} {M : gM} {R : gR} (hl : l.stackTraces = false) {a0 : Nat} (hs0 : S a0 = 13) {x1 : Int} (hx1 : (-2147483648 ≤ x1 ∧ x1 < 2147483648)) {x2 : Int} (hx2 : (-2147483648 ≤ x2 ∧ x2 < 2147483648)) {r : Int} (h : fX10_restricted G.2.2.2.2 S Ln R M a0 x1 x2 = some r) : Ct l G yX10_restricted cX10_restricted 5 (some .boolean) 2 0 0 [.ref a0, .int (iI x1), .int (iI x2)] sz S Ln M R (poZ r sz S Ln (M) R) noX := by
  refine jj_start (own := RX10) (lv0 := [(0, .ref a0), (1, .int (iI x1)), (2, .int (iI x2))]) hl (by decide +kernel) rfl rfl (c_le rfl) (fun C hCl hC => ?_)
  have hL2 : ∀ (l0_2 : Nat) (l1_2 : Int) (l2_2 : Int), S l0_2 = 13 → (-2147483648 ≤ l1_2 ∧ l1_2 < 2147483648) → (-2147483648 ≤ l2_2 ∧ l2_2 < 2147483648) → ∀ (n : Nat) (s2 : Int) (q : (Unit) ⊕ (Int)), lp (fX10_restricted_L2 G.2.2.2.2 S Ln R M l0_2 l1_2 l2_2) n s2 = some q → (-2147483648 ≤ s2 ∧ s2 < 2147483648) → (∀ e2, q = .inl e2 → True → JJ G C 0 0 sz S Ln M R 76 [] []) → (∀ c, q = .inr c → c = r) → JJ G C 0 0 sz S Ln M R 2 [(0, .ref l0_2), (1, .int (iI l1_2)), (2, .int (iI l2_2)), (3, .int (iI s2))] [] := by
    intro l0_2 l1_2 l2_2 hl0_2 hl1_2 hl2_2
    refine lp_ind ?_
    intro s2 r2 hI2 h hJ2 hE2 hR2
    have hs2_0 := hI2
    have hB70 : ∀ (l3_70 : Int), (-2147483648 ≤ l3_70 ∧ l3_70 < 2147483648) → fX10_restricted_B70 G.2.2.2.2 S Ln R M l0_2 l1_2 l2_2 l3_70 = some r2 → JJ G C 0 0 sz S Ln M R 70 [(0, .ref l0_2), (1, .int (iI l1_2)), (2, .int (iI l2_2)), (3, .int (iI l3_70))] [] := by
      intro l3_70 hl3_70 h
      unfold fX10_restricted_B70 at h
      refine jg_iinc (q := 3) (lv' := [(3, .int (iI (w32 (l3_70 + 1)))), (0, .ref l0_2), (1, .int (iI l1_2)), (2, .int (iI l2_2))]) hC dX10_restricted_70 rfl (by decide) rfl ?_
      refine jj_goto (tgt := 2) hC dX10_restricted_73 rfl ?_
      refine jj_lv (lv' := [(0, .ref l0_2), (1, .int (iI l1_2)), (2, .int (iI l2_2)), (3, .int (iI (w32 (l3_70 + 1))))]) [1, 2, 3, 0] rfl ?_
      exact hJ2 _ (Option.some.inj h).symm (w32_r _)
    unfold fX10_restricted_L2 at h
    refine jj_iload_n hC dX10_restricted_2 rfl 3 rfl ?_
    refine jj_aload_n hC dX10_restricted_3 rfl 0 rfl ?_
    obtain ⟨b1, hb1, hs1, h⟩ := rf_e h
    refine jg_R hC kfX10 0 rfl hl0_2 (by decide) wd1709 rfl hb1 dX10_restricted_4 ?_
    refine jj_iconst hC dX10_restricted_7 ?_
    obtain ⟨⟨ha2, hb2⟩, h⟩ := gd_e h
    refine jj_iald hC hs1 ha2 hb2 dX10_restricted_8 (fun hr2 => ?_)
    refine jj_icmp_ge (tgt := 76) hC dX10_restricted_9 rfl hs2_0 hr2 (fun hc => ?_) (fun hc => ?_)
    · replace h := (if_pos hc).symm.trans h
      refine jj_lv (lv' := []) [] rfl ?_
      exact hE2 _ (Option.some.inj h).symm trivial
    · replace h := (if_neg (Int.not_le.mpr hc)).symm.trans h
      refine jj_bipush hC dX10_restricted_12 (by decide) ?_
      refine jj_iconst hC dX10_restricted_14 ?_
      refine jj_iload_n hC dX10_restricted_15 rfl 3 rfl ?_
      refine jg_imul hC dX10_restricted_16 ?_
      refine jg_iadd hC dX10_restricted_17 ?_
      refine jj_istore (lv' := [(4, .int (iI (w32 (47 + (w32 (4 * s2)))))), (0, .ref l0_2), (1, .int (iI l1_2)), (2, .int (iI l2_2)), (3, .int (iI s2))]) hC dX10_restricted_18 (by decide) rfl ?_
      refine jj_iload_n hC dX10_restricted_20 rfl 2 rfl ?_
      refine jj_aload_n hC dX10_restricted_21 rfl 1 rfl ?_
      obtain ⟨b3, hb3, hs3, h⟩ := rf_e h
      refine jg_R hC kfX10 0 rfl hl0_2 (by decide) wd1709 rfl hb3 dX10_restricted_22 ?_
      refine jj_iload hC dX10_restricted_25 0 rfl ?_
      obtain ⟨⟨ha4, hb4⟩, h⟩ := gd_e h
      refine jj_iald hC hs3 ha4 hb4 dX10_restricted_27 (fun hr4 => ?_)
      refine jj_aload_n hC dX10_restricted_28 rfl 1 rfl ?_
      obtain ⟨b5, hb5, hs5, h⟩ := rf_e h
      refine jg_R hC kfX10 0 rfl hl0_2 (by decide) wd1709 rfl hb5 dX10_restricted_29 ?_
      refine jj_iload hC dX10_restricted_32 0 rfl ?_
      refine jj_iconst hC dX10_restricted_34 ?_
      refine jg_iadd hC dX10_restricted_35 ?_
      obtain ⟨⟨ha6, hb6⟩, h⟩ := gd_e h
      refine jj_iald hC hs5 ha6 hb6 dX10_restricted_36 (fun hr6 => ?_)
      obtain ⟨q7, hq7, h⟩ := bd_e h
      refine jj_invS hC mvX10_isIn wd1787 wd1786 (xX10_isIn (OKC.tr hC) hl1_2 hr4 hr6 hq7) rfl rfl (c_le rfl) (c_le rfl) (c_le rfl) (c_le rfl) dX10_restricted_37 noXk (po_kZ (fun hr7 => ?_))
      refine jj_if_eq (tgt := 70) hC dX10_restricted_40 rfl (r_z hr7) (fun hc => ?_) (fun hc => ?_)
      · replace h := (if_pos hc).symm.trans h
        refine jj_lv (lv' := [(0, .ref l0_2), (1, .int (iI l1_2)), (2, .int (iI l2_2)), (3, .int (iI s2))]) [1, 2, 3, 4] rfl ?_
        exact hB70 s2 hs2_0 h
      · replace h := (if_neg (hc)).symm.trans h
        refine jj_iload_n hC dX10_restricted_43 rfl 3 rfl ?_
        refine jj_aload_n hC dX10_restricted_44 rfl 1 rfl ?_
        obtain ⟨b8, hb8, hs8, h⟩ := rf_e h
        refine jg_R hC kfX10 0 rfl hl0_2 (by decide) wd1709 rfl hb8 dX10_restricted_45 ?_
        refine jj_iload hC dX10_restricted_48 0 rfl ?_
        refine jj_iconst hC dX10_restricted_50 ?_
        refine jg_iadd hC dX10_restricted_51 ?_
        obtain ⟨⟨ha9, hb9⟩, h⟩ := gd_e h
        refine jj_iald hC hs8 ha9 hb9 dX10_restricted_52 (fun hr9 => ?_)
        refine jj_aload_n hC dX10_restricted_53 rfl 1 rfl ?_
        obtain ⟨b10, hb10, hs10, h⟩ := rf_e h
        refine jg_R hC kfX10 0 rfl hl0_2 (by decide) wd1709 rfl hb10 dX10_restricted_54 ?_
        refine jj_iload hC dX10_restricted_57 0 rfl ?_
        refine jj_iconst hC dX10_restricted_59 ?_
        refine jg_iadd hC dX10_restricted_60 ?_
        obtain ⟨⟨ha11, hb11⟩, h⟩ := gd_e h
        refine jj_iald hC hs10 ha11 hb11 dX10_restricted_61 (fun hr11 => ?_)
        obtain ⟨q12, hq12, h⟩ := bd_e h
        refine jj_invS hC mvX10_isIn wd1787 wd1786 (xX10_isIn (OKC.tr hC) hl2_2 hr9 hr11 hq12) rfl rfl (c_le rfl) (c_le rfl) (c_le rfl) (c_le rfl) dX10_restricted_62 noXk (po_kZ (fun hr12 => ?_))
        refine jj_if_eq (tgt := 70) hC dX10_restricted_65 rfl (r_z hr12) (fun hc => ?_) (fun hc => ?_)
        · replace h := (if_pos hc).symm.trans h
          refine jj_lv (lv' := [(0, .ref l0_2), (1, .int (iI l1_2)), (2, .int (iI l2_2)), (3, .int (iI s2))]) [1, 2, 3, 4] rfl ?_
          exact hB70 s2 hs2_0 h
        · replace h := (if_neg (hc)).symm.trans h
          refine jj_iconst hC dX10_restricted_68 ?_
          have h := hR2 _ (Option.some.inj h).symm
          subst h
          exact jj_zret hC (show (0 ≤ (1 : Int) ∧ (1 : Int) ≤ 1) from by decide) (c_le rfl) (c_le rfl) dX10_restricted_69 ⟨rfl, (show (0 ≤ (1 : Int) ∧ (1 : Int) ≤ 1) from by decide), rfl, rfl, rfl, rfl, rfl⟩
  unfold fX10_restricted at h
  refine jj_iconst hC dX10_restricted_0 ?_
  refine jj_istore_n (lv' := [(3, .int (iI 0)), (0, .ref a0), (1, .int (iI x1)), (2, .int (iI x2))]) hC dX10_restricted_1 rfl (by decide) rfl ?_
  obtain ⟨q14, hq14, h⟩ := bd_e h
  refine jj_lv (lv' := [(0, .ref a0), (1, .int (iI x1)), (2, .int (iI x2)), (3, .int (iI 0))]) [1, 2, 3, 0] rfl ?_
  refine hL2 a0 x1 x2 hs0 hx1 hx2 FU _ q14 hq14 (show (-2147483648 ≤ (0 : Int) ∧ (0 : Int) < 2147483648) from by decide) (fun e2_13 he14 hIE14 => ?_) (fun c14 hc14 => ?_)
  · subst he14
    replace h := el_l h
    refine jj_iconst hC dX10_restricted_76 ?_
    cases h
    exact jj_zret hC (show (0 ≤ (0 : Int) ∧ (0 : Int) ≤ 1) from by decide) (c_le rfl) (c_le rfl) dX10_restricted_77 ⟨rfl, (show (0 ≤ (0 : Int) ∧ (0 : Int) ≤ 1) from by decide), rfl, rfl, rfl, rfl, rfl⟩
  · subst hc14
    replace h := el_r h
    exact Option.some.inj h
def fX10_lifted_B92 (ad S Ln : Nat → Nat) (R : gR) (M : gM) (l0_5 : Nat) (l1_5 : Int) (l2_5 : Int) (l4_92 : Int) (s0_92 : Int) : Option ((Int × Int) ⊕ ((Int) ⊕ (Int))) :=
  some (.inl (s0_92, w32 (l4_92 + 1)))
def fX10_lifted_B91 (ad S Ln : Nat → Nat) (R : gR) (M : gM) (l0_5 : Nat) (l1_5 : Int) (l2_5 : Int) (l3_91 : Int) (l4_91 : Int) : Option ((Int × Int) ⊕ ((Int) ⊕ (Int))) :=
  fX10_lifted_B92 ad S Ln R M l0_5 l1_5 l2_5 l4_91 l3_91
def fX10_lifted_B59 (ad S Ln : Nat → Nat) (R : gR) (M : gM) (l0_5 : Nat) (l1_5 : Int) (l2_5 : Int) (l3_59 : Int) (l4_59 : Int) (l5_59 : Int) (s0_59 : Int) : Option ((Int × Int) ⊕ ((Int) ⊕ (Int))) :=
  if s0_59 = 0 then (fX10_lifted_B91 ad S Ln R M l0_5 l1_5 l2_5 l3_59 l4_59) else (rf S (R l0_5 0) 20 fun b9 => gd ((0 : Int) ≤ (w32 (l5_59 + 2)) ∧ (w32 (l5_59 + 2)) < (Ln b9 : Int)) (if (M b9 (w32 (l5_59 + 2))) ≤ l3_59 then (fX10_lifted_B91 ad S Ln R M l0_5 l1_5 l2_5 l3_59 l4_59) else (rf S (R l0_5 0) 20 fun b11 => gd ((0 : Int) ≤ (w32 (l5_59 + 2)) ∧ (w32 (l5_59 + 2)) < (Ln b11 : Int)) (fX10_lifted_B92 ad S Ln R M l0_5 l1_5 l2_5 l4_59 (M b11 (w32 (l5_59 + 2)))))))
def fX10_lifted_L5 (ad S Ln : Nat → Nat) (R : gR) (M : gM) (l0_5 : Nat) (l1_5 : Int) (l2_5 : Int) (s5 : Int × Int) : Option ((Int × Int) ⊕ ((Int) ⊕ (Int))) :=
  rf S (R l0_5 0) 20 fun b1 => gd ((0 : Int) ≤ 2 ∧ 2 < (Ln b1 : Int)) (if (M b1 2) ≤ s5.2 then (some (.inr (.inl s5.1))) else (rf S (R l0_5 0) 20 fun b3 => gd ((0 : Int) ≤ (w32 (29 + (w32 (3 * s5.2)))) ∧ (w32 (29 + (w32 (3 * s5.2)))) < (Ln b3 : Int)) (bd (fX10_between ad S Ln R M l1_5 (M b3 (w32 (29 + (w32 (3 * s5.2)))))) fun q5 => rf S (R l0_5 0) 20 fun b6 => gd ((0 : Int) ≤ (w32 ((w32 (29 + (w32 (3 * s5.2)))) + 1)) ∧ (w32 ((w32 (29 + (w32 (3 * s5.2)))) + 1)) < (Ln b6 : Int)) (bd (fX10_between ad S Ln R M l2_5 (M b6 (w32 ((w32 (29 + (w32 (3 * s5.2)))) + 1)))) fun q8 => if 2 < (w32 (q5 + q8)) then (fX10_lifted_B59 ad S Ln R M l0_5 l1_5 l2_5 s5.1 s5.2 (w32 (29 + (w32 (3 * s5.2)))) 0) else (fX10_lifted_B59 ad S Ln R M l0_5 l1_5 l2_5 s5.1 s5.2 (w32 (29 + (w32 (3 * s5.2)))) 1)))))
def fX10_lifted (ad S Ln : Nat → Nat) (R : gR) (M : gM) (a0 : Nat) (x1 : Int) (x2 : Int) : Option Int :=
  bd (lp (fX10_lifted_L5 ad S Ln R M a0 x1 x2) FU (0, 0)) fun q14 => Sum.elim (fun e5_13 => some (e5_13)) (fun c14 => some c14) q14
theorem xX10_lifted {l : Launch} {G : gE} {sz : Nat} {S Ln : Nat → Nat} {M : gM} {R : gR} (hl : l.stackTraces = false) {a0 : Nat} (hs0 : S a0 = 13) {x1 : Int} (hx1 : (-2147483648 ≤ x1 ∧ x1 < 2147483648)) {x2 : Int} (hx2 : (-2147483648 ≤ x2 ∧ x2 < 2147483648)) {r : Int} (h : fX10_lifted G.2.2.2.2 S Ln R M a0 x1 x2 = some r) : Ct l G yX10_lifted cX10_lifted 7 (some .int) 2 0 0 [.ref a0, .int (iI x1), .int (iI x2)] sz S Ln M R (poI r sz S Ln (M) R) noX := by
  refine jj_start (own := RX10) (lv0 := [(0, .ref a0), (1, .int (iI x1)), (2, .int (iI x2))]) hl (by decide +kernel) rfl rfl (c_le rfl) (fun C hCl hC => ?_)
  have hL5 : ∀ (l0_5 : Nat) (l1_5 : Int) (l2_5 : Int), S l0_5 = 13 → (-2147483648 ≤ l1_5 ∧ l1_5 < 2147483648) → (-2147483648 ≤ l2_5 ∧ l2_5 < 2147483648) → ∀ (n : Nat) (s5 : Int × Int) (q : (Int) ⊕ (Int)), lp (fX10_lifted_L5 G.2.2.2.2 S Ln R M l0_5 l1_5 l2_5) n s5 = some q → (-2147483648 ≤ s5.1 ∧ s5.1 < 2147483648) ∧ (-2147483648 ≤ s5.2 ∧ s5.2 < 2147483648) → (∀ e5, q = .inl e5 → (-2147483648 ≤ e5 ∧ e5 < 2147483648) → JJ G C 0 0 sz S Ln M R 99 [(3, .int (iI e5))] []) → (∀ c, q = .inr c → c = r) → JJ G C 0 0 sz S Ln M R 5 [(0, .ref l0_5), (1, .int (iI l1_5)), (2, .int (iI l2_5)), (3, .int (iI s5.1)), (4, .int (iI s5.2))] [] := by
    intro l0_5 l1_5 l2_5 hl0_5 hl1_5 hl2_5
    refine lp_ind ?_
    intro s5 r5 hI5 h hJ5 hE5 hR5
    obtain ⟨hs5_0, hs5_1⟩ := hI5
    have hB92 : ∀ (l4_92 : Int) (s0_92 : Int), (-2147483648 ≤ l4_92 ∧ l4_92 < 2147483648) → (-2147483648 ≤ s0_92 ∧ s0_92 < 2147483648) → fX10_lifted_B92 G.2.2.2.2 S Ln R M l0_5 l1_5 l2_5 l4_92 s0_92 = some r5 → JJ G C 0 0 sz S Ln M R 92 [(0, .ref l0_5), (1, .int (iI l1_5)), (2, .int (iI l2_5)), (4, .int (iI l4_92))] [.int (iI s0_92)] := by
      intro l4_92 s0_92 hl4_92 hs0_92 h
      unfold fX10_lifted_B92 at h
      refine jj_istore_n (lv' := [(3, .int (iI s0_92)), (0, .ref l0_5), (1, .int (iI l1_5)), (2, .int (iI l2_5)), (4, .int (iI l4_92))]) hC dX10_lifted_92 rfl (by decide) rfl ?_
      refine jg_iinc (q := 4) (lv' := [(4, .int (iI (w32 (l4_92 + 1)))), (3, .int (iI s0_92)), (0, .ref l0_5), (1, .int (iI l1_5)), (2, .int (iI l2_5))]) hC dX10_lifted_93 rfl (by decide) rfl ?_
      refine jj_goto (tgt := 5) hC dX10_lifted_96 rfl ?_
      refine jj_lv (lv' := [(0, .ref l0_5), (1, .int (iI l1_5)), (2, .int (iI l2_5)), (3, .int (iI s0_92)), (4, .int (iI (w32 (l4_92 + 1))))]) [2, 3, 4, 1, 0] rfl ?_
      exact hJ5 _ (Option.some.inj h).symm ⟨hs0_92, (w32_r _)⟩
    have hB91 : ∀ (l3_91 : Int) (l4_91 : Int), (-2147483648 ≤ l3_91 ∧ l3_91 < 2147483648) → (-2147483648 ≤ l4_91 ∧ l4_91 < 2147483648) → fX10_lifted_B91 G.2.2.2.2 S Ln R M l0_5 l1_5 l2_5 l3_91 l4_91 = some r5 → JJ G C 0 0 sz S Ln M R 91 [(0, .ref l0_5), (1, .int (iI l1_5)), (2, .int (iI l2_5)), (3, .int (iI l3_91)), (4, .int (iI l4_91))] [] := by
      intro l3_91 l4_91 hl3_91 hl4_91 h
      unfold fX10_lifted_B91 at h
      refine jj_iload_n hC dX10_lifted_91 rfl 3 rfl ?_
      refine jj_lv (lv' := [(0, .ref l0_5), (1, .int (iI l1_5)), (2, .int (iI l2_5)), (4, .int (iI l4_91))]) [0, 1, 2, 4] rfl ?_
      exact hB92 l4_91 l3_91 hl4_91 hl3_91 h
    have hB59 : ∀ (l3_59 : Int) (l4_59 : Int) (l5_59 : Int) (s0_59 : Int), (-2147483648 ≤ l3_59 ∧ l3_59 < 2147483648) → (-2147483648 ≤ l4_59 ∧ l4_59 < 2147483648) → (-2147483648 ≤ l5_59 ∧ l5_59 < 2147483648) → (0 ≤ s0_59 ∧ s0_59 ≤ 1) → fX10_lifted_B59 G.2.2.2.2 S Ln R M l0_5 l1_5 l2_5 l3_59 l4_59 l5_59 s0_59 = some r5 → JJ G C 0 0 sz S Ln M R 59 [(0, .ref l0_5), (1, .int (iI l1_5)), (2, .int (iI l2_5)), (3, .int (iI l3_59)), (4, .int (iI l4_59)), (5, .int (iI l5_59))] [.int (iI s0_59)] := by
      intro l3_59 l4_59 l5_59 s0_59 hl3_59 hl4_59 hl5_59 hs0_59 h
      unfold fX10_lifted_B59 at h
      refine jj_istore (lv' := [(6, .int (iI s0_59)), (0, .ref l0_5), (1, .int (iI l1_5)), (2, .int (iI l2_5)), (3, .int (iI l3_59)), (4, .int (iI l4_59)), (5, .int (iI l5_59))]) hC dX10_lifted_59 (by decide) rfl ?_
      refine jj_iload hC dX10_lifted_61 0 rfl ?_
      refine jj_if_eq (tgt := 91) hC dX10_lifted_63 rfl (r_z hs0_59) (fun hc => ?_) (fun hc => ?_)
      · replace h := (if_pos hc).symm.trans h
        refine jj_lv (lv' := [(0, .ref l0_5), (1, .int (iI l1_5)), (2, .int (iI l2_5)), (3, .int (iI l3_59)), (4, .int (iI l4_59))]) [1, 2, 3, 4, 5] rfl ?_
        exact hB91 l3_59 l4_59 hl3_59 hl4_59 h
      · replace h := (if_neg (hc)).symm.trans h
        refine jj_aload_n hC dX10_lifted_66 rfl 1 rfl ?_
        obtain ⟨b9, hb9, hs9, h⟩ := rf_e h
        refine jg_R hC kfX10 0 rfl hl0_5 (by decide) wd1709 rfl hb9 dX10_lifted_67 ?_
        refine jj_iload hC dX10_lifted_70 6 rfl ?_
        refine jj_iconst hC dX10_lifted_72 ?_
        refine jg_iadd hC dX10_lifted_73 ?_
        obtain ⟨⟨ha10, hb10⟩, h⟩ := gd_e h
        refine jj_iald hC hs9 ha10 hb10 dX10_lifted_74 (fun hr10 => ?_)
        refine jj_iload_n hC dX10_lifted_75 rfl 4 rfl ?_
        refine jj_icmp_le (tgt := 91) hC dX10_lifted_76 rfl hr10 hl3_59 (fun hc => ?_) (fun hc => ?_)
        · replace h := (if_pos hc).symm.trans h
          refine jj_lv (lv' := [(0, .ref l0_5), (1, .int (iI l1_5)), (2, .int (iI l2_5)), (3, .int (iI l3_59)), (4, .int (iI l4_59))]) [1, 2, 3, 4, 5] rfl ?_
          exact hB91 l3_59 l4_59 hl3_59 hl4_59 h
        · replace h := (if_neg (Int.not_le.mpr hc)).symm.trans h
          refine jj_aload_n hC dX10_lifted_79 rfl 1 rfl ?_
          obtain ⟨b11, hb11, hs11, h⟩ := rf_e h
          refine jg_R hC kfX10 0 rfl hl0_5 (by decide) wd1709 rfl hb11 dX10_lifted_80 ?_
          refine jj_iload hC dX10_lifted_83 6 rfl ?_
          refine jj_iconst hC dX10_lifted_85 ?_
          refine jg_iadd hC dX10_lifted_86 ?_
          obtain ⟨⟨ha12, hb12⟩, h⟩ := gd_e h
          refine jj_iald hC hs11 ha12 hb12 dX10_lifted_87 (fun hr12 => ?_)
          refine jj_goto (tgt := 92) hC dX10_lifted_88 rfl ?_
          refine jj_lv (lv' := [(0, .ref l0_5), (1, .int (iI l1_5)), (2, .int (iI l2_5)), (4, .int (iI l4_59))]) [1, 2, 3, 5] rfl ?_
          exact hB92 l4_59 (M b11 (w32 (l5_59 + 2))) hl4_59 hr12 h
    unfold fX10_lifted_L5 at h
    refine jj_iload hC dX10_lifted_5 4 rfl ?_
    refine jj_aload_n hC dX10_lifted_7 rfl 0 rfl ?_
    obtain ⟨b1, hb1, hs1, h⟩ := rf_e h
    refine jg_R hC kfX10 0 rfl hl0_5 (by decide) wd1709 rfl hb1 dX10_lifted_8 ?_
    refine jj_iconst hC dX10_lifted_11 ?_
    obtain ⟨⟨ha2, hb2⟩, h⟩ := gd_e h
    refine jj_iald hC hs1 ha2 hb2 dX10_lifted_12 (fun hr2 => ?_)
    refine jj_icmp_ge (tgt := 99) hC dX10_lifted_13 rfl hs5_1 hr2 (fun hc => ?_) (fun hc => ?_)
    · replace h := (if_pos hc).symm.trans h
      refine jj_lv (lv' := [(3, .int (iI s5.1))]) [3] rfl ?_
      exact hE5 _ (Option.some.inj h).symm hs5_0
    · replace h := (if_neg (Int.not_le.mpr hc)).symm.trans h
      refine jj_bipush hC dX10_lifted_16 (by decide) ?_
      refine jj_iconst hC dX10_lifted_18 ?_
      refine jj_iload hC dX10_lifted_19 4 rfl ?_
      refine jg_imul hC dX10_lifted_21 ?_
      refine jg_iadd hC dX10_lifted_22 ?_
      refine jj_istore (lv' := [(5, .int (iI (w32 (29 + (w32 (3 * s5.2)))))), (0, .ref l0_5), (1, .int (iI l1_5)), (2, .int (iI l2_5)), (3, .int (iI s5.1)), (4, .int (iI s5.2))]) hC dX10_lifted_23 (by decide) rfl ?_
      refine jj_iload_n hC dX10_lifted_25 rfl 2 rfl ?_
      refine jj_aload_n hC dX10_lifted_26 rfl 1 rfl ?_
      obtain ⟨b3, hb3, hs3, h⟩ := rf_e h
      refine jg_R hC kfX10 0 rfl hl0_5 (by decide) wd1709 rfl hb3 dX10_lifted_27 ?_
      refine jj_iload hC dX10_lifted_30 0 rfl ?_
      obtain ⟨⟨ha4, hb4⟩, h⟩ := gd_e h
      refine jj_iald hC hs3 ha4 hb4 dX10_lifted_32 (fun hr4 => ?_)
      obtain ⟨q5, hq5, h⟩ := bd_e h
      refine jj_invS hC mvX10_between wd1830 wd1829 (xX10_between (OKC.tr hC) hl1_5 hr4 hq5) rfl rfl (c_le rfl) (c_le rfl) (c_le rfl) (c_le rfl) dX10_lifted_33 noXk (po_kI (fun hr5 => ?_))
      refine jj_iload_n hC dX10_lifted_36 rfl 3 rfl ?_
      refine jj_aload_n hC dX10_lifted_37 rfl 1 rfl ?_
      obtain ⟨b6, hb6, hs6, h⟩ := rf_e h
      refine jg_R hC kfX10 0 rfl hl0_5 (by decide) wd1709 rfl hb6 dX10_lifted_38 ?_
      refine jj_iload hC dX10_lifted_41 0 rfl ?_
      refine jj_iconst hC dX10_lifted_43 ?_
      refine jg_iadd hC dX10_lifted_44 ?_
      obtain ⟨⟨ha7, hb7⟩, h⟩ := gd_e h
      refine jj_iald hC hs6 ha7 hb7 dX10_lifted_45 (fun hr7 => ?_)
      obtain ⟨q8, hq8, h⟩ := bd_e h
      refine jj_invS hC mvX10_between wd1830 wd1829 (xX10_between (OKC.tr hC) hl2_5 hr7 hq8) rfl rfl (c_le rfl) (c_le rfl) (c_le rfl) (c_le rfl) dX10_lifted_46 noXk (po_kI (fun hr8 => ?_))
      refine jg_iadd hC dX10_lifted_49 ?_
      refine jj_iconst hC dX10_lifted_50 ?_
      refine jj_icmp_gt (tgt := 58) hC dX10_lifted_51 rfl (w32_r _) (show (-2147483648 ≤ (2 : Int) ∧ (2 : Int) < 2147483648) from by decide) (fun hc => ?_) (fun hc => ?_)
      · replace h := (if_pos hc).symm.trans h
        refine jj_iconst hC dX10_lifted_58 ?_
        refine jj_lv (lv' := [(0, .ref l0_5), (1, .int (iI l1_5)), (2, .int (iI l2_5)), (3, .int (iI s5.1)), (4, .int (iI s5.2)), (5, .int (iI (w32 (29 + (w32 (3 * s5.2))))))]) [1, 2, 3, 4, 5, 0] rfl ?_
        exact hB59 s5.1 s5.2 (w32 (29 + (w32 (3 * s5.2)))) 0 hs5_0 hs5_1 (w32_r _) (show (0 ≤ (0 : Int) ∧ (0 : Int) ≤ 1) from by decide) h
      · replace h := (if_neg (Int.not_lt.mpr hc)).symm.trans h
        refine jj_iconst hC dX10_lifted_54 ?_
        refine jj_goto (tgt := 59) hC dX10_lifted_55 rfl ?_
        refine jj_lv (lv' := [(0, .ref l0_5), (1, .int (iI l1_5)), (2, .int (iI l2_5)), (3, .int (iI s5.1)), (4, .int (iI s5.2)), (5, .int (iI (w32 (29 + (w32 (3 * s5.2))))))]) [1, 2, 3, 4, 5, 0] rfl ?_
        exact hB59 s5.1 s5.2 (w32 (29 + (w32 (3 * s5.2)))) 1 hs5_0 hs5_1 (w32_r _) (show (0 ≤ (1 : Int) ∧ (1 : Int) ≤ 1) from by decide) h
  unfold fX10_lifted at h
  refine jj_iconst hC dX10_lifted_0 ?_
  refine jj_istore_n (lv' := [(3, .int (iI 0)), (0, .ref a0), (1, .int (iI x1)), (2, .int (iI x2))]) hC dX10_lifted_1 rfl (by decide) rfl ?_
  refine jj_iconst hC dX10_lifted_2 ?_
  refine jj_istore (lv' := [(4, .int (iI 0)), (3, .int (iI 0)), (0, .ref a0), (1, .int (iI x1)), (2, .int (iI x2))]) hC dX10_lifted_3 (by decide) rfl ?_
  obtain ⟨q14, hq14, h⟩ := bd_e h
  refine jj_lv (lv' := [(0, .ref a0), (1, .int (iI x1)), (2, .int (iI x2)), (3, .int (iI 0)), (4, .int (iI 0))]) [2, 3, 4, 1, 0] rfl ?_
  refine hL5 a0 x1 x2 hs0 hx1 hx2 FU _ q14 hq14 ⟨(show (-2147483648 ≤ (0 : Int) ∧ (0 : Int) < 2147483648) from by decide), (show (-2147483648 ≤ (0 : Int) ∧ (0 : Int) < 2147483648) from by decide)⟩ (fun e5_13 he14 hIE14 => ?_) (fun c14 hc14 => ?_)
  · subst he14
    replace h := el_l h
    have he5_13_0 := hIE14
    refine jj_iload_n hC dX10_lifted_99 rfl 0 rfl ?_
    cases h
    exact jj_iret hC (c_le rfl) (c_le rfl) dX10_lifted_100 ⟨rfl, he5_13_0, rfl, rfl, rfl, rfl, rfl⟩
  · subst hc14
    replace h := el_r h
    exact Option.some.inj h
def fX10_pilots_B41 (ad S Ln : Nat → Nat) (R : gR) (M41 : gM) (l0_41 : Nat) (l1_41 : Int) (s0_41 : Int) (s1_41 : Nat) : Option (Int × gM) :=
  bd (fX10_isThrown ad S Ln R M41 s1_41 s0_41 2) fun q5 => if q5.1 = 0 then (rf S (R l0_41 0) 20 fun b6 => gd ((0 : Int) ≤ 4 ∧ 4 < (Ln b6 : Int)) (bd (fX10_sets ad S Ln R q5.2 l0_41 (q5.2 b6 4) 0 l1_41) fun q8 => rf S (R l0_41 0) 20 fun b9 => gd ((0 : Int) ≤ 4 ∧ 4 < (Ln b9 : Int)) (gd ((0 : Int) ≤ 4 ∧ 4 < (Ln b9 : Int)) (nam (wr q8 b9 4 (w32 ((q8 b9 4) + 1))) fun M11 => rf S (R l0_41 0) 20 fun b12 => gd ((0 : Int) ≤ 4 ∧ 4 < (Ln b12 : Int)) (some ((w32 ((M11 b12 4) - 1), M11))))))) else (some ((0, q5.2)))
def fX10_pilots_B17 (ad S Ln : Nat → Nat) (R : gR) (M17 : gM) (l0_17 : Nat) (l1_17 : Int) (s0_17 : Int) (s1_17 : Nat) : Option (Int × gM) :=
  bd (fX10_isThrown ad S Ln R M17 s1_17 s0_17 1) fun q2 => if ¬ q2.1 = 0 then (some ((0, q2.2))) else (rf S (R l0_17 0) 20 fun b3 => gd ((0 : Int) ≤ 4 ∧ 4 < (Ln b3 : Int)) (if ¬ (q2.2 b3 4) = 6 then (fX10_pilots_B41 ad S Ln R q2.2 l0_17 l1_17 0 l0_17) else (fX10_pilots_B41 ad S Ln R q2.2 l0_17 l1_17 1 l0_17)))
def fX10_pilots (ad S Ln : Nat → Nat) (R : gR) (M : gM) (a0 : Nat) (x1 : Int) : Option (Int × gM) :=
  bd (fX10_isIn ad S Ln R M x1 20 60) fun q1 => if ¬ q1 = 0 then (fX10_pilots_B17 ad S Ln R M a0 x1 0 a0) else (fX10_pilots_B17 ad S Ln R M a0 x1 1 a0)
theorem xX10_pilots {l : Launch} {G : gE} {sz : Nat} {S Ln : Nat → Nat} {M : gM} {R : gR} (hl : l.stackTraces = false) {a0 : Nat} (hs0 : S a0 = 13) {x1 : Int} (hx1 : (-2147483648 ≤ x1 ∧ x1 < 2147483648)) {r : Int × gM} (h : fX10_pilots G.2.2.2.2 S Ln R M a0 x1 = some r) : Ct l G yX10_pilots cX10_pilots 2 (some .int) 2 0 0 [.ref a0, .int (iI x1)] sz S Ln M R (poI r.1 sz S Ln (r.2) R) noX := by
  refine jj_start (own := RX10) (lv0 := [(0, .ref a0), (1, .int (iI x1))]) hl (by decide +kernel) rfl rfl (c_le rfl) (fun C hCl hC => ?_)
  have hB41 : ∀ (M41 : gM) (l0_41 : Nat) (l1_41 : Int) (s0_41 : Int) (s1_41 : Nat), S l0_41 = 13 → (-2147483648 ≤ l1_41 ∧ l1_41 < 2147483648) → (0 ≤ s0_41 ∧ s0_41 ≤ 1) → S s1_41 = 13 → fX10_pilots_B41 G.2.2.2.2 S Ln R M41 l0_41 l1_41 s0_41 s1_41 = some r → JJ G C 0 0 sz S Ln M41 R 41 [(0, .ref l0_41), (1, .int (iI l1_41))] [.int (iI s0_41), .ref s1_41] := by
    intro M41 l0_41 l1_41 s0_41 s1_41 hl0_41 hl1_41 hs0_41 hs1_41 h
    unfold fX10_pilots_B41 at h
    refine jj_iconst hC dX10_pilots_41 ?_
    obtain ⟨q5, hq5, h⟩ := bd_e h
    refine jj_invV hC mvX10_isThrown wd1791 wd24 wd1789 hs1_41 (by decide) rfl (xX10_isThrown (OKC.tr hC) hs1_41 hs0_41 (show (-2147483648 ≤ (2 : Int) ∧ (2 : Int) < 2147483648) from by decide) hq5) rfl rfl (c_le rfl) (c_le rfl) (c_le rfl) (c_le rfl) dX10_pilots_42 noXk (po_kZ (fun hr5 => ?_))
    refine jj_if_eq (tgt := 50) hC dX10_pilots_45 rfl (r_z hr5) (fun hc => ?_) (fun hc => ?_)
    · replace h := (if_pos hc).symm.trans h
      refine jj_aload_n hC dX10_pilots_50 rfl 0 rfl ?_
      refine jj_aload_n hC dX10_pilots_51 rfl 0 rfl ?_
      obtain ⟨b6, hb6, hs6, h⟩ := rf_e h
      refine jg_R hC kfX10 0 rfl hl0_41 (by decide) wd1709 rfl hb6 dX10_pilots_52 ?_
      refine jj_iconst hC dX10_pilots_55 ?_
      obtain ⟨⟨ha7, hb7⟩, h⟩ := gd_e h
      refine jj_iald hC hs6 ha7 hb7 dX10_pilots_56 (fun hr7 => ?_)
      refine jj_iconst hC dX10_pilots_57 ?_
      refine jj_iload_n hC dX10_pilots_58 rfl 1 rfl ?_
      obtain ⟨q8, hq8, h⟩ := bd_e h
      refine jj_invV hC mvX10_sets wd1878 wd39 wd1876 hl0_41 (by decide) rfl (xX10_sets (OKC.tr hC) hl0_41 hr7 (show (-2147483648 ≤ (0 : Int) ∧ (0 : Int) < 2147483648) from by decide) hl1_41 hq8) rfl rfl (c_le rfl) (c_le rfl) (c_le rfl) (c_le rfl) dX10_pilots_59 noXk (po_kV ?_)
      refine jj_aload_n hC dX10_pilots_62 rfl 0 rfl ?_
      obtain ⟨b9, hb9, hs9, h⟩ := rf_e h
      refine jg_R hC kfX10 0 rfl hl0_41 (by decide) wd1709 rfl hb9 dX10_pilots_63 ?_
      refine jj_iconst hC dX10_pilots_66 ?_
      refine jj_dup2 hC dX10_pilots_67 rfl rfl ?_
      obtain ⟨⟨ha10, hb10⟩, h⟩ := gd_e h
      refine jj_iald hC hs9 ha10 hb10 dX10_pilots_68 (fun hr10 => ?_)
      refine jj_iconst hC dX10_pilots_69 ?_
      refine jg_iadd hC dX10_pilots_70 ?_
      obtain ⟨⟨ha11, hb11⟩, h⟩ := gd_e h
      obtain ⟨M11, hM11, h⟩ := nam_e h
      refine jj_iast hC hs9 ha11 hb11 (w32_r _) dX10_pilots_71 (jj_M hM11 ?_)
      refine jj_aload_n hC dX10_pilots_72 rfl 0 rfl ?_
      obtain ⟨b12, hb12, hs12, h⟩ := rf_e h
      refine jg_R hC kfX10 0 rfl hl0_41 (by decide) wd1709 rfl hb12 dX10_pilots_73 ?_
      refine jj_iconst hC dX10_pilots_76 ?_
      obtain ⟨⟨ha13, hb13⟩, h⟩ := gd_e h
      refine jj_iald hC hs12 ha13 hb13 dX10_pilots_77 (fun hr13 => ?_)
      refine jj_iconst hC dX10_pilots_78 ?_
      refine jg_isub hC dX10_pilots_79 ?_
      cases h
      exact jj_iret hC (c_le rfl) (c_le rfl) dX10_pilots_80 ⟨rfl, (w32_r _), rfl, rfl, rfl, rfl, rfl⟩
    · replace h := (if_neg (hc)).symm.trans h
      refine jj_iconst hC dX10_pilots_48 ?_
      cases h
      exact jj_iret hC (c_le rfl) (c_le rfl) dX10_pilots_49 ⟨rfl, (show (-2147483648 ≤ (0 : Int) ∧ (0 : Int) < 2147483648) from by decide), rfl, rfl, rfl, rfl, rfl⟩
  have hB17 : ∀ (M17 : gM) (l0_17 : Nat) (l1_17 : Int) (s0_17 : Int) (s1_17 : Nat), S l0_17 = 13 → (-2147483648 ≤ l1_17 ∧ l1_17 < 2147483648) → (0 ≤ s0_17 ∧ s0_17 ≤ 1) → S s1_17 = 13 → fX10_pilots_B17 G.2.2.2.2 S Ln R M17 l0_17 l1_17 s0_17 s1_17 = some r → JJ G C 0 0 sz S Ln M17 R 17 [(0, .ref l0_17), (1, .int (iI l1_17))] [.int (iI s0_17), .ref s1_17] := by
    intro M17 l0_17 l1_17 s0_17 s1_17 hl0_17 hl1_17 hs0_17 hs1_17 h
    unfold fX10_pilots_B17 at h
    refine jj_iconst hC dX10_pilots_17 ?_
    obtain ⟨q2, hq2, h⟩ := bd_e h
    refine jj_invV hC mvX10_isThrown wd1791 wd24 wd1789 hs1_17 (by decide) rfl (xX10_isThrown (OKC.tr hC) hs1_17 hs0_17 (show (-2147483648 ≤ (1 : Int) ∧ (1 : Int) < 2147483648) from by decide) hq2) rfl rfl (c_le rfl) (c_le rfl) (c_le rfl) (c_le rfl) dX10_pilots_18 noXk (po_kZ (fun hr2 => ?_))
    refine jj_if_ne (tgt := 48) hC dX10_pilots_21 rfl (r_z hr2) (fun hc => ?_) (fun hc => ?_)
    · replace h := (if_pos hc).symm.trans h
      refine jj_iconst hC dX10_pilots_48 ?_
      cases h
      exact jj_iret hC (c_le rfl) (c_le rfl) dX10_pilots_49 ⟨rfl, (show (-2147483648 ≤ (0 : Int) ∧ (0 : Int) < 2147483648) from by decide), rfl, rfl, rfl, rfl, rfl⟩
    · replace h := (if_neg (fun k => k hc)).symm.trans h
      refine jj_aload_n hC dX10_pilots_24 rfl 0 rfl ?_
      refine jj_aload_n hC dX10_pilots_25 rfl 0 rfl ?_
      obtain ⟨b3, hb3, hs3, h⟩ := rf_e h
      refine jg_R hC kfX10 0 rfl hl0_17 (by decide) wd1709 rfl hb3 dX10_pilots_26 ?_
      refine jj_iconst hC dX10_pilots_29 ?_
      obtain ⟨⟨ha4, hb4⟩, h⟩ := gd_e h
      refine jj_iald hC hs3 ha4 hb4 dX10_pilots_30 (fun hr4 => ?_)
      refine jj_bipush hC dX10_pilots_31 (by decide) ?_
      refine jj_icmp_ne (tgt := 40) hC dX10_pilots_33 rfl hr4 (show (-2147483648 ≤ (6 : Int) ∧ (6 : Int) < 2147483648) from by decide) (fun hc => ?_) (fun hc => ?_)
      · replace h := (if_pos hc).symm.trans h
        refine jj_iconst hC dX10_pilots_40 ?_
        refine jj_lv (lv' := [(0, .ref l0_17), (1, .int (iI l1_17))]) [0, 1] rfl ?_
        exact hB41 q2.2 l0_17 l1_17 0 l0_17 hl0_17 hl1_17 (show (0 ≤ (0 : Int) ∧ (0 : Int) ≤ 1) from by decide) hl0_17 h
      · replace h := (if_neg (fun k => k hc)).symm.trans h
        refine jj_iconst hC dX10_pilots_36 ?_
        refine jj_goto (tgt := 41) hC dX10_pilots_37 rfl ?_
        refine jj_lv (lv' := [(0, .ref l0_17), (1, .int (iI l1_17))]) [0, 1] rfl ?_
        exact hB41 q2.2 l0_17 l1_17 1 l0_17 hl0_17 hl1_17 (show (0 ≤ (1 : Int) ∧ (1 : Int) ≤ 1) from by decide) hl0_17 h
  unfold fX10_pilots at h
  refine jj_aload_n hC dX10_pilots_0 rfl 0 rfl ?_
  refine jj_iload_n hC dX10_pilots_1 rfl 1 rfl ?_
  refine jj_bipush hC dX10_pilots_2 (by decide) ?_
  refine jj_bipush hC dX10_pilots_4 (by decide) ?_
  obtain ⟨q1, hq1, h⟩ := bd_e h
  refine jj_invS hC mvX10_isIn wd1787 wd1786 (xX10_isIn (OKC.tr hC) hx1 (show (-2147483648 ≤ (20 : Int) ∧ (20 : Int) < 2147483648) from by decide) (show (-2147483648 ≤ (60 : Int) ∧ (60 : Int) < 2147483648) from by decide) hq1) rfl rfl (c_le rfl) (c_le rfl) (c_le rfl) (c_le rfl) dX10_pilots_6 noXk (po_kZ (fun hr1 => ?_))
  refine jj_if_ne (tgt := 16) hC dX10_pilots_9 rfl (r_z hr1) (fun hc => ?_) (fun hc => ?_)
  · replace h := (if_pos hc).symm.trans h
    refine jj_iconst hC dX10_pilots_16 ?_
    refine jj_lv (lv' := [(0, .ref a0), (1, .int (iI x1))]) [0, 1] rfl ?_
    exact hB17 M a0 x1 0 a0 hs0 hx1 (show (0 ≤ (0 : Int) ∧ (0 : Int) ≤ 1) from by decide) hs0 h
  · replace h := (if_neg (fun k => k hc)).symm.trans h
    refine jj_iconst hC dX10_pilots_12 ?_
    refine jj_goto (tgt := 17) hC dX10_pilots_13 rfl ?_
    refine jj_lv (lv' := [(0, .ref a0), (1, .int (iI x1))]) [0, 1] rfl ?_
    exact hB17 M a0 x1 1 a0 hs0 hx1 (show (0 ≤ (1 : Int) ∧ (1 : Int) ≤ 1) from by decide) hs0 h
def fX10_addPilot (ad S Ln : Nat → Nat) (R : gR) (M : gM) (a0 : Nat) (x1 : Int) : Option (Int × gM) :=
  bd (fX10_keeps ad S Ln R M a0) fun q1 => bd (fX10_pilots ad S Ln R q1 a0 x1) fun q2 => bd (fX10_ends ad S Ln R q2.2 a0 q2.1) fun q3 => some ((q3.1, q3.2))
theorem xX10_addPilot {l : Launch} {G : gE} {sz : Nat} {S Ln : Nat → Nat} {M : gM} {R : gR} (hl : l.stackTraces = false) {a0 : Nat} (hs0 : S a0 = 13) {x1 : Int} (hx1 : (-2147483648 ≤ x1 ∧ x1 < 2147483648)) {r : Int × gM} (h : fX10_addPilot G.2.2.2.2 S Ln R M a0 x1 = some r) : Ct l G yX10_addPilot cX10_addPilot 2 (some .int) 3 0 0 [.ref a0, .int (iI x1)] sz S Ln M R (poI r.1 sz S Ln (r.2) R) noX := by
  refine jj_start (own := RX10) (lv0 := [(0, .ref a0), (1, .int (iI x1))]) hl (by decide +kernel) rfl rfl (c_le rfl) (fun C hCl hC => ?_)
  unfold fX10_addPilot at h
  refine jj_aload_n hC dX10_addPilot_0 rfl 0 rfl ?_
  obtain ⟨q1, hq1, h⟩ := bd_e h
  refine jj_invV hC mvX10_keeps wd1774 wd22 wd1772 hs0 (by decide) rfl (xX10_keeps (OKC.tr hC) hs0 hq1) rfl rfl (c_le rfl) (c_le rfl) (c_le rfl) (c_le rfl) dX10_addPilot_1 noXk (po_kV ?_)
  refine jj_aload_n hC dX10_addPilot_4 rfl 0 rfl ?_
  refine jj_aload_n hC dX10_addPilot_5 rfl 0 rfl ?_
  refine jj_iload_n hC dX10_addPilot_6 rfl 1 rfl ?_
  obtain ⟨q2, hq2, h⟩ := bd_e h
  refine jj_invV hC mvX10_pilots wd1874 wd38 wd1872 hs0 (by decide) rfl (xX10_pilots (OKC.tr hC) hs0 hx1 hq2) rfl rfl (c_le rfl) (c_le rfl) (c_le rfl) (c_le rfl) dX10_addPilot_7 noXk (po_kI (fun hr2 => ?_))
  obtain ⟨q3, hq3, h⟩ := bd_e h
  refine jj_invV hC mvX10_ends wd1795 wd25 wd1793 hs0 (by decide) rfl (xX10_ends (OKC.tr hC) hs0 hr2 hq3) rfl rfl (c_le rfl) (c_le rfl) (c_le rfl) (c_le rfl) dX10_addPilot_10 noXk (po_kI (fun hr3 => ?_))
  cases h
  exact jj_iret hC (c_le rfl) (c_le rfl) dX10_addPilot_13 ⟨rfl, hr3, rfl, rfl, rfl, rfl, rfl⟩
def fX10_inState_B30 (ad S Ln : Nat → Nat) (R : gR) (M : gM) (l0_4 : Nat) (l1_4 : Int) (l3_30 : Int) (s0_30 : Int) (s1_30 : Int) : Option ((Int × Int) ⊕ ((Int) ⊕ (Int))) :=
  some (.inl (w32 (s1_30 + s0_30), w32 (l3_30 + 1)))
def fX10_inState_L4 (ad S Ln : Nat → Nat) (R : gR) (M : gM) (l0_4 : Nat) (l1_4 : Int) (s4 : Int × Int) : Option ((Int × Int) ⊕ ((Int) ⊕ (Int))) :=
  rf S (R l0_4 0) 20 fun b1 => gd ((0 : Int) ≤ 4 ∧ 4 < (Ln b1 : Int)) (if (M b1 4) ≤ s4.2 then (some (.inr (.inl s4.1))) else (bd (fX10_of ad S Ln R M l0_4 s4.2 1) fun q3 => if ¬ q3 = l1_4 then (fX10_inState_B30 ad S Ln R M l0_4 l1_4 s4.2 0 s4.1) else (fX10_inState_B30 ad S Ln R M l0_4 l1_4 s4.2 1 s4.1)))
def fX10_inState (ad S Ln : Nat → Nat) (R : gR) (M : gM) (a0 : Nat) (x1 : Int) : Option Int :=
  bd (lp (fX10_inState_L4 ad S Ln R M a0 x1) FU (0, 0)) fun q5 => Sum.elim (fun e4_4 => some (e4_4)) (fun c5 => some c5) q5
theorem xX10_inState {l : Launch} {G : gE} {sz : Nat} {S Ln : Nat → Nat} {M : gM} {R : gR} (hl : l.stackTraces = false) {a0 : Nat} (hs0 : S a0 = 13) {x1 : Int} (hx1 : (-2147483648 ≤ x1 ∧ x1 < 2147483648)) {r : Int} (h : fX10_inState G.2.2.2.2 S Ln R M a0 x1 = some r) : Ct l G yX10_inState cX10_inState 4 (some .int) 2 0 0 [.ref a0, .int (iI x1)] sz S Ln M R (poI r sz S Ln (M) R) noX := by
  refine jj_start (own := RX10) (lv0 := [(0, .ref a0), (1, .int (iI x1))]) hl (by decide +kernel) rfl rfl (c_le rfl) (fun C hCl hC => ?_)
  have hL4 : ∀ (l0_4 : Nat) (l1_4 : Int), S l0_4 = 13 → (-2147483648 ≤ l1_4 ∧ l1_4 < 2147483648) → ∀ (n : Nat) (s4 : Int × Int) (q : (Int) ⊕ (Int)), lp (fX10_inState_L4 G.2.2.2.2 S Ln R M l0_4 l1_4) n s4 = some q → (-2147483648 ≤ s4.1 ∧ s4.1 < 2147483648) ∧ (-2147483648 ≤ s4.2 ∧ s4.2 < 2147483648) → (∀ e4, q = .inl e4 → (-2147483648 ≤ e4 ∧ e4 < 2147483648) → JJ G C 0 0 sz S Ln M R 38 [(2, .int (iI e4))] []) → (∀ c, q = .inr c → c = r) → JJ G C 0 0 sz S Ln M R 4 [(0, .ref l0_4), (1, .int (iI l1_4)), (2, .int (iI s4.1)), (3, .int (iI s4.2))] [] := by
    intro l0_4 l1_4 hl0_4 hl1_4
    refine lp_ind ?_
    intro s4 r4 hI4 h hJ4 hE4 hR4
    obtain ⟨hs4_0, hs4_1⟩ := hI4
    have hB30 : ∀ (l3_30 : Int) (s0_30 : Int) (s1_30 : Int), (-2147483648 ≤ l3_30 ∧ l3_30 < 2147483648) → (0 ≤ s0_30 ∧ s0_30 ≤ 1) → (-2147483648 ≤ s1_30 ∧ s1_30 < 2147483648) → fX10_inState_B30 G.2.2.2.2 S Ln R M l0_4 l1_4 l3_30 s0_30 s1_30 = some r4 → JJ G C 0 0 sz S Ln M R 30 [(0, .ref l0_4), (1, .int (iI l1_4)), (3, .int (iI l3_30))] [.int (iI s0_30), .int (iI s1_30)] := by
      intro l3_30 s0_30 s1_30 hl3_30 hs0_30 hs1_30 h
      unfold fX10_inState_B30 at h
      refine jg_iadd hC dX10_inState_30 ?_
      refine jj_istore_n (lv' := [(2, .int (iI (w32 (s1_30 + s0_30)))), (0, .ref l0_4), (1, .int (iI l1_4)), (3, .int (iI l3_30))]) hC dX10_inState_31 rfl (by decide) rfl ?_
      refine jg_iinc (q := 3) (lv' := [(3, .int (iI (w32 (l3_30 + 1)))), (2, .int (iI (w32 (s1_30 + s0_30)))), (0, .ref l0_4), (1, .int (iI l1_4))]) hC dX10_inState_32 rfl (by decide) rfl ?_
      refine jj_goto (tgt := 4) hC dX10_inState_35 rfl ?_
      refine jj_lv (lv' := [(0, .ref l0_4), (1, .int (iI l1_4)), (2, .int (iI (w32 (s1_30 + s0_30)))), (3, .int (iI (w32 (l3_30 + 1))))]) [2, 3, 1, 0] rfl ?_
      exact hJ4 _ (Option.some.inj h).symm ⟨(w32_r _), (w32_r _)⟩
    unfold fX10_inState_L4 at h
    refine jj_iload_n hC dX10_inState_4 rfl 3 rfl ?_
    refine jj_aload_n hC dX10_inState_5 rfl 0 rfl ?_
    obtain ⟨b1, hb1, hs1, h⟩ := rf_e h
    refine jg_R hC kfX10 0 rfl hl0_4 (by decide) wd1709 rfl hb1 dX10_inState_6 ?_
    refine jj_iconst hC dX10_inState_9 ?_
    obtain ⟨⟨ha2, hb2⟩, h⟩ := gd_e h
    refine jj_iald hC hs1 ha2 hb2 dX10_inState_10 (fun hr2 => ?_)
    refine jj_icmp_ge (tgt := 38) hC dX10_inState_11 rfl hs4_1 hr2 (fun hc => ?_) (fun hc => ?_)
    · replace h := (if_pos hc).symm.trans h
      refine jj_lv (lv' := [(2, .int (iI s4.1))]) [2] rfl ?_
      exact hE4 _ (Option.some.inj h).symm hs4_0
    · replace h := (if_neg (Int.not_le.mpr hc)).symm.trans h
      refine jj_iload_n hC dX10_inState_14 rfl 2 rfl ?_
      refine jj_aload_n hC dX10_inState_15 rfl 0 rfl ?_
      refine jj_iload_n hC dX10_inState_16 rfl 3 rfl ?_
      refine jj_iconst hC dX10_inState_17 ?_
      obtain ⟨q3, hq3, h⟩ := bd_e h
      refine jj_invV hC mvX10_of wd1815 wd29 wd1813 hl0_4 (by decide) rfl (xX10_of (OKC.tr hC) hl0_4 hs4_1 (show (-2147483648 ≤ (1 : Int) ∧ (1 : Int) < 2147483648) from by decide) hq3) rfl rfl (c_le rfl) (c_le rfl) (c_le rfl) (c_le rfl) dX10_inState_18 noXk (po_kI (fun hr3 => ?_))
      refine jj_iload_n hC dX10_inState_21 rfl 1 rfl ?_
      refine jj_icmp_ne (tgt := 29) hC dX10_inState_22 rfl hr3 hl1_4 (fun hc => ?_) (fun hc => ?_)
      · replace h := (if_pos hc).symm.trans h
        refine jj_iconst hC dX10_inState_29 ?_
        refine jj_lv (lv' := [(0, .ref l0_4), (1, .int (iI l1_4)), (3, .int (iI s4.2))]) [0, 1, 3] rfl ?_
        exact hB30 s4.2 0 s4.1 hs4_1 (show (0 ≤ (0 : Int) ∧ (0 : Int) ≤ 1) from by decide) hs4_0 h
      · replace h := (if_neg (fun k => k hc)).symm.trans h
        refine jj_iconst hC dX10_inState_25 ?_
        refine jj_goto (tgt := 30) hC dX10_inState_26 rfl ?_
        refine jj_lv (lv' := [(0, .ref l0_4), (1, .int (iI l1_4)), (3, .int (iI s4.2))]) [0, 1, 3] rfl ?_
        exact hB30 s4.2 1 s4.1 hs4_1 (show (0 ≤ (1 : Int) ∧ (1 : Int) ≤ 1) from by decide) hs4_0 h
  unfold fX10_inState at h
  refine jj_iconst hC dX10_inState_0 ?_
  refine jj_istore_n (lv' := [(2, .int (iI 0)), (0, .ref a0), (1, .int (iI x1))]) hC dX10_inState_1 rfl (by decide) rfl ?_
  refine jj_iconst hC dX10_inState_2 ?_
  refine jj_istore_n (lv' := [(3, .int (iI 0)), (2, .int (iI 0)), (0, .ref a0), (1, .int (iI x1))]) hC dX10_inState_3 rfl (by decide) rfl ?_
  obtain ⟨q5, hq5, h⟩ := bd_e h
  refine jj_lv (lv' := [(0, .ref a0), (1, .int (iI x1)), (2, .int (iI 0)), (3, .int (iI 0))]) [2, 3, 1, 0] rfl ?_
  refine hL4 a0 x1 hs0 hx1 FU _ q5 hq5 ⟨(show (-2147483648 ≤ (0 : Int) ∧ (0 : Int) < 2147483648) from by decide), (show (-2147483648 ≤ (0 : Int) ∧ (0 : Int) < 2147483648) from by decide)⟩ (fun e4_4 he5 hIE5 => ?_) (fun c5 hc5 => ?_)
  · subst he5
    replace h := el_l h
    have he4_4_0 := hIE5
    refine jj_iload_n hC dX10_inState_38 rfl 0 rfl ?_
    cases h
    exact jj_iret hC (c_le rfl) (c_le rfl) dX10_inState_39 ⟨rfl, he4_4_0, rfl, rfl, rfl, rfl, rfl⟩
  · subst hc5
    replace h := el_r h
    exact Option.some.inj h
def fX10_launches_B59 (ad S Ln : Nat → Nat) (R : gR) (M59 : gM) (l0_59 : Nat) (l1_59 : Int) (s0_59 : Int) (s1_59 : Nat) : Option (Int × gM) :=
  bd (fX10_isThrown ad S Ln R M59 s1_59 s0_59 3) fun q7 => if q7.1 = 0 then (bd (fX10_sets ad S Ln R q7.2 l0_59 l1_59 1 1) fun q8 => bd (fX10_inTask ad S Ln R q8 l0_59 0) fun q9 => bd (fX10_pointX ad S Ln R q8 l0_59 q9) fun q10 => bd (fX10_sets ad S Ln R q8 l0_59 l1_59 2 q10) fun q11 => bd (fX10_inTask ad S Ln R q11 l0_59 0) fun q12 => bd (fX10_pointY ad S Ln R q11 l0_59 q12) fun q13 => bd (fX10_sets ad S Ln R q11 l0_59 l1_59 3 q13) fun q14 => bd (fX10_sets ad S Ln R q14 l0_59 l1_59 4 1000) fun q15 => bd (fX10_sets ad S Ln R q15 l0_59 l1_59 5 0) fun q16 => bd (fX10_sets ad S Ln R q16 l0_59 l1_59 6 0) fun q17 => bd (fX10_sets ad S Ln R q17 l0_59 l1_59 7 1) fun q18 => bd (fX10_inState ad S Ln R q18 l0_59 1) fun q19 => some ((q19, q18))) else (some ((0, q7.2)))
def fX10_launches_B36 (ad S Ln : Nat → Nat) (R : gR) (M36 : gM) (l0_36 : Nat) (l1_36 : Int) (s0_36 : Int) (s1_36 : Nat) : Option (Int × gM) :=
  bd (fX10_isThrown ad S Ln R M36 s1_36 s0_36 2) fun q4 => if ¬ q4.1 = 0 then (some ((0, q4.2))) else (rf S (R l0_36 0) 20 fun b5 => gd ((0 : Int) ≤ 1 ∧ 1 < (Ln b5 : Int)) (if 2 ≤ (q4.2 b5 1) then (fX10_launches_B59 ad S Ln R q4.2 l0_36 l1_36 0 l0_36) else (fX10_launches_B59 ad S Ln R q4.2 l0_36 l1_36 1 l0_36)))
def fX10_launches_B14 (ad S Ln : Nat → Nat) (R : gR) (M14 : gM) (l0_14 : Nat) (l1_14 : Int) (s0_14 : Int) (s1_14 : Nat) : Option (Int × gM) :=
  bd (fX10_isThrown ad S Ln R M14 s1_14 s0_14 1) fun q2 => if ¬ q2.1 = 0 then (some ((0, q2.2))) else (bd (fX10_of ad S Ln R q2.2 l0_14 l1_14 1) fun q3 => if q3 = 0 then (fX10_launches_B36 ad S Ln R q2.2 l0_14 l1_14 0 l0_14) else (fX10_launches_B36 ad S Ln R q2.2 l0_14 l1_14 1 l0_14))
def fX10_launches (ad S Ln : Nat → Nat) (R : gR) (M : gM) (a0 : Nat) (x1 : Int) : Option (Int × gM) :=
  bd (fX10_isPilot ad S Ln R M a0 x1) fun q1 => if ¬ q1 = 0 then (fX10_launches_B14 ad S Ln R M a0 x1 0 a0) else (fX10_launches_B14 ad S Ln R M a0 x1 1 a0)
theorem xX10_launches {l : Launch} {G : gE} {sz : Nat} {S Ln : Nat → Nat} {M : gM} {R : gR} (hl : l.stackTraces = false) {a0 : Nat} (hs0 : S a0 = 13) {x1 : Int} (hx1 : (-2147483648 ≤ x1 ∧ x1 < 2147483648)) {r : Int × gM} (h : fX10_launches G.2.2.2.2 S Ln R M a0 x1 = some r) : Ct l G yX10_launches cX10_launches 2 (some .int) 3 0 0 [.ref a0, .int (iI x1)] sz S Ln M R (poI r.1 sz S Ln (r.2) R) noX := by
  refine jj_start (own := RX10) (lv0 := [(0, .ref a0), (1, .int (iI x1))]) hl (by decide +kernel) rfl rfl (c_le rfl) (fun C hCl hC => ?_)
  have hB59 : ∀ (M59 : gM) (l0_59 : Nat) (l1_59 : Int) (s0_59 : Int) (s1_59 : Nat), S l0_59 = 13 → (-2147483648 ≤ l1_59 ∧ l1_59 < 2147483648) → (0 ≤ s0_59 ∧ s0_59 ≤ 1) → S s1_59 = 13 → fX10_launches_B59 G.2.2.2.2 S Ln R M59 l0_59 l1_59 s0_59 s1_59 = some r → JJ G C 0 0 sz S Ln M59 R 59 [(0, .ref l0_59), (1, .int (iI l1_59))] [.int (iI s0_59), .ref s1_59] := by
    intro M59 l0_59 l1_59 s0_59 s1_59 hl0_59 hl1_59 hs0_59 hs1_59 h
    unfold fX10_launches_B59 at h
    refine jj_iconst hC dX10_launches_59 ?_
    obtain ⟨q7, hq7, h⟩ := bd_e h
    refine jj_invV hC mvX10_isThrown wd1791 wd24 wd1789 hs1_59 (by decide) rfl (xX10_isThrown (OKC.tr hC) hs1_59 hs0_59 (show (-2147483648 ≤ (3 : Int) ∧ (3 : Int) < 2147483648) from by decide) hq7) rfl rfl (c_le rfl) (c_le rfl) (c_le rfl) (c_le rfl) dX10_launches_60 noXk (po_kZ (fun hr7 => ?_))
    refine jj_if_eq (tgt := 68) hC dX10_launches_63 rfl (r_z hr7) (fun hc => ?_) (fun hc => ?_)
    · replace h := (if_pos hc).symm.trans h
      refine jj_aload_n hC dX10_launches_68 rfl 0 rfl ?_
      refine jj_iload_n hC dX10_launches_69 rfl 1 rfl ?_
      refine jj_iconst hC dX10_launches_70 ?_
      refine jj_iconst hC dX10_launches_71 ?_
      obtain ⟨q8, hq8, h⟩ := bd_e h
      refine jj_invV hC mvX10_sets wd1878 wd39 wd1876 hl0_59 (by decide) rfl (xX10_sets (OKC.tr hC) hl0_59 hl1_59 (show (-2147483648 ≤ (1 : Int) ∧ (1 : Int) < 2147483648) from by decide) (show (-2147483648 ≤ (1 : Int) ∧ (1 : Int) < 2147483648) from by decide) hq8) rfl rfl (c_le rfl) (c_le rfl) (c_le rfl) (c_le rfl) dX10_launches_72 noXk (po_kV ?_)
      refine jj_aload_n hC dX10_launches_75 rfl 0 rfl ?_
      refine jj_iload_n hC dX10_launches_76 rfl 1 rfl ?_
      refine jj_iconst hC dX10_launches_77 ?_
      refine jj_aload_n hC dX10_launches_78 rfl 0 rfl ?_
      refine jj_aload_n hC dX10_launches_79 rfl 0 rfl ?_
      refine jj_iconst hC dX10_launches_80 ?_
      obtain ⟨q9, hq9, h⟩ := bd_e h
      refine jj_invV hC mvX10_inTask wd1819 wd30 wd1817 hl0_59 (by decide) rfl (xX10_inTask (OKC.tr hC) hl0_59 (show (-2147483648 ≤ (0 : Int) ∧ (0 : Int) < 2147483648) from by decide) hq9) rfl rfl (c_le rfl) (c_le rfl) (c_le rfl) (c_le rfl) dX10_launches_81 noXk (po_kI (fun hr9 => ?_))
      obtain ⟨q10, hq10, h⟩ := bd_e h
      refine jj_invV hC mvX10_pointX wd1827 wd32 wd1825 hl0_59 (by decide) rfl (xX10_pointX (OKC.tr hC) hl0_59 hr9 hq10) rfl rfl (c_le rfl) (c_le rfl) (c_le rfl) (c_le rfl) dX10_launches_84 noXk (po_kI (fun hr10 => ?_))
      obtain ⟨q11, hq11, h⟩ := bd_e h
      refine jj_invV hC mvX10_sets wd1878 wd39 wd1876 hl0_59 (by decide) rfl (xX10_sets (OKC.tr hC) hl0_59 hl1_59 (show (-2147483648 ≤ (2 : Int) ∧ (2 : Int) < 2147483648) from by decide) hr10 hq11) rfl rfl (c_le rfl) (c_le rfl) (c_le rfl) (c_le rfl) dX10_launches_87 noXk (po_kV ?_)
      refine jj_aload_n hC dX10_launches_90 rfl 0 rfl ?_
      refine jj_iload_n hC dX10_launches_91 rfl 1 rfl ?_
      refine jj_iconst hC dX10_launches_92 ?_
      refine jj_aload_n hC dX10_launches_93 rfl 0 rfl ?_
      refine jj_aload_n hC dX10_launches_94 rfl 0 rfl ?_
      refine jj_iconst hC dX10_launches_95 ?_
      obtain ⟨q12, hq12, h⟩ := bd_e h
      refine jj_invV hC mvX10_inTask wd1819 wd30 wd1817 hl0_59 (by decide) rfl (xX10_inTask (OKC.tr hC) hl0_59 (show (-2147483648 ≤ (0 : Int) ∧ (0 : Int) < 2147483648) from by decide) hq12) rfl rfl (c_le rfl) (c_le rfl) (c_le rfl) (c_le rfl) dX10_launches_96 noXk (po_kI (fun hr12 => ?_))
      obtain ⟨q13, hq13, h⟩ := bd_e h
      refine jj_invV hC mvX10_pointY wd1834 wd33 wd1832 hl0_59 (by decide) rfl (xX10_pointY (OKC.tr hC) hl0_59 hr12 hq13) rfl rfl (c_le rfl) (c_le rfl) (c_le rfl) (c_le rfl) dX10_launches_99 noXk (po_kI (fun hr13 => ?_))
      obtain ⟨q14, hq14, h⟩ := bd_e h
      refine jj_invV hC mvX10_sets wd1878 wd39 wd1876 hl0_59 (by decide) rfl (xX10_sets (OKC.tr hC) hl0_59 hl1_59 (show (-2147483648 ≤ (3 : Int) ∧ (3 : Int) < 2147483648) from by decide) hr13 hq14) rfl rfl (c_le rfl) (c_le rfl) (c_le rfl) (c_le rfl) dX10_launches_102 noXk (po_kV ?_)
      refine jj_aload_n hC dX10_launches_105 rfl 0 rfl ?_
      refine jj_iload_n hC dX10_launches_106 rfl 1 rfl ?_
      refine jj_iconst hC dX10_launches_107 ?_
      refine jj_sipush hC dX10_launches_108 (by decide) ?_
      obtain ⟨q15, hq15, h⟩ := bd_e h
      refine jj_invV hC mvX10_sets wd1878 wd39 wd1876 hl0_59 (by decide) rfl (xX10_sets (OKC.tr hC) hl0_59 hl1_59 (show (-2147483648 ≤ (4 : Int) ∧ (4 : Int) < 2147483648) from by decide) (show (-2147483648 ≤ (1000 : Int) ∧ (1000 : Int) < 2147483648) from by decide) hq15) rfl rfl (c_le rfl) (c_le rfl) (c_le rfl) (c_le rfl) dX10_launches_111 noXk (po_kV ?_)
      refine jj_aload_n hC dX10_launches_114 rfl 0 rfl ?_
      refine jj_iload_n hC dX10_launches_115 rfl 1 rfl ?_
      refine jj_iconst hC dX10_launches_116 ?_
      refine jj_iconst hC dX10_launches_117 ?_
      obtain ⟨q16, hq16, h⟩ := bd_e h
      refine jj_invV hC mvX10_sets wd1878 wd39 wd1876 hl0_59 (by decide) rfl (xX10_sets (OKC.tr hC) hl0_59 hl1_59 (show (-2147483648 ≤ (5 : Int) ∧ (5 : Int) < 2147483648) from by decide) (show (-2147483648 ≤ (0 : Int) ∧ (0 : Int) < 2147483648) from by decide) hq16) rfl rfl (c_le rfl) (c_le rfl) (c_le rfl) (c_le rfl) dX10_launches_118 noXk (po_kV ?_)
      refine jj_aload_n hC dX10_launches_121 rfl 0 rfl ?_
      refine jj_iload_n hC dX10_launches_122 rfl 1 rfl ?_
      refine jj_bipush hC dX10_launches_123 (by decide) ?_
      refine jj_iconst hC dX10_launches_125 ?_
      obtain ⟨q17, hq17, h⟩ := bd_e h
      refine jj_invV hC mvX10_sets wd1878 wd39 wd1876 hl0_59 (by decide) rfl (xX10_sets (OKC.tr hC) hl0_59 hl1_59 (show (-2147483648 ≤ (6 : Int) ∧ (6 : Int) < 2147483648) from by decide) (show (-2147483648 ≤ (0 : Int) ∧ (0 : Int) < 2147483648) from by decide) hq17) rfl rfl (c_le rfl) (c_le rfl) (c_le rfl) (c_le rfl) dX10_launches_126 noXk (po_kV ?_)
      refine jj_aload_n hC dX10_launches_129 rfl 0 rfl ?_
      refine jj_iload_n hC dX10_launches_130 rfl 1 rfl ?_
      refine jj_bipush hC dX10_launches_131 (by decide) ?_
      refine jj_iconst hC dX10_launches_133 ?_
      obtain ⟨q18, hq18, h⟩ := bd_e h
      refine jj_invV hC mvX10_sets wd1878 wd39 wd1876 hl0_59 (by decide) rfl (xX10_sets (OKC.tr hC) hl0_59 hl1_59 (show (-2147483648 ≤ (7 : Int) ∧ (7 : Int) < 2147483648) from by decide) (show (-2147483648 ≤ (1 : Int) ∧ (1 : Int) < 2147483648) from by decide) hq18) rfl rfl (c_le rfl) (c_le rfl) (c_le rfl) (c_le rfl) dX10_launches_134 noXk (po_kV ?_)
      refine jj_aload_n hC dX10_launches_137 rfl 0 rfl ?_
      refine jj_iconst hC dX10_launches_138 ?_
      obtain ⟨q19, hq19, h⟩ := bd_e h
      refine jj_invV hC mvX10_inState wd1894 wd42 wd1892 hl0_59 (by decide) rfl (xX10_inState (OKC.tr hC) hl0_59 (show (-2147483648 ≤ (1 : Int) ∧ (1 : Int) < 2147483648) from by decide) hq19) rfl rfl (c_le rfl) (c_le rfl) (c_le rfl) (c_le rfl) dX10_launches_139 noXk (po_kI (fun hr19 => ?_))
      cases h
      exact jj_iret hC (c_le rfl) (c_le rfl) dX10_launches_142 ⟨rfl, hr19, rfl, rfl, rfl, rfl, rfl⟩
    · replace h := (if_neg (hc)).symm.trans h
      refine jj_iconst hC dX10_launches_66 ?_
      cases h
      exact jj_iret hC (c_le rfl) (c_le rfl) dX10_launches_67 ⟨rfl, (show (-2147483648 ≤ (0 : Int) ∧ (0 : Int) < 2147483648) from by decide), rfl, rfl, rfl, rfl, rfl⟩
  have hB36 : ∀ (M36 : gM) (l0_36 : Nat) (l1_36 : Int) (s0_36 : Int) (s1_36 : Nat), S l0_36 = 13 → (-2147483648 ≤ l1_36 ∧ l1_36 < 2147483648) → (0 ≤ s0_36 ∧ s0_36 ≤ 1) → S s1_36 = 13 → fX10_launches_B36 G.2.2.2.2 S Ln R M36 l0_36 l1_36 s0_36 s1_36 = some r → JJ G C 0 0 sz S Ln M36 R 36 [(0, .ref l0_36), (1, .int (iI l1_36))] [.int (iI s0_36), .ref s1_36] := by
    intro M36 l0_36 l1_36 s0_36 s1_36 hl0_36 hl1_36 hs0_36 hs1_36 h
    unfold fX10_launches_B36 at h
    refine jj_iconst hC dX10_launches_36 ?_
    obtain ⟨q4, hq4, h⟩ := bd_e h
    refine jj_invV hC mvX10_isThrown wd1791 wd24 wd1789 hs1_36 (by decide) rfl (xX10_isThrown (OKC.tr hC) hs1_36 hs0_36 (show (-2147483648 ≤ (2 : Int) ∧ (2 : Int) < 2147483648) from by decide) hq4) rfl rfl (c_le rfl) (c_le rfl) (c_le rfl) (c_le rfl) dX10_launches_37 noXk (po_kZ (fun hr4 => ?_))
    refine jj_if_ne (tgt := 66) hC dX10_launches_40 rfl (r_z hr4) (fun hc => ?_) (fun hc => ?_)
    · replace h := (if_pos hc).symm.trans h
      refine jj_iconst hC dX10_launches_66 ?_
      cases h
      exact jj_iret hC (c_le rfl) (c_le rfl) dX10_launches_67 ⟨rfl, (show (-2147483648 ≤ (0 : Int) ∧ (0 : Int) < 2147483648) from by decide), rfl, rfl, rfl, rfl, rfl⟩
    · replace h := (if_neg (fun k => k hc)).symm.trans h
      refine jj_aload_n hC dX10_launches_43 rfl 0 rfl ?_
      refine jj_aload_n hC dX10_launches_44 rfl 0 rfl ?_
      obtain ⟨b5, hb5, hs5, h⟩ := rf_e h
      refine jg_R hC kfX10 0 rfl hl0_36 (by decide) wd1709 rfl hb5 dX10_launches_45 ?_
      refine jj_iconst hC dX10_launches_48 ?_
      obtain ⟨⟨ha6, hb6⟩, h⟩ := gd_e h
      refine jj_iald hC hs5 ha6 hb6 dX10_launches_49 (fun hr6 => ?_)
      refine jj_iconst hC dX10_launches_50 ?_
      refine jj_icmp_ge (tgt := 58) hC dX10_launches_51 rfl hr6 (show (-2147483648 ≤ (2 : Int) ∧ (2 : Int) < 2147483648) from by decide) (fun hc => ?_) (fun hc => ?_)
      · replace h := (if_pos hc).symm.trans h
        refine jj_iconst hC dX10_launches_58 ?_
        refine jj_lv (lv' := [(0, .ref l0_36), (1, .int (iI l1_36))]) [0, 1] rfl ?_
        exact hB59 q4.2 l0_36 l1_36 0 l0_36 hl0_36 hl1_36 (show (0 ≤ (0 : Int) ∧ (0 : Int) ≤ 1) from by decide) hl0_36 h
      · replace h := (if_neg (Int.not_le.mpr hc)).symm.trans h
        refine jj_iconst hC dX10_launches_54 ?_
        refine jj_goto (tgt := 59) hC dX10_launches_55 rfl ?_
        refine jj_lv (lv' := [(0, .ref l0_36), (1, .int (iI l1_36))]) [0, 1] rfl ?_
        exact hB59 q4.2 l0_36 l1_36 1 l0_36 hl0_36 hl1_36 (show (0 ≤ (1 : Int) ∧ (1 : Int) ≤ 1) from by decide) hl0_36 h
  have hB14 : ∀ (M14 : gM) (l0_14 : Nat) (l1_14 : Int) (s0_14 : Int) (s1_14 : Nat), S l0_14 = 13 → (-2147483648 ≤ l1_14 ∧ l1_14 < 2147483648) → (0 ≤ s0_14 ∧ s0_14 ≤ 1) → S s1_14 = 13 → fX10_launches_B14 G.2.2.2.2 S Ln R M14 l0_14 l1_14 s0_14 s1_14 = some r → JJ G C 0 0 sz S Ln M14 R 14 [(0, .ref l0_14), (1, .int (iI l1_14))] [.int (iI s0_14), .ref s1_14] := by
    intro M14 l0_14 l1_14 s0_14 s1_14 hl0_14 hl1_14 hs0_14 hs1_14 h
    unfold fX10_launches_B14 at h
    refine jj_iconst hC dX10_launches_14 ?_
    obtain ⟨q2, hq2, h⟩ := bd_e h
    refine jj_invV hC mvX10_isThrown wd1791 wd24 wd1789 hs1_14 (by decide) rfl (xX10_isThrown (OKC.tr hC) hs1_14 hs0_14 (show (-2147483648 ≤ (1 : Int) ∧ (1 : Int) < 2147483648) from by decide) hq2) rfl rfl (c_le rfl) (c_le rfl) (c_le rfl) (c_le rfl) dX10_launches_15 noXk (po_kZ (fun hr2 => ?_))
    refine jj_if_ne (tgt := 66) hC dX10_launches_18 rfl (r_z hr2) (fun hc => ?_) (fun hc => ?_)
    · replace h := (if_pos hc).symm.trans h
      refine jj_iconst hC dX10_launches_66 ?_
      cases h
      exact jj_iret hC (c_le rfl) (c_le rfl) dX10_launches_67 ⟨rfl, (show (-2147483648 ≤ (0 : Int) ∧ (0 : Int) < 2147483648) from by decide), rfl, rfl, rfl, rfl, rfl⟩
    · replace h := (if_neg (fun k => k hc)).symm.trans h
      refine jj_aload_n hC dX10_launches_21 rfl 0 rfl ?_
      refine jj_aload_n hC dX10_launches_22 rfl 0 rfl ?_
      refine jj_iload_n hC dX10_launches_23 rfl 1 rfl ?_
      refine jj_iconst hC dX10_launches_24 ?_
      obtain ⟨q3, hq3, h⟩ := bd_e h
      refine jj_invV hC mvX10_of wd1815 wd29 wd1813 hl0_14 (by decide) rfl (xX10_of (OKC.tr hC) hl0_14 hl1_14 (show (-2147483648 ≤ (1 : Int) ∧ (1 : Int) < 2147483648) from by decide) hq3) rfl rfl (c_le rfl) (c_le rfl) (c_le rfl) (c_le rfl) dX10_launches_25 noXk (po_kI (fun hr3 => ?_))
      refine jj_if_eq (tgt := 35) hC dX10_launches_28 rfl hr3 (fun hc => ?_) (fun hc => ?_)
      · replace h := (if_pos hc).symm.trans h
        refine jj_iconst hC dX10_launches_35 ?_
        refine jj_lv (lv' := [(0, .ref l0_14), (1, .int (iI l1_14))]) [0, 1] rfl ?_
        exact hB36 q2.2 l0_14 l1_14 0 l0_14 hl0_14 hl1_14 (show (0 ≤ (0 : Int) ∧ (0 : Int) ≤ 1) from by decide) hl0_14 h
      · replace h := (if_neg (hc)).symm.trans h
        refine jj_iconst hC dX10_launches_31 ?_
        refine jj_goto (tgt := 36) hC dX10_launches_32 rfl ?_
        refine jj_lv (lv' := [(0, .ref l0_14), (1, .int (iI l1_14))]) [0, 1] rfl ?_
        exact hB36 q2.2 l0_14 l1_14 1 l0_14 hl0_14 hl1_14 (show (0 ≤ (1 : Int) ∧ (1 : Int) ≤ 1) from by decide) hl0_14 h
  unfold fX10_launches at h
  refine jj_aload_n hC dX10_launches_0 rfl 0 rfl ?_
  refine jj_aload_n hC dX10_launches_1 rfl 0 rfl ?_
  refine jj_iload_n hC dX10_launches_2 rfl 1 rfl ?_
  obtain ⟨q1, hq1, h⟩ := bd_e h
  refine jj_invV hC mvX10_isPilot wd1890 wd41 wd1888 hs0 (by decide) rfl (xX10_isPilot (OKC.tr hC) hs0 hx1 hq1) rfl rfl (c_le rfl) (c_le rfl) (c_le rfl) (c_le rfl) dX10_launches_3 noXk (po_kZ (fun hr1 => ?_))
  refine jj_if_ne (tgt := 13) hC dX10_launches_6 rfl (r_z hr1) (fun hc => ?_) (fun hc => ?_)
  · replace h := (if_pos hc).symm.trans h
    refine jj_iconst hC dX10_launches_13 ?_
    refine jj_lv (lv' := [(0, .ref a0), (1, .int (iI x1))]) [0, 1] rfl ?_
    exact hB14 M a0 x1 0 a0 hs0 hx1 (show (0 ≤ (0 : Int) ∧ (0 : Int) ≤ 1) from by decide) hs0 h
  · replace h := (if_neg (fun k => k hc)).symm.trans h
    refine jj_iconst hC dX10_launches_9 ?_
    refine jj_goto (tgt := 14) hC dX10_launches_10 rfl ?_
    refine jj_lv (lv' := [(0, .ref a0), (1, .int (iI x1))]) [0, 1] rfl ?_
    exact hB14 M a0 x1 1 a0 hs0 hx1 (show (0 ≤ (1 : Int) ∧ (1 : Int) ≤ 1) from by decide) hs0 h
def fX10_launch (ad S Ln : Nat → Nat) (R : gR) (M : gM) (a0 : Nat) (x1 : Int) : Option (Int × gM) :=
  bd (fX10_keeps ad S Ln R M a0) fun q1 => bd (fX10_launches ad S Ln R q1 a0 x1) fun q2 => bd (fX10_ends ad S Ln R q2.2 a0 q2.1) fun q3 => some ((q3.1, q3.2))
theorem xX10_launch {l : Launch} {G : gE} {sz : Nat} {S Ln : Nat → Nat} {M : gM} {R : gR} (hl : l.stackTraces = false) {a0 : Nat} (hs0 : S a0 = 13) {x1 : Int} (hx1 : (-2147483648 ≤ x1 ∧ x1 < 2147483648)) {r : Int × gM} (h : fX10_launch G.2.2.2.2 S Ln R M a0 x1 = some r) : Ct l G yX10_launch cX10_launch 2 (some .int) 4 0 0 [.ref a0, .int (iI x1)] sz S Ln M R (poI r.1 sz S Ln (r.2) R) noX := by
  refine jj_start (own := RX10) (lv0 := [(0, .ref a0), (1, .int (iI x1))]) hl (by decide +kernel) rfl rfl (c_le rfl) (fun C hCl hC => ?_)
  unfold fX10_launch at h
  refine jj_aload_n hC dX10_launch_0 rfl 0 rfl ?_
  obtain ⟨q1, hq1, h⟩ := bd_e h
  refine jj_invV hC mvX10_keeps wd1774 wd22 wd1772 hs0 (by decide) rfl (xX10_keeps (OKC.tr hC) hs0 hq1) rfl rfl (c_le rfl) (c_le rfl) (c_le rfl) (c_le rfl) dX10_launch_1 noXk (po_kV ?_)
  refine jj_aload_n hC dX10_launch_4 rfl 0 rfl ?_
  refine jj_aload_n hC dX10_launch_5 rfl 0 rfl ?_
  refine jj_iload_n hC dX10_launch_6 rfl 1 rfl ?_
  obtain ⟨q2, hq2, h⟩ := bd_e h
  refine jj_invV hC mvX10_launches wd1886 wd40 wd1884 hs0 (by decide) rfl (xX10_launches (OKC.tr hC) hs0 hx1 hq2) rfl rfl (c_le rfl) (c_le rfl) (c_le rfl) (c_le rfl) dX10_launch_7 noXk (po_kI (fun hr2 => ?_))
  obtain ⟨q3, hq3, h⟩ := bd_e h
  refine jj_invV hC mvX10_ends wd1795 wd25 wd1793 hs0 (by decide) rfl (xX10_ends (OKC.tr hC) hs0 hr2 hq3) rfl rfl (c_le rfl) (c_le rfl) (c_le rfl) (c_le rfl) dX10_launch_10 noXk (po_kI (fun hr3 => ?_))
  cases h
  exact jj_iret hC (c_le rfl) (c_le rfl) dX10_launch_13 ⟨rfl, hr3, rfl, rfl, rfl, rfl, rfl⟩
def fX10_stepX (ad S Ln : Nat → Nat) (R : gR) (M : gM) (x0 : Int) : Option Int :=
  if ¬ x0 = 1 then (if ¬ x0 = 3 then (some (0)) else (some ((-1)))) else (some (1))
theorem xX10_stepX {l : Launch} {G : gE} {sz : Nat} {S Ln : Nat → Nat} {M : gM} {R : gR} (hl : l.stackTraces = false) {x0 : Int} (hx0 : (-2147483648 ≤ x0 ∧ x0 < 2147483648)) {r : Int} (h : fX10_stepX G.2.2.2.2 S Ln R M x0 = some r) : Ct l G yX10_stepX cX10_stepX 1 (some .int) 1 0 0 [.int (iI x0)] sz S Ln M R (poI r sz S Ln (M) R) noX := by
  refine jj_start (own := RX10) (lv0 := [(0, .int (iI x0))]) hl (by decide +kernel) rfl rfl (c_le rfl) (fun C hCl hC => ?_)
  unfold fX10_stepX at h
  refine jj_iload_n hC dX10_stepX_0 rfl 0 rfl ?_
  refine jj_iconst hC dX10_stepX_1 ?_
  refine jj_icmp_ne (tgt := 9) hC dX10_stepX_2 rfl hx0 (show (-2147483648 ≤ (1 : Int) ∧ (1 : Int) < 2147483648) from by decide) (fun hc => ?_) (fun hc => ?_)
  · replace h := (if_pos hc).symm.trans h
    refine jj_iload_n hC dX10_stepX_9 rfl 0 rfl ?_
    refine jj_iconst hC dX10_stepX_10 ?_
    refine jj_icmp_ne (tgt := 18) hC dX10_stepX_11 rfl hx0 (show (-2147483648 ≤ (3 : Int) ∧ (3 : Int) < 2147483648) from by decide) (fun hc => ?_) (fun hc => ?_)
    · replace h := (if_pos hc).symm.trans h
      refine jj_iconst hC dX10_stepX_18 ?_
      cases h
      exact jj_iret hC (c_le rfl) (c_le rfl) dX10_stepX_19 ⟨rfl, (show (-2147483648 ≤ (0 : Int) ∧ (0 : Int) < 2147483648) from by decide), rfl, rfl, rfl, rfl, rfl⟩
    · replace h := (if_neg (fun k => k hc)).symm.trans h
      refine jj_iconst hC dX10_stepX_14 ?_
      refine jj_goto (tgt := 19) hC dX10_stepX_15 rfl ?_
      cases h
      exact jj_iret hC (c_le rfl) (c_le rfl) dX10_stepX_19 ⟨rfl, (show (-2147483648 ≤ ((-1) : Int) ∧ ((-1) : Int) < 2147483648) from by decide), rfl, rfl, rfl, rfl, rfl⟩
  · replace h := (if_neg (fun k => k hc)).symm.trans h
    refine jj_iconst hC dX10_stepX_5 ?_
    refine jj_goto (tgt := 19) hC dX10_stepX_6 rfl ?_
    cases h
    exact jj_iret hC (c_le rfl) (c_le rfl) dX10_stepX_19 ⟨rfl, (show (-2147483648 ≤ (1 : Int) ∧ (1 : Int) < 2147483648) from by decide), rfl, rfl, rfl, rfl, rfl⟩
def fX10_stepY (ad S Ln : Nat → Nat) (R : gR) (M : gM) (x0 : Int) : Option Int :=
  if ¬ x0 = 0 then (if ¬ x0 = 2 then (some (0)) else (some ((-1)))) else (some (1))
theorem xX10_stepY {l : Launch} {G : gE} {sz : Nat} {S Ln : Nat → Nat} {M : gM} {R : gR} (hl : l.stackTraces = false) {x0 : Int} (hx0 : (-2147483648 ≤ x0 ∧ x0 < 2147483648)) {r : Int} (h : fX10_stepY G.2.2.2.2 S Ln R M x0 = some r) : Ct l G yX10_stepY cX10_stepY 1 (some .int) 1 0 0 [.int (iI x0)] sz S Ln M R (poI r sz S Ln (M) R) noX := by
  refine jj_start (own := RX10) (lv0 := [(0, .int (iI x0))]) hl (by decide +kernel) rfl rfl (c_le rfl) (fun C hCl hC => ?_)
  unfold fX10_stepY at h
  refine jj_iload_n hC dX10_stepY_0 rfl 0 rfl ?_
  refine jj_if_ne (tgt := 8) hC dX10_stepY_1 rfl hx0 (fun hc => ?_) (fun hc => ?_)
  · replace h := (if_pos hc).symm.trans h
    refine jj_iload_n hC dX10_stepY_8 rfl 0 rfl ?_
    refine jj_iconst hC dX10_stepY_9 ?_
    refine jj_icmp_ne (tgt := 17) hC dX10_stepY_10 rfl hx0 (show (-2147483648 ≤ (2 : Int) ∧ (2 : Int) < 2147483648) from by decide) (fun hc => ?_) (fun hc => ?_)
    · replace h := (if_pos hc).symm.trans h
      refine jj_iconst hC dX10_stepY_17 ?_
      cases h
      exact jj_iret hC (c_le rfl) (c_le rfl) dX10_stepY_18 ⟨rfl, (show (-2147483648 ≤ (0 : Int) ∧ (0 : Int) < 2147483648) from by decide), rfl, rfl, rfl, rfl, rfl⟩
    · replace h := (if_neg (fun k => k hc)).symm.trans h
      refine jj_iconst hC dX10_stepY_13 ?_
      refine jj_goto (tgt := 18) hC dX10_stepY_14 rfl ?_
      cases h
      exact jj_iret hC (c_le rfl) (c_le rfl) dX10_stepY_18 ⟨rfl, (show (-2147483648 ≤ ((-1) : Int) ∧ ((-1) : Int) < 2147483648) from by decide), rfl, rfl, rfl, rfl, rfl⟩
  · replace h := (if_neg (fun k => k hc)).symm.trans h
    refine jj_iconst hC dX10_stepY_4 ?_
    refine jj_goto (tgt := 18) hC dX10_stepY_5 rfl ?_
    cases h
    exact jj_iret hC (c_le rfl) (c_le rfl) dX10_stepY_18 ⟨rfl, (show (-2147483648 ≤ (1 : Int) ∧ (1 : Int) < 2147483648) from by decide), rfl, rfl, rfl, rfl, rfl⟩
def fX10_sinkOf (ad S Ln : Nat → Nat) (R : gR) (M : gM) (a0 : Nat) (x1 : Int) : Option Int :=
  bd (fX10_of ad S Ln R M a0 x1 0) fun q1 => gd ((0 : Int) < q1) (some (Int.tdiv 1000 q1))
theorem xX10_sinkOf {l : Launch} {G : gE} {sz : Nat} {S Ln : Nat → Nat} {M : gM} {R : gR} (hl : l.stackTraces = false) {a0 : Nat} (hs0 : S a0 = 13) {x1 : Int} (hx1 : (-2147483648 ≤ x1 ∧ x1 < 2147483648)) {r : Int} (h : fX10_sinkOf G.2.2.2.2 S Ln R M a0 x1 = some r) : Ct l G yX10_sinkOf cX10_sinkOf 2 (some .int) 2 0 0 [.ref a0, .int (iI x1)] sz S Ln M R (poI r sz S Ln (M) R) noX := by
  refine jj_start (own := RX10) (lv0 := [(0, .ref a0), (1, .int (iI x1))]) hl (by decide +kernel) rfl rfl (c_le rfl) (fun C hCl hC => ?_)
  unfold fX10_sinkOf at h
  refine jj_sipush hC dX10_sinkOf_0 (by decide) ?_
  refine jj_aload_n hC dX10_sinkOf_3 rfl 0 rfl ?_
  refine jj_iload_n hC dX10_sinkOf_4 rfl 1 rfl ?_
  refine jj_iconst hC dX10_sinkOf_5 ?_
  obtain ⟨q1, hq1, h⟩ := bd_e h
  refine jj_invV hC mvX10_of wd1815 wd29 wd1813 hs0 (by decide) rfl (xX10_of (OKC.tr hC) hs0 hx1 (show (-2147483648 ≤ (0 : Int) ∧ (0 : Int) < 2147483648) from by decide) hq1) rfl rfl (c_le rfl) (c_le rfl) (c_le rfl) (c_le rfl) dX10_sinkOf_6 noXk (po_kI (fun hr1 => ?_))
  obtain ⟨hg2, h⟩ := gd_e h
  refine jj_idiv hC dX10_sinkOf_9 (show (-2147483648 ≤ (1000 : Int) ∧ (1000 : Int) < 2147483648) from by decide) hr1 hg2 ?_
  cases h
  exact jj_iret hC (c_le rfl) (c_le rfl) dX10_sinkOf_10 ⟨rfl, (i_tdiv_r (show (-2147483648 ≤ (1000 : Int) ∧ (1000 : Int) < 2147483648) from by decide) hg2), rfl, rfl, rfl, rfl, rfl⟩
def fX10_isThere (ad S Ln : Nat → Nat) (R : gR) (M : gM) (a0 : Nat) (x1 : Int) (x2 : Int) : Option Int :=
  bd (fX10_of ad S Ln R M a0 x1 2) fun q1 => bd (fX10_pointX ad S Ln R M a0 x2) fun q2 => if ¬ q1 = q2 then (some (0)) else (bd (fX10_of ad S Ln R M a0 x1 3) fun q3 => bd (fX10_pointY ad S Ln R M a0 x2) fun q4 => if ¬ q3 = q4 then (some (0)) else (some (1)))
theorem xX10_isThere {l : Launch} {G : gE} {sz : Nat} {S Ln : Nat → Nat} {M : gM} {R : gR} (hl : l.stackTraces = false) {a0 : Nat} (hs0 : S a0 = 13) {x1 : Int} (hx1 : (-2147483648 ≤ x1 ∧ x1 < 2147483648)) {x2 : Int} (hx2 : (-2147483648 ≤ x2 ∧ x2 < 2147483648)) {r : Int} (h : fX10_isThere G.2.2.2.2 S Ln R M a0 x1 x2 = some r) : Ct l G yX10_isThere cX10_isThere 3 (some .boolean) 2 0 0 [.ref a0, .int (iI x1), .int (iI x2)] sz S Ln M R (poZ r sz S Ln (M) R) noX := by
  refine jj_start (own := RX10) (lv0 := [(0, .ref a0), (1, .int (iI x1)), (2, .int (iI x2))]) hl (by decide +kernel) rfl rfl (c_le rfl) (fun C hCl hC => ?_)
  unfold fX10_isThere at h
  refine jj_aload_n hC dX10_isThere_0 rfl 0 rfl ?_
  refine jj_iload_n hC dX10_isThere_1 rfl 1 rfl ?_
  refine jj_iconst hC dX10_isThere_2 ?_
  obtain ⟨q1, hq1, h⟩ := bd_e h
  refine jj_invV hC mvX10_of wd1815 wd29 wd1813 hs0 (by decide) rfl (xX10_of (OKC.tr hC) hs0 hx1 (show (-2147483648 ≤ (2 : Int) ∧ (2 : Int) < 2147483648) from by decide) hq1) rfl rfl (c_le rfl) (c_le rfl) (c_le rfl) (c_le rfl) dX10_isThere_3 noXk (po_kI (fun hr1 => ?_))
  refine jj_aload_n hC dX10_isThere_6 rfl 0 rfl ?_
  refine jj_iload_n hC dX10_isThere_7 rfl 2 rfl ?_
  obtain ⟨q2, hq2, h⟩ := bd_e h
  refine jj_invV hC mvX10_pointX wd1827 wd32 wd1825 hs0 (by decide) rfl (xX10_pointX (OKC.tr hC) hs0 hx2 hq2) rfl rfl (c_le rfl) (c_le rfl) (c_le rfl) (c_le rfl) dX10_isThere_8 noXk (po_kI (fun hr2 => ?_))
  refine jj_icmp_ne (tgt := 32) hC dX10_isThere_11 rfl hr1 hr2 (fun hc => ?_) (fun hc => ?_)
  · replace h := (if_pos hc).symm.trans h
    refine jj_iconst hC dX10_isThere_32 ?_
    cases h
    exact jj_zret hC (show (0 ≤ (0 : Int) ∧ (0 : Int) ≤ 1) from by decide) (c_le rfl) (c_le rfl) dX10_isThere_33 ⟨rfl, (show (0 ≤ (0 : Int) ∧ (0 : Int) ≤ 1) from by decide), rfl, rfl, rfl, rfl, rfl⟩
  · replace h := (if_neg (fun k => k hc)).symm.trans h
    refine jj_aload_n hC dX10_isThere_14 rfl 0 rfl ?_
    refine jj_iload_n hC dX10_isThere_15 rfl 1 rfl ?_
    refine jj_iconst hC dX10_isThere_16 ?_
    obtain ⟨q3, hq3, h⟩ := bd_e h
    refine jj_invV hC mvX10_of wd1815 wd29 wd1813 hs0 (by decide) rfl (xX10_of (OKC.tr hC) hs0 hx1 (show (-2147483648 ≤ (3 : Int) ∧ (3 : Int) < 2147483648) from by decide) hq3) rfl rfl (c_le rfl) (c_le rfl) (c_le rfl) (c_le rfl) dX10_isThere_17 noXk (po_kI (fun hr3 => ?_))
    refine jj_aload_n hC dX10_isThere_20 rfl 0 rfl ?_
    refine jj_iload_n hC dX10_isThere_21 rfl 2 rfl ?_
    obtain ⟨q4, hq4, h⟩ := bd_e h
    refine jj_invV hC mvX10_pointY wd1834 wd33 wd1832 hs0 (by decide) rfl (xX10_pointY (OKC.tr hC) hs0 hx2 hq4) rfl rfl (c_le rfl) (c_le rfl) (c_le rfl) (c_le rfl) dX10_isThere_22 noXk (po_kI (fun hr4 => ?_))
    refine jj_icmp_ne (tgt := 32) hC dX10_isThere_25 rfl hr3 hr4 (fun hc => ?_) (fun hc => ?_)
    · replace h := (if_pos hc).symm.trans h
      refine jj_iconst hC dX10_isThere_32 ?_
      cases h
      exact jj_zret hC (show (0 ≤ (0 : Int) ∧ (0 : Int) ≤ 1) from by decide) (c_le rfl) (c_le rfl) dX10_isThere_33 ⟨rfl, (show (0 ≤ (0 : Int) ∧ (0 : Int) ≤ 1) from by decide), rfl, rfl, rfl, rfl, rfl⟩
    · replace h := (if_neg (fun k => k hc)).symm.trans h
      refine jj_iconst hC dX10_isThere_28 ?_
      refine jj_goto (tgt := 33) hC dX10_isThere_29 rfl ?_
      cases h
      exact jj_zret hC (show (0 ≤ (1 : Int) ∧ (1 : Int) ≤ 1) from by decide) (c_le rfl) (c_le rfl) dX10_isThere_33 ⟨rfl, (show (0 ≤ (1 : Int) ∧ (1 : Int) ≤ 1) from by decide), rfl, rfl, rfl, rfl, rfl⟩
def fX10_kilometre_B147 (ad S Ln : Nat → Nat) (R : gR) (M147 : gM) (l0_147 : Nat) (l1_147 : Int) : Option gM :=
  bd (fX10_of ad S Ln R M147 l0_147 l1_147 7) fun q18 => rf S (R l0_147 0) 20 fun b19 => gd ((0 : Int) ≤ 1 ∧ 1 < (Ln b19 : Int)) (if ¬ q18 = (M147 b19 1) then (bd (fX10_of ad S Ln R M147 l0_147 l1_147 4) fun q21 => if ¬ q21 = 0 then (some (M147)) else (bd (fX10_sets ad S Ln R M147 l0_147 l1_147 1 2) fun q22 => some (q22))) else (bd (fX10_sets ad S Ln R M147 l0_147 l1_147 1 3) fun q23 => some (q23)))
def fX10_kilometre_B112 (ad S Ln : Nat → Nat) (R : gR) (M112 : gM) (l0_112 : Nat) (l1_112 : Int) : Option gM :=
  bd (fX10_of ad S Ln R M112 l0_112 l1_112 7) fun q15 => bd (fX10_inTask ad S Ln R M112 l0_112 q15) fun q16 => bd (fX10_isThere ad S Ln R M112 l0_112 l1_112 q16) fun q17 => if q17 = 0 then (fX10_kilometre_B147 ad S Ln R M112 l0_112 l1_112) else (bd (fX10_of ad S Ln R M112 l0_112 l1_112 7) fun q24 => bd (fX10_sets ad S Ln R M112 l0_112 l1_112 7 (w32 (q24 + 1))) fun q25 => fX10_kilometre_B147 ad S Ln R q25 l0_112 l1_112)
def fX10_kilometre_B73 (ad S Ln : Nat → Nat) (R : gR) (M73 : gM) (l0_73 : Nat) (l1_73 : Int) (s0_73 : Int) (s1_73 : Int) (s2_73 : Int) (s3_73 : Nat) : Option gM :=
  bd (fX10_sets ad S Ln R M73 s3_73 s2_73 s1_73 s0_73) fun q11 => bd (fX10_of ad S Ln R q11 l0_73 l1_73 2) fun q12 => bd (fX10_of ad S Ln R q11 l0_73 l1_73 3) fun q13 => bd (fX10_restricted ad S Ln R q11 l0_73 q12 q13) fun q14 => if q14 = 0 then (fX10_kilometre_B112 ad S Ln R q11 l0_73 l1_73) else (bd (fX10_of ad S Ln R q11 l0_73 l1_73 6) fun q26 => bd (fX10_sets ad S Ln R q11 l0_73 l1_73 6 (w32 (q26 + 10))) fun q27 => fX10_kilometre_B112 ad S Ln R q27 l0_73 l1_73)
def fX10_kilometre (ad S Ln : Nat → Nat) (R : gR) (M : gM) (a0 : Nat) (x1 : Int) (x2 : Int) : Option gM :=
  bd (fX10_of ad S Ln R M a0 x1 2) fun q1 => bd (fX10_stepX ad S Ln R M x2) fun q2 => bd (fX10_sets ad S Ln R M a0 x1 2 (w32 (q1 + q2))) fun q3 => bd (fX10_of ad S Ln R q3 a0 x1 3) fun q4 => bd (fX10_stepY ad S Ln R q3 x2) fun q5 => bd (fX10_sets ad S Ln R q3 a0 x1 3 (w32 (q4 + q5))) fun q6 => bd (fX10_of ad S Ln R q6 a0 x1 5) fun q7 => bd (fX10_sets ad S Ln R q6 a0 x1 5 (w32 (q7 + 1))) fun q8 => bd (fX10_of ad S Ln R q8 a0 x1 4) fun q9 => bd (fX10_sinkOf ad S Ln R q8 a0 x1) fun q10 => if 0 ≤ (w32 (q9 - q10)) then (fX10_kilometre_B73 ad S Ln R q8 a0 x1 (w32 (q9 - q10)) 4 x1 a0) else (fX10_kilometre_B73 ad S Ln R q8 a0 x1 0 4 x1 a0)
theorem xX10_kilometre {l : Launch} {G : gE} {sz : Nat} {S Ln : Nat → Nat} {M : gM} {R : gR} (hl : l.stackTraces = false) {a0 : Nat} (hs0 : S a0 = 13) {x1 : Int} (hx1 : (-2147483648 ≤ x1 ∧ x1 < 2147483648)) {x2 : Int} (hx2 : (-2147483648 ≤ x2 ∧ x2 < 2147483648)) {r : gM} (h : fX10_kilometre G.2.2.2.2 S Ln R M a0 x1 x2 = some r) : Ct l G yX10_kilometre cX10_kilometre 4 none 3 0 0 [.ref a0, .int (iI x1), .int (iI x2)] sz S Ln M R (poV sz S Ln (r) R) noX := by
  refine jj_start (own := RX10) (lv0 := [(0, .ref a0), (1, .int (iI x1)), (2, .int (iI x2))]) hl (by decide +kernel) rfl rfl (c_le rfl) (fun C hCl hC => ?_)
  have hB147 : ∀ (M147 : gM) (l0_147 : Nat) (l1_147 : Int), S l0_147 = 13 → (-2147483648 ≤ l1_147 ∧ l1_147 < 2147483648) → fX10_kilometre_B147 G.2.2.2.2 S Ln R M147 l0_147 l1_147 = some r → JJ G C 0 0 sz S Ln M147 R 147 [(0, .ref l0_147), (1, .int (iI l1_147))] [] := by
    intro M147 l0_147 l1_147 hl0_147 hl1_147 h
    unfold fX10_kilometre_B147 at h
    refine jj_aload_n hC dX10_kilometre_147 rfl 0 rfl ?_
    refine jj_iload_n hC dX10_kilometre_148 rfl 1 rfl ?_
    refine jj_bipush hC dX10_kilometre_149 (by decide) ?_
    obtain ⟨q18, hq18, h⟩ := bd_e h
    refine jj_invV hC mvX10_of wd1815 wd29 wd1813 hl0_147 (by decide) rfl (xX10_of (OKC.tr hC) hl0_147 hl1_147 (show (-2147483648 ≤ (7 : Int) ∧ (7 : Int) < 2147483648) from by decide) hq18) rfl rfl (c_le rfl) (c_le rfl) (c_le rfl) (c_le rfl) dX10_kilometre_151 noXk (po_kI (fun hr18 => ?_))
    refine jj_aload_n hC dX10_kilometre_154 rfl 0 rfl ?_
    obtain ⟨b19, hb19, hs19, h⟩ := rf_e h
    refine jg_R hC kfX10 0 rfl hl0_147 (by decide) wd1709 rfl hb19 dX10_kilometre_155 ?_
    refine jj_iconst hC dX10_kilometre_158 ?_
    obtain ⟨⟨ha20, hb20⟩, h⟩ := gd_e h
    refine jj_iald hC hs19 ha20 hb20 dX10_kilometre_159 (fun hr20 => ?_)
    refine jj_icmp_ne (tgt := 173) hC dX10_kilometre_160 rfl hr18 hr20 (fun hc => ?_) (fun hc => ?_)
    · replace h := (if_pos hc).symm.trans h
      refine jj_aload_n hC dX10_kilometre_173 rfl 0 rfl ?_
      refine jj_iload_n hC dX10_kilometre_174 rfl 1 rfl ?_
      refine jj_iconst hC dX10_kilometre_175 ?_
      obtain ⟨q21, hq21, h⟩ := bd_e h
      refine jj_invV hC mvX10_of wd1815 wd29 wd1813 hl0_147 (by decide) rfl (xX10_of (OKC.tr hC) hl0_147 hl1_147 (show (-2147483648 ≤ (4 : Int) ∧ (4 : Int) < 2147483648) from by decide) hq21) rfl rfl (c_le rfl) (c_le rfl) (c_le rfl) (c_le rfl) dX10_kilometre_176 noXk (po_kI (fun hr21 => ?_))
      refine jj_if_ne (tgt := 189) hC dX10_kilometre_179 rfl hr21 (fun hc => ?_) (fun hc => ?_)
      · replace h := (if_pos hc).symm.trans h
        cases h
        exact jj_vret hC (c_le rfl) (c_le rfl) dX10_kilometre_189 ⟨rfl, trivial, rfl, rfl, rfl, rfl, rfl⟩
      · replace h := (if_neg (fun k => k hc)).symm.trans h
        refine jj_aload_n hC dX10_kilometre_182 rfl 0 rfl ?_
        refine jj_iload_n hC dX10_kilometre_183 rfl 1 rfl ?_
        refine jj_iconst hC dX10_kilometre_184 ?_
        refine jj_iconst hC dX10_kilometre_185 ?_
        obtain ⟨q22, hq22, h⟩ := bd_e h
        refine jj_invV hC mvX10_sets wd1878 wd39 wd1876 hl0_147 (by decide) rfl (xX10_sets (OKC.tr hC) hl0_147 hl1_147 (show (-2147483648 ≤ (1 : Int) ∧ (1 : Int) < 2147483648) from by decide) (show (-2147483648 ≤ (2 : Int) ∧ (2 : Int) < 2147483648) from by decide) hq22) rfl rfl (c_le rfl) (c_le rfl) (c_le rfl) (c_le rfl) dX10_kilometre_186 noXk (po_kV ?_)
        cases h
        exact jj_vret hC (c_le rfl) (c_le rfl) dX10_kilometre_189 ⟨rfl, trivial, rfl, rfl, rfl, rfl, rfl⟩
    · replace h := (if_neg (fun k => k hc)).symm.trans h
      refine jj_aload_n hC dX10_kilometre_163 rfl 0 rfl ?_
      refine jj_iload_n hC dX10_kilometre_164 rfl 1 rfl ?_
      refine jj_iconst hC dX10_kilometre_165 ?_
      refine jj_iconst hC dX10_kilometre_166 ?_
      obtain ⟨q23, hq23, h⟩ := bd_e h
      refine jj_invV hC mvX10_sets wd1878 wd39 wd1876 hl0_147 (by decide) rfl (xX10_sets (OKC.tr hC) hl0_147 hl1_147 (show (-2147483648 ≤ (1 : Int) ∧ (1 : Int) < 2147483648) from by decide) (show (-2147483648 ≤ (3 : Int) ∧ (3 : Int) < 2147483648) from by decide) hq23) rfl rfl (c_le rfl) (c_le rfl) (c_le rfl) (c_le rfl) dX10_kilometre_167 noXk (po_kV ?_)
      refine jj_goto (tgt := 189) hC dX10_kilometre_170 rfl ?_
      cases h
      exact jj_vret hC (c_le rfl) (c_le rfl) dX10_kilometre_189 ⟨rfl, trivial, rfl, rfl, rfl, rfl, rfl⟩
  have hB112 : ∀ (M112 : gM) (l0_112 : Nat) (l1_112 : Int), S l0_112 = 13 → (-2147483648 ≤ l1_112 ∧ l1_112 < 2147483648) → fX10_kilometre_B112 G.2.2.2.2 S Ln R M112 l0_112 l1_112 = some r → JJ G C 0 0 sz S Ln M112 R 112 [(0, .ref l0_112), (1, .int (iI l1_112))] [] := by
    intro M112 l0_112 l1_112 hl0_112 hl1_112 h
    unfold fX10_kilometre_B112 at h
    refine jj_aload_n hC dX10_kilometre_112 rfl 0 rfl ?_
    refine jj_iload_n hC dX10_kilometre_113 rfl 1 rfl ?_
    refine jj_aload_n hC dX10_kilometre_114 rfl 0 rfl ?_
    refine jj_aload_n hC dX10_kilometre_115 rfl 0 rfl ?_
    refine jj_iload_n hC dX10_kilometre_116 rfl 1 rfl ?_
    refine jj_bipush hC dX10_kilometre_117 (by decide) ?_
    obtain ⟨q15, hq15, h⟩ := bd_e h
    refine jj_invV hC mvX10_of wd1815 wd29 wd1813 hl0_112 (by decide) rfl (xX10_of (OKC.tr hC) hl0_112 hl1_112 (show (-2147483648 ≤ (7 : Int) ∧ (7 : Int) < 2147483648) from by decide) hq15) rfl rfl (c_le rfl) (c_le rfl) (c_le rfl) (c_le rfl) dX10_kilometre_119 noXk (po_kI (fun hr15 => ?_))
    obtain ⟨q16, hq16, h⟩ := bd_e h
    refine jj_invV hC mvX10_inTask wd1819 wd30 wd1817 hl0_112 (by decide) rfl (xX10_inTask (OKC.tr hC) hl0_112 hr15 hq16) rfl rfl (c_le rfl) (c_le rfl) (c_le rfl) (c_le rfl) dX10_kilometre_122 noXk (po_kI (fun hr16 => ?_))
    obtain ⟨q17, hq17, h⟩ := bd_e h
    refine jj_invV hC mvX10_isThere wd1924 wd47 wd1922 hl0_112 (by decide) rfl (xX10_isThere (OKC.tr hC) hl0_112 hl1_112 hr16 hq17) rfl rfl (c_le rfl) (c_le rfl) (c_le rfl) (c_le rfl) dX10_kilometre_125 noXk (po_kZ (fun hr17 => ?_))
    refine jj_if_eq (tgt := 147) hC dX10_kilometre_128 rfl (r_z hr17) (fun hc => ?_) (fun hc => ?_)
    · replace h := (if_pos hc).symm.trans h
      refine jj_lv (lv' := [(0, .ref l0_112), (1, .int (iI l1_112))]) [0, 1] rfl ?_
      exact hB147 M112 l0_112 l1_112 hl0_112 hl1_112 h
    · replace h := (if_neg (hc)).symm.trans h
      refine jj_aload_n hC dX10_kilometre_131 rfl 0 rfl ?_
      refine jj_iload_n hC dX10_kilometre_132 rfl 1 rfl ?_
      refine jj_bipush hC dX10_kilometre_133 (by decide) ?_
      refine jj_aload_n hC dX10_kilometre_135 rfl 0 rfl ?_
      refine jj_iload_n hC dX10_kilometre_136 rfl 1 rfl ?_
      refine jj_bipush hC dX10_kilometre_137 (by decide) ?_
      obtain ⟨q24, hq24, h⟩ := bd_e h
      refine jj_invV hC mvX10_of wd1815 wd29 wd1813 hl0_112 (by decide) rfl (xX10_of (OKC.tr hC) hl0_112 hl1_112 (show (-2147483648 ≤ (7 : Int) ∧ (7 : Int) < 2147483648) from by decide) hq24) rfl rfl (c_le rfl) (c_le rfl) (c_le rfl) (c_le rfl) dX10_kilometre_139 noXk (po_kI (fun hr24 => ?_))
      refine jj_iconst hC dX10_kilometre_142 ?_
      refine jg_iadd hC dX10_kilometre_143 ?_
      obtain ⟨q25, hq25, h⟩ := bd_e h
      refine jj_invV hC mvX10_sets wd1878 wd39 wd1876 hl0_112 (by decide) rfl (xX10_sets (OKC.tr hC) hl0_112 hl1_112 (show (-2147483648 ≤ (7 : Int) ∧ (7 : Int) < 2147483648) from by decide) (w32_r _) hq25) rfl rfl (c_le rfl) (c_le rfl) (c_le rfl) (c_le rfl) dX10_kilometre_144 noXk (po_kV ?_)
      refine jj_lv (lv' := [(0, .ref l0_112), (1, .int (iI l1_112))]) [0, 1] rfl ?_
      exact hB147 q25 l0_112 l1_112 hl0_112 hl1_112 h
  have hB73 : ∀ (M73 : gM) (l0_73 : Nat) (l1_73 : Int) (s0_73 : Int) (s1_73 : Int) (s2_73 : Int) (s3_73 : Nat), S l0_73 = 13 → (-2147483648 ≤ l1_73 ∧ l1_73 < 2147483648) → (-2147483648 ≤ s0_73 ∧ s0_73 < 2147483648) → (-2147483648 ≤ s1_73 ∧ s1_73 < 2147483648) → (-2147483648 ≤ s2_73 ∧ s2_73 < 2147483648) → S s3_73 = 13 → fX10_kilometre_B73 G.2.2.2.2 S Ln R M73 l0_73 l1_73 s0_73 s1_73 s2_73 s3_73 = some r → JJ G C 0 0 sz S Ln M73 R 73 [(0, .ref l0_73), (1, .int (iI l1_73))] [.int (iI s0_73), .int (iI s1_73), .int (iI s2_73), .ref s3_73] := by
    intro M73 l0_73 l1_73 s0_73 s1_73 s2_73 s3_73 hl0_73 hl1_73 hs0_73 hs1_73 hs2_73 hs3_73 h
    unfold fX10_kilometre_B73 at h
    obtain ⟨q11, hq11, h⟩ := bd_e h
    refine jj_invV hC mvX10_sets wd1878 wd39 wd1876 hs3_73 (by decide) rfl (xX10_sets (OKC.tr hC) hs3_73 hs2_73 hs1_73 hs0_73 hq11) rfl rfl (c_le rfl) (c_le rfl) (c_le rfl) (c_le rfl) dX10_kilometre_73 noXk (po_kV ?_)
    refine jj_aload_n hC dX10_kilometre_76 rfl 0 rfl ?_
    refine jj_aload_n hC dX10_kilometre_77 rfl 0 rfl ?_
    refine jj_iload_n hC dX10_kilometre_78 rfl 1 rfl ?_
    refine jj_iconst hC dX10_kilometre_79 ?_
    obtain ⟨q12, hq12, h⟩ := bd_e h
    refine jj_invV hC mvX10_of wd1815 wd29 wd1813 hl0_73 (by decide) rfl (xX10_of (OKC.tr hC) hl0_73 hl1_73 (show (-2147483648 ≤ (2 : Int) ∧ (2 : Int) < 2147483648) from by decide) hq12) rfl rfl (c_le rfl) (c_le rfl) (c_le rfl) (c_le rfl) dX10_kilometre_80 noXk (po_kI (fun hr12 => ?_))
    refine jj_aload_n hC dX10_kilometre_83 rfl 0 rfl ?_
    refine jj_iload_n hC dX10_kilometre_84 rfl 1 rfl ?_
    refine jj_iconst hC dX10_kilometre_85 ?_
    obtain ⟨q13, hq13, h⟩ := bd_e h
    refine jj_invV hC mvX10_of wd1815 wd29 wd1813 hl0_73 (by decide) rfl (xX10_of (OKC.tr hC) hl0_73 hl1_73 (show (-2147483648 ≤ (3 : Int) ∧ (3 : Int) < 2147483648) from by decide) hq13) rfl rfl (c_le rfl) (c_le rfl) (c_le rfl) (c_le rfl) dX10_kilometre_86 noXk (po_kI (fun hr13 => ?_))
    obtain ⟨q14, hq14, h⟩ := bd_e h
    refine jj_invV hC mvX10_restricted wd1920 wd46 wd1918 hl0_73 (by decide) rfl (xX10_restricted (OKC.tr hC) hl0_73 hr12 hr13 hq14) rfl rfl (c_le rfl) (c_le rfl) (c_le rfl) (c_le rfl) dX10_kilometre_89 noXk (po_kZ (fun hr14 => ?_))
    refine jj_if_eq (tgt := 112) hC dX10_kilometre_92 rfl (r_z hr14) (fun hc => ?_) (fun hc => ?_)
    · replace h := (if_pos hc).symm.trans h
      refine jj_lv (lv' := [(0, .ref l0_73), (1, .int (iI l1_73))]) [0, 1] rfl ?_
      exact hB112 q11 l0_73 l1_73 hl0_73 hl1_73 h
    · replace h := (if_neg (hc)).symm.trans h
      refine jj_aload_n hC dX10_kilometre_95 rfl 0 rfl ?_
      refine jj_iload_n hC dX10_kilometre_96 rfl 1 rfl ?_
      refine jj_bipush hC dX10_kilometre_97 (by decide) ?_
      refine jj_aload_n hC dX10_kilometre_99 rfl 0 rfl ?_
      refine jj_iload_n hC dX10_kilometre_100 rfl 1 rfl ?_
      refine jj_bipush hC dX10_kilometre_101 (by decide) ?_
      obtain ⟨q26, hq26, h⟩ := bd_e h
      refine jj_invV hC mvX10_of wd1815 wd29 wd1813 hl0_73 (by decide) rfl (xX10_of (OKC.tr hC) hl0_73 hl1_73 (show (-2147483648 ≤ (6 : Int) ∧ (6 : Int) < 2147483648) from by decide) hq26) rfl rfl (c_le rfl) (c_le rfl) (c_le rfl) (c_le rfl) dX10_kilometre_103 noXk (po_kI (fun hr26 => ?_))
      refine jj_bipush hC dX10_kilometre_106 (by decide) ?_
      refine jg_iadd hC dX10_kilometre_108 ?_
      obtain ⟨q27, hq27, h⟩ := bd_e h
      refine jj_invV hC mvX10_sets wd1878 wd39 wd1876 hl0_73 (by decide) rfl (xX10_sets (OKC.tr hC) hl0_73 hl1_73 (show (-2147483648 ≤ (6 : Int) ∧ (6 : Int) < 2147483648) from by decide) (w32_r _) hq27) rfl rfl (c_le rfl) (c_le rfl) (c_le rfl) (c_le rfl) dX10_kilometre_109 noXk (po_kV ?_)
      refine jj_lv (lv' := [(0, .ref l0_73), (1, .int (iI l1_73))]) [0, 1] rfl ?_
      exact hB112 q27 l0_73 l1_73 hl0_73 hl1_73 h
  unfold fX10_kilometre at h
  refine jj_aload_n hC dX10_kilometre_0 rfl 0 rfl ?_
  refine jj_iload_n hC dX10_kilometre_1 rfl 1 rfl ?_
  refine jj_iconst hC dX10_kilometre_2 ?_
  refine jj_aload_n hC dX10_kilometre_3 rfl 0 rfl ?_
  refine jj_iload_n hC dX10_kilometre_4 rfl 1 rfl ?_
  refine jj_iconst hC dX10_kilometre_5 ?_
  obtain ⟨q1, hq1, h⟩ := bd_e h
  refine jj_invV hC mvX10_of wd1815 wd29 wd1813 hs0 (by decide) rfl (xX10_of (OKC.tr hC) hs0 hx1 (show (-2147483648 ≤ (2 : Int) ∧ (2 : Int) < 2147483648) from by decide) hq1) rfl rfl (c_le rfl) (c_le rfl) (c_le rfl) (c_le rfl) dX10_kilometre_6 noXk (po_kI (fun hr1 => ?_))
  refine jj_iload_n hC dX10_kilometre_9 rfl 2 rfl ?_
  obtain ⟨q2, hq2, h⟩ := bd_e h
  refine jj_invS hC mvX10_stepX wd1905 wd1904 (xX10_stepX (OKC.tr hC) hx2 hq2) rfl rfl (c_le rfl) (c_le rfl) (c_le rfl) (c_le rfl) dX10_kilometre_10 noXk (po_kI (fun hr2 => ?_))
  refine jg_iadd hC dX10_kilometre_13 ?_
  obtain ⟨q3, hq3, h⟩ := bd_e h
  refine jj_invV hC mvX10_sets wd1878 wd39 wd1876 hs0 (by decide) rfl (xX10_sets (OKC.tr hC) hs0 hx1 (show (-2147483648 ≤ (2 : Int) ∧ (2 : Int) < 2147483648) from by decide) (w32_r _) hq3) rfl rfl (c_le rfl) (c_le rfl) (c_le rfl) (c_le rfl) dX10_kilometre_14 noXk (po_kV ?_)
  refine jj_aload_n hC dX10_kilometre_17 rfl 0 rfl ?_
  refine jj_iload_n hC dX10_kilometre_18 rfl 1 rfl ?_
  refine jj_iconst hC dX10_kilometre_19 ?_
  refine jj_aload_n hC dX10_kilometre_20 rfl 0 rfl ?_
  refine jj_iload_n hC dX10_kilometre_21 rfl 1 rfl ?_
  refine jj_iconst hC dX10_kilometre_22 ?_
  obtain ⟨q4, hq4, h⟩ := bd_e h
  refine jj_invV hC mvX10_of wd1815 wd29 wd1813 hs0 (by decide) rfl (xX10_of (OKC.tr hC) hs0 hx1 (show (-2147483648 ≤ (3 : Int) ∧ (3 : Int) < 2147483648) from by decide) hq4) rfl rfl (c_le rfl) (c_le rfl) (c_le rfl) (c_le rfl) dX10_kilometre_23 noXk (po_kI (fun hr4 => ?_))
  refine jj_iload_n hC dX10_kilometre_26 rfl 2 rfl ?_
  obtain ⟨q5, hq5, h⟩ := bd_e h
  refine jj_invS hC mvX10_stepY wd1908 wd1907 (xX10_stepY (OKC.tr hC) hx2 hq5) rfl rfl (c_le rfl) (c_le rfl) (c_le rfl) (c_le rfl) dX10_kilometre_27 noXk (po_kI (fun hr5 => ?_))
  refine jg_iadd hC dX10_kilometre_30 ?_
  obtain ⟨q6, hq6, h⟩ := bd_e h
  refine jj_invV hC mvX10_sets wd1878 wd39 wd1876 hs0 (by decide) rfl (xX10_sets (OKC.tr hC) hs0 hx1 (show (-2147483648 ≤ (3 : Int) ∧ (3 : Int) < 2147483648) from by decide) (w32_r _) hq6) rfl rfl (c_le rfl) (c_le rfl) (c_le rfl) (c_le rfl) dX10_kilometre_31 noXk (po_kV ?_)
  refine jj_aload_n hC dX10_kilometre_34 rfl 0 rfl ?_
  refine jj_iload_n hC dX10_kilometre_35 rfl 1 rfl ?_
  refine jj_iconst hC dX10_kilometre_36 ?_
  refine jj_aload_n hC dX10_kilometre_37 rfl 0 rfl ?_
  refine jj_iload_n hC dX10_kilometre_38 rfl 1 rfl ?_
  refine jj_iconst hC dX10_kilometre_39 ?_
  obtain ⟨q7, hq7, h⟩ := bd_e h
  refine jj_invV hC mvX10_of wd1815 wd29 wd1813 hs0 (by decide) rfl (xX10_of (OKC.tr hC) hs0 hx1 (show (-2147483648 ≤ (5 : Int) ∧ (5 : Int) < 2147483648) from by decide) hq7) rfl rfl (c_le rfl) (c_le rfl) (c_le rfl) (c_le rfl) dX10_kilometre_40 noXk (po_kI (fun hr7 => ?_))
  refine jj_iconst hC dX10_kilometre_43 ?_
  refine jg_iadd hC dX10_kilometre_44 ?_
  obtain ⟨q8, hq8, h⟩ := bd_e h
  refine jj_invV hC mvX10_sets wd1878 wd39 wd1876 hs0 (by decide) rfl (xX10_sets (OKC.tr hC) hs0 hx1 (show (-2147483648 ≤ (5 : Int) ∧ (5 : Int) < 2147483648) from by decide) (w32_r _) hq8) rfl rfl (c_le rfl) (c_le rfl) (c_le rfl) (c_le rfl) dX10_kilometre_45 noXk (po_kV ?_)
  refine jj_aload_n hC dX10_kilometre_48 rfl 0 rfl ?_
  refine jj_iload_n hC dX10_kilometre_49 rfl 1 rfl ?_
  refine jj_iconst hC dX10_kilometre_50 ?_
  obtain ⟨q9, hq9, h⟩ := bd_e h
  refine jj_invV hC mvX10_of wd1815 wd29 wd1813 hs0 (by decide) rfl (xX10_of (OKC.tr hC) hs0 hx1 (show (-2147483648 ≤ (4 : Int) ∧ (4 : Int) < 2147483648) from by decide) hq9) rfl rfl (c_le rfl) (c_le rfl) (c_le rfl) (c_le rfl) dX10_kilometre_51 noXk (po_kI (fun hr9 => ?_))
  refine jj_aload_n hC dX10_kilometre_54 rfl 0 rfl ?_
  refine jj_iload_n hC dX10_kilometre_55 rfl 1 rfl ?_
  obtain ⟨q10, hq10, h⟩ := bd_e h
  refine jj_invV hC mvX10_sinkOf wd1916 wd45 wd1914 hs0 (by decide) rfl (xX10_sinkOf (OKC.tr hC) hs0 hx1 hq10) rfl rfl (c_le rfl) (c_le rfl) (c_le rfl) (c_le rfl) dX10_kilometre_56 noXk (po_kI (fun hr10 => ?_))
  refine jg_isub hC dX10_kilometre_59 ?_
  refine jj_istore_n (lv' := [(3, .int (iI (w32 (q9 - q10)))), (0, .ref a0), (1, .int (iI x1)), (2, .int (iI x2))]) hC dX10_kilometre_60 rfl (by decide) rfl ?_
  refine jj_aload_n hC dX10_kilometre_61 rfl 1 rfl ?_
  refine jj_iload_n hC dX10_kilometre_62 rfl 2 rfl ?_
  refine jj_iconst hC dX10_kilometre_63 ?_
  refine jj_iload_n hC dX10_kilometre_64 rfl 0 rfl ?_
  refine jj_if_ge (tgt := 72) hC dX10_kilometre_65 rfl (w32_r _) (fun hc => ?_) (fun hc => ?_)
  · replace h := (if_pos hc).symm.trans h
    refine jj_iload_n hC dX10_kilometre_72 rfl 0 rfl ?_
    refine jj_lv (lv' := [(0, .ref a0), (1, .int (iI x1))]) [1, 2] rfl ?_
    exact hB73 q8 a0 x1 (w32 (q9 - q10)) 4 x1 a0 hs0 hx1 (w32_r _) (show (-2147483648 ≤ (4 : Int) ∧ (4 : Int) < 2147483648) from by decide) hx1 hs0 h
  · replace h := (if_neg (Int.not_le.mpr hc)).symm.trans h
    refine jj_iconst hC dX10_kilometre_68 ?_
    refine jj_goto (tgt := 73) hC dX10_kilometre_69 rfl ?_
    refine jj_lv (lv' := [(0, .ref a0), (1, .int (iI x1))]) [1, 2] rfl ?_
    exact hB73 q8 a0 x1 0 4 x1 a0 hs0 hx1 (show (-2147483648 ≤ (0 : Int) ∧ (0 : Int) < 2147483648) from by decide) (show (-2147483648 ≤ (4 : Int) ∧ (4 : Int) < 2147483648) from by decide) hx1 hs0 h
def fX10_flies_L128 (ad S Ln : Nat → Nat) (R : gR) (l0_128 : Nat) (l1_128 : Int) (l2_128 : Int) (l3_128 : Int) (s128 : Int × gM) : Option ((Int × gM) ⊕ ((Int × gM) ⊕ (Int × gM))) :=
  if l3_128 ≤ s128.1 then (some (.inr (.inl (s128.1, s128.2)))) else (bd (fX10_of ad S Ln R s128.2 l0_128 l1_128 1) fun q13 => if ¬ q13 = 1 then (some (.inr (.inl (s128.1, s128.2)))) else (bd (fX10_kilometre ad S Ln R s128.2 l0_128 l1_128 l2_128) fun q14 => some (.inl (w32 (s128.1 + 1), q14))))
def fX10_flies_B116 (ad S Ln : Nat → Nat) (R : gR) (M116 : gM) (l0_116 : Nat) (l1_116 : Int) (l2_116 : Int) (l3_116 : Int) (s0_116 : Int) (s1_116 : Nat) : Option (Int × gM) :=
  bd (fX10_isThrown ad S Ln R M116 s1_116 s0_116 4) fun q12 => if q12.1 = 0 then (bd (lp (fX10_flies_L128 ad S Ln R l0_116 l1_116 l2_116 l3_116) FU (0, q12.2)) fun q16 => Sum.elim (fun e128_15 => some ((e128_15.1, e128_15.2))) (fun c16 => some c16) q16) else (some ((0, q12.2)))
def fX10_flies_B69 (ad S Ln : Nat → Nat) (R : gR) (M69 : gM) (l0_69 : Nat) (l1_69 : Int) (l2_69 : Int) (l3_69 : Int) (s0_69 : Int) (s1_69 : Nat) : Option (Int × gM) :=
  bd (fX10_isThrown ad S Ln R M69 s1_69 s0_69 3) fun q6 => if q6.1 = 0 then (bd (fX10_of ad S Ln R q6.2 l0_69 l1_69 2) fun q7 => bd (fX10_stepX ad S Ln R q6.2 l2_69) fun q8 => bd (fX10_of ad S Ln R q6.2 l0_69 l1_69 3) fun q9 => bd (fX10_stepY ad S Ln R q6.2 l2_69) fun q10 => bd (fX10_isPlace ad S Ln R q6.2 (w32 (q7 + (w32 (l3_69 * q8)))) (w32 (q9 + (w32 (l3_69 * q10))))) fun q11 => if ¬ q11 = 0 then (fX10_flies_B116 ad S Ln R q6.2 l0_69 l1_69 l2_69 l3_69 0 l0_69) else (fX10_flies_B116 ad S Ln R q6.2 l0_69 l1_69 l2_69 l3_69 1 l0_69)) else (some ((0, q6.2)))
def fX10_flies_B46 (ad S Ln : Nat → Nat) (R : gR) (M46 : gM) (l0_46 : Nat) (l1_46 : Int) (l2_46 : Int) (l3_46 : Int) (s0_46 : Int) (s1_46 : Nat) : Option (Int × gM) :=
  bd (fX10_isThrown ad S Ln R M46 s1_46 s0_46 2) fun q4 => if ¬ q4.1 = 0 then (some ((0, q4.2))) else (bd (fX10_of ad S Ln R q4.2 l0_46 l1_46 1) fun q5 => if q5 = 1 then (fX10_flies_B69 ad S Ln R q4.2 l0_46 l1_46 l2_46 l3_46 0 l0_46) else (fX10_flies_B69 ad S Ln R q4.2 l0_46 l1_46 l2_46 l3_46 1 l0_46))
def fX10_flies_B41 (ad S Ln : Nat → Nat) (R : gR) (M41 : gM) (l0_41 : Nat) (l1_41 : Int) (l2_41 : Int) (l3_41 : Int) (s0_41 : Nat) : Option (Int × gM) :=
  fX10_flies_B46 ad S Ln R M41 l0_41 l1_41 l2_41 l3_41 1 s0_41
def fX10_flies_B14 (ad S Ln : Nat → Nat) (R : gR) (M14 : gM) (l0_14 : Nat) (l1_14 : Int) (l2_14 : Int) (l3_14 : Int) (s0_14 : Int) (s1_14 : Nat) : Option (Int × gM) :=
  bd (fX10_isThrown ad S Ln R M14 s1_14 s0_14 1) fun q2 => if ¬ q2.1 = 0 then (some ((0, q2.2))) else (bd (fX10_isIn ad S Ln R q2.2 l2_14 0 3) fun q3 => if q3 = 0 then (fX10_flies_B41 ad S Ln R q2.2 l0_14 l1_14 l2_14 l3_14 l0_14) else (bd (fX10_isIn ad S Ln R q2.2 l3_14 1 60) fun q17 => if ¬ q17 = 0 then (fX10_flies_B46 ad S Ln R q2.2 l0_14 l1_14 l2_14 l3_14 0 l0_14) else (fX10_flies_B41 ad S Ln R q2.2 l0_14 l1_14 l2_14 l3_14 l0_14)))
def fX10_flies (ad S Ln : Nat → Nat) (R : gR) (M : gM) (a0 : Nat) (x1 : Int) (x2 : Int) (x3 : Int) : Option (Int × gM) :=
  bd (fX10_isPilot ad S Ln R M a0 x1) fun q1 => if ¬ q1 = 0 then (fX10_flies_B14 ad S Ln R M a0 x1 x2 x3 0 a0) else (fX10_flies_B14 ad S Ln R M a0 x1 x2 x3 1 a0)
theorem xX10_flies {l : Launch} {G : gE} {sz : Nat} {S Ln : Nat → Nat} {M : gM} {R : gR} (hl : l.stackTraces = false) {a0 : Nat} (hs0 : S a0 = 13) {x1 : Int} (hx1 : (-2147483648 ≤ x1 ∧ x1 < 2147483648)) {x2 : Int} (hx2 : (-2147483648 ≤ x2 ∧ x2 < 2147483648)) {x3 : Int} (hx3 : (-2147483648 ≤ x3 ∧ x3 < 2147483648)) {r : Int × gM} (h : fX10_flies G.2.2.2.2 S Ln R M a0 x1 x2 x3 = some r) : Ct l G yX10_flies cX10_flies 5 (some .int) 4 0 0 [.ref a0, .int (iI x1), .int (iI x2), .int (iI x3)] sz S Ln M R (poI r.1 sz S Ln (r.2) R) noX := by
  refine jj_start (own := RX10) (lv0 := [(0, .ref a0), (1, .int (iI x1)), (2, .int (iI x2)), (3, .int (iI x3))]) hl (by decide +kernel) rfl rfl (c_le rfl) (fun C hCl hC => ?_)
  have hL128 : ∀ (l0_128 : Nat) (l1_128 : Int) (l2_128 : Int) (l3_128 : Int), S l0_128 = 13 → (-2147483648 ≤ l1_128 ∧ l1_128 < 2147483648) → (-2147483648 ≤ l2_128 ∧ l2_128 < 2147483648) → (-2147483648 ≤ l3_128 ∧ l3_128 < 2147483648) → ∀ (n : Nat) (s128 : Int × gM) (q : (Int × gM) ⊕ (Int × gM)), lp (fX10_flies_L128 G.2.2.2.2 S Ln R l0_128 l1_128 l2_128 l3_128) n s128 = some q → (-2147483648 ≤ s128.1 ∧ s128.1 < 2147483648) → (∀ e128, q = .inl e128 → (-2147483648 ≤ e128.1 ∧ e128.1 < 2147483648) → JJ G C 0 0 sz S Ln e128.2 R 156 [(4, .int (iI e128.1))] []) → (∀ c, q = .inr c → c = r) → JJ G C 0 0 sz S Ln s128.2 R 128 [(0, .ref l0_128), (1, .int (iI l1_128)), (2, .int (iI l2_128)), (3, .int (iI l3_128)), (4, .int (iI s128.1))] [] := by
    intro l0_128 l1_128 l2_128 l3_128 hl0_128 hl1_128 hl2_128 hl3_128
    refine lp_ind ?_
    intro s128 r128 hI128 h hJ128 hE128 hR128
    have hs128_0 := hI128
    unfold fX10_flies_L128 at h
    refine jj_iload hC dX10_flies_128 4 rfl ?_
    refine jj_iload_n hC dX10_flies_130 rfl 3 rfl ?_
    refine jj_icmp_ge (tgt := 156) hC dX10_flies_131 rfl hs128_0 hl3_128 (fun hc => ?_) (fun hc => ?_)
    · replace h := (if_pos hc).symm.trans h
      refine jj_lv (lv' := [(4, .int (iI s128.1))]) [4] rfl ?_
      exact hE128 _ (Option.some.inj h).symm hs128_0
    · replace h := (if_neg (Int.not_le.mpr hc)).symm.trans h
      refine jj_aload_n hC dX10_flies_134 rfl 0 rfl ?_
      refine jj_iload_n hC dX10_flies_135 rfl 1 rfl ?_
      refine jj_iconst hC dX10_flies_136 ?_
      obtain ⟨q13, hq13, h⟩ := bd_e h
      refine jj_invV hC mvX10_of wd1815 wd29 wd1813 hl0_128 (by decide) rfl (xX10_of (OKC.tr hC) hl0_128 hl1_128 (show (-2147483648 ≤ (1 : Int) ∧ (1 : Int) < 2147483648) from by decide) hq13) rfl rfl (c_le rfl) (c_le rfl) (c_le rfl) (c_le rfl) dX10_flies_137 noXk (po_kI (fun hr13 => ?_))
      refine jj_iconst hC dX10_flies_140 ?_
      refine jj_icmp_ne (tgt := 156) hC dX10_flies_141 rfl hr13 (show (-2147483648 ≤ (1 : Int) ∧ (1 : Int) < 2147483648) from by decide) (fun hc => ?_) (fun hc => ?_)
      · replace h := (if_pos hc).symm.trans h
        refine jj_lv (lv' := [(4, .int (iI s128.1))]) [4] rfl ?_
        exact hE128 _ (Option.some.inj h).symm hs128_0
      · replace h := (if_neg (fun k => k hc)).symm.trans h
        refine jj_aload_n hC dX10_flies_144 rfl 0 rfl ?_
        refine jj_iload_n hC dX10_flies_145 rfl 1 rfl ?_
        refine jj_iload_n hC dX10_flies_146 rfl 2 rfl ?_
        obtain ⟨q14, hq14, h⟩ := bd_e h
        refine jj_invV hC mvX10_kilometre wd1912 wd44 wd1910 hl0_128 (by decide) rfl (xX10_kilometre (OKC.tr hC) hl0_128 hl1_128 hl2_128 hq14) rfl rfl (c_le rfl) (c_le rfl) (c_le rfl) (c_le rfl) dX10_flies_147 noXk (po_kV ?_)
        refine jg_iinc (q := 4) (lv' := [(4, .int (iI (w32 (s128.1 + 1)))), (0, .ref l0_128), (1, .int (iI l1_128)), (2, .int (iI l2_128)), (3, .int (iI l3_128))]) hC dX10_flies_150 rfl (by decide) rfl ?_
        refine jj_goto (tgt := 128) hC dX10_flies_153 rfl ?_
        refine jj_lv (lv' := [(0, .ref l0_128), (1, .int (iI l1_128)), (2, .int (iI l2_128)), (3, .int (iI l3_128)), (4, .int (iI (w32 (s128.1 + 1))))]) [1, 2, 3, 4, 0] rfl ?_
        exact hJ128 _ (Option.some.inj h).symm (w32_r _)
  have hB116 : ∀ (M116 : gM) (l0_116 : Nat) (l1_116 : Int) (l2_116 : Int) (l3_116 : Int) (s0_116 : Int) (s1_116 : Nat), S l0_116 = 13 → (-2147483648 ≤ l1_116 ∧ l1_116 < 2147483648) → (-2147483648 ≤ l2_116 ∧ l2_116 < 2147483648) → (-2147483648 ≤ l3_116 ∧ l3_116 < 2147483648) → (0 ≤ s0_116 ∧ s0_116 ≤ 1) → S s1_116 = 13 → fX10_flies_B116 G.2.2.2.2 S Ln R M116 l0_116 l1_116 l2_116 l3_116 s0_116 s1_116 = some r → JJ G C 0 0 sz S Ln M116 R 116 [(0, .ref l0_116), (1, .int (iI l1_116)), (2, .int (iI l2_116)), (3, .int (iI l3_116))] [.int (iI s0_116), .ref s1_116] := by
    intro M116 l0_116 l1_116 l2_116 l3_116 s0_116 s1_116 hl0_116 hl1_116 hl2_116 hl3_116 hs0_116 hs1_116 h
    unfold fX10_flies_B116 at h
    refine jj_iconst hC dX10_flies_116 ?_
    obtain ⟨q12, hq12, h⟩ := bd_e h
    refine jj_invV hC mvX10_isThrown wd1791 wd24 wd1789 hs1_116 (by decide) rfl (xX10_isThrown (OKC.tr hC) hs1_116 hs0_116 (show (-2147483648 ≤ (4 : Int) ∧ (4 : Int) < 2147483648) from by decide) hq12) rfl rfl (c_le rfl) (c_le rfl) (c_le rfl) (c_le rfl) dX10_flies_117 noXk (po_kZ (fun hr12 => ?_))
    refine jj_if_eq (tgt := 125) hC dX10_flies_120 rfl (r_z hr12) (fun hc => ?_) (fun hc => ?_)
    · replace h := (if_pos hc).symm.trans h
      refine jj_iconst hC dX10_flies_125 ?_
      refine jj_istore (lv' := [(4, .int (iI 0)), (0, .ref l0_116), (1, .int (iI l1_116)), (2, .int (iI l2_116)), (3, .int (iI l3_116))]) hC dX10_flies_126 (by decide) rfl ?_
      obtain ⟨q16, hq16, h⟩ := bd_e h
      refine jj_lv (lv' := [(0, .ref l0_116), (1, .int (iI l1_116)), (2, .int (iI l2_116)), (3, .int (iI l3_116)), (4, .int (iI 0))]) [1, 2, 3, 4, 0] rfl ?_
      refine hL128 l0_116 l1_116 l2_116 l3_116 hl0_116 hl1_116 hl2_116 hl3_116 FU _ q16 hq16 (show (-2147483648 ≤ (0 : Int) ∧ (0 : Int) < 2147483648) from by decide) (fun e128_15 he16 hIE16 => ?_) (fun c16 hc16 => ?_)
      · subst he16
        replace h := el_l h
        have he128_15_0 := hIE16
        refine jj_iload hC dX10_flies_156 0 rfl ?_
        cases h
        exact jj_iret hC (c_le rfl) (c_le rfl) dX10_flies_158 ⟨rfl, he128_15_0, rfl, rfl, rfl, rfl, rfl⟩
      · subst hc16
        replace h := el_r h
        exact Option.some.inj h
    · replace h := (if_neg (hc)).symm.trans h
      refine jj_iconst hC dX10_flies_123 ?_
      cases h
      exact jj_iret hC (c_le rfl) (c_le rfl) dX10_flies_124 ⟨rfl, (show (-2147483648 ≤ (0 : Int) ∧ (0 : Int) < 2147483648) from by decide), rfl, rfl, rfl, rfl, rfl⟩
  have hB69 : ∀ (M69 : gM) (l0_69 : Nat) (l1_69 : Int) (l2_69 : Int) (l3_69 : Int) (s0_69 : Int) (s1_69 : Nat), S l0_69 = 13 → (-2147483648 ≤ l1_69 ∧ l1_69 < 2147483648) → (-2147483648 ≤ l2_69 ∧ l2_69 < 2147483648) → (-2147483648 ≤ l3_69 ∧ l3_69 < 2147483648) → (0 ≤ s0_69 ∧ s0_69 ≤ 1) → S s1_69 = 13 → fX10_flies_B69 G.2.2.2.2 S Ln R M69 l0_69 l1_69 l2_69 l3_69 s0_69 s1_69 = some r → JJ G C 0 0 sz S Ln M69 R 69 [(0, .ref l0_69), (1, .int (iI l1_69)), (2, .int (iI l2_69)), (3, .int (iI l3_69))] [.int (iI s0_69), .ref s1_69] := by
    intro M69 l0_69 l1_69 l2_69 l3_69 s0_69 s1_69 hl0_69 hl1_69 hl2_69 hl3_69 hs0_69 hs1_69 h
    unfold fX10_flies_B69 at h
    refine jj_iconst hC dX10_flies_69 ?_
    obtain ⟨q6, hq6, h⟩ := bd_e h
    refine jj_invV hC mvX10_isThrown wd1791 wd24 wd1789 hs1_69 (by decide) rfl (xX10_isThrown (OKC.tr hC) hs1_69 hs0_69 (show (-2147483648 ≤ (3 : Int) ∧ (3 : Int) < 2147483648) from by decide) hq6) rfl rfl (c_le rfl) (c_le rfl) (c_le rfl) (c_le rfl) dX10_flies_70 noXk (po_kZ (fun hr6 => ?_))
    refine jj_if_eq (tgt := 78) hC dX10_flies_73 rfl (r_z hr6) (fun hc => ?_) (fun hc => ?_)
    · replace h := (if_pos hc).symm.trans h
      refine jj_aload_n hC dX10_flies_78 rfl 0 rfl ?_
      refine jj_aload_n hC dX10_flies_79 rfl 0 rfl ?_
      refine jj_iload_n hC dX10_flies_80 rfl 1 rfl ?_
      refine jj_iconst hC dX10_flies_81 ?_
      obtain ⟨q7, hq7, h⟩ := bd_e h
      refine jj_invV hC mvX10_of wd1815 wd29 wd1813 hl0_69 (by decide) rfl (xX10_of (OKC.tr hC) hl0_69 hl1_69 (show (-2147483648 ≤ (2 : Int) ∧ (2 : Int) < 2147483648) from by decide) hq7) rfl rfl (c_le rfl) (c_le rfl) (c_le rfl) (c_le rfl) dX10_flies_82 noXk (po_kI (fun hr7 => ?_))
      refine jj_iload_n hC dX10_flies_85 rfl 3 rfl ?_
      refine jj_iload_n hC dX10_flies_86 rfl 2 rfl ?_
      obtain ⟨q8, hq8, h⟩ := bd_e h
      refine jj_invS hC mvX10_stepX wd1905 wd1904 (xX10_stepX (OKC.tr hC) hl2_69 hq8) rfl rfl (c_le rfl) (c_le rfl) (c_le rfl) (c_le rfl) dX10_flies_87 noXk (po_kI (fun hr8 => ?_))
      refine jg_imul hC dX10_flies_90 ?_
      refine jg_iadd hC dX10_flies_91 ?_
      refine jj_aload_n hC dX10_flies_92 rfl 0 rfl ?_
      refine jj_iload_n hC dX10_flies_93 rfl 1 rfl ?_
      refine jj_iconst hC dX10_flies_94 ?_
      obtain ⟨q9, hq9, h⟩ := bd_e h
      refine jj_invV hC mvX10_of wd1815 wd29 wd1813 hl0_69 (by decide) rfl (xX10_of (OKC.tr hC) hl0_69 hl1_69 (show (-2147483648 ≤ (3 : Int) ∧ (3 : Int) < 2147483648) from by decide) hq9) rfl rfl (c_le rfl) (c_le rfl) (c_le rfl) (c_le rfl) dX10_flies_95 noXk (po_kI (fun hr9 => ?_))
      refine jj_iload_n hC dX10_flies_98 rfl 3 rfl ?_
      refine jj_iload_n hC dX10_flies_99 rfl 2 rfl ?_
      obtain ⟨q10, hq10, h⟩ := bd_e h
      refine jj_invS hC mvX10_stepY wd1908 wd1907 (xX10_stepY (OKC.tr hC) hl2_69 hq10) rfl rfl (c_le rfl) (c_le rfl) (c_le rfl) (c_le rfl) dX10_flies_100 noXk (po_kI (fun hr10 => ?_))
      refine jg_imul hC dX10_flies_103 ?_
      refine jg_iadd hC dX10_flies_104 ?_
      obtain ⟨q11, hq11, h⟩ := bd_e h
      refine jj_invS hC mvX10_isPlace wd1784 wd1783 (xX10_isPlace (OKC.tr hC) (w32_r _) (w32_r _) hq11) rfl rfl (c_le rfl) (c_le rfl) (c_le rfl) (c_le rfl) dX10_flies_105 noXk (po_kZ (fun hr11 => ?_))
      refine jj_if_ne (tgt := 115) hC dX10_flies_108 rfl (r_z hr11) (fun hc => ?_) (fun hc => ?_)
      · replace h := (if_pos hc).symm.trans h
        refine jj_iconst hC dX10_flies_115 ?_
        refine jj_lv (lv' := [(0, .ref l0_69), (1, .int (iI l1_69)), (2, .int (iI l2_69)), (3, .int (iI l3_69))]) [0, 1, 2, 3] rfl ?_
        exact hB116 q6.2 l0_69 l1_69 l2_69 l3_69 0 l0_69 hl0_69 hl1_69 hl2_69 hl3_69 (show (0 ≤ (0 : Int) ∧ (0 : Int) ≤ 1) from by decide) hl0_69 h
      · replace h := (if_neg (fun k => k hc)).symm.trans h
        refine jj_iconst hC dX10_flies_111 ?_
        refine jj_goto (tgt := 116) hC dX10_flies_112 rfl ?_
        refine jj_lv (lv' := [(0, .ref l0_69), (1, .int (iI l1_69)), (2, .int (iI l2_69)), (3, .int (iI l3_69))]) [0, 1, 2, 3] rfl ?_
        exact hB116 q6.2 l0_69 l1_69 l2_69 l3_69 1 l0_69 hl0_69 hl1_69 hl2_69 hl3_69 (show (0 ≤ (1 : Int) ∧ (1 : Int) ≤ 1) from by decide) hl0_69 h
    · replace h := (if_neg (hc)).symm.trans h
      refine jj_iconst hC dX10_flies_76 ?_
      cases h
      exact jj_iret hC (c_le rfl) (c_le rfl) dX10_flies_77 ⟨rfl, (show (-2147483648 ≤ (0 : Int) ∧ (0 : Int) < 2147483648) from by decide), rfl, rfl, rfl, rfl, rfl⟩
  have hB46 : ∀ (M46 : gM) (l0_46 : Nat) (l1_46 : Int) (l2_46 : Int) (l3_46 : Int) (s0_46 : Int) (s1_46 : Nat), S l0_46 = 13 → (-2147483648 ≤ l1_46 ∧ l1_46 < 2147483648) → (-2147483648 ≤ l2_46 ∧ l2_46 < 2147483648) → (-2147483648 ≤ l3_46 ∧ l3_46 < 2147483648) → (0 ≤ s0_46 ∧ s0_46 ≤ 1) → S s1_46 = 13 → fX10_flies_B46 G.2.2.2.2 S Ln R M46 l0_46 l1_46 l2_46 l3_46 s0_46 s1_46 = some r → JJ G C 0 0 sz S Ln M46 R 46 [(0, .ref l0_46), (1, .int (iI l1_46)), (2, .int (iI l2_46)), (3, .int (iI l3_46))] [.int (iI s0_46), .ref s1_46] := by
    intro M46 l0_46 l1_46 l2_46 l3_46 s0_46 s1_46 hl0_46 hl1_46 hl2_46 hl3_46 hs0_46 hs1_46 h
    unfold fX10_flies_B46 at h
    refine jj_iconst hC dX10_flies_46 ?_
    obtain ⟨q4, hq4, h⟩ := bd_e h
    refine jj_invV hC mvX10_isThrown wd1791 wd24 wd1789 hs1_46 (by decide) rfl (xX10_isThrown (OKC.tr hC) hs1_46 hs0_46 (show (-2147483648 ≤ (2 : Int) ∧ (2 : Int) < 2147483648) from by decide) hq4) rfl rfl (c_le rfl) (c_le rfl) (c_le rfl) (c_le rfl) dX10_flies_47 noXk (po_kZ (fun hr4 => ?_))
    refine jj_if_ne (tgt := 76) hC dX10_flies_50 rfl (r_z hr4) (fun hc => ?_) (fun hc => ?_)
    · replace h := (if_pos hc).symm.trans h
      refine jj_iconst hC dX10_flies_76 ?_
      cases h
      exact jj_iret hC (c_le rfl) (c_le rfl) dX10_flies_77 ⟨rfl, (show (-2147483648 ≤ (0 : Int) ∧ (0 : Int) < 2147483648) from by decide), rfl, rfl, rfl, rfl, rfl⟩
    · replace h := (if_neg (fun k => k hc)).symm.trans h
      refine jj_aload_n hC dX10_flies_53 rfl 0 rfl ?_
      refine jj_aload_n hC dX10_flies_54 rfl 0 rfl ?_
      refine jj_iload_n hC dX10_flies_55 rfl 1 rfl ?_
      refine jj_iconst hC dX10_flies_56 ?_
      obtain ⟨q5, hq5, h⟩ := bd_e h
      refine jj_invV hC mvX10_of wd1815 wd29 wd1813 hl0_46 (by decide) rfl (xX10_of (OKC.tr hC) hl0_46 hl1_46 (show (-2147483648 ≤ (1 : Int) ∧ (1 : Int) < 2147483648) from by decide) hq5) rfl rfl (c_le rfl) (c_le rfl) (c_le rfl) (c_le rfl) dX10_flies_57 noXk (po_kI (fun hr5 => ?_))
      refine jj_iconst hC dX10_flies_60 ?_
      refine jj_icmp_eq (tgt := 68) hC dX10_flies_61 rfl hr5 (show (-2147483648 ≤ (1 : Int) ∧ (1 : Int) < 2147483648) from by decide) (fun hc => ?_) (fun hc => ?_)
      · replace h := (if_pos hc).symm.trans h
        refine jj_iconst hC dX10_flies_68 ?_
        refine jj_lv (lv' := [(0, .ref l0_46), (1, .int (iI l1_46)), (2, .int (iI l2_46)), (3, .int (iI l3_46))]) [0, 1, 2, 3] rfl ?_
        exact hB69 q4.2 l0_46 l1_46 l2_46 l3_46 0 l0_46 hl0_46 hl1_46 hl2_46 hl3_46 (show (0 ≤ (0 : Int) ∧ (0 : Int) ≤ 1) from by decide) hl0_46 h
      · replace h := (if_neg (hc)).symm.trans h
        refine jj_iconst hC dX10_flies_64 ?_
        refine jj_goto (tgt := 69) hC dX10_flies_65 rfl ?_
        refine jj_lv (lv' := [(0, .ref l0_46), (1, .int (iI l1_46)), (2, .int (iI l2_46)), (3, .int (iI l3_46))]) [0, 1, 2, 3] rfl ?_
        exact hB69 q4.2 l0_46 l1_46 l2_46 l3_46 1 l0_46 hl0_46 hl1_46 hl2_46 hl3_46 (show (0 ≤ (1 : Int) ∧ (1 : Int) ≤ 1) from by decide) hl0_46 h
  have hB41 : ∀ (M41 : gM) (l0_41 : Nat) (l1_41 : Int) (l2_41 : Int) (l3_41 : Int) (s0_41 : Nat), S l0_41 = 13 → (-2147483648 ≤ l1_41 ∧ l1_41 < 2147483648) → (-2147483648 ≤ l2_41 ∧ l2_41 < 2147483648) → (-2147483648 ≤ l3_41 ∧ l3_41 < 2147483648) → S s0_41 = 13 → fX10_flies_B41 G.2.2.2.2 S Ln R M41 l0_41 l1_41 l2_41 l3_41 s0_41 = some r → JJ G C 0 0 sz S Ln M41 R 41 [(0, .ref l0_41), (1, .int (iI l1_41)), (2, .int (iI l2_41)), (3, .int (iI l3_41))] [.ref s0_41] := by
    intro M41 l0_41 l1_41 l2_41 l3_41 s0_41 hl0_41 hl1_41 hl2_41 hl3_41 hs0_41 h
    unfold fX10_flies_B41 at h
    refine jj_iconst hC dX10_flies_41 ?_
    refine jj_goto (tgt := 46) hC dX10_flies_42 rfl ?_
    refine jj_lv (lv' := [(0, .ref l0_41), (1, .int (iI l1_41)), (2, .int (iI l2_41)), (3, .int (iI l3_41))]) [0, 1, 2, 3] rfl ?_
    exact hB46 M41 l0_41 l1_41 l2_41 l3_41 1 s0_41 hl0_41 hl1_41 hl2_41 hl3_41 (show (0 ≤ (1 : Int) ∧ (1 : Int) ≤ 1) from by decide) hs0_41 h
  have hB14 : ∀ (M14 : gM) (l0_14 : Nat) (l1_14 : Int) (l2_14 : Int) (l3_14 : Int) (s0_14 : Int) (s1_14 : Nat), S l0_14 = 13 → (-2147483648 ≤ l1_14 ∧ l1_14 < 2147483648) → (-2147483648 ≤ l2_14 ∧ l2_14 < 2147483648) → (-2147483648 ≤ l3_14 ∧ l3_14 < 2147483648) → (0 ≤ s0_14 ∧ s0_14 ≤ 1) → S s1_14 = 13 → fX10_flies_B14 G.2.2.2.2 S Ln R M14 l0_14 l1_14 l2_14 l3_14 s0_14 s1_14 = some r → JJ G C 0 0 sz S Ln M14 R 14 [(0, .ref l0_14), (1, .int (iI l1_14)), (2, .int (iI l2_14)), (3, .int (iI l3_14))] [.int (iI s0_14), .ref s1_14] := by
    intro M14 l0_14 l1_14 l2_14 l3_14 s0_14 s1_14 hl0_14 hl1_14 hl2_14 hl3_14 hs0_14 hs1_14 h
    unfold fX10_flies_B14 at h
    refine jj_iconst hC dX10_flies_14 ?_
    obtain ⟨q2, hq2, h⟩ := bd_e h
    refine jj_invV hC mvX10_isThrown wd1791 wd24 wd1789 hs1_14 (by decide) rfl (xX10_isThrown (OKC.tr hC) hs1_14 hs0_14 (show (-2147483648 ≤ (1 : Int) ∧ (1 : Int) < 2147483648) from by decide) hq2) rfl rfl (c_le rfl) (c_le rfl) (c_le rfl) (c_le rfl) dX10_flies_15 noXk (po_kZ (fun hr2 => ?_))
    refine jj_if_ne (tgt := 76) hC dX10_flies_18 rfl (r_z hr2) (fun hc => ?_) (fun hc => ?_)
    · replace h := (if_pos hc).symm.trans h
      refine jj_iconst hC dX10_flies_76 ?_
      cases h
      exact jj_iret hC (c_le rfl) (c_le rfl) dX10_flies_77 ⟨rfl, (show (-2147483648 ≤ (0 : Int) ∧ (0 : Int) < 2147483648) from by decide), rfl, rfl, rfl, rfl, rfl⟩
    · replace h := (if_neg (fun k => k hc)).symm.trans h
      refine jj_aload_n hC dX10_flies_21 rfl 0 rfl ?_
      refine jj_iload_n hC dX10_flies_22 rfl 2 rfl ?_
      refine jj_iconst hC dX10_flies_23 ?_
      refine jj_iconst hC dX10_flies_24 ?_
      obtain ⟨q3, hq3, h⟩ := bd_e h
      refine jj_invS hC mvX10_isIn wd1787 wd1786 (xX10_isIn (OKC.tr hC) hl2_14 (show (-2147483648 ≤ (0 : Int) ∧ (0 : Int) < 2147483648) from by decide) (show (-2147483648 ≤ (3 : Int) ∧ (3 : Int) < 2147483648) from by decide) hq3) rfl rfl (c_le rfl) (c_le rfl) (c_le rfl) (c_le rfl) dX10_flies_25 noXk (po_kZ (fun hr3 => ?_))
      refine jj_if_eq (tgt := 41) hC dX10_flies_28 rfl (r_z hr3) (fun hc => ?_) (fun hc => ?_)
      · replace h := (if_pos hc).symm.trans h
        refine jj_lv (lv' := [(0, .ref l0_14), (1, .int (iI l1_14)), (2, .int (iI l2_14)), (3, .int (iI l3_14))]) [0, 1, 2, 3] rfl ?_
        exact hB41 q2.2 l0_14 l1_14 l2_14 l3_14 l0_14 hl0_14 hl1_14 hl2_14 hl3_14 hl0_14 h
      · replace h := (if_neg (hc)).symm.trans h
        refine jj_iload_n hC dX10_flies_31 rfl 3 rfl ?_
        refine jj_iconst hC dX10_flies_32 ?_
        refine jj_bipush hC dX10_flies_33 (by decide) ?_
        obtain ⟨q17, hq17, h⟩ := bd_e h
        refine jj_invS hC mvX10_isIn wd1787 wd1786 (xX10_isIn (OKC.tr hC) hl3_14 (show (-2147483648 ≤ (1 : Int) ∧ (1 : Int) < 2147483648) from by decide) (show (-2147483648 ≤ (60 : Int) ∧ (60 : Int) < 2147483648) from by decide) hq17) rfl rfl (c_le rfl) (c_le rfl) (c_le rfl) (c_le rfl) dX10_flies_35 noXk (po_kZ (fun hr17 => ?_))
        refine jj_if_ne (tgt := 45) hC dX10_flies_38 rfl (r_z hr17) (fun hc => ?_) (fun hc => ?_)
        · replace h := (if_pos hc).symm.trans h
          refine jj_iconst hC dX10_flies_45 ?_
          refine jj_lv (lv' := [(0, .ref l0_14), (1, .int (iI l1_14)), (2, .int (iI l2_14)), (3, .int (iI l3_14))]) [0, 1, 2, 3] rfl ?_
          exact hB46 q2.2 l0_14 l1_14 l2_14 l3_14 0 l0_14 hl0_14 hl1_14 hl2_14 hl3_14 (show (0 ≤ (0 : Int) ∧ (0 : Int) ≤ 1) from by decide) hl0_14 h
        · replace h := (if_neg (fun k => k hc)).symm.trans h
          refine jj_lv (lv' := [(0, .ref l0_14), (1, .int (iI l1_14)), (2, .int (iI l2_14)), (3, .int (iI l3_14))]) [0, 1, 2, 3] rfl ?_
          exact hB41 q2.2 l0_14 l1_14 l2_14 l3_14 l0_14 hl0_14 hl1_14 hl2_14 hl3_14 hl0_14 h
  unfold fX10_flies at h
  refine jj_aload_n hC dX10_flies_0 rfl 0 rfl ?_
  refine jj_aload_n hC dX10_flies_1 rfl 0 rfl ?_
  refine jj_iload_n hC dX10_flies_2 rfl 1 rfl ?_
  obtain ⟨q1, hq1, h⟩ := bd_e h
  refine jj_invV hC mvX10_isPilot wd1890 wd41 wd1888 hs0 (by decide) rfl (xX10_isPilot (OKC.tr hC) hs0 hx1 hq1) rfl rfl (c_le rfl) (c_le rfl) (c_le rfl) (c_le rfl) dX10_flies_3 noXk (po_kZ (fun hr1 => ?_))
  refine jj_if_ne (tgt := 13) hC dX10_flies_6 rfl (r_z hr1) (fun hc => ?_) (fun hc => ?_)
  · replace h := (if_pos hc).symm.trans h
    refine jj_iconst hC dX10_flies_13 ?_
    refine jj_lv (lv' := [(0, .ref a0), (1, .int (iI x1)), (2, .int (iI x2)), (3, .int (iI x3))]) [0, 1, 2, 3] rfl ?_
    exact hB14 M a0 x1 x2 x3 0 a0 hs0 hx1 hx2 hx3 (show (0 ≤ (0 : Int) ∧ (0 : Int) ≤ 1) from by decide) hs0 h
  · replace h := (if_neg (fun k => k hc)).symm.trans h
    refine jj_iconst hC dX10_flies_9 ?_
    refine jj_goto (tgt := 14) hC dX10_flies_10 rfl ?_
    refine jj_lv (lv' := [(0, .ref a0), (1, .int (iI x1)), (2, .int (iI x2)), (3, .int (iI x3))]) [0, 1, 2, 3] rfl ?_
    exact hB14 M a0 x1 x2 x3 1 a0 hs0 hx1 hx2 hx3 (show (0 ≤ (1 : Int) ∧ (1 : Int) ≤ 1) from by decide) hs0 h
def fX10_fly (ad S Ln : Nat → Nat) (R : gR) (M : gM) (a0 : Nat) (x1 : Int) (x2 : Int) (x3 : Int) : Option (Int × gM) :=
  bd (fX10_keeps ad S Ln R M a0) fun q1 => bd (fX10_flies ad S Ln R q1 a0 x1 x2 x3) fun q2 => bd (fX10_ends ad S Ln R q2.2 a0 q2.1) fun q3 => some ((q3.1, q3.2))
theorem xX10_fly {l : Launch} {G : gE} {sz : Nat} {S Ln : Nat → Nat} {M : gM} {R : gR} (hl : l.stackTraces = false) {a0 : Nat} (hs0 : S a0 = 13) {x1 : Int} (hx1 : (-2147483648 ≤ x1 ∧ x1 < 2147483648)) {x2 : Int} (hx2 : (-2147483648 ≤ x2 ∧ x2 < 2147483648)) {x3 : Int} (hx3 : (-2147483648 ≤ x3 ∧ x3 < 2147483648)) {r : Int × gM} (h : fX10_fly G.2.2.2.2 S Ln R M a0 x1 x2 x3 = some r) : Ct l G yX10_fly cX10_fly 4 (some .int) 5 0 0 [.ref a0, .int (iI x1), .int (iI x2), .int (iI x3)] sz S Ln M R (poI r.1 sz S Ln (r.2) R) noX := by
  refine jj_start (own := RX10) (lv0 := [(0, .ref a0), (1, .int (iI x1)), (2, .int (iI x2)), (3, .int (iI x3))]) hl (by decide +kernel) rfl rfl (c_le rfl) (fun C hCl hC => ?_)
  unfold fX10_fly at h
  refine jj_aload_n hC dX10_fly_0 rfl 0 rfl ?_
  obtain ⟨q1, hq1, h⟩ := bd_e h
  refine jj_invV hC mvX10_keeps wd1774 wd22 wd1772 hs0 (by decide) rfl (xX10_keeps (OKC.tr hC) hs0 hq1) rfl rfl (c_le rfl) (c_le rfl) (c_le rfl) (c_le rfl) dX10_fly_1 noXk (po_kV ?_)
  refine jj_aload_n hC dX10_fly_4 rfl 0 rfl ?_
  refine jj_aload_n hC dX10_fly_5 rfl 0 rfl ?_
  refine jj_iload_n hC dX10_fly_6 rfl 1 rfl ?_
  refine jj_iload_n hC dX10_fly_7 rfl 2 rfl ?_
  refine jj_iload_n hC dX10_fly_8 rfl 3 rfl ?_
  obtain ⟨q2, hq2, h⟩ := bd_e h
  refine jj_invV hC mvX10_flies wd1902 wd43 wd1900 hs0 (by decide) rfl (xX10_flies (OKC.tr hC) hs0 hx1 hx2 hx3 hq2) rfl rfl (c_le rfl) (c_le rfl) (c_le rfl) (c_le rfl) dX10_fly_9 noXk (po_kI (fun hr2 => ?_))
  obtain ⟨q3, hq3, h⟩ := bd_e h
  refine jj_invV hC mvX10_ends wd1795 wd25 wd1793 hs0 (by decide) rfl (xX10_ends (OKC.tr hC) hs0 hr2 hq3) rfl rfl (c_le rfl) (c_le rfl) (c_le rfl) (c_le rfl) dX10_fly_12 noXk (po_kI (fun hr3 => ?_))
  cases h
  exact jj_iret hC (c_le rfl) (c_le rfl) dX10_fly_15 ⟨rfl, hr3, rfl, rfl, rfl, rfl, rfl⟩
def fX10_climbs_B165 (ad S Ln : Nat → Nat) (R : gR) (M165 : gM) (l0_165 : Nat) (l1_165 : Int) (l2_165 : Int) (s0_165 : Int) (s1_165 : Int) (s2_165 : Int) (s3_165 : Nat) : Option (Int × gM) :=
  bd (fX10_sets ad S Ln R M165 s3_165 s2_165 s1_165 s0_165) fun q16 => bd (fX10_of ad S Ln R q16 l0_165 l1_165 5) fun q17 => bd (fX10_sets ad S Ln R q16 l0_165 l1_165 5 (w32 (q17 + l2_165))) fun q18 => bd (fX10_of ad S Ln R q18 l0_165 l1_165 4) fun q19 => some ((q19, q18))
def fX10_climbs_B96 (ad S Ln : Nat → Nat) (R : gR) (M96 : gM) (l0_96 : Nat) (l1_96 : Int) (l2_96 : Int) (l3_96 : Int) (s0_96 : Int) (s1_96 : Nat) : Option (Int × gM) :=
  bd (fX10_isThrown ad S Ln R M96 s1_96 s0_96 4) fun q10 => if q10.1 = 0 then (bd (fX10_of ad S Ln R q10.2 l0_96 l1_96 4) fun q11 => rf S (R l0_96 0) 20 fun b12 => gd ((0 : Int) ≤ 5 ∧ 5 < (Ln b12 : Int)) (if q11 ≤ (q10.2 b12 5) then (rf S (R l0_96 0) 20 fun b14 => gd ((0 : Int) ≤ 5 ∧ 5 < (Ln b14 : Int)) (if (w32 (q11 + (w32 ((w32 (60 * l3_96)) * l2_96)))) ≤ (q10.2 b14 5) then (fX10_climbs_B165 ad S Ln R q10.2 l0_96 l1_96 l2_96 (w32 (q11 + (w32 ((w32 (60 * l3_96)) * l2_96)))) 4 l1_96 l0_96) else (rf S (R l0_96 0) 20 fun b20 => gd ((0 : Int) ≤ 5 ∧ 5 < (Ln b20 : Int)) (fX10_climbs_B165 ad S Ln R q10.2 l0_96 l1_96 l2_96 (q10.2 b20 5) 4 l1_96 l0_96)))) else (fX10_climbs_B165 ad S Ln R q10.2 l0_96 l1_96 l2_96 q11 4 l1_96 l0_96))) else (some ((0, q10.2)))
def fX10_climbs_B60 (ad S Ln : Nat → Nat) (R : gR) (M60 : gM) (l0_60 : Nat) (l1_60 : Int) (l2_60 : Int) (s0_60 : Int) (s1_60 : Nat) : Option (Int × gM) :=
  bd (fX10_isThrown ad S Ln R M60 s1_60 s0_60 3) fun q6 => if q6.1 = 0 then (bd (fX10_of ad S Ln R q6.2 l0_60 l1_60 2) fun q7 => bd (fX10_of ad S Ln R q6.2 l0_60 l1_60 3) fun q8 => bd (fX10_lifted ad S Ln R q6.2 l0_60 q7 q8) fun q9 => if ¬ q9 = 0 then (fX10_climbs_B96 ad S Ln R q6.2 l0_60 l1_60 l2_60 q9 0 l0_60) else (fX10_climbs_B96 ad S Ln R q6.2 l0_60 l1_60 l2_60 q9 1 l0_60)) else (some ((0, q6.2)))
def fX10_climbs_B37 (ad S Ln : Nat → Nat) (R : gR) (M37 : gM) (l0_37 : Nat) (l1_37 : Int) (l2_37 : Int) (s0_37 : Int) (s1_37 : Nat) : Option (Int × gM) :=
  bd (fX10_isThrown ad S Ln R M37 s1_37 s0_37 2) fun q4 => if ¬ q4.1 = 0 then (some ((0, q4.2))) else (bd (fX10_of ad S Ln R q4.2 l0_37 l1_37 1) fun q5 => if q5 = 1 then (fX10_climbs_B60 ad S Ln R q4.2 l0_37 l1_37 l2_37 0 l0_37) else (fX10_climbs_B60 ad S Ln R q4.2 l0_37 l1_37 l2_37 1 l0_37))
def fX10_climbs_B14 (ad S Ln : Nat → Nat) (R : gR) (M14 : gM) (l0_14 : Nat) (l1_14 : Int) (l2_14 : Int) (s0_14 : Int) (s1_14 : Nat) : Option (Int × gM) :=
  bd (fX10_isThrown ad S Ln R M14 s1_14 s0_14 1) fun q2 => if ¬ q2.1 = 0 then (some ((0, q2.2))) else (bd (fX10_isIn ad S Ln R q2.2 l2_14 1 30) fun q3 => if ¬ q3 = 0 then (fX10_climbs_B37 ad S Ln R q2.2 l0_14 l1_14 l2_14 0 l0_14) else (fX10_climbs_B37 ad S Ln R q2.2 l0_14 l1_14 l2_14 1 l0_14))
def fX10_climbs (ad S Ln : Nat → Nat) (R : gR) (M : gM) (a0 : Nat) (x1 : Int) (x2 : Int) : Option (Int × gM) :=
  bd (fX10_isPilot ad S Ln R M a0 x1) fun q1 => if ¬ q1 = 0 then (fX10_climbs_B14 ad S Ln R M a0 x1 x2 0 a0) else (fX10_climbs_B14 ad S Ln R M a0 x1 x2 1 a0)
theorem xX10_climbs {l : Launch} {G : gE} {sz : Nat} {S Ln : Nat → Nat} {M : gM} {R : gR} (hl : l.stackTraces = false) {a0 : Nat} (hs0 : S a0 = 13) {x1 : Int} (hx1 : (-2147483648 ≤ x1 ∧ x1 < 2147483648)) {x2 : Int} (hx2 : (-2147483648 ≤ x2 ∧ x2 < 2147483648)) {r : Int × gM} (h : fX10_climbs G.2.2.2.2 S Ln R M a0 x1 x2 = some r) : Ct l G yX10_climbs cX10_climbs 6 (some .int) 3 0 0 [.ref a0, .int (iI x1), .int (iI x2)] sz S Ln M R (poI r.1 sz S Ln (r.2) R) noX := by
  refine jj_start (own := RX10) (lv0 := [(0, .ref a0), (1, .int (iI x1)), (2, .int (iI x2))]) hl (by decide +kernel) rfl rfl (c_le rfl) (fun C hCl hC => ?_)
  have hB165 : ∀ (M165 : gM) (l0_165 : Nat) (l1_165 : Int) (l2_165 : Int) (s0_165 : Int) (s1_165 : Int) (s2_165 : Int) (s3_165 : Nat), S l0_165 = 13 → (-2147483648 ≤ l1_165 ∧ l1_165 < 2147483648) → (-2147483648 ≤ l2_165 ∧ l2_165 < 2147483648) → (-2147483648 ≤ s0_165 ∧ s0_165 < 2147483648) → (-2147483648 ≤ s1_165 ∧ s1_165 < 2147483648) → (-2147483648 ≤ s2_165 ∧ s2_165 < 2147483648) → S s3_165 = 13 → fX10_climbs_B165 G.2.2.2.2 S Ln R M165 l0_165 l1_165 l2_165 s0_165 s1_165 s2_165 s3_165 = some r → JJ G C 0 0 sz S Ln M165 R 165 [(0, .ref l0_165), (1, .int (iI l1_165)), (2, .int (iI l2_165))] [.int (iI s0_165), .int (iI s1_165), .int (iI s2_165), .ref s3_165] := by
    intro M165 l0_165 l1_165 l2_165 s0_165 s1_165 s2_165 s3_165 hl0_165 hl1_165 hl2_165 hs0_165 hs1_165 hs2_165 hs3_165 h
    unfold fX10_climbs_B165 at h
    obtain ⟨q16, hq16, h⟩ := bd_e h
    refine jj_invV hC mvX10_sets wd1878 wd39 wd1876 hs3_165 (by decide) rfl (xX10_sets (OKC.tr hC) hs3_165 hs2_165 hs1_165 hs0_165 hq16) rfl rfl (c_le rfl) (c_le rfl) (c_le rfl) (c_le rfl) dX10_climbs_165 noXk (po_kV ?_)
    refine jj_aload_n hC dX10_climbs_168 rfl 0 rfl ?_
    refine jj_iload_n hC dX10_climbs_169 rfl 1 rfl ?_
    refine jj_iconst hC dX10_climbs_170 ?_
    refine jj_aload_n hC dX10_climbs_171 rfl 0 rfl ?_
    refine jj_iload_n hC dX10_climbs_172 rfl 1 rfl ?_
    refine jj_iconst hC dX10_climbs_173 ?_
    obtain ⟨q17, hq17, h⟩ := bd_e h
    refine jj_invV hC mvX10_of wd1815 wd29 wd1813 hl0_165 (by decide) rfl (xX10_of (OKC.tr hC) hl0_165 hl1_165 (show (-2147483648 ≤ (5 : Int) ∧ (5 : Int) < 2147483648) from by decide) hq17) rfl rfl (c_le rfl) (c_le rfl) (c_le rfl) (c_le rfl) dX10_climbs_174 noXk (po_kI (fun hr17 => ?_))
    refine jj_iload_n hC dX10_climbs_177 rfl 2 rfl ?_
    refine jg_iadd hC dX10_climbs_178 ?_
    obtain ⟨q18, hq18, h⟩ := bd_e h
    refine jj_invV hC mvX10_sets wd1878 wd39 wd1876 hl0_165 (by decide) rfl (xX10_sets (OKC.tr hC) hl0_165 hl1_165 (show (-2147483648 ≤ (5 : Int) ∧ (5 : Int) < 2147483648) from by decide) (w32_r _) hq18) rfl rfl (c_le rfl) (c_le rfl) (c_le rfl) (c_le rfl) dX10_climbs_179 noXk (po_kV ?_)
    refine jj_aload_n hC dX10_climbs_182 rfl 0 rfl ?_
    refine jj_iload_n hC dX10_climbs_183 rfl 1 rfl ?_
    refine jj_iconst hC dX10_climbs_184 ?_
    obtain ⟨q19, hq19, h⟩ := bd_e h
    refine jj_invV hC mvX10_of wd1815 wd29 wd1813 hl0_165 (by decide) rfl (xX10_of (OKC.tr hC) hl0_165 hl1_165 (show (-2147483648 ≤ (4 : Int) ∧ (4 : Int) < 2147483648) from by decide) hq19) rfl rfl (c_le rfl) (c_le rfl) (c_le rfl) (c_le rfl) dX10_climbs_185 noXk (po_kI (fun hr19 => ?_))
    cases h
    exact jj_iret hC (c_le rfl) (c_le rfl) dX10_climbs_188 ⟨rfl, hr19, rfl, rfl, rfl, rfl, rfl⟩
  have hB96 : ∀ (M96 : gM) (l0_96 : Nat) (l1_96 : Int) (l2_96 : Int) (l3_96 : Int) (s0_96 : Int) (s1_96 : Nat), S l0_96 = 13 → (-2147483648 ≤ l1_96 ∧ l1_96 < 2147483648) → (-2147483648 ≤ l2_96 ∧ l2_96 < 2147483648) → (-2147483648 ≤ l3_96 ∧ l3_96 < 2147483648) → (0 ≤ s0_96 ∧ s0_96 ≤ 1) → S s1_96 = 13 → fX10_climbs_B96 G.2.2.2.2 S Ln R M96 l0_96 l1_96 l2_96 l3_96 s0_96 s1_96 = some r → JJ G C 0 0 sz S Ln M96 R 96 [(0, .ref l0_96), (1, .int (iI l1_96)), (2, .int (iI l2_96)), (3, .int (iI l3_96))] [.int (iI s0_96), .ref s1_96] := by
    intro M96 l0_96 l1_96 l2_96 l3_96 s0_96 s1_96 hl0_96 hl1_96 hl2_96 hl3_96 hs0_96 hs1_96 h
    unfold fX10_climbs_B96 at h
    refine jj_iconst hC dX10_climbs_96 ?_
    obtain ⟨q10, hq10, h⟩ := bd_e h
    refine jj_invV hC mvX10_isThrown wd1791 wd24 wd1789 hs1_96 (by decide) rfl (xX10_isThrown (OKC.tr hC) hs1_96 hs0_96 (show (-2147483648 ≤ (4 : Int) ∧ (4 : Int) < 2147483648) from by decide) hq10) rfl rfl (c_le rfl) (c_le rfl) (c_le rfl) (c_le rfl) dX10_climbs_97 noXk (po_kZ (fun hr10 => ?_))
    refine jj_if_eq (tgt := 105) hC dX10_climbs_100 rfl (r_z hr10) (fun hc => ?_) (fun hc => ?_)
    · replace h := (if_pos hc).symm.trans h
      refine jj_aload_n hC dX10_climbs_105 rfl 0 rfl ?_
      refine jj_iload_n hC dX10_climbs_106 rfl 1 rfl ?_
      refine jj_iconst hC dX10_climbs_107 ?_
      obtain ⟨q11, hq11, h⟩ := bd_e h
      refine jj_invV hC mvX10_of wd1815 wd29 wd1813 hl0_96 (by decide) rfl (xX10_of (OKC.tr hC) hl0_96 hl1_96 (show (-2147483648 ≤ (4 : Int) ∧ (4 : Int) < 2147483648) from by decide) hq11) rfl rfl (c_le rfl) (c_le rfl) (c_le rfl) (c_le rfl) dX10_climbs_108 noXk (po_kI (fun hr11 => ?_))
      refine jj_istore (lv' := [(4, .int (iI q11)), (0, .ref l0_96), (1, .int (iI l1_96)), (2, .int (iI l2_96)), (3, .int (iI l3_96))]) hC dX10_climbs_111 (by decide) rfl ?_
      refine jj_iload hC dX10_climbs_113 0 rfl ?_
      refine jj_bipush hC dX10_climbs_115 (by decide) ?_
      refine jj_iload_n hC dX10_climbs_117 rfl 4 rfl ?_
      refine jg_imul hC dX10_climbs_118 ?_
      refine jj_iload_n hC dX10_climbs_119 rfl 3 rfl ?_
      refine jg_imul hC dX10_climbs_120 ?_
      refine jg_iadd hC dX10_climbs_121 ?_
      refine jj_istore (lv' := [(5, .int (iI (w32 (q11 + (w32 ((w32 (60 * l3_96)) * l2_96)))))), (4, .int (iI q11)), (0, .ref l0_96), (1, .int (iI l1_96)), (2, .int (iI l2_96)), (3, .int (iI l3_96))]) hC dX10_climbs_122 (by decide) rfl ?_
      refine jj_aload_n hC dX10_climbs_124 rfl 2 rfl ?_
      refine jj_iload_n hC dX10_climbs_125 rfl 3 rfl ?_
      refine jj_iconst hC dX10_climbs_126 ?_
      refine jj_iload hC dX10_climbs_127 1 rfl ?_
      refine jj_aload_n hC dX10_climbs_129 rfl 2 rfl ?_
      obtain ⟨b12, hb12, hs12, h⟩ := rf_e h
      refine jg_R hC kfX10 0 rfl hl0_96 (by decide) wd1709 rfl hb12 dX10_climbs_130 ?_
      refine jj_iconst hC dX10_climbs_133 ?_
      obtain ⟨⟨ha13, hb13⟩, h⟩ := gd_e h
      refine jj_iald hC hs12 ha13 hb13 dX10_climbs_134 (fun hr13 => ?_)
      refine jj_icmp_le (tgt := 143) hC dX10_climbs_135 rfl hr11 hr13 (fun hc => ?_) (fun hc => ?_)
      · replace h := (if_pos hc).symm.trans h
        refine jj_iload hC dX10_climbs_143 0 rfl ?_
        refine jj_aload_n hC dX10_climbs_145 rfl 2 rfl ?_
        obtain ⟨b14, hb14, hs14, h⟩ := rf_e h
        refine jg_R hC kfX10 0 rfl hl0_96 (by decide) wd1709 rfl hb14 dX10_climbs_146 ?_
        refine jj_iconst hC dX10_climbs_149 ?_
        obtain ⟨⟨ha15, hb15⟩, h⟩ := gd_e h
        refine jj_iald hC hs14 ha15 hb15 dX10_climbs_150 (fun hr15 => ?_)
        refine jj_icmp_le (tgt := 163) hC dX10_climbs_151 rfl (w32_r _) hr15 (fun hc => ?_) (fun hc => ?_)
        · replace h := (if_pos hc).symm.trans h
          refine jj_iload hC dX10_climbs_163 0 rfl ?_
          refine jj_lv (lv' := [(0, .ref l0_96), (1, .int (iI l1_96)), (2, .int (iI l2_96))]) [2, 3, 4] rfl ?_
          exact hB165 q10.2 l0_96 l1_96 l2_96 (w32 (q11 + (w32 ((w32 (60 * l3_96)) * l2_96)))) 4 l1_96 l0_96 hl0_96 hl1_96 hl2_96 (w32_r _) (show (-2147483648 ≤ (4 : Int) ∧ (4 : Int) < 2147483648) from by decide) hl1_96 hl0_96 h
        · replace h := (if_neg (Int.not_le.mpr hc)).symm.trans h
          refine jj_aload_n hC dX10_climbs_154 rfl 2 rfl ?_
          obtain ⟨b20, hb20, hs20, h⟩ := rf_e h
          refine jg_R hC kfX10 0 rfl hl0_96 (by decide) wd1709 rfl hb20 dX10_climbs_155 ?_
          refine jj_iconst hC dX10_climbs_158 ?_
          obtain ⟨⟨ha21, hb21⟩, h⟩ := gd_e h
          refine jj_iald hC hs20 ha21 hb21 dX10_climbs_159 (fun hr21 => ?_)
          refine jj_goto (tgt := 165) hC dX10_climbs_160 rfl ?_
          refine jj_lv (lv' := [(0, .ref l0_96), (1, .int (iI l1_96)), (2, .int (iI l2_96))]) [2, 3, 4] rfl ?_
          exact hB165 q10.2 l0_96 l1_96 l2_96 (q10.2 b20 5) 4 l1_96 l0_96 hl0_96 hl1_96 hl2_96 hr21 (show (-2147483648 ≤ (4 : Int) ∧ (4 : Int) < 2147483648) from by decide) hl1_96 hl0_96 h
      · replace h := (if_neg (Int.not_le.mpr hc)).symm.trans h
        refine jj_iload hC dX10_climbs_138 1 rfl ?_
        refine jj_goto (tgt := 165) hC dX10_climbs_140 rfl ?_
        refine jj_lv (lv' := [(0, .ref l0_96), (1, .int (iI l1_96)), (2, .int (iI l2_96))]) [2, 3, 4] rfl ?_
        exact hB165 q10.2 l0_96 l1_96 l2_96 q11 4 l1_96 l0_96 hl0_96 hl1_96 hl2_96 hr11 (show (-2147483648 ≤ (4 : Int) ∧ (4 : Int) < 2147483648) from by decide) hl1_96 hl0_96 h
    · replace h := (if_neg (hc)).symm.trans h
      refine jj_iconst hC dX10_climbs_103 ?_
      cases h
      exact jj_iret hC (c_le rfl) (c_le rfl) dX10_climbs_104 ⟨rfl, (show (-2147483648 ≤ (0 : Int) ∧ (0 : Int) < 2147483648) from by decide), rfl, rfl, rfl, rfl, rfl⟩
  have hB60 : ∀ (M60 : gM) (l0_60 : Nat) (l1_60 : Int) (l2_60 : Int) (s0_60 : Int) (s1_60 : Nat), S l0_60 = 13 → (-2147483648 ≤ l1_60 ∧ l1_60 < 2147483648) → (-2147483648 ≤ l2_60 ∧ l2_60 < 2147483648) → (0 ≤ s0_60 ∧ s0_60 ≤ 1) → S s1_60 = 13 → fX10_climbs_B60 G.2.2.2.2 S Ln R M60 l0_60 l1_60 l2_60 s0_60 s1_60 = some r → JJ G C 0 0 sz S Ln M60 R 60 [(0, .ref l0_60), (1, .int (iI l1_60)), (2, .int (iI l2_60))] [.int (iI s0_60), .ref s1_60] := by
    intro M60 l0_60 l1_60 l2_60 s0_60 s1_60 hl0_60 hl1_60 hl2_60 hs0_60 hs1_60 h
    unfold fX10_climbs_B60 at h
    refine jj_iconst hC dX10_climbs_60 ?_
    obtain ⟨q6, hq6, h⟩ := bd_e h
    refine jj_invV hC mvX10_isThrown wd1791 wd24 wd1789 hs1_60 (by decide) rfl (xX10_isThrown (OKC.tr hC) hs1_60 hs0_60 (show (-2147483648 ≤ (3 : Int) ∧ (3 : Int) < 2147483648) from by decide) hq6) rfl rfl (c_le rfl) (c_le rfl) (c_le rfl) (c_le rfl) dX10_climbs_61 noXk (po_kZ (fun hr6 => ?_))
    refine jj_if_eq (tgt := 69) hC dX10_climbs_64 rfl (r_z hr6) (fun hc => ?_) (fun hc => ?_)
    · replace h := (if_pos hc).symm.trans h
      refine jj_aload_n hC dX10_climbs_69 rfl 0 rfl ?_
      refine jj_aload_n hC dX10_climbs_70 rfl 0 rfl ?_
      refine jj_iload_n hC dX10_climbs_71 rfl 1 rfl ?_
      refine jj_iconst hC dX10_climbs_72 ?_
      obtain ⟨q7, hq7, h⟩ := bd_e h
      refine jj_invV hC mvX10_of wd1815 wd29 wd1813 hl0_60 (by decide) rfl (xX10_of (OKC.tr hC) hl0_60 hl1_60 (show (-2147483648 ≤ (2 : Int) ∧ (2 : Int) < 2147483648) from by decide) hq7) rfl rfl (c_le rfl) (c_le rfl) (c_le rfl) (c_le rfl) dX10_climbs_73 noXk (po_kI (fun hr7 => ?_))
      refine jj_aload_n hC dX10_climbs_76 rfl 0 rfl ?_
      refine jj_iload_n hC dX10_climbs_77 rfl 1 rfl ?_
      refine jj_iconst hC dX10_climbs_78 ?_
      obtain ⟨q8, hq8, h⟩ := bd_e h
      refine jj_invV hC mvX10_of wd1815 wd29 wd1813 hl0_60 (by decide) rfl (xX10_of (OKC.tr hC) hl0_60 hl1_60 (show (-2147483648 ≤ (3 : Int) ∧ (3 : Int) < 2147483648) from by decide) hq8) rfl rfl (c_le rfl) (c_le rfl) (c_le rfl) (c_le rfl) dX10_climbs_79 noXk (po_kI (fun hr8 => ?_))
      obtain ⟨q9, hq9, h⟩ := bd_e h
      refine jj_invV hC mvX10_lifted wd1936 wd49 wd1934 hl0_60 (by decide) rfl (xX10_lifted (OKC.tr hC) hl0_60 hr7 hr8 hq9) rfl rfl (c_le rfl) (c_le rfl) (c_le rfl) (c_le rfl) dX10_climbs_82 noXk (po_kI (fun hr9 => ?_))
      refine jj_istore_n (lv' := [(3, .int (iI q9)), (0, .ref l0_60), (1, .int (iI l1_60)), (2, .int (iI l2_60))]) hC dX10_climbs_85 rfl (by decide) rfl ?_
      refine jj_aload_n hC dX10_climbs_86 rfl 1 rfl ?_
      refine jj_iload_n hC dX10_climbs_87 rfl 0 rfl ?_
      refine jj_if_ne (tgt := 95) hC dX10_climbs_88 rfl hr9 (fun hc => ?_) (fun hc => ?_)
      · replace h := (if_pos hc).symm.trans h
        refine jj_iconst hC dX10_climbs_95 ?_
        refine jj_lv (lv' := [(0, .ref l0_60), (1, .int (iI l1_60)), (2, .int (iI l2_60)), (3, .int (iI q9))]) [1, 2, 3, 0] rfl ?_
        exact hB96 q6.2 l0_60 l1_60 l2_60 q9 0 l0_60 hl0_60 hl1_60 hl2_60 hr9 (show (0 ≤ (0 : Int) ∧ (0 : Int) ≤ 1) from by decide) hl0_60 h
      · replace h := (if_neg (fun k => k hc)).symm.trans h
        refine jj_iconst hC dX10_climbs_91 ?_
        refine jj_goto (tgt := 96) hC dX10_climbs_92 rfl ?_
        refine jj_lv (lv' := [(0, .ref l0_60), (1, .int (iI l1_60)), (2, .int (iI l2_60)), (3, .int (iI q9))]) [1, 2, 3, 0] rfl ?_
        exact hB96 q6.2 l0_60 l1_60 l2_60 q9 1 l0_60 hl0_60 hl1_60 hl2_60 hr9 (show (0 ≤ (1 : Int) ∧ (1 : Int) ≤ 1) from by decide) hl0_60 h
    · replace h := (if_neg (hc)).symm.trans h
      refine jj_iconst hC dX10_climbs_67 ?_
      cases h
      exact jj_iret hC (c_le rfl) (c_le rfl) dX10_climbs_68 ⟨rfl, (show (-2147483648 ≤ (0 : Int) ∧ (0 : Int) < 2147483648) from by decide), rfl, rfl, rfl, rfl, rfl⟩
  have hB37 : ∀ (M37 : gM) (l0_37 : Nat) (l1_37 : Int) (l2_37 : Int) (s0_37 : Int) (s1_37 : Nat), S l0_37 = 13 → (-2147483648 ≤ l1_37 ∧ l1_37 < 2147483648) → (-2147483648 ≤ l2_37 ∧ l2_37 < 2147483648) → (0 ≤ s0_37 ∧ s0_37 ≤ 1) → S s1_37 = 13 → fX10_climbs_B37 G.2.2.2.2 S Ln R M37 l0_37 l1_37 l2_37 s0_37 s1_37 = some r → JJ G C 0 0 sz S Ln M37 R 37 [(0, .ref l0_37), (1, .int (iI l1_37)), (2, .int (iI l2_37))] [.int (iI s0_37), .ref s1_37] := by
    intro M37 l0_37 l1_37 l2_37 s0_37 s1_37 hl0_37 hl1_37 hl2_37 hs0_37 hs1_37 h
    unfold fX10_climbs_B37 at h
    refine jj_iconst hC dX10_climbs_37 ?_
    obtain ⟨q4, hq4, h⟩ := bd_e h
    refine jj_invV hC mvX10_isThrown wd1791 wd24 wd1789 hs1_37 (by decide) rfl (xX10_isThrown (OKC.tr hC) hs1_37 hs0_37 (show (-2147483648 ≤ (2 : Int) ∧ (2 : Int) < 2147483648) from by decide) hq4) rfl rfl (c_le rfl) (c_le rfl) (c_le rfl) (c_le rfl) dX10_climbs_38 noXk (po_kZ (fun hr4 => ?_))
    refine jj_if_ne (tgt := 67) hC dX10_climbs_41 rfl (r_z hr4) (fun hc => ?_) (fun hc => ?_)
    · replace h := (if_pos hc).symm.trans h
      refine jj_iconst hC dX10_climbs_67 ?_
      cases h
      exact jj_iret hC (c_le rfl) (c_le rfl) dX10_climbs_68 ⟨rfl, (show (-2147483648 ≤ (0 : Int) ∧ (0 : Int) < 2147483648) from by decide), rfl, rfl, rfl, rfl, rfl⟩
    · replace h := (if_neg (fun k => k hc)).symm.trans h
      refine jj_aload_n hC dX10_climbs_44 rfl 0 rfl ?_
      refine jj_aload_n hC dX10_climbs_45 rfl 0 rfl ?_
      refine jj_iload_n hC dX10_climbs_46 rfl 1 rfl ?_
      refine jj_iconst hC dX10_climbs_47 ?_
      obtain ⟨q5, hq5, h⟩ := bd_e h
      refine jj_invV hC mvX10_of wd1815 wd29 wd1813 hl0_37 (by decide) rfl (xX10_of (OKC.tr hC) hl0_37 hl1_37 (show (-2147483648 ≤ (1 : Int) ∧ (1 : Int) < 2147483648) from by decide) hq5) rfl rfl (c_le rfl) (c_le rfl) (c_le rfl) (c_le rfl) dX10_climbs_48 noXk (po_kI (fun hr5 => ?_))
      refine jj_iconst hC dX10_climbs_51 ?_
      refine jj_icmp_eq (tgt := 59) hC dX10_climbs_52 rfl hr5 (show (-2147483648 ≤ (1 : Int) ∧ (1 : Int) < 2147483648) from by decide) (fun hc => ?_) (fun hc => ?_)
      · replace h := (if_pos hc).symm.trans h
        refine jj_iconst hC dX10_climbs_59 ?_
        refine jj_lv (lv' := [(0, .ref l0_37), (1, .int (iI l1_37)), (2, .int (iI l2_37))]) [0, 1, 2] rfl ?_
        exact hB60 q4.2 l0_37 l1_37 l2_37 0 l0_37 hl0_37 hl1_37 hl2_37 (show (0 ≤ (0 : Int) ∧ (0 : Int) ≤ 1) from by decide) hl0_37 h
      · replace h := (if_neg (hc)).symm.trans h
        refine jj_iconst hC dX10_climbs_55 ?_
        refine jj_goto (tgt := 60) hC dX10_climbs_56 rfl ?_
        refine jj_lv (lv' := [(0, .ref l0_37), (1, .int (iI l1_37)), (2, .int (iI l2_37))]) [0, 1, 2] rfl ?_
        exact hB60 q4.2 l0_37 l1_37 l2_37 1 l0_37 hl0_37 hl1_37 hl2_37 (show (0 ≤ (1 : Int) ∧ (1 : Int) ≤ 1) from by decide) hl0_37 h
  have hB14 : ∀ (M14 : gM) (l0_14 : Nat) (l1_14 : Int) (l2_14 : Int) (s0_14 : Int) (s1_14 : Nat), S l0_14 = 13 → (-2147483648 ≤ l1_14 ∧ l1_14 < 2147483648) → (-2147483648 ≤ l2_14 ∧ l2_14 < 2147483648) → (0 ≤ s0_14 ∧ s0_14 ≤ 1) → S s1_14 = 13 → fX10_climbs_B14 G.2.2.2.2 S Ln R M14 l0_14 l1_14 l2_14 s0_14 s1_14 = some r → JJ G C 0 0 sz S Ln M14 R 14 [(0, .ref l0_14), (1, .int (iI l1_14)), (2, .int (iI l2_14))] [.int (iI s0_14), .ref s1_14] := by
    intro M14 l0_14 l1_14 l2_14 s0_14 s1_14 hl0_14 hl1_14 hl2_14 hs0_14 hs1_14 h
    unfold fX10_climbs_B14 at h
    refine jj_iconst hC dX10_climbs_14 ?_
    obtain ⟨q2, hq2, h⟩ := bd_e h
    refine jj_invV hC mvX10_isThrown wd1791 wd24 wd1789 hs1_14 (by decide) rfl (xX10_isThrown (OKC.tr hC) hs1_14 hs0_14 (show (-2147483648 ≤ (1 : Int) ∧ (1 : Int) < 2147483648) from by decide) hq2) rfl rfl (c_le rfl) (c_le rfl) (c_le rfl) (c_le rfl) dX10_climbs_15 noXk (po_kZ (fun hr2 => ?_))
    refine jj_if_ne (tgt := 67) hC dX10_climbs_18 rfl (r_z hr2) (fun hc => ?_) (fun hc => ?_)
    · replace h := (if_pos hc).symm.trans h
      refine jj_iconst hC dX10_climbs_67 ?_
      cases h
      exact jj_iret hC (c_le rfl) (c_le rfl) dX10_climbs_68 ⟨rfl, (show (-2147483648 ≤ (0 : Int) ∧ (0 : Int) < 2147483648) from by decide), rfl, rfl, rfl, rfl, rfl⟩
    · replace h := (if_neg (fun k => k hc)).symm.trans h
      refine jj_aload_n hC dX10_climbs_21 rfl 0 rfl ?_
      refine jj_iload_n hC dX10_climbs_22 rfl 2 rfl ?_
      refine jj_iconst hC dX10_climbs_23 ?_
      refine jj_bipush hC dX10_climbs_24 (by decide) ?_
      obtain ⟨q3, hq3, h⟩ := bd_e h
      refine jj_invS hC mvX10_isIn wd1787 wd1786 (xX10_isIn (OKC.tr hC) hl2_14 (show (-2147483648 ≤ (1 : Int) ∧ (1 : Int) < 2147483648) from by decide) (show (-2147483648 ≤ (30 : Int) ∧ (30 : Int) < 2147483648) from by decide) hq3) rfl rfl (c_le rfl) (c_le rfl) (c_le rfl) (c_le rfl) dX10_climbs_26 noXk (po_kZ (fun hr3 => ?_))
      refine jj_if_ne (tgt := 36) hC dX10_climbs_29 rfl (r_z hr3) (fun hc => ?_) (fun hc => ?_)
      · replace h := (if_pos hc).symm.trans h
        refine jj_iconst hC dX10_climbs_36 ?_
        refine jj_lv (lv' := [(0, .ref l0_14), (1, .int (iI l1_14)), (2, .int (iI l2_14))]) [0, 1, 2] rfl ?_
        exact hB37 q2.2 l0_14 l1_14 l2_14 0 l0_14 hl0_14 hl1_14 hl2_14 (show (0 ≤ (0 : Int) ∧ (0 : Int) ≤ 1) from by decide) hl0_14 h
      · replace h := (if_neg (fun k => k hc)).symm.trans h
        refine jj_iconst hC dX10_climbs_32 ?_
        refine jj_goto (tgt := 37) hC dX10_climbs_33 rfl ?_
        refine jj_lv (lv' := [(0, .ref l0_14), (1, .int (iI l1_14)), (2, .int (iI l2_14))]) [0, 1, 2] rfl ?_
        exact hB37 q2.2 l0_14 l1_14 l2_14 1 l0_14 hl0_14 hl1_14 hl2_14 (show (0 ≤ (1 : Int) ∧ (1 : Int) ≤ 1) from by decide) hl0_14 h
  unfold fX10_climbs at h
  refine jj_aload_n hC dX10_climbs_0 rfl 0 rfl ?_
  refine jj_aload_n hC dX10_climbs_1 rfl 0 rfl ?_
  refine jj_iload_n hC dX10_climbs_2 rfl 1 rfl ?_
  obtain ⟨q1, hq1, h⟩ := bd_e h
  refine jj_invV hC mvX10_isPilot wd1890 wd41 wd1888 hs0 (by decide) rfl (xX10_isPilot (OKC.tr hC) hs0 hx1 hq1) rfl rfl (c_le rfl) (c_le rfl) (c_le rfl) (c_le rfl) dX10_climbs_3 noXk (po_kZ (fun hr1 => ?_))
  refine jj_if_ne (tgt := 13) hC dX10_climbs_6 rfl (r_z hr1) (fun hc => ?_) (fun hc => ?_)
  · replace h := (if_pos hc).symm.trans h
    refine jj_iconst hC dX10_climbs_13 ?_
    refine jj_lv (lv' := [(0, .ref a0), (1, .int (iI x1)), (2, .int (iI x2))]) [0, 1, 2] rfl ?_
    exact hB14 M a0 x1 x2 0 a0 hs0 hx1 hx2 (show (0 ≤ (0 : Int) ∧ (0 : Int) ≤ 1) from by decide) hs0 h
  · replace h := (if_neg (fun k => k hc)).symm.trans h
    refine jj_iconst hC dX10_climbs_9 ?_
    refine jj_goto (tgt := 14) hC dX10_climbs_10 rfl ?_
    refine jj_lv (lv' := [(0, .ref a0), (1, .int (iI x1)), (2, .int (iI x2))]) [0, 1, 2] rfl ?_
    exact hB14 M a0 x1 x2 1 a0 hs0 hx1 hx2 (show (0 ≤ (1 : Int) ∧ (1 : Int) ≤ 1) from by decide) hs0 h
def fX10_climb (ad S Ln : Nat → Nat) (R : gR) (M : gM) (a0 : Nat) (x1 : Int) (x2 : Int) : Option (Int × gM) :=
  bd (fX10_keeps ad S Ln R M a0) fun q1 => bd (fX10_climbs ad S Ln R q1 a0 x1 x2) fun q2 => bd (fX10_ends ad S Ln R q2.2 a0 q2.1) fun q3 => some ((q3.1, q3.2))
theorem xX10_climb {l : Launch} {G : gE} {sz : Nat} {S Ln : Nat → Nat} {M : gM} {R : gR} (hl : l.stackTraces = false) {a0 : Nat} (hs0 : S a0 = 13) {x1 : Int} (hx1 : (-2147483648 ≤ x1 ∧ x1 < 2147483648)) {x2 : Int} (hx2 : (-2147483648 ≤ x2 ∧ x2 < 2147483648)) {r : Int × gM} (h : fX10_climb G.2.2.2.2 S Ln R M a0 x1 x2 = some r) : Ct l G yX10_climb cX10_climb 3 (some .int) 4 0 0 [.ref a0, .int (iI x1), .int (iI x2)] sz S Ln M R (poI r.1 sz S Ln (r.2) R) noX := by
  refine jj_start (own := RX10) (lv0 := [(0, .ref a0), (1, .int (iI x1)), (2, .int (iI x2))]) hl (by decide +kernel) rfl rfl (c_le rfl) (fun C hCl hC => ?_)
  unfold fX10_climb at h
  refine jj_aload_n hC dX10_climb_0 rfl 0 rfl ?_
  obtain ⟨q1, hq1, h⟩ := bd_e h
  refine jj_invV hC mvX10_keeps wd1774 wd22 wd1772 hs0 (by decide) rfl (xX10_keeps (OKC.tr hC) hs0 hq1) rfl rfl (c_le rfl) (c_le rfl) (c_le rfl) (c_le rfl) dX10_climb_1 noXk (po_kV ?_)
  refine jj_aload_n hC dX10_climb_4 rfl 0 rfl ?_
  refine jj_aload_n hC dX10_climb_5 rfl 0 rfl ?_
  refine jj_iload_n hC dX10_climb_6 rfl 1 rfl ?_
  refine jj_iload_n hC dX10_climb_7 rfl 2 rfl ?_
  obtain ⟨q2, hq2, h⟩ := bd_e h
  refine jj_invV hC mvX10_climbs wd1932 wd48 wd1930 hs0 (by decide) rfl (xX10_climbs (OKC.tr hC) hs0 hx1 hx2 hq2) rfl rfl (c_le rfl) (c_le rfl) (c_le rfl) (c_le rfl) dX10_climb_8 noXk (po_kI (fun hr2 => ?_))
  obtain ⟨q3, hq3, h⟩ := bd_e h
  refine jj_invV hC mvX10_ends wd1795 wd25 wd1793 hs0 (by decide) rfl (xX10_ends (OKC.tr hC) hs0 hr2 hq3) rfl rfl (c_le rfl) (c_le rfl) (c_le rfl) (c_le rfl) dX10_climb_11 noXk (po_kI (fun hr3 => ?_))
  cases h
  exact jj_iret hC (c_le rfl) (c_le rfl) dX10_climb_14 ⟨rfl, hr3, rfl, rfl, rfl, rfl, rfl⟩
def fX10_toNext (ad S Ln : Nat → Nat) (R : gR) (M : gM) (a0 : Nat) (x1 : Int) : Option Int :=
  bd (fX10_of ad S Ln R M a0 x1 7) fun q1 => bd (fX10_inTask ad S Ln R M a0 q1) fun q2 => bd (fX10_of ad S Ln R M a0 x1 2) fun q3 => bd (fX10_pointX ad S Ln R M a0 q2) fun q4 => bd (fX10_between ad S Ln R M q3 q4) fun q5 => bd (fX10_of ad S Ln R M a0 x1 3) fun q6 => bd (fX10_pointY ad S Ln R M a0 q2) fun q7 => bd (fX10_between ad S Ln R M q6 q7) fun q8 => some (w32 (q5 + q8))
theorem xX10_toNext {l : Launch} {G : gE} {sz : Nat} {S Ln : Nat → Nat} {M : gM} {R : gR} (hl : l.stackTraces = false) {a0 : Nat} (hs0 : S a0 = 13) {x1 : Int} (hx1 : (-2147483648 ≤ x1 ∧ x1 < 2147483648)) {r : Int} (h : fX10_toNext G.2.2.2.2 S Ln R M a0 x1 = some r) : Ct l G yX10_toNext cX10_toNext 3 (some .int) 2 0 0 [.ref a0, .int (iI x1)] sz S Ln M R (poI r sz S Ln (M) R) noX := by
  refine jj_start (own := RX10) (lv0 := [(0, .ref a0), (1, .int (iI x1))]) hl (by decide +kernel) rfl rfl (c_le rfl) (fun C hCl hC => ?_)
  unfold fX10_toNext at h
  refine jj_aload_n hC dX10_toNext_0 rfl 0 rfl ?_
  refine jj_aload_n hC dX10_toNext_1 rfl 0 rfl ?_
  refine jj_iload_n hC dX10_toNext_2 rfl 1 rfl ?_
  refine jj_bipush hC dX10_toNext_3 (by decide) ?_
  obtain ⟨q1, hq1, h⟩ := bd_e h
  refine jj_invV hC mvX10_of wd1815 wd29 wd1813 hs0 (by decide) rfl (xX10_of (OKC.tr hC) hs0 hx1 (show (-2147483648 ≤ (7 : Int) ∧ (7 : Int) < 2147483648) from by decide) hq1) rfl rfl (c_le rfl) (c_le rfl) (c_le rfl) (c_le rfl) dX10_toNext_5 noXk (po_kI (fun hr1 => ?_))
  obtain ⟨q2, hq2, h⟩ := bd_e h
  refine jj_invV hC mvX10_inTask wd1819 wd30 wd1817 hs0 (by decide) rfl (xX10_inTask (OKC.tr hC) hs0 hr1 hq2) rfl rfl (c_le rfl) (c_le rfl) (c_le rfl) (c_le rfl) dX10_toNext_8 noXk (po_kI (fun hr2 => ?_))
  refine jj_istore_n (lv' := [(2, .int (iI q2)), (0, .ref a0), (1, .int (iI x1))]) hC dX10_toNext_11 rfl (by decide) rfl ?_
  refine jj_aload_n hC dX10_toNext_12 rfl 1 rfl ?_
  refine jj_iload_n hC dX10_toNext_13 rfl 2 rfl ?_
  refine jj_iconst hC dX10_toNext_14 ?_
  obtain ⟨q3, hq3, h⟩ := bd_e h
  refine jj_invV hC mvX10_of wd1815 wd29 wd1813 hs0 (by decide) rfl (xX10_of (OKC.tr hC) hs0 hx1 (show (-2147483648 ≤ (2 : Int) ∧ (2 : Int) < 2147483648) from by decide) hq3) rfl rfl (c_le rfl) (c_le rfl) (c_le rfl) (c_le rfl) dX10_toNext_15 noXk (po_kI (fun hr3 => ?_))
  refine jj_aload_n hC dX10_toNext_18 rfl 1 rfl ?_
  refine jj_iload_n hC dX10_toNext_19 rfl 0 rfl ?_
  obtain ⟨q4, hq4, h⟩ := bd_e h
  refine jj_invV hC mvX10_pointX wd1827 wd32 wd1825 hs0 (by decide) rfl (xX10_pointX (OKC.tr hC) hs0 hr2 hq4) rfl rfl (c_le rfl) (c_le rfl) (c_le rfl) (c_le rfl) dX10_toNext_20 noXk (po_kI (fun hr4 => ?_))
  obtain ⟨q5, hq5, h⟩ := bd_e h
  refine jj_invS hC mvX10_between wd1830 wd1829 (xX10_between (OKC.tr hC) hr3 hr4 hq5) rfl rfl (c_le rfl) (c_le rfl) (c_le rfl) (c_le rfl) dX10_toNext_23 noXk (po_kI (fun hr5 => ?_))
  refine jj_aload_n hC dX10_toNext_26 rfl 1 rfl ?_
  refine jj_iload_n hC dX10_toNext_27 rfl 2 rfl ?_
  refine jj_iconst hC dX10_toNext_28 ?_
  obtain ⟨q6, hq6, h⟩ := bd_e h
  refine jj_invV hC mvX10_of wd1815 wd29 wd1813 hs0 (by decide) rfl (xX10_of (OKC.tr hC) hs0 hx1 (show (-2147483648 ≤ (3 : Int) ∧ (3 : Int) < 2147483648) from by decide) hq6) rfl rfl (c_le rfl) (c_le rfl) (c_le rfl) (c_le rfl) dX10_toNext_29 noXk (po_kI (fun hr6 => ?_))
  refine jj_aload_n hC dX10_toNext_32 rfl 1 rfl ?_
  refine jj_iload_n hC dX10_toNext_33 rfl 0 rfl ?_
  obtain ⟨q7, hq7, h⟩ := bd_e h
  refine jj_invV hC mvX10_pointY wd1834 wd33 wd1832 hs0 (by decide) rfl (xX10_pointY (OKC.tr hC) hs0 hr2 hq7) rfl rfl (c_le rfl) (c_le rfl) (c_le rfl) (c_le rfl) dX10_toNext_34 noXk (po_kI (fun hr7 => ?_))
  obtain ⟨q8, hq8, h⟩ := bd_e h
  refine jj_invS hC mvX10_between wd1830 wd1829 (xX10_between (OKC.tr hC) hr6 hr7 hq8) rfl rfl (c_le rfl) (c_le rfl) (c_le rfl) (c_le rfl) dX10_toNext_37 noXk (po_kI (fun hr8 => ?_))
  refine jg_iadd hC dX10_toNext_40 ?_
  cases h
  exact jj_iret hC (c_le rfl) (c_le rfl) dX10_toNext_41 ⟨rfl, (w32_r _), rfl, rfl, rfl, rfl, rfl⟩
def fX10_achieved (ad S Ln : Nat → Nat) (R : gR) (M : gM) (a0 : Nat) (x1 : Int) : Option Int :=
  bd (fX10_of ad S Ln R M a0 x1 1) fun q1 => if ¬ q1 = 0 then (bd (fX10_of ad S Ln R M a0 x1 1) fun q2 => if ¬ q2 = 3 then (bd (fX10_of ad S Ln R M a0 x1 7) fun q3 => bd (fX10_leg ad S Ln R M a0 (w32 (q3 - 1))) fun q4 => bd (fX10_toNext ad S Ln R M a0 x1) fun q5 => bd (fX10_of ad S Ln R M a0 x1 7) fun q6 => bd (fX10_legs ad S Ln R M a0 (w32 (q6 - 1))) fun q7 => if (w32 (q4 - q5)) ≤ 0 then (some (w32 (q7 + 0))) else (some (w32 (q7 + (w32 (q4 - q5)))))) else (bd (fX10_whole ad S Ln R M a0) fun q8 => some (q8))) else (some (0))
theorem xX10_achieved {l : Launch} {G : gE} {sz : Nat} {S Ln : Nat → Nat} {M : gM} {R : gR} (hl : l.stackTraces = false) {a0 : Nat} (hs0 : S a0 = 13) {x1 : Int} (hx1 : (-2147483648 ≤ x1 ∧ x1 < 2147483648)) {r : Int} (h : fX10_achieved G.2.2.2.2 S Ln R M a0 x1 = some r) : Ct l G yX10_achieved cX10_achieved 3 (some .int) 6 0 0 [.ref a0, .int (iI x1)] sz S Ln M R (poI r sz S Ln (M) R) noX := by
  refine jj_start (own := RX10) (lv0 := [(0, .ref a0), (1, .int (iI x1))]) hl (by decide +kernel) rfl rfl (c_le rfl) (fun C hCl hC => ?_)
  unfold fX10_achieved at h
  refine jj_aload_n hC dX10_achieved_0 rfl 0 rfl ?_
  refine jj_iload_n hC dX10_achieved_1 rfl 1 rfl ?_
  refine jj_iconst hC dX10_achieved_2 ?_
  obtain ⟨q1, hq1, h⟩ := bd_e h
  refine jj_invV hC mvX10_of wd1815 wd29 wd1813 hs0 (by decide) rfl (xX10_of (OKC.tr hC) hs0 hx1 (show (-2147483648 ≤ (1 : Int) ∧ (1 : Int) < 2147483648) from by decide) hq1) rfl rfl (c_le rfl) (c_le rfl) (c_le rfl) (c_le rfl) dX10_achieved_3 noXk (po_kI (fun hr1 => ?_))
  refine jj_if_ne (tgt := 11) hC dX10_achieved_6 rfl hr1 (fun hc => ?_) (fun hc => ?_)
  · replace h := (if_pos hc).symm.trans h
    refine jj_aload_n hC dX10_achieved_11 rfl 0 rfl ?_
    refine jj_iload_n hC dX10_achieved_12 rfl 1 rfl ?_
    refine jj_iconst hC dX10_achieved_13 ?_
    obtain ⟨q2, hq2, h⟩ := bd_e h
    refine jj_invV hC mvX10_of wd1815 wd29 wd1813 hs0 (by decide) rfl (xX10_of (OKC.tr hC) hs0 hx1 (show (-2147483648 ≤ (1 : Int) ∧ (1 : Int) < 2147483648) from by decide) hq2) rfl rfl (c_le rfl) (c_le rfl) (c_le rfl) (c_le rfl) dX10_achieved_14 noXk (po_kI (fun hr2 => ?_))
    refine jj_iconst hC dX10_achieved_17 ?_
    refine jj_icmp_ne (tgt := 26) hC dX10_achieved_18 rfl hr2 (show (-2147483648 ≤ (3 : Int) ∧ (3 : Int) < 2147483648) from by decide) (fun hc => ?_) (fun hc => ?_)
    · replace h := (if_pos hc).symm.trans h
      refine jj_aload_n hC dX10_achieved_26 rfl 0 rfl ?_
      refine jj_aload_n hC dX10_achieved_27 rfl 0 rfl ?_
      refine jj_iload_n hC dX10_achieved_28 rfl 1 rfl ?_
      refine jj_bipush hC dX10_achieved_29 (by decide) ?_
      obtain ⟨q3, hq3, h⟩ := bd_e h
      refine jj_invV hC mvX10_of wd1815 wd29 wd1813 hs0 (by decide) rfl (xX10_of (OKC.tr hC) hs0 hx1 (show (-2147483648 ≤ (7 : Int) ∧ (7 : Int) < 2147483648) from by decide) hq3) rfl rfl (c_le rfl) (c_le rfl) (c_le rfl) (c_le rfl) dX10_achieved_31 noXk (po_kI (fun hr3 => ?_))
      refine jj_iconst hC dX10_achieved_34 ?_
      refine jg_isub hC dX10_achieved_35 ?_
      obtain ⟨q4, hq4, h⟩ := bd_e h
      refine jj_invV hC mvX10_leg wd1964 wd55 wd1962 hs0 (by decide) rfl (xX10_leg (OKC.tr hC) hs0 (w32_r _) hq4) rfl rfl (c_le rfl) (c_le rfl) (c_le rfl) (c_le rfl) dX10_achieved_36 noXk (po_kI (fun hr4 => ?_))
      refine jj_aload_n hC dX10_achieved_39 rfl 0 rfl ?_
      refine jj_iload_n hC dX10_achieved_40 rfl 1 rfl ?_
      obtain ⟨q5, hq5, h⟩ := bd_e h
      refine jj_invV hC mvX10_toNext wd1968 wd56 wd1966 hs0 (by decide) rfl (xX10_toNext (OKC.tr hC) hs0 hx1 hq5) rfl rfl (c_le rfl) (c_le rfl) (c_le rfl) (c_le rfl) dX10_achieved_41 noXk (po_kI (fun hr5 => ?_))
      refine jg_isub hC dX10_achieved_44 ?_
      refine jj_istore_n (lv' := [(2, .int (iI (w32 (q4 - q5)))), (0, .ref a0), (1, .int (iI x1))]) hC dX10_achieved_45 rfl (by decide) rfl ?_
      refine jj_aload_n hC dX10_achieved_46 rfl 1 rfl ?_
      refine jj_aload_n hC dX10_achieved_47 rfl 1 rfl ?_
      refine jj_iload_n hC dX10_achieved_48 rfl 2 rfl ?_
      refine jj_bipush hC dX10_achieved_49 (by decide) ?_
      obtain ⟨q6, hq6, h⟩ := bd_e h
      refine jj_invV hC mvX10_of wd1815 wd29 wd1813 hs0 (by decide) rfl (xX10_of (OKC.tr hC) hs0 hx1 (show (-2147483648 ≤ (7 : Int) ∧ (7 : Int) < 2147483648) from by decide) hq6) rfl rfl (c_le rfl) (c_le rfl) (c_le rfl) (c_le rfl) dX10_achieved_51 noXk (po_kI (fun hr6 => ?_))
      refine jj_iconst hC dX10_achieved_54 ?_
      refine jg_isub hC dX10_achieved_55 ?_
      obtain ⟨q7, hq7, h⟩ := bd_e h
      refine jj_invV hC mvX10_legs wd1960 wd54 wd1958 hs0 (by decide) rfl (xX10_legs (OKC.tr hC) hs0 (w32_r _) hq7) rfl rfl (c_le rfl) (c_le rfl) (c_le rfl) (c_le rfl) dX10_achieved_56 noXk (po_kI (fun hr7 => ?_))
      refine jj_iload_n hC dX10_achieved_59 rfl 0 rfl ?_
      refine jj_if_le (tgt := 67) hC dX10_achieved_60 rfl (w32_r _) (fun hc => ?_) (fun hc => ?_)
      · replace h := (if_pos hc).symm.trans h
        refine jj_iconst hC dX10_achieved_67 ?_
        refine jg_iadd hC dX10_achieved_68 ?_
        cases h
        exact jj_iret hC (c_le rfl) (c_le rfl) dX10_achieved_69 ⟨rfl, (w32_r _), rfl, rfl, rfl, rfl, rfl⟩
      · replace h := (if_neg (Int.not_le.mpr hc)).symm.trans h
        refine jj_iload_n hC dX10_achieved_63 rfl 0 rfl ?_
        refine jj_goto (tgt := 68) hC dX10_achieved_64 rfl ?_
        refine jg_iadd hC dX10_achieved_68 ?_
        cases h
        exact jj_iret hC (c_le rfl) (c_le rfl) dX10_achieved_69 ⟨rfl, (w32_r _), rfl, rfl, rfl, rfl, rfl⟩
    · replace h := (if_neg (fun k => k hc)).symm.trans h
      refine jj_aload_n hC dX10_achieved_21 rfl 0 rfl ?_
      obtain ⟨q8, hq8, h⟩ := bd_e h
      refine jj_invV hC mvX10_whole wd1956 wd53 wd1954 hs0 (by decide) rfl (xX10_whole (OKC.tr hC) hs0 hq8) rfl rfl (c_le rfl) (c_le rfl) (c_le rfl) (c_le rfl) dX10_achieved_22 noXk (po_kI (fun hr8 => ?_))
      cases h
      exact jj_iret hC (c_le rfl) (c_le rfl) dX10_achieved_25 ⟨rfl, hr8, rfl, rfl, rfl, rfl, rfl⟩
  · replace h := (if_neg (fun k => k hc)).symm.trans h
    refine jj_iconst hC dX10_achieved_9 ?_
    cases h
    exact jj_iret hC (c_le rfl) (c_le rfl) dX10_achieved_10 ⟨rfl, (show (-2147483648 ≤ (0 : Int) ∧ (0 : Int) < 2147483648) from by decide), rfl, rfl, rfl, rfl, rfl⟩
def fX10_bonus_B49 (ad S Ln : Nat → Nat) (R : gR) (M : gM) (l0_9 : Nat) (l1_9 : Int) (l3_49 : Int) (s0_49 : Int) : Option ((Int × Int) ⊕ ((Int) ⊕ (Int))) :=
  some (.inl (s0_49, w32 (l3_49 + 1)))
def fX10_bonus_B48 (ad S Ln : Nat → Nat) (R : gR) (M : gM) (l0_9 : Nat) (l1_9 : Int) (l2_48 : Int) (l3_48 : Int) : Option ((Int × Int) ⊕ ((Int) ⊕ (Int))) :=
  fX10_bonus_B49 ad S Ln R M l0_9 l1_9 l3_48 l2_48
def fX10_bonus_L9 (ad S Ln : Nat → Nat) (R : gR) (M : gM) (l0_9 : Nat) (l1_9 : Int) (s9 : Int × Int) : Option ((Int × Int) ⊕ ((Int) ⊕ (Int))) :=
  rf S (R l0_9 0) 20 fun b2 => gd ((0 : Int) ≤ 4 ∧ 4 < (Ln b2 : Int)) (if (M b2 4) ≤ s9.2 then (some (.inr (.inl s9.1))) else (bd (fX10_of ad S Ln R M l0_9 s9.2 1) fun q4 => if ¬ q4 = 3 then (fX10_bonus_B48 ad S Ln R M l0_9 l1_9 s9.1 s9.2) else (bd (fX10_of ad S Ln R M l0_9 s9.2 5) fun q5 => if s9.1 ≤ q5 then (fX10_bonus_B48 ad S Ln R M l0_9 l1_9 s9.1 s9.2) else (bd (fX10_of ad S Ln R M l0_9 s9.2 5) fun q6 => fX10_bonus_B49 ad S Ln R M l0_9 l1_9 s9.2 q6))))
def fX10_bonus (ad S Ln : Nat → Nat) (R : gR) (M : gM) (a0 : Nat) (x1 : Int) : Option Int :=
  bd (fX10_of ad S Ln R M a0 x1 5) fun q1 => bd (lp (fX10_bonus_L9 ad S Ln R M a0 x1) FU (q1, 0)) fun q10 => Sum.elim (fun e9_7 => bd (fX10_of ad S Ln R M a0 x1 5) fun q8 => gd ((0 : Int) < q8) (some (Int.tdiv (w32 (500 * e9_7)) q8))) (fun c10 => some c10) q10
theorem xX10_bonus {l : Launch} {G : gE} {sz : Nat} {S Ln : Nat → Nat} {M : gM} {R : gR} (hl : l.stackTraces = false) {a0 : Nat} (hs0 : S a0 = 13) {x1 : Int} (hx1 : (-2147483648 ≤ x1 ∧ x1 < 2147483648)) {r : Int} (h : fX10_bonus G.2.2.2.2 S Ln R M a0 x1 = some r) : Ct l G yX10_bonus cX10_bonus 4 (some .int) 2 0 0 [.ref a0, .int (iI x1)] sz S Ln M R (poI r sz S Ln (M) R) noX := by
  refine jj_start (own := RX10) (lv0 := [(0, .ref a0), (1, .int (iI x1))]) hl (by decide +kernel) rfl rfl (c_le rfl) (fun C hCl hC => ?_)
  have hL9 : ∀ (l0_9 : Nat) (l1_9 : Int), S l0_9 = 13 → (-2147483648 ≤ l1_9 ∧ l1_9 < 2147483648) → ∀ (n : Nat) (s9 : Int × Int) (q : (Int) ⊕ (Int)), lp (fX10_bonus_L9 G.2.2.2.2 S Ln R M l0_9 l1_9) n s9 = some q → (-2147483648 ≤ s9.1 ∧ s9.1 < 2147483648) ∧ (-2147483648 ≤ s9.2 ∧ s9.2 < 2147483648) → (∀ e9, q = .inl e9 → (-2147483648 ≤ e9 ∧ e9 < 2147483648) → JJ G C 0 0 sz S Ln M R 56 [(0, .ref l0_9), (1, .int (iI l1_9)), (2, .int (iI e9))] []) → (∀ c, q = .inr c → c = r) → JJ G C 0 0 sz S Ln M R 9 [(0, .ref l0_9), (1, .int (iI l1_9)), (2, .int (iI s9.1)), (3, .int (iI s9.2))] [] := by
    intro l0_9 l1_9 hl0_9 hl1_9
    refine lp_ind ?_
    intro s9 r9 hI9 h hJ9 hE9 hR9
    obtain ⟨hs9_0, hs9_1⟩ := hI9
    have hB49 : ∀ (l3_49 : Int) (s0_49 : Int), (-2147483648 ≤ l3_49 ∧ l3_49 < 2147483648) → (-2147483648 ≤ s0_49 ∧ s0_49 < 2147483648) → fX10_bonus_B49 G.2.2.2.2 S Ln R M l0_9 l1_9 l3_49 s0_49 = some r9 → JJ G C 0 0 sz S Ln M R 49 [(0, .ref l0_9), (1, .int (iI l1_9)), (3, .int (iI l3_49))] [.int (iI s0_49)] := by
      intro l3_49 s0_49 hl3_49 hs0_49 h
      unfold fX10_bonus_B49 at h
      refine jj_istore_n (lv' := [(2, .int (iI s0_49)), (0, .ref l0_9), (1, .int (iI l1_9)), (3, .int (iI l3_49))]) hC dX10_bonus_49 rfl (by decide) rfl ?_
      refine jg_iinc (q := 3) (lv' := [(3, .int (iI (w32 (l3_49 + 1)))), (2, .int (iI s0_49)), (0, .ref l0_9), (1, .int (iI l1_9))]) hC dX10_bonus_50 rfl (by decide) rfl ?_
      refine jj_goto (tgt := 9) hC dX10_bonus_53 rfl ?_
      refine jj_lv (lv' := [(0, .ref l0_9), (1, .int (iI l1_9)), (2, .int (iI s0_49)), (3, .int (iI (w32 (l3_49 + 1))))]) [2, 3, 1, 0] rfl ?_
      exact hJ9 _ (Option.some.inj h).symm ⟨hs0_49, (w32_r _)⟩
    have hB48 : ∀ (l2_48 : Int) (l3_48 : Int), (-2147483648 ≤ l2_48 ∧ l2_48 < 2147483648) → (-2147483648 ≤ l3_48 ∧ l3_48 < 2147483648) → fX10_bonus_B48 G.2.2.2.2 S Ln R M l0_9 l1_9 l2_48 l3_48 = some r9 → JJ G C 0 0 sz S Ln M R 48 [(0, .ref l0_9), (1, .int (iI l1_9)), (2, .int (iI l2_48)), (3, .int (iI l3_48))] [] := by
      intro l2_48 l3_48 hl2_48 hl3_48 h
      unfold fX10_bonus_B48 at h
      refine jj_iload_n hC dX10_bonus_48 rfl 2 rfl ?_
      refine jj_lv (lv' := [(0, .ref l0_9), (1, .int (iI l1_9)), (3, .int (iI l3_48))]) [0, 1, 3] rfl ?_
      exact hB49 l3_48 l2_48 hl3_48 hl2_48 h
    unfold fX10_bonus_L9 at h
    refine jj_iload_n hC dX10_bonus_9 rfl 3 rfl ?_
    refine jj_aload_n hC dX10_bonus_10 rfl 0 rfl ?_
    obtain ⟨b2, hb2, hs2, h⟩ := rf_e h
    refine jg_R hC kfX10 0 rfl hl0_9 (by decide) wd1709 rfl hb2 dX10_bonus_11 ?_
    refine jj_iconst hC dX10_bonus_14 ?_
    obtain ⟨⟨ha3, hb3⟩, h⟩ := gd_e h
    refine jj_iald hC hs2 ha3 hb3 dX10_bonus_15 (fun hr3 => ?_)
    refine jj_icmp_ge (tgt := 56) hC dX10_bonus_16 rfl hs9_1 hr3 (fun hc => ?_) (fun hc => ?_)
    · replace h := (if_pos hc).symm.trans h
      refine jj_lv (lv' := [(0, .ref l0_9), (1, .int (iI l1_9)), (2, .int (iI s9.1))]) [0, 1, 2] rfl ?_
      exact hE9 _ (Option.some.inj h).symm hs9_0
    · replace h := (if_neg (Int.not_le.mpr hc)).symm.trans h
      refine jj_aload_n hC dX10_bonus_19 rfl 0 rfl ?_
      refine jj_iload_n hC dX10_bonus_20 rfl 3 rfl ?_
      refine jj_iconst hC dX10_bonus_21 ?_
      obtain ⟨q4, hq4, h⟩ := bd_e h
      refine jj_invV hC mvX10_of wd1815 wd29 wd1813 hl0_9 (by decide) rfl (xX10_of (OKC.tr hC) hl0_9 hs9_1 (show (-2147483648 ≤ (1 : Int) ∧ (1 : Int) < 2147483648) from by decide) hq4) rfl rfl (c_le rfl) (c_le rfl) (c_le rfl) (c_le rfl) dX10_bonus_22 noXk (po_kI (fun hr4 => ?_))
      refine jj_iconst hC dX10_bonus_25 ?_
      refine jj_icmp_ne (tgt := 48) hC dX10_bonus_26 rfl hr4 (show (-2147483648 ≤ (3 : Int) ∧ (3 : Int) < 2147483648) from by decide) (fun hc => ?_) (fun hc => ?_)
      · replace h := (if_pos hc).symm.trans h
        refine jj_lv (lv' := [(0, .ref l0_9), (1, .int (iI l1_9)), (2, .int (iI s9.1)), (3, .int (iI s9.2))]) [0, 1, 2, 3] rfl ?_
        exact hB48 s9.1 s9.2 hs9_0 hs9_1 h
      · replace h := (if_neg (fun k => k hc)).symm.trans h
        refine jj_aload_n hC dX10_bonus_29 rfl 0 rfl ?_
        refine jj_iload_n hC dX10_bonus_30 rfl 3 rfl ?_
        refine jj_iconst hC dX10_bonus_31 ?_
        obtain ⟨q5, hq5, h⟩ := bd_e h
        refine jj_invV hC mvX10_of wd1815 wd29 wd1813 hl0_9 (by decide) rfl (xX10_of (OKC.tr hC) hl0_9 hs9_1 (show (-2147483648 ≤ (5 : Int) ∧ (5 : Int) < 2147483648) from by decide) hq5) rfl rfl (c_le rfl) (c_le rfl) (c_le rfl) (c_le rfl) dX10_bonus_32 noXk (po_kI (fun hr5 => ?_))
        refine jj_iload_n hC dX10_bonus_35 rfl 2 rfl ?_
        refine jj_icmp_ge (tgt := 48) hC dX10_bonus_36 rfl hr5 hs9_0 (fun hc => ?_) (fun hc => ?_)
        · replace h := (if_pos hc).symm.trans h
          refine jj_lv (lv' := [(0, .ref l0_9), (1, .int (iI l1_9)), (2, .int (iI s9.1)), (3, .int (iI s9.2))]) [0, 1, 2, 3] rfl ?_
          exact hB48 s9.1 s9.2 hs9_0 hs9_1 h
        · replace h := (if_neg (Int.not_le.mpr hc)).symm.trans h
          refine jj_aload_n hC dX10_bonus_39 rfl 0 rfl ?_
          refine jj_iload_n hC dX10_bonus_40 rfl 3 rfl ?_
          refine jj_iconst hC dX10_bonus_41 ?_
          obtain ⟨q6, hq6, h⟩ := bd_e h
          refine jj_invV hC mvX10_of wd1815 wd29 wd1813 hl0_9 (by decide) rfl (xX10_of (OKC.tr hC) hl0_9 hs9_1 (show (-2147483648 ≤ (5 : Int) ∧ (5 : Int) < 2147483648) from by decide) hq6) rfl rfl (c_le rfl) (c_le rfl) (c_le rfl) (c_le rfl) dX10_bonus_42 noXk (po_kI (fun hr6 => ?_))
          refine jj_goto (tgt := 49) hC dX10_bonus_45 rfl ?_
          refine jj_lv (lv' := [(0, .ref l0_9), (1, .int (iI l1_9)), (3, .int (iI s9.2))]) [0, 1, 3] rfl ?_
          exact hB49 s9.2 q6 hs9_1 hr6 h
  unfold fX10_bonus at h
  refine jj_aload_n hC dX10_bonus_0 rfl 0 rfl ?_
  refine jj_iload_n hC dX10_bonus_1 rfl 1 rfl ?_
  refine jj_iconst hC dX10_bonus_2 ?_
  obtain ⟨q1, hq1, h⟩ := bd_e h
  refine jj_invV hC mvX10_of wd1815 wd29 wd1813 hs0 (by decide) rfl (xX10_of (OKC.tr hC) hs0 hx1 (show (-2147483648 ≤ (5 : Int) ∧ (5 : Int) < 2147483648) from by decide) hq1) rfl rfl (c_le rfl) (c_le rfl) (c_le rfl) (c_le rfl) dX10_bonus_3 noXk (po_kI (fun hr1 => ?_))
  refine jj_istore_n (lv' := [(2, .int (iI q1)), (0, .ref a0), (1, .int (iI x1))]) hC dX10_bonus_6 rfl (by decide) rfl ?_
  refine jj_iconst hC dX10_bonus_7 ?_
  refine jj_istore_n (lv' := [(3, .int (iI 0)), (2, .int (iI q1)), (0, .ref a0), (1, .int (iI x1))]) hC dX10_bonus_8 rfl (by decide) rfl ?_
  obtain ⟨q10, hq10, h⟩ := bd_e h
  refine jj_lv (lv' := [(0, .ref a0), (1, .int (iI x1)), (2, .int (iI q1)), (3, .int (iI 0))]) [2, 3, 1, 0] rfl ?_
  refine hL9 a0 x1 hs0 hx1 FU _ q10 hq10 ⟨hr1, (show (-2147483648 ≤ (0 : Int) ∧ (0 : Int) < 2147483648) from by decide)⟩ (fun e9_7 he10 hIE10 => ?_) (fun c10 hc10 => ?_)
  · subst he10
    replace h := el_l h
    have he9_7_0 := hIE10
    refine jj_sipush hC dX10_bonus_56 (by decide) ?_
    refine jj_iload_n hC dX10_bonus_59 rfl 2 rfl ?_
    refine jg_imul hC dX10_bonus_60 ?_
    refine jj_aload_n hC dX10_bonus_61 rfl 0 rfl ?_
    refine jj_iload_n hC dX10_bonus_62 rfl 1 rfl ?_
    refine jj_iconst hC dX10_bonus_63 ?_
    obtain ⟨q8, hq8, h⟩ := bd_e h
    refine jj_invV hC mvX10_of wd1815 wd29 wd1813 hs0 (by decide) rfl (xX10_of (OKC.tr hC) hs0 hx1 (show (-2147483648 ≤ (5 : Int) ∧ (5 : Int) < 2147483648) from by decide) hq8) rfl rfl (c_le rfl) (c_le rfl) (c_le rfl) (c_le rfl) dX10_bonus_64 noXk (po_kI (fun hr8 => ?_))
    obtain ⟨hg9, h⟩ := gd_e h
    refine jj_idiv hC dX10_bonus_67 (w32_r _) hr8 hg9 ?_
    cases h
    exact jj_iret hC (c_le rfl) (c_le rfl) dX10_bonus_68 ⟨rfl, (i_tdiv_r (w32_r _) hg9), rfl, rfl, rfl, rfl, rfl⟩
  · subst hc10
    replace h := el_r h
    exact Option.some.inj h
def fX10_score_B44 (ad S Ln : Nat → Nat) (R : gR) (M : gM) (l0_44 : Nat) (l1_44 : Int) (s0_44 : Int) (s1_44 : Int) : Option Int :=
  bd (fX10_of ad S Ln R M l0_44 l1_44 6) fun q6 => if 0 ≤ (w32 ((w32 (s1_44 + s0_44)) - q6)) then (some (w32 ((w32 (s1_44 + s0_44)) - q6))) else (some (0))
def fX10_score (ad S Ln : Nat → Nat) (R : gR) (M : gM) (a0 : Nat) (x1 : Int) : Option Int :=
  bd (fX10_of ad S Ln R M a0 x1 1) fun q1 => if ¬ q1 = 0 then (bd (fX10_achieved ad S Ln R M a0 x1) fun q2 => bd (fX10_whole ad S Ln R M a0) fun q3 => gd ((0 : Int) < q3) (bd (fX10_of ad S Ln R M a0 x1 1) fun q5 => if ¬ q5 = 3 then (fX10_score_B44 ad S Ln R M a0 x1 0 (Int.tdiv (w32 (1000 * q2)) q3)) else (bd (fX10_bonus ad S Ln R M a0 x1) fun q7 => fX10_score_B44 ad S Ln R M a0 x1 q7 (Int.tdiv (w32 (1000 * q2)) q3)))) else (some (0))
theorem xX10_score {l : Launch} {G : gE} {sz : Nat} {S Ln : Nat → Nat} {M : gM} {R : gR} (hl : l.stackTraces = false) {a0 : Nat} (hs0 : S a0 = 13) {x1 : Int} (hx1 : (-2147483648 ≤ x1 ∧ x1 < 2147483648)) {r : Int} (h : fX10_score G.2.2.2.2 S Ln R M a0 x1 = some r) : Ct l G yX10_score cX10_score 3 (some .int) 7 0 0 [.ref a0, .int (iI x1)] sz S Ln M R (poI r sz S Ln (M) R) noX := by
  refine jj_start (own := RX10) (lv0 := [(0, .ref a0), (1, .int (iI x1))]) hl (by decide +kernel) rfl rfl (c_le rfl) (fun C hCl hC => ?_)
  have hB44 : ∀ (l0_44 : Nat) (l1_44 : Int) (s0_44 : Int) (s1_44 : Int), S l0_44 = 13 → (-2147483648 ≤ l1_44 ∧ l1_44 < 2147483648) → (-2147483648 ≤ s0_44 ∧ s0_44 < 2147483648) → (-2147483648 ≤ s1_44 ∧ s1_44 < 2147483648) → fX10_score_B44 G.2.2.2.2 S Ln R M l0_44 l1_44 s0_44 s1_44 = some r → JJ G C 0 0 sz S Ln M R 44 [(0, .ref l0_44), (1, .int (iI l1_44))] [.int (iI s0_44), .int (iI s1_44)] := by
    intro l0_44 l1_44 s0_44 s1_44 hl0_44 hl1_44 hs0_44 hs1_44 h
    unfold fX10_score_B44 at h
    refine jg_iadd hC dX10_score_44 ?_
    refine jj_aload_n hC dX10_score_45 rfl 0 rfl ?_
    refine jj_iload_n hC dX10_score_46 rfl 1 rfl ?_
    refine jj_bipush hC dX10_score_47 (by decide) ?_
    obtain ⟨q6, hq6, h⟩ := bd_e h
    refine jj_invV hC mvX10_of wd1815 wd29 wd1813 hl0_44 (by decide) rfl (xX10_of (OKC.tr hC) hl0_44 hl1_44 (show (-2147483648 ≤ (6 : Int) ∧ (6 : Int) < 2147483648) from by decide) hq6) rfl rfl (c_le rfl) (c_le rfl) (c_le rfl) (c_le rfl) dX10_score_49 noXk (po_kI (fun hr6 => ?_))
    refine jg_isub hC dX10_score_52 ?_
    refine jj_istore_n (lv' := [(2, .int (iI (w32 ((w32 (s1_44 + s0_44)) - q6)))), (0, .ref l0_44), (1, .int (iI l1_44))]) hC dX10_score_53 rfl (by decide) rfl ?_
    refine jj_iload_n hC dX10_score_54 rfl 0 rfl ?_
    refine jj_if_ge (tgt := 62) hC dX10_score_55 rfl (w32_r _) (fun hc => ?_) (fun hc => ?_)
    · replace h := (if_pos hc).symm.trans h
      refine jj_iload_n hC dX10_score_62 rfl 0 rfl ?_
      cases h
      exact jj_iret hC (c_le rfl) (c_le rfl) dX10_score_63 ⟨rfl, (w32_r _), rfl, rfl, rfl, rfl, rfl⟩
    · replace h := (if_neg (Int.not_le.mpr hc)).symm.trans h
      refine jj_iconst hC dX10_score_58 ?_
      refine jj_goto (tgt := 63) hC dX10_score_59 rfl ?_
      cases h
      exact jj_iret hC (c_le rfl) (c_le rfl) dX10_score_63 ⟨rfl, (show (-2147483648 ≤ (0 : Int) ∧ (0 : Int) < 2147483648) from by decide), rfl, rfl, rfl, rfl, rfl⟩
  unfold fX10_score at h
  refine jj_aload_n hC dX10_score_0 rfl 0 rfl ?_
  refine jj_iload_n hC dX10_score_1 rfl 1 rfl ?_
  refine jj_iconst hC dX10_score_2 ?_
  obtain ⟨q1, hq1, h⟩ := bd_e h
  refine jj_invV hC mvX10_of wd1815 wd29 wd1813 hs0 (by decide) rfl (xX10_of (OKC.tr hC) hs0 hx1 (show (-2147483648 ≤ (1 : Int) ∧ (1 : Int) < 2147483648) from by decide) hq1) rfl rfl (c_le rfl) (c_le rfl) (c_le rfl) (c_le rfl) dX10_score_3 noXk (po_kI (fun hr1 => ?_))
  refine jj_if_ne (tgt := 11) hC dX10_score_6 rfl hr1 (fun hc => ?_) (fun hc => ?_)
  · replace h := (if_pos hc).symm.trans h
    refine jj_sipush hC dX10_score_11 (by decide) ?_
    refine jj_aload_n hC dX10_score_14 rfl 0 rfl ?_
    refine jj_iload_n hC dX10_score_15 rfl 1 rfl ?_
    obtain ⟨q2, hq2, h⟩ := bd_e h
    refine jj_invV hC mvX10_achieved wd1952 wd52 wd1950 hs0 (by decide) rfl (xX10_achieved (OKC.tr hC) hs0 hx1 hq2) rfl rfl (c_le rfl) (c_le rfl) (c_le rfl) (c_le rfl) dX10_score_16 noXk (po_kI (fun hr2 => ?_))
    refine jg_imul hC dX10_score_19 ?_
    refine jj_aload_n hC dX10_score_20 rfl 0 rfl ?_
    obtain ⟨q3, hq3, h⟩ := bd_e h
    refine jj_invV hC mvX10_whole wd1956 wd53 wd1954 hs0 (by decide) rfl (xX10_whole (OKC.tr hC) hs0 hq3) rfl rfl (c_le rfl) (c_le rfl) (c_le rfl) (c_le rfl) dX10_score_21 noXk (po_kI (fun hr3 => ?_))
    obtain ⟨hg4, h⟩ := gd_e h
    refine jj_idiv hC dX10_score_24 (w32_r _) hr3 hg4 ?_
    refine jj_aload_n hC dX10_score_25 rfl 0 rfl ?_
    refine jj_iload_n hC dX10_score_26 rfl 1 rfl ?_
    refine jj_iconst hC dX10_score_27 ?_
    obtain ⟨q5, hq5, h⟩ := bd_e h
    refine jj_invV hC mvX10_of wd1815 wd29 wd1813 hs0 (by decide) rfl (xX10_of (OKC.tr hC) hs0 hx1 (show (-2147483648 ≤ (1 : Int) ∧ (1 : Int) < 2147483648) from by decide) hq5) rfl rfl (c_le rfl) (c_le rfl) (c_le rfl) (c_le rfl) dX10_score_28 noXk (po_kI (fun hr5 => ?_))
    refine jj_iconst hC dX10_score_31 ?_
    refine jj_icmp_ne (tgt := 43) hC dX10_score_32 rfl hr5 (show (-2147483648 ≤ (3 : Int) ∧ (3 : Int) < 2147483648) from by decide) (fun hc => ?_) (fun hc => ?_)
    · replace h := (if_pos hc).symm.trans h
      refine jj_iconst hC dX10_score_43 ?_
      refine jj_lv (lv' := [(0, .ref a0), (1, .int (iI x1))]) [0, 1] rfl ?_
      exact hB44 a0 x1 0 (Int.tdiv (w32 (1000 * q2)) q3) hs0 hx1 (show (-2147483648 ≤ (0 : Int) ∧ (0 : Int) < 2147483648) from by decide) (i_tdiv_r (w32_r _) hg4) h
    · replace h := (if_neg (fun k => k hc)).symm.trans h
      refine jj_aload_n hC dX10_score_35 rfl 0 rfl ?_
      refine jj_iload_n hC dX10_score_36 rfl 1 rfl ?_
      obtain ⟨q7, hq7, h⟩ := bd_e h
      refine jj_invV hC mvX10_bonus wd1972 wd57 wd1970 hs0 (by decide) rfl (xX10_bonus (OKC.tr hC) hs0 hx1 hq7) rfl rfl (c_le rfl) (c_le rfl) (c_le rfl) (c_le rfl) dX10_score_37 noXk (po_kI (fun hr7 => ?_))
      refine jj_goto (tgt := 44) hC dX10_score_40 rfl ?_
      refine jj_lv (lv' := [(0, .ref a0), (1, .int (iI x1))]) [0, 1] rfl ?_
      exact hB44 a0 x1 q7 (Int.tdiv (w32 (1000 * q2)) q3) hs0 hx1 hr7 (i_tdiv_r (w32_r _) hg4) h
  · replace h := (if_neg (fun k => k hc)).symm.trans h
    refine jj_iconst hC dX10_score_9 ?_
    cases h
    exact jj_iret hC (c_le rfl) (c_le rfl) dX10_score_10 ⟨rfl, (show (-2147483648 ≤ (0 : Int) ∧ (0 : Int) < 2147483648) from by decide), rfl, rfl, rfl, rfl, rfl⟩
def fX10_finishes_L38 (ad S Ln : Nat → Nat) (R : gR) (l0_38 : Nat) (l1_38 : Int) (s38 : Int × gM) : Option ((Int × gM) ⊕ ((gM) ⊕ (Int × gM))) :=
  rf S (R l0_38 0) 20 fun b4 => gd ((0 : Int) ≤ 4 ∧ 4 < (Ln b4 : Int)) (if (s38.2 b4 4) ≤ s38.1 then (some (.inr (.inl s38.2))) else (rf S (R l0_38 10) 20 fun b6 => bd (fX10_score ad S Ln R s38.2 l0_38 s38.1) fun q7 => gd ((0 : Int) ≤ s38.1 ∧ s38.1 < (Ln b6 : Int)) (nam (wr s38.2 b6 s38.1 q7) fun M8 => some (.inl (w32 (s38.1 + 1), M8)))))
def fX10_finishes_L100 (ad S Ln : Nat → Nat) (R : gR) (l0_100 : Nat) (l1_100 : Int) (l2_100 : Int) (s100 : Int × gM) : Option ((Int × gM) ⊕ ((gM) ⊕ (Int × gM))) :=
  if 8 ≤ s100.1 then (some (.inr (.inl s100.2))) else (bd (fX10_sets ad S Ln R s100.2 l0_100 l2_100 s100.1 0) fun q16 => some (.inl (w32 (s100.1 + 1), q16)))
def fX10_finishes_L67 (ad S Ln : Nat → Nat) (R : gR) (l0_67 : Nat) (l1_67 : Int) (s67 : Int × gM) : Option ((Int × gM) ⊕ ((gM) ⊕ (Int × gM))) :=
  rf S (R l0_67 0) 20 fun b10 => gd ((0 : Int) ≤ 4 ∧ 4 < (Ln b10 : Int)) (if (s67.2 b10 4) ≤ s67.1 then (some (.inr (.inl s67.2))) else (bd (fX10_of ad S Ln R s67.2 l0_67 s67.1 8) fun q12 => rf S (R l0_67 10) 20 fun b13 => gd ((0 : Int) ≤ s67.1 ∧ s67.1 < (Ln b13 : Int)) (bd (fX10_sets ad S Ln R s67.2 l0_67 s67.1 8 (w32 (q12 + (s67.2 b13 s67.1)))) fun q15 => bd (lp (fX10_finishes_L100 ad S Ln R l0_67 l1_67 s67.1) FU (1, q15)) fun q18 => Sum.elim (fun e100_17 => some (.inl (w32 (s67.1 + 1), e100_17))) (fun c18 => some (.inr (.inr c18))) q18)))
def fX10_finishes_B21 (ad S Ln : Nat → Nat) (R : gR) (M21 : gM) (l0_21 : Nat) (s0_21 : Int) (s1_21 : Nat) : Option (Int × gM) :=
  bd (fX10_isThrown ad S Ln R M21 s1_21 s0_21 1) fun q2 => if q2.1 = 0 then (bd (fX10_inState ad S Ln R q2.2 l0_21 3) fun q3 => bd (lp (fX10_finishes_L38 ad S Ln R l0_21 q3) FU (0, q2.2)) fun q24 => Sum.elim (fun e38_9 => bd (lp (fX10_finishes_L67 ad S Ln R l0_21 q3) FU (0, e38_9)) fun q23 => Sum.elim (fun e67_19 => rf S (R l0_21 0) 20 fun b20 => gd ((0 : Int) ≤ 6 ∧ 6 < (Ln b20 : Int)) (gd ((0 : Int) ≤ 6 ∧ 6 < (Ln b20 : Int)) (nam (wr e67_19 b20 6 (w32 ((e67_19 b20 6) + 1))) fun M22 => some ((q3, M22))))) (fun c23 => some c23) q23) (fun c24 => some c24) q24) else (some ((0, q2.2)))
def fX10_finishes_B16 (ad S Ln : Nat → Nat) (R : gR) (M16 : gM) (l0_16 : Nat) (s0_16 : Nat) : Option (Int × gM) :=
  fX10_finishes_B21 ad S Ln R M16 l0_16 1 s0_16
def fX10_finishes (ad S Ln : Nat → Nat) (R : gR) (M : gM) (a0 : Nat) : Option (Int × gM) :=
  bd (fX10_planning ad S Ln R M a0) fun q1 => if ¬ q1 = 0 then (fX10_finishes_B16 ad S Ln R M a0 a0) else (bd (fX10_inState ad S Ln R M a0 1) fun q25 => if q25 ≤ 0 then (fX10_finishes_B21 ad S Ln R M a0 0 a0) else (fX10_finishes_B16 ad S Ln R M a0 a0))
theorem xX10_finishes {l : Launch} {G : gE} {sz : Nat} {S Ln : Nat → Nat} {M : gM} {R : gR} (hl : l.stackTraces = false) {a0 : Nat} (hs0 : S a0 = 13) {r : Int × gM} (h : fX10_finishes G.2.2.2.2 S Ln R M a0 = some r) : Ct l G yX10_finishes cX10_finishes 4 (some .int) 8 0 0 [.ref a0] sz S Ln M R (poI r.1 sz S Ln (r.2) R) noX := by
  refine jj_start (own := RX10) (lv0 := [(0, .ref a0)]) hl (by decide +kernel) rfl rfl (c_le rfl) (fun C hCl hC => ?_)
  have hL38 : ∀ (l0_38 : Nat) (l1_38 : Int), S l0_38 = 13 → (-2147483648 ≤ l1_38 ∧ l1_38 < 2147483648) → ∀ (n : Nat) (s38 : Int × gM) (q : (gM) ⊕ (Int × gM)), lp (fX10_finishes_L38 G.2.2.2.2 S Ln R l0_38 l1_38) n s38 = some q → (-2147483648 ≤ s38.1 ∧ s38.1 < 2147483648) → (∀ e38, q = .inl e38 → True → JJ G C 0 0 sz S Ln e38 R 65 [(0, .ref l0_38), (1, .int (iI l1_38))] []) → (∀ c, q = .inr c → c = r) → JJ G C 0 0 sz S Ln s38.2 R 38 [(0, .ref l0_38), (1, .int (iI l1_38)), (2, .int (iI s38.1))] [] := by
    intro l0_38 l1_38 hl0_38 hl1_38
    refine lp_ind ?_
    intro s38 r38 hI38 h hJ38 hE38 hR38
    have hs38_0 := hI38
    unfold fX10_finishes_L38 at h
    refine jj_iload_n hC dX10_finishes_38 rfl 2 rfl ?_
    refine jj_aload_n hC dX10_finishes_39 rfl 0 rfl ?_
    obtain ⟨b4, hb4, hs4, h⟩ := rf_e h
    refine jg_R hC kfX10 0 rfl hl0_38 (by decide) wd1709 rfl hb4 dX10_finishes_40 ?_
    refine jj_iconst hC dX10_finishes_43 ?_
    obtain ⟨⟨ha5, hb5⟩, h⟩ := gd_e h
    refine jj_iald hC hs4 ha5 hb5 dX10_finishes_44 (fun hr5 => ?_)
    refine jj_icmp_ge (tgt := 65) hC dX10_finishes_45 rfl hs38_0 hr5 (fun hc => ?_) (fun hc => ?_)
    · replace h := (if_pos hc).symm.trans h
      refine jj_lv (lv' := [(0, .ref l0_38), (1, .int (iI l1_38))]) [0, 1] rfl ?_
      exact hE38 _ (Option.some.inj h).symm trivial
    · replace h := (if_neg (Int.not_le.mpr hc)).symm.trans h
      refine jj_aload_n hC dX10_finishes_48 rfl 0 rfl ?_
      obtain ⟨b6, hb6, hs6, h⟩ := rf_e h
      refine jg_R hC kfX10 10 rfl hl0_38 (by decide) wd1719 rfl hb6 dX10_finishes_49 ?_
      refine jj_iload_n hC dX10_finishes_52 rfl 2 rfl ?_
      refine jj_aload_n hC dX10_finishes_53 rfl 0 rfl ?_
      refine jj_iload_n hC dX10_finishes_54 rfl 2 rfl ?_
      obtain ⟨q7, hq7, h⟩ := bd_e h
      refine jj_invV hC mvX10_score wd1948 wd51 wd1946 hl0_38 (by decide) rfl (xX10_score (OKC.tr hC) hl0_38 hs38_0 hq7) rfl rfl (c_le rfl) (c_le rfl) (c_le rfl) (c_le rfl) dX10_finishes_55 noXk (po_kI (fun hr7 => ?_))
      obtain ⟨⟨ha8, hb8⟩, h⟩ := gd_e h
      obtain ⟨M8, hM8, h⟩ := nam_e h
      refine jj_iast hC hs6 ha8 hb8 hr7 dX10_finishes_58 (jj_M hM8 ?_)
      refine jg_iinc (q := 2) (lv' := [(2, .int (iI (w32 (s38.1 + 1)))), (0, .ref l0_38), (1, .int (iI l1_38))]) hC dX10_finishes_59 rfl (by decide) rfl ?_
      refine jj_goto (tgt := 38) hC dX10_finishes_62 rfl ?_
      refine jj_lv (lv' := [(0, .ref l0_38), (1, .int (iI l1_38)), (2, .int (iI (w32 (s38.1 + 1))))]) [1, 2, 0] rfl ?_
      exact hJ38 _ (Option.some.inj h).symm (w32_r _)
  have hL67 : ∀ (l0_67 : Nat) (l1_67 : Int), S l0_67 = 13 → (-2147483648 ≤ l1_67 ∧ l1_67 < 2147483648) → ∀ (n : Nat) (s67 : Int × gM) (q : (gM) ⊕ (Int × gM)), lp (fX10_finishes_L67 G.2.2.2.2 S Ln R l0_67 l1_67) n s67 = some q → (-2147483648 ≤ s67.1 ∧ s67.1 < 2147483648) → (∀ e67, q = .inl e67 → True → JJ G C 0 0 sz S Ln e67 R 125 [(0, .ref l0_67), (1, .int (iI l1_67))] []) → (∀ c, q = .inr c → c = r) → JJ G C 0 0 sz S Ln s67.2 R 67 [(0, .ref l0_67), (1, .int (iI l1_67)), (2, .int (iI s67.1))] [] := by
    intro l0_67 l1_67 hl0_67 hl1_67
    refine lp_ind ?_
    intro s67 r67 hI67 h hJ67 hE67 hR67
    have hs67_0 := hI67
    have hL100 : ∀ (l0_100 : Nat) (l1_100 : Int) (l2_100 : Int), S l0_100 = 13 → (-2147483648 ≤ l1_100 ∧ l1_100 < 2147483648) → (-2147483648 ≤ l2_100 ∧ l2_100 < 2147483648) → ∀ (n : Nat) (s100 : Int × gM) (q : (gM) ⊕ (Int × gM)), lp (fX10_finishes_L100 G.2.2.2.2 S Ln R l0_100 l1_100 l2_100) n s100 = some q → (-2147483648 ≤ s100.1 ∧ s100.1 < 2147483648) → (∀ e100, q = .inl e100 → True → JJ G C 0 0 sz S Ln e100 R 119 [(0, .ref l0_100), (1, .int (iI l1_100)), (2, .int (iI l2_100))] []) → (∀ c, q = .inr c → c = r) → JJ G C 0 0 sz S Ln s100.2 R 100 [(0, .ref l0_100), (1, .int (iI l1_100)), (2, .int (iI l2_100)), (3, .int (iI s100.1))] [] := by
      intro l0_100 l1_100 l2_100 hl0_100 hl1_100 hl2_100
      refine lp_ind ?_
      intro s100 r100 hI100 h hJ100 hE100 hR100
      have hs100_0 := hI100
      unfold fX10_finishes_L100 at h
      refine jj_iload_n hC dX10_finishes_100 rfl 3 rfl ?_
      refine jj_bipush hC dX10_finishes_101 (by decide) ?_
      refine jj_icmp_ge (tgt := 119) hC dX10_finishes_103 rfl hs100_0 (show (-2147483648 ≤ (8 : Int) ∧ (8 : Int) < 2147483648) from by decide) (fun hc => ?_) (fun hc => ?_)
      · replace h := (if_pos hc).symm.trans h
        refine jj_lv (lv' := [(0, .ref l0_100), (1, .int (iI l1_100)), (2, .int (iI l2_100))]) [0, 1, 2] rfl ?_
        exact hE100 _ (Option.some.inj h).symm trivial
      · replace h := (if_neg (Int.not_le.mpr hc)).symm.trans h
        refine jj_aload_n hC dX10_finishes_106 rfl 0 rfl ?_
        refine jj_iload_n hC dX10_finishes_107 rfl 2 rfl ?_
        refine jj_iload_n hC dX10_finishes_108 rfl 3 rfl ?_
        refine jj_iconst hC dX10_finishes_109 ?_
        obtain ⟨q16, hq16, h⟩ := bd_e h
        refine jj_invV hC mvX10_sets wd1878 wd39 wd1876 hl0_100 (by decide) rfl (xX10_sets (OKC.tr hC) hl0_100 hl2_100 hs100_0 (show (-2147483648 ≤ (0 : Int) ∧ (0 : Int) < 2147483648) from by decide) hq16) rfl rfl (c_le rfl) (c_le rfl) (c_le rfl) (c_le rfl) dX10_finishes_110 noXk (po_kV ?_)
        refine jg_iinc (q := 3) (lv' := [(3, .int (iI (w32 (s100.1 + 1)))), (0, .ref l0_100), (1, .int (iI l1_100)), (2, .int (iI l2_100))]) hC dX10_finishes_113 rfl (by decide) rfl ?_
        refine jj_goto (tgt := 100) hC dX10_finishes_116 rfl ?_
        refine jj_lv (lv' := [(0, .ref l0_100), (1, .int (iI l1_100)), (2, .int (iI l2_100)), (3, .int (iI (w32 (s100.1 + 1))))]) [1, 2, 3, 0] rfl ?_
        exact hJ100 _ (Option.some.inj h).symm (w32_r _)
    unfold fX10_finishes_L67 at h
    refine jj_iload_n hC dX10_finishes_67 rfl 2 rfl ?_
    refine jj_aload_n hC dX10_finishes_68 rfl 0 rfl ?_
    obtain ⟨b10, hb10, hs10, h⟩ := rf_e h
    refine jg_R hC kfX10 0 rfl hl0_67 (by decide) wd1709 rfl hb10 dX10_finishes_69 ?_
    refine jj_iconst hC dX10_finishes_72 ?_
    obtain ⟨⟨ha11, hb11⟩, h⟩ := gd_e h
    refine jj_iald hC hs10 ha11 hb11 dX10_finishes_73 (fun hr11 => ?_)
    refine jj_icmp_ge (tgt := 125) hC dX10_finishes_74 rfl hs67_0 hr11 (fun hc => ?_) (fun hc => ?_)
    · replace h := (if_pos hc).symm.trans h
      refine jj_lv (lv' := [(0, .ref l0_67), (1, .int (iI l1_67))]) [0, 1] rfl ?_
      exact hE67 _ (Option.some.inj h).symm trivial
    · replace h := (if_neg (Int.not_le.mpr hc)).symm.trans h
      refine jj_aload_n hC dX10_finishes_77 rfl 0 rfl ?_
      refine jj_iload_n hC dX10_finishes_78 rfl 2 rfl ?_
      refine jj_bipush hC dX10_finishes_79 (by decide) ?_
      refine jj_aload_n hC dX10_finishes_81 rfl 0 rfl ?_
      refine jj_iload_n hC dX10_finishes_82 rfl 2 rfl ?_
      refine jj_bipush hC dX10_finishes_83 (by decide) ?_
      obtain ⟨q12, hq12, h⟩ := bd_e h
      refine jj_invV hC mvX10_of wd1815 wd29 wd1813 hl0_67 (by decide) rfl (xX10_of (OKC.tr hC) hl0_67 hs67_0 (show (-2147483648 ≤ (8 : Int) ∧ (8 : Int) < 2147483648) from by decide) hq12) rfl rfl (c_le rfl) (c_le rfl) (c_le rfl) (c_le rfl) dX10_finishes_85 noXk (po_kI (fun hr12 => ?_))
      refine jj_aload_n hC dX10_finishes_88 rfl 0 rfl ?_
      obtain ⟨b13, hb13, hs13, h⟩ := rf_e h
      refine jg_R hC kfX10 10 rfl hl0_67 (by decide) wd1719 rfl hb13 dX10_finishes_89 ?_
      refine jj_iload_n hC dX10_finishes_92 rfl 2 rfl ?_
      obtain ⟨⟨ha14, hb14⟩, h⟩ := gd_e h
      refine jj_iald hC hs13 ha14 hb14 dX10_finishes_93 (fun hr14 => ?_)
      refine jg_iadd hC dX10_finishes_94 ?_
      obtain ⟨q15, hq15, h⟩ := bd_e h
      refine jj_invV hC mvX10_sets wd1878 wd39 wd1876 hl0_67 (by decide) rfl (xX10_sets (OKC.tr hC) hl0_67 hs67_0 (show (-2147483648 ≤ (8 : Int) ∧ (8 : Int) < 2147483648) from by decide) (w32_r _) hq15) rfl rfl (c_le rfl) (c_le rfl) (c_le rfl) (c_le rfl) dX10_finishes_95 noXk (po_kV ?_)
      refine jj_iconst hC dX10_finishes_98 ?_
      refine jj_istore_n (lv' := [(3, .int (iI 1)), (0, .ref l0_67), (1, .int (iI l1_67)), (2, .int (iI s67.1))]) hC dX10_finishes_99 rfl (by decide) rfl ?_
      obtain ⟨q18, hq18, h⟩ := bd_e h
      refine jj_lv (lv' := [(0, .ref l0_67), (1, .int (iI l1_67)), (2, .int (iI s67.1)), (3, .int (iI 1))]) [1, 2, 3, 0] rfl ?_
      refine hL100 l0_67 l1_67 s67.1 hl0_67 hl1_67 hs67_0 FU _ q18 hq18 (show (-2147483648 ≤ (1 : Int) ∧ (1 : Int) < 2147483648) from by decide) (fun e100_17 he18 hIE18 => ?_) (fun c18 hc18 => ?_)
      · subst he18
        replace h := el_l h
        refine jg_iinc (q := 2) (lv' := [(2, .int (iI (w32 (s67.1 + 1)))), (0, .ref l0_67), (1, .int (iI l1_67))]) hC dX10_finishes_119 rfl (by decide) rfl ?_
        refine jj_goto (tgt := 67) hC dX10_finishes_122 rfl ?_
        refine jj_lv (lv' := [(0, .ref l0_67), (1, .int (iI l1_67)), (2, .int (iI (w32 (s67.1 + 1))))]) [1, 2, 0] rfl ?_
        exact hJ67 _ (Option.some.inj h).symm (w32_r _)
      · subst hc18
        replace h := el_r h
        exact hR67 _ (Option.some.inj h).symm
  have hB21 : ∀ (M21 : gM) (l0_21 : Nat) (s0_21 : Int) (s1_21 : Nat), S l0_21 = 13 → (0 ≤ s0_21 ∧ s0_21 ≤ 1) → S s1_21 = 13 → fX10_finishes_B21 G.2.2.2.2 S Ln R M21 l0_21 s0_21 s1_21 = some r → JJ G C 0 0 sz S Ln M21 R 21 [(0, .ref l0_21)] [.int (iI s0_21), .ref s1_21] := by
    intro M21 l0_21 s0_21 s1_21 hl0_21 hs0_21 hs1_21 h
    unfold fX10_finishes_B21 at h
    refine jj_iconst hC dX10_finishes_21 ?_
    obtain ⟨q2, hq2, h⟩ := bd_e h
    refine jj_invV hC mvX10_isThrown wd1791 wd24 wd1789 hs1_21 (by decide) rfl (xX10_isThrown (OKC.tr hC) hs1_21 hs0_21 (show (-2147483648 ≤ (1 : Int) ∧ (1 : Int) < 2147483648) from by decide) hq2) rfl rfl (c_le rfl) (c_le rfl) (c_le rfl) (c_le rfl) dX10_finishes_22 noXk (po_kZ (fun hr2 => ?_))
    refine jj_if_eq (tgt := 30) hC dX10_finishes_25 rfl (r_z hr2) (fun hc => ?_) (fun hc => ?_)
    · replace h := (if_pos hc).symm.trans h
      refine jj_aload_n hC dX10_finishes_30 rfl 0 rfl ?_
      refine jj_iconst hC dX10_finishes_31 ?_
      obtain ⟨q3, hq3, h⟩ := bd_e h
      refine jj_invV hC mvX10_inState wd1894 wd42 wd1892 hl0_21 (by decide) rfl (xX10_inState (OKC.tr hC) hl0_21 (show (-2147483648 ≤ (3 : Int) ∧ (3 : Int) < 2147483648) from by decide) hq3) rfl rfl (c_le rfl) (c_le rfl) (c_le rfl) (c_le rfl) dX10_finishes_32 noXk (po_kI (fun hr3 => ?_))
      refine jj_istore_n (lv' := [(1, .int (iI q3)), (0, .ref l0_21)]) hC dX10_finishes_35 rfl (by decide) rfl ?_
      refine jj_iconst hC dX10_finishes_36 ?_
      refine jj_istore_n (lv' := [(2, .int (iI 0)), (1, .int (iI q3)), (0, .ref l0_21)]) hC dX10_finishes_37 rfl (by decide) rfl ?_
      obtain ⟨q24, hq24, h⟩ := bd_e h
      refine jj_lv (lv' := [(0, .ref l0_21), (1, .int (iI q3)), (2, .int (iI 0))]) [2, 1, 0] rfl ?_
      refine hL38 l0_21 q3 hl0_21 hr3 FU _ q24 hq24 (show (-2147483648 ≤ (0 : Int) ∧ (0 : Int) < 2147483648) from by decide) (fun e38_9 he24 hIE24 => ?_) (fun c24 hc24 => ?_)
      · subst he24
        replace h := el_l h
        refine jj_iconst hC dX10_finishes_65 ?_
        refine jj_istore_n (lv' := [(2, .int (iI 0)), (0, .ref l0_21), (1, .int (iI q3))]) hC dX10_finishes_66 rfl (by decide) rfl ?_
        obtain ⟨q23, hq23, h⟩ := bd_e h
        refine jj_lv (lv' := [(0, .ref l0_21), (1, .int (iI q3)), (2, .int (iI 0))]) [1, 2, 0] rfl ?_
        refine hL67 l0_21 q3 hl0_21 hr3 FU _ q23 hq23 (show (-2147483648 ≤ (0 : Int) ∧ (0 : Int) < 2147483648) from by decide) (fun e67_19 he23 hIE23 => ?_) (fun c23 hc23 => ?_)
        · subst he23
          replace h := el_l h
          refine jj_aload_n hC dX10_finishes_125 rfl 0 rfl ?_
          obtain ⟨b20, hb20, hs20, h⟩ := rf_e h
          refine jg_R hC kfX10 0 rfl hl0_21 (by decide) wd1709 rfl hb20 dX10_finishes_126 ?_
          refine jj_bipush hC dX10_finishes_129 (by decide) ?_
          refine jj_dup2 hC dX10_finishes_131 rfl rfl ?_
          obtain ⟨⟨ha21, hb21⟩, h⟩ := gd_e h
          refine jj_iald hC hs20 ha21 hb21 dX10_finishes_132 (fun hr21 => ?_)
          refine jj_iconst hC dX10_finishes_133 ?_
          refine jg_iadd hC dX10_finishes_134 ?_
          obtain ⟨⟨ha22, hb22⟩, h⟩ := gd_e h
          obtain ⟨M22, hM22, h⟩ := nam_e h
          refine jj_iast hC hs20 ha22 hb22 (w32_r _) dX10_finishes_135 (jj_M hM22 ?_)
          refine jj_iload_n hC dX10_finishes_136 rfl 1 rfl ?_
          cases h
          exact jj_iret hC (c_le rfl) (c_le rfl) dX10_finishes_137 ⟨rfl, hr3, rfl, rfl, rfl, rfl, rfl⟩
        · subst hc23
          replace h := el_r h
          exact Option.some.inj h
      · subst hc24
        replace h := el_r h
        exact Option.some.inj h
    · replace h := (if_neg (hc)).symm.trans h
      refine jj_iconst hC dX10_finishes_28 ?_
      cases h
      exact jj_iret hC (c_le rfl) (c_le rfl) dX10_finishes_29 ⟨rfl, (show (-2147483648 ≤ (0 : Int) ∧ (0 : Int) < 2147483648) from by decide), rfl, rfl, rfl, rfl, rfl⟩
  have hB16 : ∀ (M16 : gM) (l0_16 : Nat) (s0_16 : Nat), S l0_16 = 13 → S s0_16 = 13 → fX10_finishes_B16 G.2.2.2.2 S Ln R M16 l0_16 s0_16 = some r → JJ G C 0 0 sz S Ln M16 R 16 [(0, .ref l0_16)] [.ref s0_16] := by
    intro M16 l0_16 s0_16 hl0_16 hs0_16 h
    unfold fX10_finishes_B16 at h
    refine jj_iconst hC dX10_finishes_16 ?_
    refine jj_goto (tgt := 21) hC dX10_finishes_17 rfl ?_
    refine jj_lv (lv' := [(0, .ref l0_16)]) [0] rfl ?_
    exact hB21 M16 l0_16 1 s0_16 hl0_16 (show (0 ≤ (1 : Int) ∧ (1 : Int) ≤ 1) from by decide) hs0_16 h
  unfold fX10_finishes at h
  refine jj_aload_n hC dX10_finishes_0 rfl 0 rfl ?_
  refine jj_aload_n hC dX10_finishes_1 rfl 0 rfl ?_
  obtain ⟨q1, hq1, h⟩ := bd_e h
  refine jj_invV hC mvX10_planning wd1811 wd28 wd1809 hs0 (by decide) rfl (xX10_planning (OKC.tr hC) hs0 hq1) rfl rfl (c_le rfl) (c_le rfl) (c_le rfl) (c_le rfl) dX10_finishes_2 noXk (po_kZ (fun hr1 => ?_))
  refine jj_if_ne (tgt := 16) hC dX10_finishes_5 rfl (r_z hr1) (fun hc => ?_) (fun hc => ?_)
  · replace h := (if_pos hc).symm.trans h
    refine jj_lv (lv' := [(0, .ref a0)]) [0] rfl ?_
    exact hB16 M a0 a0 hs0 hs0 h
  · replace h := (if_neg (fun k => k hc)).symm.trans h
    refine jj_aload_n hC dX10_finishes_8 rfl 0 rfl ?_
    refine jj_iconst hC dX10_finishes_9 ?_
    obtain ⟨q25, hq25, h⟩ := bd_e h
    refine jj_invV hC mvX10_inState wd1894 wd42 wd1892 hs0 (by decide) rfl (xX10_inState (OKC.tr hC) hs0 (show (-2147483648 ≤ (1 : Int) ∧ (1 : Int) < 2147483648) from by decide) hq25) rfl rfl (c_le rfl) (c_le rfl) (c_le rfl) (c_le rfl) dX10_finishes_10 noXk (po_kI (fun hr25 => ?_))
    refine jj_if_le (tgt := 20) hC dX10_finishes_13 rfl hr25 (fun hc => ?_) (fun hc => ?_)
    · replace h := (if_pos hc).symm.trans h
      refine jj_iconst hC dX10_finishes_20 ?_
      refine jj_lv (lv' := [(0, .ref a0)]) [0] rfl ?_
      exact hB21 M a0 0 a0 hs0 (show (0 ≤ (0 : Int) ∧ (0 : Int) ≤ 1) from by decide) hs0 h
    · replace h := (if_neg (Int.not_le.mpr hc)).symm.trans h
      refine jj_lv (lv' := [(0, .ref a0)]) [0] rfl ?_
      exact hB16 M a0 a0 hs0 hs0 h
def fX10_endDay (ad S Ln : Nat → Nat) (R : gR) (M : gM) (a0 : Nat) : Option (Int × gM) :=
  bd (fX10_keeps ad S Ln R M a0) fun q1 => bd (fX10_finishes ad S Ln R q1 a0) fun q2 => bd (fX10_ends ad S Ln R q2.2 a0 q2.1) fun q3 => some ((q3.1, q3.2))
theorem xX10_endDay {l : Launch} {G : gE} {sz : Nat} {S Ln : Nat → Nat} {M : gM} {R : gR} (hl : l.stackTraces = false) {a0 : Nat} (hs0 : S a0 = 13) {r : Int × gM} (h : fX10_endDay G.2.2.2.2 S Ln R M a0 = some r) : Ct l G yX10_endDay cX10_endDay 1 (some .int) 9 0 0 [.ref a0] sz S Ln M R (poI r.1 sz S Ln (r.2) R) noX := by
  refine jj_start (own := RX10) (lv0 := [(0, .ref a0)]) hl (by decide +kernel) rfl rfl (c_le rfl) (fun C hCl hC => ?_)
  unfold fX10_endDay at h
  refine jj_aload_n hC dX10_endDay_0 rfl 0 rfl ?_
  obtain ⟨q1, hq1, h⟩ := bd_e h
  refine jj_invV hC mvX10_keeps wd1774 wd22 wd1772 hs0 (by decide) rfl (xX10_keeps (OKC.tr hC) hs0 hq1) rfl rfl (c_le rfl) (c_le rfl) (c_le rfl) (c_le rfl) dX10_endDay_1 noXk (po_kV ?_)
  refine jj_aload_n hC dX10_endDay_4 rfl 0 rfl ?_
  refine jj_aload_n hC dX10_endDay_5 rfl 0 rfl ?_
  obtain ⟨q2, hq2, h⟩ := bd_e h
  refine jj_invV hC mvX10_finishes wd1944 wd50 wd1942 hs0 (by decide) rfl (xX10_finishes (OKC.tr hC) hs0 hq2) rfl rfl (c_le rfl) (c_le rfl) (c_le rfl) (c_le rfl) dX10_endDay_6 noXk (po_kI (fun hr2 => ?_))
  obtain ⟨q3, hq3, h⟩ := bd_e h
  refine jj_invV hC mvX10_ends wd1795 wd25 wd1793 hs0 (by decide) rfl (xX10_ends (OKC.tr hC) hs0 hr2 hq3) rfl rfl (c_le rfl) (c_le rfl) (c_le rfl) (c_le rfl) dX10_endDay_9 noXk (po_kI (fun hr3 => ?_))
  cases h
  exact jj_iret hC (c_le rfl) (c_le rfl) dX10_endDay_12 ⟨rfl, hr3, rfl, rfl, rfl, rfl, rfl⟩
def fX10_pointCount (ad S Ln : Nat → Nat) (R : gR) (M : gM) (a0 : Nat) : Option (Int × gM) :=
  nam (wr M a0 5 0) fun M1 => rf S (R a0 0) 20 fun b2 => gd ((0 : Int) ≤ 0 ∧ 0 < (Ln b2 : Int)) (some ((M1 b2 0, M1)))
theorem xX10_pointCount {l : Launch} {G : gE} {sz : Nat} {S Ln : Nat → Nat} {M : gM} {R : gR} (hl : l.stackTraces = false) {a0 : Nat} (hs0 : S a0 = 13) {r : Int × gM} (h : fX10_pointCount G.2.2.2.2 S Ln R M a0 = some r) : Ct l G yX10_pointCount cX10_pointCount 1 (some .int) 1 0 0 [.ref a0] sz S Ln M R (poI r.1 sz S Ln (r.2) R) noX := by
  refine jj_start (own := RX10) (lv0 := [(0, .ref a0)]) hl (by decide +kernel) rfl rfl (c_le rfl) (fun C hCl hC => ?_)
  unfold fX10_pointCount at h
  refine jj_aload_n hC dX10_pointCount_0 rfl 0 rfl ?_
  refine jj_iconst hC dX10_pointCount_1 ?_
  obtain ⟨M1, hM1, h⟩ := nam_e h
  refine jp_I hC kfX10 5 rfl hs0 rfl (by decide) wd1714 rfl rfl rfl (show (-2147483648 ≤ (0 : Int) ∧ (0 : Int) < 2147483648) from by decide) dX10_pointCount_2 (jj_M hM1 ?_)
  refine jj_aload_n hC dX10_pointCount_5 rfl 0 rfl ?_
  obtain ⟨b2, hb2, hs2, h⟩ := rf_e h
  refine jg_R hC kfX10 0 rfl hs0 (by decide) wd1709 rfl hb2 dX10_pointCount_6 ?_
  refine jj_iconst hC dX10_pointCount_9 ?_
  obtain ⟨⟨ha3, hb3⟩, h⟩ := gd_e h
  refine jj_iald hC hs2 ha3 hb3 dX10_pointCount_10 (fun hr3 => ?_)
  cases h
  exact jj_iret hC (c_le rfl) (c_le rfl) dX10_pointCount_11 ⟨rfl, hr3, rfl, rfl, rfl, rfl, rfl⟩
def fX10_distance_B22 (ad S Ln : Nat → Nat) (R : gR) (M22 : gM) (l0_22 : Nat) (l1_22 : Int) (l2_22 : Int) (s0_22 : Int) (s1_22 : Nat) : Option (Int × gM) :=
  bd (fX10_isThrown ad S Ln R M22 s1_22 s0_22 1) fun q2 => if q2.1 = 0 then (bd (fX10_apart ad S Ln R q2.2 l0_22 l1_22 l2_22) fun q3 => some ((q3, q2.2))) else (some ((0, q2.2)))
def fX10_distance_B17 (ad S Ln : Nat → Nat) (R : gR) (M17 : gM) (l0_17 : Nat) (l1_17 : Int) (l2_17 : Int) (s0_17 : Nat) : Option (Int × gM) :=
  fX10_distance_B22 ad S Ln R M17 l0_17 l1_17 l2_17 1 s0_17
def fX10_distance (ad S Ln : Nat → Nat) (R : gR) (M : gM) (a0 : Nat) (x1 : Int) (x2 : Int) : Option (Int × gM) :=
  bd (fX10_isPoint ad S Ln R M a0 x1) fun q1 => if q1 = 0 then (fX10_distance_B17 ad S Ln R M a0 x1 x2 a0) else (bd (fX10_isPoint ad S Ln R M a0 x2) fun q4 => if ¬ q4 = 0 then (fX10_distance_B22 ad S Ln R M a0 x1 x2 0 a0) else (fX10_distance_B17 ad S Ln R M a0 x1 x2 a0))
theorem xX10_distance {l : Launch} {G : gE} {sz : Nat} {S Ln : Nat → Nat} {M : gM} {R : gR} (hl : l.stackTraces = false) {a0 : Nat} (hs0 : S a0 = 13) {x1 : Int} (hx1 : (-2147483648 ≤ x1 ∧ x1 < 2147483648)) {x2 : Int} (hx2 : (-2147483648 ≤ x2 ∧ x2 < 2147483648)) {r : Int × gM} (h : fX10_distance G.2.2.2.2 S Ln R M a0 x1 x2 = some r) : Ct l G yX10_distance cX10_distance 3 (some .int) 3 0 0 [.ref a0, .int (iI x1), .int (iI x2)] sz S Ln M R (poI r.1 sz S Ln (r.2) R) noX := by
  refine jj_start (own := RX10) (lv0 := [(0, .ref a0), (1, .int (iI x1)), (2, .int (iI x2))]) hl (by decide +kernel) rfl rfl (c_le rfl) (fun C hCl hC => ?_)
  have hB22 : ∀ (M22 : gM) (l0_22 : Nat) (l1_22 : Int) (l2_22 : Int) (s0_22 : Int) (s1_22 : Nat), S l0_22 = 13 → (-2147483648 ≤ l1_22 ∧ l1_22 < 2147483648) → (-2147483648 ≤ l2_22 ∧ l2_22 < 2147483648) → (0 ≤ s0_22 ∧ s0_22 ≤ 1) → S s1_22 = 13 → fX10_distance_B22 G.2.2.2.2 S Ln R M22 l0_22 l1_22 l2_22 s0_22 s1_22 = some r → JJ G C 0 0 sz S Ln M22 R 22 [(0, .ref l0_22), (1, .int (iI l1_22)), (2, .int (iI l2_22))] [.int (iI s0_22), .ref s1_22] := by
    intro M22 l0_22 l1_22 l2_22 s0_22 s1_22 hl0_22 hl1_22 hl2_22 hs0_22 hs1_22 h
    unfold fX10_distance_B22 at h
    refine jj_iconst hC dX10_distance_22 ?_
    obtain ⟨q2, hq2, h⟩ := bd_e h
    refine jj_invV hC mvX10_isThrown wd1791 wd24 wd1789 hs1_22 (by decide) rfl (xX10_isThrown (OKC.tr hC) hs1_22 hs0_22 (show (-2147483648 ≤ (1 : Int) ∧ (1 : Int) < 2147483648) from by decide) hq2) rfl rfl (c_le rfl) (c_le rfl) (c_le rfl) (c_le rfl) dX10_distance_23 noXk (po_kZ (fun hr2 => ?_))
    refine jj_if_eq (tgt := 33) hC dX10_distance_26 rfl (r_z hr2) (fun hc => ?_) (fun hc => ?_)
    · replace h := (if_pos hc).symm.trans h
      refine jj_aload_n hC dX10_distance_33 rfl 0 rfl ?_
      refine jj_iload_n hC dX10_distance_34 rfl 1 rfl ?_
      refine jj_iload_n hC dX10_distance_35 rfl 2 rfl ?_
      obtain ⟨q3, hq3, h⟩ := bd_e h
      refine jj_invV hC mvX10_apart wd1823 wd31 wd1821 hl0_22 (by decide) rfl (xX10_apart (OKC.tr hC) hl0_22 hl1_22 hl2_22 hq3) rfl rfl (c_le rfl) (c_le rfl) (c_le rfl) (c_le rfl) dX10_distance_36 noXk (po_kI (fun hr3 => ?_))
      cases h
      exact jj_iret hC (c_le rfl) (c_le rfl) dX10_distance_39 ⟨rfl, hr3, rfl, rfl, rfl, rfl, rfl⟩
    · replace h := (if_neg (hc)).symm.trans h
      refine jj_iconst hC dX10_distance_29 ?_
      refine jj_goto (tgt := 39) hC dX10_distance_30 rfl ?_
      cases h
      exact jj_iret hC (c_le rfl) (c_le rfl) dX10_distance_39 ⟨rfl, (show (-2147483648 ≤ (0 : Int) ∧ (0 : Int) < 2147483648) from by decide), rfl, rfl, rfl, rfl, rfl⟩
  have hB17 : ∀ (M17 : gM) (l0_17 : Nat) (l1_17 : Int) (l2_17 : Int) (s0_17 : Nat), S l0_17 = 13 → (-2147483648 ≤ l1_17 ∧ l1_17 < 2147483648) → (-2147483648 ≤ l2_17 ∧ l2_17 < 2147483648) → S s0_17 = 13 → fX10_distance_B17 G.2.2.2.2 S Ln R M17 l0_17 l1_17 l2_17 s0_17 = some r → JJ G C 0 0 sz S Ln M17 R 17 [(0, .ref l0_17), (1, .int (iI l1_17)), (2, .int (iI l2_17))] [.ref s0_17] := by
    intro M17 l0_17 l1_17 l2_17 s0_17 hl0_17 hl1_17 hl2_17 hs0_17 h
    unfold fX10_distance_B17 at h
    refine jj_iconst hC dX10_distance_17 ?_
    refine jj_goto (tgt := 22) hC dX10_distance_18 rfl ?_
    refine jj_lv (lv' := [(0, .ref l0_17), (1, .int (iI l1_17)), (2, .int (iI l2_17))]) [0, 1, 2] rfl ?_
    exact hB22 M17 l0_17 l1_17 l2_17 1 s0_17 hl0_17 hl1_17 hl2_17 (show (0 ≤ (1 : Int) ∧ (1 : Int) ≤ 1) from by decide) hs0_17 h
  unfold fX10_distance at h
  refine jj_aload_n hC dX10_distance_0 rfl 0 rfl ?_
  refine jj_aload_n hC dX10_distance_1 rfl 0 rfl ?_
  refine jj_iload_n hC dX10_distance_2 rfl 1 rfl ?_
  obtain ⟨q1, hq1, h⟩ := bd_e h
  refine jj_invV hC mvX10_isPoint wd1807 wd27 wd1805 hs0 (by decide) rfl (xX10_isPoint (OKC.tr hC) hs0 hx1 hq1) rfl rfl (c_le rfl) (c_le rfl) (c_le rfl) (c_le rfl) dX10_distance_3 noXk (po_kZ (fun hr1 => ?_))
  refine jj_if_eq (tgt := 17) hC dX10_distance_6 rfl (r_z hr1) (fun hc => ?_) (fun hc => ?_)
  · replace h := (if_pos hc).symm.trans h
    refine jj_lv (lv' := [(0, .ref a0), (1, .int (iI x1)), (2, .int (iI x2))]) [0, 1, 2] rfl ?_
    exact hB17 M a0 x1 x2 a0 hs0 hx1 hx2 hs0 h
  · replace h := (if_neg (hc)).symm.trans h
    refine jj_aload_n hC dX10_distance_9 rfl 0 rfl ?_
    refine jj_iload_n hC dX10_distance_10 rfl 2 rfl ?_
    obtain ⟨q4, hq4, h⟩ := bd_e h
    refine jj_invV hC mvX10_isPoint wd1807 wd27 wd1805 hs0 (by decide) rfl (xX10_isPoint (OKC.tr hC) hs0 hx2 hq4) rfl rfl (c_le rfl) (c_le rfl) (c_le rfl) (c_le rfl) dX10_distance_11 noXk (po_kZ (fun hr4 => ?_))
    refine jj_if_ne (tgt := 21) hC dX10_distance_14 rfl (r_z hr4) (fun hc => ?_) (fun hc => ?_)
    · replace h := (if_pos hc).symm.trans h
      refine jj_iconst hC dX10_distance_21 ?_
      refine jj_lv (lv' := [(0, .ref a0), (1, .int (iI x1)), (2, .int (iI x2))]) [0, 1, 2] rfl ?_
      exact hB22 M a0 x1 x2 0 a0 hs0 hx1 hx2 (show (0 ≤ (0 : Int) ∧ (0 : Int) ≤ 1) from by decide) hs0 h
    · replace h := (if_neg (fun k => k hc)).symm.trans h
      refine jj_lv (lv' := [(0, .ref a0), (1, .int (iI x1)), (2, .int (iI x2))]) [0, 1, 2] rfl ?_
      exact hB17 M a0 x1 x2 a0 hs0 hx1 hx2 hs0 h
def fX10_taskLength (ad S Ln : Nat → Nat) (R : gR) (M : gM) (a0 : Nat) : Option (Int × gM) :=
  nam (wr M a0 5 0) fun M1 => rf S (R a0 0) 20 fun b2 => gd ((0 : Int) ≤ 1 ∧ 1 < (Ln b2 : Int)) (some ((M1 b2 1, M1)))
theorem xX10_taskLength {l : Launch} {G : gE} {sz : Nat} {S Ln : Nat → Nat} {M : gM} {R : gR} (hl : l.stackTraces = false) {a0 : Nat} (hs0 : S a0 = 13) {r : Int × gM} (h : fX10_taskLength G.2.2.2.2 S Ln R M a0 = some r) : Ct l G yX10_taskLength cX10_taskLength 1 (some .int) 1 0 0 [.ref a0] sz S Ln M R (poI r.1 sz S Ln (r.2) R) noX := by
  refine jj_start (own := RX10) (lv0 := [(0, .ref a0)]) hl (by decide +kernel) rfl rfl (c_le rfl) (fun C hCl hC => ?_)
  unfold fX10_taskLength at h
  refine jj_aload_n hC dX10_taskLength_0 rfl 0 rfl ?_
  refine jj_iconst hC dX10_taskLength_1 ?_
  obtain ⟨M1, hM1, h⟩ := nam_e h
  refine jp_I hC kfX10 5 rfl hs0 rfl (by decide) wd1714 rfl rfl rfl (show (-2147483648 ≤ (0 : Int) ∧ (0 : Int) < 2147483648) from by decide) dX10_taskLength_2 (jj_M hM1 ?_)
  refine jj_aload_n hC dX10_taskLength_5 rfl 0 rfl ?_
  obtain ⟨b2, hb2, hs2, h⟩ := rf_e h
  refine jg_R hC kfX10 0 rfl hs0 (by decide) wd1709 rfl hb2 dX10_taskLength_6 ?_
  refine jj_iconst hC dX10_taskLength_9 ?_
  obtain ⟨⟨ha3, hb3⟩, h⟩ := gd_e h
  refine jj_iald hC hs2 ha3 hb3 dX10_taskLength_10 (fun hr3 => ?_)
  cases h
  exact jj_iret hC (c_le rfl) (c_le rfl) dX10_taskLength_11 ⟨rfl, hr3, rfl, rfl, rfl, rfl, rfl⟩
def fX10_taskPoint_B22 (ad S Ln : Nat → Nat) (R : gR) (M22 : gM) (l0_22 : Nat) (l1_22 : Int) (s0_22 : Int) (s1_22 : Nat) : Option (Int × gM) :=
  bd (fX10_isThrown ad S Ln R M22 s1_22 s0_22 1) fun q4 => if q4.1 = 0 then (bd (fX10_inTask ad S Ln R q4.2 l0_22 l1_22) fun q5 => some ((q5, q4.2))) else (some ((0, q4.2)))
def fX10_taskPoint (ad S Ln : Nat → Nat) (R : gR) (M : gM) (a0 : Nat) (x1 : Int) : Option (Int × gM) :=
  rf S (R a0 0) 20 fun b1 => gd ((0 : Int) ≤ 1 ∧ 1 < (Ln b1 : Int)) (bd (fX10_isIn ad S Ln R M x1 0 (w32 ((M b1 1) - 1))) fun q3 => if ¬ q3 = 0 then (fX10_taskPoint_B22 ad S Ln R M a0 x1 0 a0) else (fX10_taskPoint_B22 ad S Ln R M a0 x1 1 a0))
theorem xX10_taskPoint {l : Launch} {G : gE} {sz : Nat} {S Ln : Nat → Nat} {M : gM} {R : gR} (hl : l.stackTraces = false) {a0 : Nat} (hs0 : S a0 = 13) {x1 : Int} (hx1 : (-2147483648 ≤ x1 ∧ x1 < 2147483648)) {r : Int × gM} (h : fX10_taskPoint G.2.2.2.2 S Ln R M a0 x1 = some r) : Ct l G yX10_taskPoint cX10_taskPoint 2 (some .int) 2 0 0 [.ref a0, .int (iI x1)] sz S Ln M R (poI r.1 sz S Ln (r.2) R) noX := by
  refine jj_start (own := RX10) (lv0 := [(0, .ref a0), (1, .int (iI x1))]) hl (by decide +kernel) rfl rfl (c_le rfl) (fun C hCl hC => ?_)
  have hB22 : ∀ (M22 : gM) (l0_22 : Nat) (l1_22 : Int) (s0_22 : Int) (s1_22 : Nat), S l0_22 = 13 → (-2147483648 ≤ l1_22 ∧ l1_22 < 2147483648) → (0 ≤ s0_22 ∧ s0_22 ≤ 1) → S s1_22 = 13 → fX10_taskPoint_B22 G.2.2.2.2 S Ln R M22 l0_22 l1_22 s0_22 s1_22 = some r → JJ G C 0 0 sz S Ln M22 R 22 [(0, .ref l0_22), (1, .int (iI l1_22))] [.int (iI s0_22), .ref s1_22] := by
    intro M22 l0_22 l1_22 s0_22 s1_22 hl0_22 hl1_22 hs0_22 hs1_22 h
    unfold fX10_taskPoint_B22 at h
    refine jj_iconst hC dX10_taskPoint_22 ?_
    obtain ⟨q4, hq4, h⟩ := bd_e h
    refine jj_invV hC mvX10_isThrown wd1791 wd24 wd1789 hs1_22 (by decide) rfl (xX10_isThrown (OKC.tr hC) hs1_22 hs0_22 (show (-2147483648 ≤ (1 : Int) ∧ (1 : Int) < 2147483648) from by decide) hq4) rfl rfl (c_le rfl) (c_le rfl) (c_le rfl) (c_le rfl) dX10_taskPoint_23 noXk (po_kZ (fun hr4 => ?_))
    refine jj_if_eq (tgt := 33) hC dX10_taskPoint_26 rfl (r_z hr4) (fun hc => ?_) (fun hc => ?_)
    · replace h := (if_pos hc).symm.trans h
      refine jj_aload_n hC dX10_taskPoint_33 rfl 0 rfl ?_
      refine jj_iload_n hC dX10_taskPoint_34 rfl 1 rfl ?_
      obtain ⟨q5, hq5, h⟩ := bd_e h
      refine jj_invV hC mvX10_inTask wd1819 wd30 wd1817 hl0_22 (by decide) rfl (xX10_inTask (OKC.tr hC) hl0_22 hl1_22 hq5) rfl rfl (c_le rfl) (c_le rfl) (c_le rfl) (c_le rfl) dX10_taskPoint_35 noXk (po_kI (fun hr5 => ?_))
      cases h
      exact jj_iret hC (c_le rfl) (c_le rfl) dX10_taskPoint_38 ⟨rfl, hr5, rfl, rfl, rfl, rfl, rfl⟩
    · replace h := (if_neg (hc)).symm.trans h
      refine jj_iconst hC dX10_taskPoint_29 ?_
      refine jj_goto (tgt := 38) hC dX10_taskPoint_30 rfl ?_
      cases h
      exact jj_iret hC (c_le rfl) (c_le rfl) dX10_taskPoint_38 ⟨rfl, (show (-2147483648 ≤ (0 : Int) ∧ (0 : Int) < 2147483648) from by decide), rfl, rfl, rfl, rfl, rfl⟩
  unfold fX10_taskPoint at h
  refine jj_aload_n hC dX10_taskPoint_0 rfl 0 rfl ?_
  refine jj_iload_n hC dX10_taskPoint_1 rfl 1 rfl ?_
  refine jj_iconst hC dX10_taskPoint_2 ?_
  refine jj_aload_n hC dX10_taskPoint_3 rfl 0 rfl ?_
  obtain ⟨b1, hb1, hs1, h⟩ := rf_e h
  refine jg_R hC kfX10 0 rfl hs0 (by decide) wd1709 rfl hb1 dX10_taskPoint_4 ?_
  refine jj_iconst hC dX10_taskPoint_7 ?_
  obtain ⟨⟨ha2, hb2⟩, h⟩ := gd_e h
  refine jj_iald hC hs1 ha2 hb2 dX10_taskPoint_8 (fun hr2 => ?_)
  refine jj_iconst hC dX10_taskPoint_9 ?_
  refine jg_isub hC dX10_taskPoint_10 ?_
  obtain ⟨q3, hq3, h⟩ := bd_e h
  refine jj_invS hC mvX10_isIn wd1787 wd1786 (xX10_isIn (OKC.tr hC) hx1 (show (-2147483648 ≤ (0 : Int) ∧ (0 : Int) < 2147483648) from by decide) (w32_r _) hq3) rfl rfl (c_le rfl) (c_le rfl) (c_le rfl) (c_le rfl) dX10_taskPoint_11 noXk (po_kZ (fun hr3 => ?_))
  refine jj_if_ne (tgt := 21) hC dX10_taskPoint_14 rfl (r_z hr3) (fun hc => ?_) (fun hc => ?_)
  · replace h := (if_pos hc).symm.trans h
    refine jj_iconst hC dX10_taskPoint_21 ?_
    refine jj_lv (lv' := [(0, .ref a0), (1, .int (iI x1))]) [0, 1] rfl ?_
    exact hB22 M a0 x1 0 a0 hs0 hx1 (show (0 ≤ (0 : Int) ∧ (0 : Int) ≤ 1) from by decide) hs0 h
  · replace h := (if_neg (fun k => k hc)).symm.trans h
    refine jj_iconst hC dX10_taskPoint_17 ?_
    refine jj_goto (tgt := 22) hC dX10_taskPoint_18 rfl ?_
    refine jj_lv (lv' := [(0, .ref a0), (1, .int (iI x1))]) [0, 1] rfl ?_
    exact hB22 M a0 x1 1 a0 hs0 hx1 (show (0 ≤ (1 : Int) ∧ (1 : Int) ≤ 1) from by decide) hs0 h
def fX10_taskDistance (ad S Ln : Nat → Nat) (R : gR) (M : gM) (a0 : Nat) : Option (Int × gM) :=
  nam (wr M a0 5 0) fun M1 => bd (fX10_whole ad S Ln R M1 a0) fun q2 => some ((q2, M1))
theorem xX10_taskDistance {l : Launch} {G : gE} {sz : Nat} {S Ln : Nat → Nat} {M : gM} {R : gR} (hl : l.stackTraces = false) {a0 : Nat} (hs0 : S a0 = 13) {r : Int × gM} (h : fX10_taskDistance G.2.2.2.2 S Ln R M a0 = some r) : Ct l G yX10_taskDistance cX10_taskDistance 1 (some .int) 6 0 0 [.ref a0] sz S Ln M R (poI r.1 sz S Ln (r.2) R) noX := by
  refine jj_start (own := RX10) (lv0 := [(0, .ref a0)]) hl (by decide +kernel) rfl rfl (c_le rfl) (fun C hCl hC => ?_)
  unfold fX10_taskDistance at h
  refine jj_aload_n hC dX10_taskDistance_0 rfl 0 rfl ?_
  refine jj_iconst hC dX10_taskDistance_1 ?_
  obtain ⟨M1, hM1, h⟩ := nam_e h
  refine jp_I hC kfX10 5 rfl hs0 rfl (by decide) wd1714 rfl rfl rfl (show (-2147483648 ≤ (0 : Int) ∧ (0 : Int) < 2147483648) from by decide) dX10_taskDistance_2 (jj_M hM1 ?_)
  refine jj_aload_n hC dX10_taskDistance_5 rfl 0 rfl ?_
  obtain ⟨q2, hq2, h⟩ := bd_e h
  refine jj_invV hC mvX10_whole wd1956 wd53 wd1954 hs0 (by decide) rfl (xX10_whole (OKC.tr hC) hs0 hq2) rfl rfl (c_le rfl) (c_le rfl) (c_le rfl) (c_le rfl) dX10_taskDistance_6 noXk (po_kI (fun hr2 => ?_))
  cases h
  exact jj_iret hC (c_le rfl) (c_le rfl) dX10_taskDistance_9 ⟨rfl, hr2, rfl, rfl, rfl, rfl, rfl⟩
def fX10_strongestThermal_B40 (ad S Ln : Nat → Nat) (R : gR) (M40 : gM) (l3_40 : Int) (s0_40 : Int) (s1_40 : Nat) : Option (Int × gM) :=
  bd (fX10_isThrown ad S Ln R M40 s1_40 s0_40 2) fun q4 => if q4.1 = 0 then (some ((l3_40, q4.2))) else (some ((0, q4.2)))
def fX10_strongestThermal_B14 (ad S Ln : Nat → Nat) (R : gR) (M14 : gM) (l0_14 : Nat) (l1_14 : Int) (l2_14 : Int) (s0_14 : Int) (s1_14 : Nat) : Option (Int × gM) :=
  bd (fX10_isThrown ad S Ln R M14 s1_14 s0_14 1) fun q2 => if q2.1 = 0 then (bd (fX10_lifted ad S Ln R q2.2 l0_14 l1_14 l2_14) fun q3 => if ¬ q3 = 0 then (fX10_strongestThermal_B40 ad S Ln R q2.2 q3 0 l0_14) else (fX10_strongestThermal_B40 ad S Ln R q2.2 q3 1 l0_14)) else (some ((0, q2.2)))
def fX10_strongestThermal (ad S Ln : Nat → Nat) (R : gR) (M : gM) (a0 : Nat) (x1 : Int) (x2 : Int) : Option (Int × gM) :=
  bd (fX10_isPlace ad S Ln R M x1 x2) fun q1 => if ¬ q1 = 0 then (fX10_strongestThermal_B14 ad S Ln R M a0 x1 x2 0 a0) else (fX10_strongestThermal_B14 ad S Ln R M a0 x1 x2 1 a0)
theorem xX10_strongestThermal {l : Launch} {G : gE} {sz : Nat} {S Ln : Nat → Nat} {M : gM} {R : gR} (hl : l.stackTraces = false) {a0 : Nat} (hs0 : S a0 = 13) {x1 : Int} (hx1 : (-2147483648 ≤ x1 ∧ x1 < 2147483648)) {x2 : Int} (hx2 : (-2147483648 ≤ x2 ∧ x2 < 2147483648)) {r : Int × gM} (h : fX10_strongestThermal G.2.2.2.2 S Ln R M a0 x1 x2 = some r) : Ct l G yX10_strongestThermal cX10_strongestThermal 4 (some .int) 3 0 0 [.ref a0, .int (iI x1), .int (iI x2)] sz S Ln M R (poI r.1 sz S Ln (r.2) R) noX := by
  refine jj_start (own := RX10) (lv0 := [(0, .ref a0), (1, .int (iI x1)), (2, .int (iI x2))]) hl (by decide +kernel) rfl rfl (c_le rfl) (fun C hCl hC => ?_)
  have hB40 : ∀ (M40 : gM) (l3_40 : Int) (s0_40 : Int) (s1_40 : Nat), (-2147483648 ≤ l3_40 ∧ l3_40 < 2147483648) → (0 ≤ s0_40 ∧ s0_40 ≤ 1) → S s1_40 = 13 → fX10_strongestThermal_B40 G.2.2.2.2 S Ln R M40 l3_40 s0_40 s1_40 = some r → JJ G C 0 0 sz S Ln M40 R 40 [(3, .int (iI l3_40))] [.int (iI s0_40), .ref s1_40] := by
    intro M40 l3_40 s0_40 s1_40 hl3_40 hs0_40 hs1_40 h
    unfold fX10_strongestThermal_B40 at h
    refine jj_iconst hC dX10_strongestThermal_40 ?_
    obtain ⟨q4, hq4, h⟩ := bd_e h
    refine jj_invV hC mvX10_isThrown wd1791 wd24 wd1789 hs1_40 (by decide) rfl (xX10_isThrown (OKC.tr hC) hs1_40 hs0_40 (show (-2147483648 ≤ (2 : Int) ∧ (2 : Int) < 2147483648) from by decide) hq4) rfl rfl (c_le rfl) (c_le rfl) (c_le rfl) (c_le rfl) dX10_strongestThermal_41 noXk (po_kZ (fun hr4 => ?_))
    refine jj_if_eq (tgt := 51) hC dX10_strongestThermal_44 rfl (r_z hr4) (fun hc => ?_) (fun hc => ?_)
    · replace h := (if_pos hc).symm.trans h
      refine jj_iload_n hC dX10_strongestThermal_51 rfl 0 rfl ?_
      cases h
      exact jj_iret hC (c_le rfl) (c_le rfl) dX10_strongestThermal_52 ⟨rfl, hl3_40, rfl, rfl, rfl, rfl, rfl⟩
    · replace h := (if_neg (hc)).symm.trans h
      refine jj_iconst hC dX10_strongestThermal_47 ?_
      refine jj_goto (tgt := 52) hC dX10_strongestThermal_48 rfl ?_
      cases h
      exact jj_iret hC (c_le rfl) (c_le rfl) dX10_strongestThermal_52 ⟨rfl, (show (-2147483648 ≤ (0 : Int) ∧ (0 : Int) < 2147483648) from by decide), rfl, rfl, rfl, rfl, rfl⟩
  have hB14 : ∀ (M14 : gM) (l0_14 : Nat) (l1_14 : Int) (l2_14 : Int) (s0_14 : Int) (s1_14 : Nat), S l0_14 = 13 → (-2147483648 ≤ l1_14 ∧ l1_14 < 2147483648) → (-2147483648 ≤ l2_14 ∧ l2_14 < 2147483648) → (0 ≤ s0_14 ∧ s0_14 ≤ 1) → S s1_14 = 13 → fX10_strongestThermal_B14 G.2.2.2.2 S Ln R M14 l0_14 l1_14 l2_14 s0_14 s1_14 = some r → JJ G C 0 0 sz S Ln M14 R 14 [(0, .ref l0_14), (1, .int (iI l1_14)), (2, .int (iI l2_14))] [.int (iI s0_14), .ref s1_14] := by
    intro M14 l0_14 l1_14 l2_14 s0_14 s1_14 hl0_14 hl1_14 hl2_14 hs0_14 hs1_14 h
    unfold fX10_strongestThermal_B14 at h
    refine jj_iconst hC dX10_strongestThermal_14 ?_
    obtain ⟨q2, hq2, h⟩ := bd_e h
    refine jj_invV hC mvX10_isThrown wd1791 wd24 wd1789 hs1_14 (by decide) rfl (xX10_isThrown (OKC.tr hC) hs1_14 hs0_14 (show (-2147483648 ≤ (1 : Int) ∧ (1 : Int) < 2147483648) from by decide) hq2) rfl rfl (c_le rfl) (c_le rfl) (c_le rfl) (c_le rfl) dX10_strongestThermal_15 noXk (po_kZ (fun hr2 => ?_))
    refine jj_if_eq (tgt := 23) hC dX10_strongestThermal_18 rfl (r_z hr2) (fun hc => ?_) (fun hc => ?_)
    · replace h := (if_pos hc).symm.trans h
      refine jj_aload_n hC dX10_strongestThermal_23 rfl 0 rfl ?_
      refine jj_iload_n hC dX10_strongestThermal_24 rfl 1 rfl ?_
      refine jj_iload_n hC dX10_strongestThermal_25 rfl 2 rfl ?_
      obtain ⟨q3, hq3, h⟩ := bd_e h
      refine jj_invV hC mvX10_lifted wd1936 wd49 wd1934 hl0_14 (by decide) rfl (xX10_lifted (OKC.tr hC) hl0_14 hl1_14 hl2_14 hq3) rfl rfl (c_le rfl) (c_le rfl) (c_le rfl) (c_le rfl) dX10_strongestThermal_26 noXk (po_kI (fun hr3 => ?_))
      refine jj_istore_n (lv' := [(3, .int (iI q3)), (0, .ref l0_14), (1, .int (iI l1_14)), (2, .int (iI l2_14))]) hC dX10_strongestThermal_29 rfl (by decide) rfl ?_
      refine jj_aload_n hC dX10_strongestThermal_30 rfl 1 rfl ?_
      refine jj_iload_n hC dX10_strongestThermal_31 rfl 0 rfl ?_
      refine jj_if_ne (tgt := 39) hC dX10_strongestThermal_32 rfl hr3 (fun hc => ?_) (fun hc => ?_)
      · replace h := (if_pos hc).symm.trans h
        refine jj_iconst hC dX10_strongestThermal_39 ?_
        refine jj_lv (lv' := [(3, .int (iI q3))]) [0] rfl ?_
        exact hB40 q2.2 q3 0 l0_14 hr3 (show (0 ≤ (0 : Int) ∧ (0 : Int) ≤ 1) from by decide) hl0_14 h
      · replace h := (if_neg (fun k => k hc)).symm.trans h
        refine jj_iconst hC dX10_strongestThermal_35 ?_
        refine jj_goto (tgt := 40) hC dX10_strongestThermal_36 rfl ?_
        refine jj_lv (lv' := [(3, .int (iI q3))]) [0] rfl ?_
        exact hB40 q2.2 q3 1 l0_14 hr3 (show (0 ≤ (1 : Int) ∧ (1 : Int) ≤ 1) from by decide) hl0_14 h
    · replace h := (if_neg (hc)).symm.trans h
      refine jj_iconst hC dX10_strongestThermal_21 ?_
      cases h
      exact jj_iret hC (c_le rfl) (c_le rfl) dX10_strongestThermal_22 ⟨rfl, (show (-2147483648 ≤ (0 : Int) ∧ (0 : Int) < 2147483648) from by decide), rfl, rfl, rfl, rfl, rfl⟩
  unfold fX10_strongestThermal at h
  refine jj_aload_n hC dX10_strongestThermal_0 rfl 0 rfl ?_
  refine jj_iload_n hC dX10_strongestThermal_1 rfl 1 rfl ?_
  refine jj_iload_n hC dX10_strongestThermal_2 rfl 2 rfl ?_
  obtain ⟨q1, hq1, h⟩ := bd_e h
  refine jj_invS hC mvX10_isPlace wd1784 wd1783 (xX10_isPlace (OKC.tr hC) hx1 hx2 hq1) rfl rfl (c_le rfl) (c_le rfl) (c_le rfl) (c_le rfl) dX10_strongestThermal_3 noXk (po_kZ (fun hr1 => ?_))
  refine jj_if_ne (tgt := 13) hC dX10_strongestThermal_6 rfl (r_z hr1) (fun hc => ?_) (fun hc => ?_)
  · replace h := (if_pos hc).symm.trans h
    refine jj_iconst hC dX10_strongestThermal_13 ?_
    refine jj_lv (lv' := [(0, .ref a0), (1, .int (iI x1)), (2, .int (iI x2))]) [0, 1, 2] rfl ?_
    exact hB14 M a0 x1 x2 0 a0 hs0 hx1 hx2 (show (0 ≤ (0 : Int) ∧ (0 : Int) ≤ 1) from by decide) hs0 h
  · replace h := (if_neg (fun k => k hc)).symm.trans h
    refine jj_iconst hC dX10_strongestThermal_9 ?_
    refine jj_goto (tgt := 14) hC dX10_strongestThermal_10 rfl ?_
    refine jj_lv (lv' := [(0, .ref a0), (1, .int (iI x1)), (2, .int (iI x2))]) [0, 1, 2] rfl ?_
    exact hB14 M a0 x1 x2 1 a0 hs0 hx1 hx2 (show (0 ≤ (1 : Int) ∧ (1 : Int) ≤ 1) from by decide) hs0 h
def fX10_cloudBase (ad S Ln : Nat → Nat) (R : gR) (M : gM) (a0 : Nat) : Option (Int × gM) :=
  nam (wr M a0 5 0) fun M1 => rf S (R a0 0) 20 fun b2 => gd ((0 : Int) ≤ 5 ∧ 5 < (Ln b2 : Int)) (some ((M1 b2 5, M1)))
theorem xX10_cloudBase {l : Launch} {G : gE} {sz : Nat} {S Ln : Nat → Nat} {M : gM} {R : gR} (hl : l.stackTraces = false) {a0 : Nat} (hs0 : S a0 = 13) {r : Int × gM} (h : fX10_cloudBase G.2.2.2.2 S Ln R M a0 = some r) : Ct l G yX10_cloudBase cX10_cloudBase 1 (some .int) 1 0 0 [.ref a0] sz S Ln M R (poI r.1 sz S Ln (r.2) R) noX := by
  refine jj_start (own := RX10) (lv0 := [(0, .ref a0)]) hl (by decide +kernel) rfl rfl (c_le rfl) (fun C hCl hC => ?_)
  unfold fX10_cloudBase at h
  refine jj_aload_n hC dX10_cloudBase_0 rfl 0 rfl ?_
  refine jj_iconst hC dX10_cloudBase_1 ?_
  obtain ⟨M1, hM1, h⟩ := nam_e h
  refine jp_I hC kfX10 5 rfl hs0 rfl (by decide) wd1714 rfl rfl rfl (show (-2147483648 ≤ (0 : Int) ∧ (0 : Int) < 2147483648) from by decide) dX10_cloudBase_2 (jj_M hM1 ?_)
  refine jj_aload_n hC dX10_cloudBase_5 rfl 0 rfl ?_
  obtain ⟨b2, hb2, hs2, h⟩ := rf_e h
  refine jg_R hC kfX10 0 rfl hs0 (by decide) wd1709 rfl hb2 dX10_cloudBase_6 ?_
  refine jj_iconst hC dX10_cloudBase_9 ?_
  obtain ⟨⟨ha3, hb3⟩, h⟩ := gd_e h
  refine jj_iald hC hs2 ha3 hb3 dX10_cloudBase_10 (fun hr3 => ?_)
  cases h
  exact jj_iret hC (c_le rfl) (c_le rfl) dX10_cloudBase_11 ⟨rfl, hr3, rfl, rfl, rfl, rfl, rfl⟩
def fX10_isRestricted_B14 (ad S Ln : Nat → Nat) (R : gR) (M14 : gM) (l0_14 : Nat) (l1_14 : Int) (l2_14 : Int) (s0_14 : Int) (s1_14 : Nat) : Option (Int × gM) :=
  bd (fX10_isThrown ad S Ln R M14 s1_14 s0_14 1) fun q2 => if ¬ q2.1 = 0 then (some ((0, q2.2))) else (bd (fX10_restricted ad S Ln R q2.2 l0_14 l1_14 l2_14) fun q3 => if q3 = 0 then (some ((0, q2.2))) else (some ((1, q2.2))))
def fX10_isRestricted (ad S Ln : Nat → Nat) (R : gR) (M : gM) (a0 : Nat) (x1 : Int) (x2 : Int) : Option (Int × gM) :=
  bd (fX10_isPlace ad S Ln R M x1 x2) fun q1 => if ¬ q1 = 0 then (fX10_isRestricted_B14 ad S Ln R M a0 x1 x2 0 a0) else (fX10_isRestricted_B14 ad S Ln R M a0 x1 x2 1 a0)
theorem xX10_isRestricted {l : Launch} {G : gE} {sz : Nat} {S Ln : Nat → Nat} {M : gM} {R : gR} (hl : l.stackTraces = false) {a0 : Nat} (hs0 : S a0 = 13) {x1 : Int} (hx1 : (-2147483648 ≤ x1 ∧ x1 < 2147483648)) {x2 : Int} (hx2 : (-2147483648 ≤ x2 ∧ x2 < 2147483648)) {r : Int × gM} (h : fX10_isRestricted G.2.2.2.2 S Ln R M a0 x1 x2 = some r) : Ct l G yX10_isRestricted cX10_isRestricted 3 (some .boolean) 3 0 0 [.ref a0, .int (iI x1), .int (iI x2)] sz S Ln M R (poZ r.1 sz S Ln (r.2) R) noX := by
  refine jj_start (own := RX10) (lv0 := [(0, .ref a0), (1, .int (iI x1)), (2, .int (iI x2))]) hl (by decide +kernel) rfl rfl (c_le rfl) (fun C hCl hC => ?_)
  have hB14 : ∀ (M14 : gM) (l0_14 : Nat) (l1_14 : Int) (l2_14 : Int) (s0_14 : Int) (s1_14 : Nat), S l0_14 = 13 → (-2147483648 ≤ l1_14 ∧ l1_14 < 2147483648) → (-2147483648 ≤ l2_14 ∧ l2_14 < 2147483648) → (0 ≤ s0_14 ∧ s0_14 ≤ 1) → S s1_14 = 13 → fX10_isRestricted_B14 G.2.2.2.2 S Ln R M14 l0_14 l1_14 l2_14 s0_14 s1_14 = some r → JJ G C 0 0 sz S Ln M14 R 14 [(0, .ref l0_14), (1, .int (iI l1_14)), (2, .int (iI l2_14))] [.int (iI s0_14), .ref s1_14] := by
    intro M14 l0_14 l1_14 l2_14 s0_14 s1_14 hl0_14 hl1_14 hl2_14 hs0_14 hs1_14 h
    unfold fX10_isRestricted_B14 at h
    refine jj_iconst hC dX10_isRestricted_14 ?_
    obtain ⟨q2, hq2, h⟩ := bd_e h
    refine jj_invV hC mvX10_isThrown wd1791 wd24 wd1789 hs1_14 (by decide) rfl (xX10_isThrown (OKC.tr hC) hs1_14 hs0_14 (show (-2147483648 ≤ (1 : Int) ∧ (1 : Int) < 2147483648) from by decide) hq2) rfl rfl (c_le rfl) (c_le rfl) (c_le rfl) (c_le rfl) dX10_isRestricted_15 noXk (po_kZ (fun hr2 => ?_))
    refine jj_if_ne (tgt := 34) hC dX10_isRestricted_18 rfl (r_z hr2) (fun hc => ?_) (fun hc => ?_)
    · replace h := (if_pos hc).symm.trans h
      refine jj_iconst hC dX10_isRestricted_34 ?_
      cases h
      exact jj_zret hC (show (0 ≤ (0 : Int) ∧ (0 : Int) ≤ 1) from by decide) (c_le rfl) (c_le rfl) dX10_isRestricted_35 ⟨rfl, (show (0 ≤ (0 : Int) ∧ (0 : Int) ≤ 1) from by decide), rfl, rfl, rfl, rfl, rfl⟩
    · replace h := (if_neg (fun k => k hc)).symm.trans h
      refine jj_aload_n hC dX10_isRestricted_21 rfl 0 rfl ?_
      refine jj_iload_n hC dX10_isRestricted_22 rfl 1 rfl ?_
      refine jj_iload_n hC dX10_isRestricted_23 rfl 2 rfl ?_
      obtain ⟨q3, hq3, h⟩ := bd_e h
      refine jj_invV hC mvX10_restricted wd1920 wd46 wd1918 hl0_14 (by decide) rfl (xX10_restricted (OKC.tr hC) hl0_14 hl1_14 hl2_14 hq3) rfl rfl (c_le rfl) (c_le rfl) (c_le rfl) (c_le rfl) dX10_isRestricted_24 noXk (po_kZ (fun hr3 => ?_))
      refine jj_if_eq (tgt := 34) hC dX10_isRestricted_27 rfl (r_z hr3) (fun hc => ?_) (fun hc => ?_)
      · replace h := (if_pos hc).symm.trans h
        refine jj_iconst hC dX10_isRestricted_34 ?_
        cases h
        exact jj_zret hC (show (0 ≤ (0 : Int) ∧ (0 : Int) ≤ 1) from by decide) (c_le rfl) (c_le rfl) dX10_isRestricted_35 ⟨rfl, (show (0 ≤ (0 : Int) ∧ (0 : Int) ≤ 1) from by decide), rfl, rfl, rfl, rfl, rfl⟩
      · replace h := (if_neg (hc)).symm.trans h
        refine jj_iconst hC dX10_isRestricted_30 ?_
        refine jj_goto (tgt := 35) hC dX10_isRestricted_31 rfl ?_
        cases h
        exact jj_zret hC (show (0 ≤ (1 : Int) ∧ (1 : Int) ≤ 1) from by decide) (c_le rfl) (c_le rfl) dX10_isRestricted_35 ⟨rfl, (show (0 ≤ (1 : Int) ∧ (1 : Int) ≤ 1) from by decide), rfl, rfl, rfl, rfl, rfl⟩
  unfold fX10_isRestricted at h
  refine jj_aload_n hC dX10_isRestricted_0 rfl 0 rfl ?_
  refine jj_iload_n hC dX10_isRestricted_1 rfl 1 rfl ?_
  refine jj_iload_n hC dX10_isRestricted_2 rfl 2 rfl ?_
  obtain ⟨q1, hq1, h⟩ := bd_e h
  refine jj_invS hC mvX10_isPlace wd1784 wd1783 (xX10_isPlace (OKC.tr hC) hx1 hx2 hq1) rfl rfl (c_le rfl) (c_le rfl) (c_le rfl) (c_le rfl) dX10_isRestricted_3 noXk (po_kZ (fun hr1 => ?_))
  refine jj_if_ne (tgt := 13) hC dX10_isRestricted_6 rfl (r_z hr1) (fun hc => ?_) (fun hc => ?_)
  · replace h := (if_pos hc).symm.trans h
    refine jj_iconst hC dX10_isRestricted_13 ?_
    refine jj_lv (lv' := [(0, .ref a0), (1, .int (iI x1)), (2, .int (iI x2))]) [0, 1, 2] rfl ?_
    exact hB14 M a0 x1 x2 0 a0 hs0 hx1 hx2 (show (0 ≤ (0 : Int) ∧ (0 : Int) ≤ 1) from by decide) hs0 h
  · replace h := (if_neg (fun k => k hc)).symm.trans h
    refine jj_iconst hC dX10_isRestricted_9 ?_
    refine jj_goto (tgt := 14) hC dX10_isRestricted_10 rfl ?_
    refine jj_lv (lv' := [(0, .ref a0), (1, .int (iI x1)), (2, .int (iI x2))]) [0, 1, 2] rfl ?_
    exact hB14 M a0 x1 x2 1 a0 hs0 hx1 hx2 (show (0 ≤ (1 : Int) ∧ (1 : Int) ≤ 1) from by decide) hs0 h
def fX10_restrictedInRow_B50 (ad S Ln : Nat → Nat) (R : gR) (M29 : gM) (l0_29 : Nat) (l1_29 : Int) (l3_50 : Int) (s0_50 : Int) (s1_50 : Int) : Option ((Int × Int) ⊕ ((Int) ⊕ (Int × gM))) :=
  some (.inl (w32 (s1_50 + s0_50), w32 (l3_50 + 1)))
def fX10_restrictedInRow_L29 (ad S Ln : Nat → Nat) (R : gR) (M29 : gM) (l0_29 : Nat) (l1_29 : Int) (s29 : Int × Int) : Option ((Int × Int) ⊕ ((Int) ⊕ (Int × gM))) :=
  if 60 < s29.2 then (some (.inr (.inl s29.1))) else (bd (fX10_restricted ad S Ln R M29 l0_29 s29.2 l1_29) fun q3 => if q3 = 0 then (fX10_restrictedInRow_B50 ad S Ln R M29 l0_29 l1_29 s29.2 0 s29.1) else (fX10_restrictedInRow_B50 ad S Ln R M29 l0_29 l1_29 s29.2 1 s29.1))
def fX10_restrictedInRow_B16 (ad S Ln : Nat → Nat) (R : gR) (M16 : gM) (l0_16 : Nat) (l1_16 : Int) (s0_16 : Int) (s1_16 : Nat) : Option (Int × gM) :=
  bd (fX10_isThrown ad S Ln R M16 s1_16 s0_16 1) fun q2 => if q2.1 = 0 then (bd (lp (fX10_restrictedInRow_L29 ad S Ln R q2.2 l0_16 l1_16) FU (0, 0)) fun q5 => Sum.elim (fun e29_4 => some ((e29_4, q2.2))) (fun c5 => some c5) q5) else (some ((0, q2.2)))
def fX10_restrictedInRow (ad S Ln : Nat → Nat) (R : gR) (M : gM) (a0 : Nat) (x1 : Int) : Option (Int × gM) :=
  bd (fX10_isIn ad S Ln R M x1 0 60) fun q1 => if ¬ q1 = 0 then (fX10_restrictedInRow_B16 ad S Ln R M a0 x1 0 a0) else (fX10_restrictedInRow_B16 ad S Ln R M a0 x1 1 a0)
theorem xX10_restrictedInRow {l : Launch} {G : gE} {sz : Nat} {S Ln : Nat → Nat} {M : gM} {R : gR} (hl : l.stackTraces = false) {a0 : Nat} (hs0 : S a0 = 13) {x1 : Int} (hx1 : (-2147483648 ≤ x1 ∧ x1 < 2147483648)) {r : Int × gM} (h : fX10_restrictedInRow G.2.2.2.2 S Ln R M a0 x1 = some r) : Ct l G yX10_restrictedInRow cX10_restrictedInRow 4 (some .int) 3 0 0 [.ref a0, .int (iI x1)] sz S Ln M R (poI r.1 sz S Ln (r.2) R) noX := by
  refine jj_start (own := RX10) (lv0 := [(0, .ref a0), (1, .int (iI x1))]) hl (by decide +kernel) rfl rfl (c_le rfl) (fun C hCl hC => ?_)
  have hL29 : ∀ (M29 : gM) (l0_29 : Nat) (l1_29 : Int), S l0_29 = 13 → (-2147483648 ≤ l1_29 ∧ l1_29 < 2147483648) → ∀ (n : Nat) (s29 : Int × Int) (q : (Int) ⊕ (Int × gM)), lp (fX10_restrictedInRow_L29 G.2.2.2.2 S Ln R M29 l0_29 l1_29) n s29 = some q → (-2147483648 ≤ s29.1 ∧ s29.1 < 2147483648) ∧ (-2147483648 ≤ s29.2 ∧ s29.2 < 2147483648) → (∀ e29, q = .inl e29 → (-2147483648 ≤ e29 ∧ e29 < 2147483648) → JJ G C 0 0 sz S Ln M29 R 58 [(2, .int (iI e29))] []) → (∀ c, q = .inr c → c = r) → JJ G C 0 0 sz S Ln M29 R 29 [(0, .ref l0_29), (1, .int (iI l1_29)), (2, .int (iI s29.1)), (3, .int (iI s29.2))] [] := by
    intro M29 l0_29 l1_29 hl0_29 hl1_29
    refine lp_ind ?_
    intro s29 r29 hI29 h hJ29 hE29 hR29
    obtain ⟨hs29_0, hs29_1⟩ := hI29
    have hB50 : ∀ (l3_50 : Int) (s0_50 : Int) (s1_50 : Int), (-2147483648 ≤ l3_50 ∧ l3_50 < 2147483648) → (0 ≤ s0_50 ∧ s0_50 ≤ 1) → (-2147483648 ≤ s1_50 ∧ s1_50 < 2147483648) → fX10_restrictedInRow_B50 G.2.2.2.2 S Ln R M29 l0_29 l1_29 l3_50 s0_50 s1_50 = some r29 → JJ G C 0 0 sz S Ln M29 R 50 [(0, .ref l0_29), (1, .int (iI l1_29)), (3, .int (iI l3_50))] [.int (iI s0_50), .int (iI s1_50)] := by
      intro l3_50 s0_50 s1_50 hl3_50 hs0_50 hs1_50 h
      unfold fX10_restrictedInRow_B50 at h
      refine jg_iadd hC dX10_restrictedInRow_50 ?_
      refine jj_istore_n (lv' := [(2, .int (iI (w32 (s1_50 + s0_50)))), (0, .ref l0_29), (1, .int (iI l1_29)), (3, .int (iI l3_50))]) hC dX10_restrictedInRow_51 rfl (by decide) rfl ?_
      refine jg_iinc (q := 3) (lv' := [(3, .int (iI (w32 (l3_50 + 1)))), (2, .int (iI (w32 (s1_50 + s0_50)))), (0, .ref l0_29), (1, .int (iI l1_29))]) hC dX10_restrictedInRow_52 rfl (by decide) rfl ?_
      refine jj_goto (tgt := 29) hC dX10_restrictedInRow_55 rfl ?_
      refine jj_lv (lv' := [(0, .ref l0_29), (1, .int (iI l1_29)), (2, .int (iI (w32 (s1_50 + s0_50)))), (3, .int (iI (w32 (l3_50 + 1))))]) [2, 3, 1, 0] rfl ?_
      exact hJ29 _ (Option.some.inj h).symm ⟨(w32_r _), (w32_r _)⟩
    unfold fX10_restrictedInRow_L29 at h
    refine jj_iload_n hC dX10_restrictedInRow_29 rfl 3 rfl ?_
    refine jj_bipush hC dX10_restrictedInRow_30 (by decide) ?_
    refine jj_icmp_gt (tgt := 58) hC dX10_restrictedInRow_32 rfl hs29_1 (show (-2147483648 ≤ (60 : Int) ∧ (60 : Int) < 2147483648) from by decide) (fun hc => ?_) (fun hc => ?_)
    · replace h := (if_pos hc).symm.trans h
      refine jj_lv (lv' := [(2, .int (iI s29.1))]) [2] rfl ?_
      exact hE29 _ (Option.some.inj h).symm hs29_0
    · replace h := (if_neg (Int.not_lt.mpr hc)).symm.trans h
      refine jj_iload_n hC dX10_restrictedInRow_35 rfl 2 rfl ?_
      refine jj_aload_n hC dX10_restrictedInRow_36 rfl 0 rfl ?_
      refine jj_iload_n hC dX10_restrictedInRow_37 rfl 3 rfl ?_
      refine jj_iload_n hC dX10_restrictedInRow_38 rfl 1 rfl ?_
      obtain ⟨q3, hq3, h⟩ := bd_e h
      refine jj_invV hC mvX10_restricted wd1920 wd46 wd1918 hl0_29 (by decide) rfl (xX10_restricted (OKC.tr hC) hl0_29 hs29_1 hl1_29 hq3) rfl rfl (c_le rfl) (c_le rfl) (c_le rfl) (c_le rfl) dX10_restrictedInRow_39 noXk (po_kZ (fun hr3 => ?_))
      refine jj_if_eq (tgt := 49) hC dX10_restrictedInRow_42 rfl (r_z hr3) (fun hc => ?_) (fun hc => ?_)
      · replace h := (if_pos hc).symm.trans h
        refine jj_iconst hC dX10_restrictedInRow_49 ?_
        refine jj_lv (lv' := [(0, .ref l0_29), (1, .int (iI l1_29)), (3, .int (iI s29.2))]) [0, 1, 3] rfl ?_
        exact hB50 s29.2 0 s29.1 hs29_1 (show (0 ≤ (0 : Int) ∧ (0 : Int) ≤ 1) from by decide) hs29_0 h
      · replace h := (if_neg (hc)).symm.trans h
        refine jj_iconst hC dX10_restrictedInRow_45 ?_
        refine jj_goto (tgt := 50) hC dX10_restrictedInRow_46 rfl ?_
        refine jj_lv (lv' := [(0, .ref l0_29), (1, .int (iI l1_29)), (3, .int (iI s29.2))]) [0, 1, 3] rfl ?_
        exact hB50 s29.2 1 s29.1 hs29_1 (show (0 ≤ (1 : Int) ∧ (1 : Int) ≤ 1) from by decide) hs29_0 h
  have hB16 : ∀ (M16 : gM) (l0_16 : Nat) (l1_16 : Int) (s0_16 : Int) (s1_16 : Nat), S l0_16 = 13 → (-2147483648 ≤ l1_16 ∧ l1_16 < 2147483648) → (0 ≤ s0_16 ∧ s0_16 ≤ 1) → S s1_16 = 13 → fX10_restrictedInRow_B16 G.2.2.2.2 S Ln R M16 l0_16 l1_16 s0_16 s1_16 = some r → JJ G C 0 0 sz S Ln M16 R 16 [(0, .ref l0_16), (1, .int (iI l1_16))] [.int (iI s0_16), .ref s1_16] := by
    intro M16 l0_16 l1_16 s0_16 s1_16 hl0_16 hl1_16 hs0_16 hs1_16 h
    unfold fX10_restrictedInRow_B16 at h
    refine jj_iconst hC dX10_restrictedInRow_16 ?_
    obtain ⟨q2, hq2, h⟩ := bd_e h
    refine jj_invV hC mvX10_isThrown wd1791 wd24 wd1789 hs1_16 (by decide) rfl (xX10_isThrown (OKC.tr hC) hs1_16 hs0_16 (show (-2147483648 ≤ (1 : Int) ∧ (1 : Int) < 2147483648) from by decide) hq2) rfl rfl (c_le rfl) (c_le rfl) (c_le rfl) (c_le rfl) dX10_restrictedInRow_17 noXk (po_kZ (fun hr2 => ?_))
    refine jj_if_eq (tgt := 25) hC dX10_restrictedInRow_20 rfl (r_z hr2) (fun hc => ?_) (fun hc => ?_)
    · replace h := (if_pos hc).symm.trans h
      refine jj_iconst hC dX10_restrictedInRow_25 ?_
      refine jj_istore_n (lv' := [(2, .int (iI 0)), (0, .ref l0_16), (1, .int (iI l1_16))]) hC dX10_restrictedInRow_26 rfl (by decide) rfl ?_
      refine jj_iconst hC dX10_restrictedInRow_27 ?_
      refine jj_istore_n (lv' := [(3, .int (iI 0)), (2, .int (iI 0)), (0, .ref l0_16), (1, .int (iI l1_16))]) hC dX10_restrictedInRow_28 rfl (by decide) rfl ?_
      obtain ⟨q5, hq5, h⟩ := bd_e h
      refine jj_lv (lv' := [(0, .ref l0_16), (1, .int (iI l1_16)), (2, .int (iI 0)), (3, .int (iI 0))]) [2, 3, 1, 0] rfl ?_
      refine hL29 q2.2 l0_16 l1_16 hl0_16 hl1_16 FU _ q5 hq5 ⟨(show (-2147483648 ≤ (0 : Int) ∧ (0 : Int) < 2147483648) from by decide), (show (-2147483648 ≤ (0 : Int) ∧ (0 : Int) < 2147483648) from by decide)⟩ (fun e29_4 he5 hIE5 => ?_) (fun c5 hc5 => ?_)
      · subst he5
        replace h := el_l h
        have he29_4_0 := hIE5
        refine jj_iload_n hC dX10_restrictedInRow_58 rfl 0 rfl ?_
        cases h
        exact jj_iret hC (c_le rfl) (c_le rfl) dX10_restrictedInRow_59 ⟨rfl, he29_4_0, rfl, rfl, rfl, rfl, rfl⟩
      · subst hc5
        replace h := el_r h
        exact Option.some.inj h
    · replace h := (if_neg (hc)).symm.trans h
      refine jj_iconst hC dX10_restrictedInRow_23 ?_
      cases h
      exact jj_iret hC (c_le rfl) (c_le rfl) dX10_restrictedInRow_24 ⟨rfl, (show (-2147483648 ≤ (0 : Int) ∧ (0 : Int) < 2147483648) from by decide), rfl, rfl, rfl, rfl, rfl⟩
  unfold fX10_restrictedInRow at h
  refine jj_aload_n hC dX10_restrictedInRow_0 rfl 0 rfl ?_
  refine jj_iload_n hC dX10_restrictedInRow_1 rfl 1 rfl ?_
  refine jj_iconst hC dX10_restrictedInRow_2 ?_
  refine jj_bipush hC dX10_restrictedInRow_3 (by decide) ?_
  obtain ⟨q1, hq1, h⟩ := bd_e h
  refine jj_invS hC mvX10_isIn wd1787 wd1786 (xX10_isIn (OKC.tr hC) hx1 (show (-2147483648 ≤ (0 : Int) ∧ (0 : Int) < 2147483648) from by decide) (show (-2147483648 ≤ (60 : Int) ∧ (60 : Int) < 2147483648) from by decide) hq1) rfl rfl (c_le rfl) (c_le rfl) (c_le rfl) (c_le rfl) dX10_restrictedInRow_5 noXk (po_kZ (fun hr1 => ?_))
  refine jj_if_ne (tgt := 15) hC dX10_restrictedInRow_8 rfl (r_z hr1) (fun hc => ?_) (fun hc => ?_)
  · replace h := (if_pos hc).symm.trans h
    refine jj_iconst hC dX10_restrictedInRow_15 ?_
    refine jj_lv (lv' := [(0, .ref a0), (1, .int (iI x1))]) [0, 1] rfl ?_
    exact hB16 M a0 x1 0 a0 hs0 hx1 (show (0 ≤ (0 : Int) ∧ (0 : Int) ≤ 1) from by decide) hs0 h
  · replace h := (if_neg (fun k => k hc)).symm.trans h
    refine jj_iconst hC dX10_restrictedInRow_11 ?_
    refine jj_goto (tgt := 16) hC dX10_restrictedInRow_12 rfl ?_
    refine jj_lv (lv' := [(0, .ref a0), (1, .int (iI x1))]) [0, 1] rfl ?_
    exact hB16 M a0 x1 1 a0 hs0 hx1 (show (0 ≤ (1 : Int) ∧ (1 : Int) ≤ 1) from by decide) hs0 h
def fX10_restrictedInRowByRanges (ad S Ln : Nat → Nat) (R : gR) (M : gM) (a0 : Nat) (x1 : Int) : Option (Int × gM) :=
  bd (fX10_restrictedInRow ad S Ln R M a0 x1) fun q1 => some ((q1.1, q1.2))
theorem xX10_restrictedInRowByRanges {l : Launch} {G : gE} {sz : Nat} {S Ln : Nat → Nat} {M : gM} {R : gR} (hl : l.stackTraces = false) {a0 : Nat} (hs0 : S a0 = 13) {x1 : Int} (hx1 : (-2147483648 ≤ x1 ∧ x1 < 2147483648)) {r : Int × gM} (h : fX10_restrictedInRowByRanges G.2.2.2.2 S Ln R M a0 x1 = some r) : Ct l G yX10_restrictedInRowByRanges cX10_restrictedInRowByRanges 2 (some .int) 4 0 0 [.ref a0, .int (iI x1)] sz S Ln M R (poI r.1 sz S Ln (r.2) R) noX := by
  refine jj_start (own := RX10) (lv0 := [(0, .ref a0), (1, .int (iI x1))]) hl (by decide +kernel) rfl rfl (c_le rfl) (fun C hCl hC => ?_)
  unfold fX10_restrictedInRowByRanges at h
  refine jj_aload_n hC dX10_restrictedInRowByRanges_0 rfl 0 rfl ?_
  refine jj_iload_n hC dX10_restrictedInRowByRanges_1 rfl 1 rfl ?_
  obtain ⟨q1, hq1, h⟩ := bd_e h
  refine jj_invV hC mvX10_restrictedInRow wd2007 wd2008 wd2014 hs0 (by decide) rfl (xX10_restrictedInRow (OKC.tr hC) hs0 hx1 hq1) rfl rfl (c_le rfl) (c_le rfl) (c_le rfl) (c_le rfl) dX10_restrictedInRowByRanges_2 noXk (po_kI (fun hr1 => ?_))
  cases h
  exact jj_iret hC (c_le rfl) (c_le rfl) dX10_restrictedInRowByRanges_5 ⟨rfl, hr1, rfl, rfl, rfl, rfl, rfl⟩
def fX10_pilotCount (ad S Ln : Nat → Nat) (R : gR) (M : gM) (a0 : Nat) : Option (Int × gM) :=
  nam (wr M a0 5 0) fun M1 => rf S (R a0 0) 20 fun b2 => gd ((0 : Int) ≤ 4 ∧ 4 < (Ln b2 : Int)) (some ((M1 b2 4, M1)))
theorem xX10_pilotCount {l : Launch} {G : gE} {sz : Nat} {S Ln : Nat → Nat} {M : gM} {R : gR} (hl : l.stackTraces = false) {a0 : Nat} (hs0 : S a0 = 13) {r : Int × gM} (h : fX10_pilotCount G.2.2.2.2 S Ln R M a0 = some r) : Ct l G yX10_pilotCount cX10_pilotCount 1 (some .int) 1 0 0 [.ref a0] sz S Ln M R (poI r.1 sz S Ln (r.2) R) noX := by
  refine jj_start (own := RX10) (lv0 := [(0, .ref a0)]) hl (by decide +kernel) rfl rfl (c_le rfl) (fun C hCl hC => ?_)
  unfold fX10_pilotCount at h
  refine jj_aload_n hC dX10_pilotCount_0 rfl 0 rfl ?_
  refine jj_iconst hC dX10_pilotCount_1 ?_
  obtain ⟨M1, hM1, h⟩ := nam_e h
  refine jp_I hC kfX10 5 rfl hs0 rfl (by decide) wd1714 rfl rfl rfl (show (-2147483648 ≤ (0 : Int) ∧ (0 : Int) < 2147483648) from by decide) dX10_pilotCount_2 (jj_M hM1 ?_)
  refine jj_aload_n hC dX10_pilotCount_5 rfl 0 rfl ?_
  obtain ⟨b2, hb2, hs2, h⟩ := rf_e h
  refine jg_R hC kfX10 0 rfl hs0 (by decide) wd1709 rfl hb2 dX10_pilotCount_6 ?_
  refine jj_iconst hC dX10_pilotCount_9 ?_
  obtain ⟨⟨ha3, hb3⟩, h⟩ := gd_e h
  refine jj_iald hC hs2 ha3 hb3 dX10_pilotCount_10 (fun hr3 => ?_)
  cases h
  exact jj_iret hC (c_le rfl) (c_le rfl) dX10_pilotCount_11 ⟨rfl, hr3, rfl, rfl, rfl, rfl, rfl⟩
def fX10_isPlanning (ad S Ln : Nat → Nat) (R : gR) (M : gM) (a0 : Nat) : Option (Int × gM) :=
  nam (wr M a0 5 0) fun M1 => bd (fX10_planning ad S Ln R M1 a0) fun q2 => some ((q2, M1))
theorem xX10_isPlanning {l : Launch} {G : gE} {sz : Nat} {S Ln : Nat → Nat} {M : gM} {R : gR} (hl : l.stackTraces = false) {a0 : Nat} (hs0 : S a0 = 13) {r : Int × gM} (h : fX10_isPlanning G.2.2.2.2 S Ln R M a0 = some r) : Ct l G yX10_isPlanning cX10_isPlanning 1 (some .boolean) 3 0 0 [.ref a0] sz S Ln M R (poZ r.1 sz S Ln (r.2) R) noX := by
  refine jj_start (own := RX10) (lv0 := [(0, .ref a0)]) hl (by decide +kernel) rfl rfl (c_le rfl) (fun C hCl hC => ?_)
  unfold fX10_isPlanning at h
  refine jj_aload_n hC dX10_isPlanning_0 rfl 0 rfl ?_
  refine jj_iconst hC dX10_isPlanning_1 ?_
  obtain ⟨M1, hM1, h⟩ := nam_e h
  refine jp_I hC kfX10 5 rfl hs0 rfl (by decide) wd1714 rfl rfl rfl (show (-2147483648 ≤ (0 : Int) ∧ (0 : Int) < 2147483648) from by decide) dX10_isPlanning_2 (jj_M hM1 ?_)
  refine jj_aload_n hC dX10_isPlanning_5 rfl 0 rfl ?_
  obtain ⟨q2, hq2, h⟩ := bd_e h
  refine jj_invV hC mvX10_planning wd1811 wd28 wd1809 hs0 (by decide) rfl (xX10_planning (OKC.tr hC) hs0 hq2) rfl rfl (c_le rfl) (c_le rfl) (c_le rfl) (c_le rfl) dX10_isPlanning_6 noXk (po_kZ (fun hr2 => ?_))
  cases h
  exact jj_zret hC hr2 (c_le rfl) (c_le rfl) dX10_isPlanning_9 ⟨rfl, hr2, rfl, rfl, rfl, rfl, rfl⟩
def fX10_isAt_B14 (ad S Ln : Nat → Nat) (R : gR) (M14 : gM) (l0_14 : Nat) (l1_14 : Int) (l2_14 : Int) (s0_14 : Int) (s1_14 : Nat) : Option (Int × gM) :=
  bd (fX10_isThrown ad S Ln R M14 s1_14 s0_14 1) fun q2 => if ¬ q2.1 = 0 then (some ((0, q2.2))) else (bd (fX10_of ad S Ln R q2.2 l0_14 l1_14 1) fun q3 => if ¬ q3 = l2_14 then (some ((0, q2.2))) else (some ((1, q2.2))))
def fX10_isAt (ad S Ln : Nat → Nat) (R : gR) (M : gM) (a0 : Nat) (x1 : Int) (x2 : Int) : Option (Int × gM) :=
  bd (fX10_isPilot ad S Ln R M a0 x1) fun q1 => if ¬ q1 = 0 then (fX10_isAt_B14 ad S Ln R M a0 x1 x2 0 a0) else (fX10_isAt_B14 ad S Ln R M a0 x1 x2 1 a0)
theorem xX10_isAt {l : Launch} {G : gE} {sz : Nat} {S Ln : Nat → Nat} {M : gM} {R : gR} (hl : l.stackTraces = false) {a0 : Nat} (hs0 : S a0 = 13) {x1 : Int} (hx1 : (-2147483648 ≤ x1 ∧ x1 < 2147483648)) {x2 : Int} (hx2 : (-2147483648 ≤ x2 ∧ x2 < 2147483648)) {r : Int × gM} (h : fX10_isAt G.2.2.2.2 S Ln R M a0 x1 x2 = some r) : Ct l G yX10_isAt cX10_isAt 3 (some .boolean) 3 0 0 [.ref a0, .int (iI x1), .int (iI x2)] sz S Ln M R (poZ r.1 sz S Ln (r.2) R) noX := by
  refine jj_start (own := RX10) (lv0 := [(0, .ref a0), (1, .int (iI x1)), (2, .int (iI x2))]) hl (by decide +kernel) rfl rfl (c_le rfl) (fun C hCl hC => ?_)
  have hB14 : ∀ (M14 : gM) (l0_14 : Nat) (l1_14 : Int) (l2_14 : Int) (s0_14 : Int) (s1_14 : Nat), S l0_14 = 13 → (-2147483648 ≤ l1_14 ∧ l1_14 < 2147483648) → (-2147483648 ≤ l2_14 ∧ l2_14 < 2147483648) → (0 ≤ s0_14 ∧ s0_14 ≤ 1) → S s1_14 = 13 → fX10_isAt_B14 G.2.2.2.2 S Ln R M14 l0_14 l1_14 l2_14 s0_14 s1_14 = some r → JJ G C 0 0 sz S Ln M14 R 14 [(0, .ref l0_14), (1, .int (iI l1_14)), (2, .int (iI l2_14))] [.int (iI s0_14), .ref s1_14] := by
    intro M14 l0_14 l1_14 l2_14 s0_14 s1_14 hl0_14 hl1_14 hl2_14 hs0_14 hs1_14 h
    unfold fX10_isAt_B14 at h
    refine jj_iconst hC dX10_isAt_14 ?_
    obtain ⟨q2, hq2, h⟩ := bd_e h
    refine jj_invV hC mvX10_isThrown wd1791 wd24 wd1789 hs1_14 (by decide) rfl (xX10_isThrown (OKC.tr hC) hs1_14 hs0_14 (show (-2147483648 ≤ (1 : Int) ∧ (1 : Int) < 2147483648) from by decide) hq2) rfl rfl (c_le rfl) (c_le rfl) (c_le rfl) (c_le rfl) dX10_isAt_15 noXk (po_kZ (fun hr2 => ?_))
    refine jj_if_ne (tgt := 35) hC dX10_isAt_18 rfl (r_z hr2) (fun hc => ?_) (fun hc => ?_)
    · replace h := (if_pos hc).symm.trans h
      refine jj_iconst hC dX10_isAt_35 ?_
      cases h
      exact jj_zret hC (show (0 ≤ (0 : Int) ∧ (0 : Int) ≤ 1) from by decide) (c_le rfl) (c_le rfl) dX10_isAt_36 ⟨rfl, (show (0 ≤ (0 : Int) ∧ (0 : Int) ≤ 1) from by decide), rfl, rfl, rfl, rfl, rfl⟩
    · replace h := (if_neg (fun k => k hc)).symm.trans h
      refine jj_aload_n hC dX10_isAt_21 rfl 0 rfl ?_
      refine jj_iload_n hC dX10_isAt_22 rfl 1 rfl ?_
      refine jj_iconst hC dX10_isAt_23 ?_
      obtain ⟨q3, hq3, h⟩ := bd_e h
      refine jj_invV hC mvX10_of wd1815 wd29 wd1813 hl0_14 (by decide) rfl (xX10_of (OKC.tr hC) hl0_14 hl1_14 (show (-2147483648 ≤ (1 : Int) ∧ (1 : Int) < 2147483648) from by decide) hq3) rfl rfl (c_le rfl) (c_le rfl) (c_le rfl) (c_le rfl) dX10_isAt_24 noXk (po_kI (fun hr3 => ?_))
      refine jj_iload_n hC dX10_isAt_27 rfl 2 rfl ?_
      refine jj_icmp_ne (tgt := 35) hC dX10_isAt_28 rfl hr3 hl2_14 (fun hc => ?_) (fun hc => ?_)
      · replace h := (if_pos hc).symm.trans h
        refine jj_iconst hC dX10_isAt_35 ?_
        cases h
        exact jj_zret hC (show (0 ≤ (0 : Int) ∧ (0 : Int) ≤ 1) from by decide) (c_le rfl) (c_le rfl) dX10_isAt_36 ⟨rfl, (show (0 ≤ (0 : Int) ∧ (0 : Int) ≤ 1) from by decide), rfl, rfl, rfl, rfl, rfl⟩
      · replace h := (if_neg (fun k => k hc)).symm.trans h
        refine jj_iconst hC dX10_isAt_31 ?_
        refine jj_goto (tgt := 36) hC dX10_isAt_32 rfl ?_
        cases h
        exact jj_zret hC (show (0 ≤ (1 : Int) ∧ (1 : Int) ≤ 1) from by decide) (c_le rfl) (c_le rfl) dX10_isAt_36 ⟨rfl, (show (0 ≤ (1 : Int) ∧ (1 : Int) ≤ 1) from by decide), rfl, rfl, rfl, rfl, rfl⟩
  unfold fX10_isAt at h
  refine jj_aload_n hC dX10_isAt_0 rfl 0 rfl ?_
  refine jj_aload_n hC dX10_isAt_1 rfl 0 rfl ?_
  refine jj_iload_n hC dX10_isAt_2 rfl 1 rfl ?_
  obtain ⟨q1, hq1, h⟩ := bd_e h
  refine jj_invV hC mvX10_isPilot wd1890 wd41 wd1888 hs0 (by decide) rfl (xX10_isPilot (OKC.tr hC) hs0 hx1 hq1) rfl rfl (c_le rfl) (c_le rfl) (c_le rfl) (c_le rfl) dX10_isAt_3 noXk (po_kZ (fun hr1 => ?_))
  refine jj_if_ne (tgt := 13) hC dX10_isAt_6 rfl (r_z hr1) (fun hc => ?_) (fun hc => ?_)
  · replace h := (if_pos hc).symm.trans h
    refine jj_iconst hC dX10_isAt_13 ?_
    refine jj_lv (lv' := [(0, .ref a0), (1, .int (iI x1)), (2, .int (iI x2))]) [0, 1, 2] rfl ?_
    exact hB14 M a0 x1 x2 0 a0 hs0 hx1 hx2 (show (0 ≤ (0 : Int) ∧ (0 : Int) ≤ 1) from by decide) hs0 h
  · replace h := (if_neg (fun k => k hc)).symm.trans h
    refine jj_iconst hC dX10_isAt_9 ?_
    refine jj_goto (tgt := 14) hC dX10_isAt_10 rfl ?_
    refine jj_lv (lv' := [(0, .ref a0), (1, .int (iI x1)), (2, .int (iI x2))]) [0, 1, 2] rfl ?_
    exact hB14 M a0 x1 x2 1 a0 hs0 hx1 hx2 (show (0 ≤ (1 : Int) ∧ (1 : Int) ≤ 1) from by decide) hs0 h
def fX10_isFlying (ad S Ln : Nat → Nat) (R : gR) (M : gM) (a0 : Nat) (x1 : Int) : Option (Int × gM) :=
  bd (fX10_isAt ad S Ln R M a0 x1 1) fun q1 => some ((q1.1, q1.2))
theorem xX10_isFlying {l : Launch} {G : gE} {sz : Nat} {S Ln : Nat → Nat} {M : gM} {R : gR} (hl : l.stackTraces = false) {a0 : Nat} (hs0 : S a0 = 13) {x1 : Int} (hx1 : (-2147483648 ≤ x1 ∧ x1 < 2147483648)) {r : Int × gM} (h : fX10_isFlying G.2.2.2.2 S Ln R M a0 x1 = some r) : Ct l G yX10_isFlying cX10_isFlying 2 (some .boolean) 4 0 0 [.ref a0, .int (iI x1)] sz S Ln M R (poZ r.1 sz S Ln (r.2) R) noX := by
  refine jj_start (own := RX10) (lv0 := [(0, .ref a0), (1, .int (iI x1))]) hl (by decide +kernel) rfl rfl (c_le rfl) (fun C hCl hC => ?_)
  unfold fX10_isFlying at h
  refine jj_aload_n hC dX10_isFlying_0 rfl 0 rfl ?_
  refine jj_iload_n hC dX10_isFlying_1 rfl 1 rfl ?_
  refine jj_iconst hC dX10_isFlying_2 ?_
  obtain ⟨q1, hq1, h⟩ := bd_e h
  refine jj_invV hC mvX10_isAt wd2029 wd58 wd2027 hs0 (by decide) rfl (xX10_isAt (OKC.tr hC) hs0 hx1 (show (-2147483648 ≤ (1 : Int) ∧ (1 : Int) < 2147483648) from by decide) hq1) rfl rfl (c_le rfl) (c_le rfl) (c_le rfl) (c_le rfl) dX10_isFlying_3 noXk (po_kZ (fun hr1 => ?_))
  cases h
  exact jj_zret hC hr1 (c_le rfl) (c_le rfl) dX10_isFlying_6 ⟨rfl, hr1, rfl, rfl, rfl, rfl, rfl⟩
def fX10_isLanded (ad S Ln : Nat → Nat) (R : gR) (M : gM) (a0 : Nat) (x1 : Int) : Option (Int × gM) :=
  bd (fX10_isAt ad S Ln R M a0 x1 2) fun q1 => some ((q1.1, q1.2))
theorem xX10_isLanded {l : Launch} {G : gE} {sz : Nat} {S Ln : Nat → Nat} {M : gM} {R : gR} (hl : l.stackTraces = false) {a0 : Nat} (hs0 : S a0 = 13) {x1 : Int} (hx1 : (-2147483648 ≤ x1 ∧ x1 < 2147483648)) {r : Int × gM} (h : fX10_isLanded G.2.2.2.2 S Ln R M a0 x1 = some r) : Ct l G yX10_isLanded cX10_isLanded 2 (some .boolean) 4 0 0 [.ref a0, .int (iI x1)] sz S Ln M R (poZ r.1 sz S Ln (r.2) R) noX := by
  refine jj_start (own := RX10) (lv0 := [(0, .ref a0), (1, .int (iI x1))]) hl (by decide +kernel) rfl rfl (c_le rfl) (fun C hCl hC => ?_)
  unfold fX10_isLanded at h
  refine jj_aload_n hC dX10_isLanded_0 rfl 0 rfl ?_
  refine jj_iload_n hC dX10_isLanded_1 rfl 1 rfl ?_
  refine jj_iconst hC dX10_isLanded_2 ?_
  obtain ⟨q1, hq1, h⟩ := bd_e h
  refine jj_invV hC mvX10_isAt wd2029 wd58 wd2027 hs0 (by decide) rfl (xX10_isAt (OKC.tr hC) hs0 hx1 (show (-2147483648 ≤ (2 : Int) ∧ (2 : Int) < 2147483648) from by decide) hq1) rfl rfl (c_le rfl) (c_le rfl) (c_le rfl) (c_le rfl) dX10_isLanded_3 noXk (po_kZ (fun hr1 => ?_))
  cases h
  exact jj_zret hC hr1 (c_le rfl) (c_le rfl) dX10_isLanded_6 ⟨rfl, hr1, rfl, rfl, rfl, rfl, rfl⟩
def fX10_isFinished (ad S Ln : Nat → Nat) (R : gR) (M : gM) (a0 : Nat) (x1 : Int) : Option (Int × gM) :=
  bd (fX10_isAt ad S Ln R M a0 x1 3) fun q1 => some ((q1.1, q1.2))
theorem xX10_isFinished {l : Launch} {G : gE} {sz : Nat} {S Ln : Nat → Nat} {M : gM} {R : gR} (hl : l.stackTraces = false) {a0 : Nat} (hs0 : S a0 = 13) {x1 : Int} (hx1 : (-2147483648 ≤ x1 ∧ x1 < 2147483648)) {r : Int × gM} (h : fX10_isFinished G.2.2.2.2 S Ln R M a0 x1 = some r) : Ct l G yX10_isFinished cX10_isFinished 2 (some .boolean) 4 0 0 [.ref a0, .int (iI x1)] sz S Ln M R (poZ r.1 sz S Ln (r.2) R) noX := by
  refine jj_start (own := RX10) (lv0 := [(0, .ref a0), (1, .int (iI x1))]) hl (by decide +kernel) rfl rfl (c_le rfl) (fun C hCl hC => ?_)
  unfold fX10_isFinished at h
  refine jj_aload_n hC dX10_isFinished_0 rfl 0 rfl ?_
  refine jj_iload_n hC dX10_isFinished_1 rfl 1 rfl ?_
  refine jj_iconst hC dX10_isFinished_2 ?_
  obtain ⟨q1, hq1, h⟩ := bd_e h
  refine jj_invV hC mvX10_isAt wd2029 wd58 wd2027 hs0 (by decide) rfl (xX10_isAt (OKC.tr hC) hs0 hx1 (show (-2147483648 ≤ (3 : Int) ∧ (3 : Int) < 2147483648) from by decide) hq1) rfl rfl (c_le rfl) (c_le rfl) (c_le rfl) (c_le rfl) dX10_isFinished_3 noXk (po_kZ (fun hr1 => ?_))
  cases h
  exact jj_zret hC hr1 (c_le rfl) (c_le rfl) dX10_isFinished_6 ⟨rfl, hr1, rfl, rfl, rfl, rfl, rfl⟩
def fX10_sink_B14 (ad S Ln : Nat → Nat) (R : gR) (M14 : gM) (l0_14 : Nat) (l1_14 : Int) (s0_14 : Int) (s1_14 : Nat) : Option (Int × gM) :=
  bd (fX10_isThrown ad S Ln R M14 s1_14 s0_14 1) fun q2 => if q2.1 = 0 then (bd (fX10_sinkOf ad S Ln R q2.2 l0_14 l1_14) fun q3 => some ((q3, q2.2))) else (some ((0, q2.2)))
def fX10_sink (ad S Ln : Nat → Nat) (R : gR) (M : gM) (a0 : Nat) (x1 : Int) : Option (Int × gM) :=
  bd (fX10_isPilot ad S Ln R M a0 x1) fun q1 => if ¬ q1 = 0 then (fX10_sink_B14 ad S Ln R M a0 x1 0 a0) else (fX10_sink_B14 ad S Ln R M a0 x1 1 a0)
theorem xX10_sink {l : Launch} {G : gE} {sz : Nat} {S Ln : Nat → Nat} {M : gM} {R : gR} (hl : l.stackTraces = false) {a0 : Nat} (hs0 : S a0 = 13) {x1 : Int} (hx1 : (-2147483648 ≤ x1 ∧ x1 < 2147483648)) {r : Int × gM} (h : fX10_sink G.2.2.2.2 S Ln R M a0 x1 = some r) : Ct l G yX10_sink cX10_sink 2 (some .int) 3 0 0 [.ref a0, .int (iI x1)] sz S Ln M R (poI r.1 sz S Ln (r.2) R) noX := by
  refine jj_start (own := RX10) (lv0 := [(0, .ref a0), (1, .int (iI x1))]) hl (by decide +kernel) rfl rfl (c_le rfl) (fun C hCl hC => ?_)
  have hB14 : ∀ (M14 : gM) (l0_14 : Nat) (l1_14 : Int) (s0_14 : Int) (s1_14 : Nat), S l0_14 = 13 → (-2147483648 ≤ l1_14 ∧ l1_14 < 2147483648) → (0 ≤ s0_14 ∧ s0_14 ≤ 1) → S s1_14 = 13 → fX10_sink_B14 G.2.2.2.2 S Ln R M14 l0_14 l1_14 s0_14 s1_14 = some r → JJ G C 0 0 sz S Ln M14 R 14 [(0, .ref l0_14), (1, .int (iI l1_14))] [.int (iI s0_14), .ref s1_14] := by
    intro M14 l0_14 l1_14 s0_14 s1_14 hl0_14 hl1_14 hs0_14 hs1_14 h
    unfold fX10_sink_B14 at h
    refine jj_iconst hC dX10_sink_14 ?_
    obtain ⟨q2, hq2, h⟩ := bd_e h
    refine jj_invV hC mvX10_isThrown wd1791 wd24 wd1789 hs1_14 (by decide) rfl (xX10_isThrown (OKC.tr hC) hs1_14 hs0_14 (show (-2147483648 ≤ (1 : Int) ∧ (1 : Int) < 2147483648) from by decide) hq2) rfl rfl (c_le rfl) (c_le rfl) (c_le rfl) (c_le rfl) dX10_sink_15 noXk (po_kZ (fun hr2 => ?_))
    refine jj_if_eq (tgt := 25) hC dX10_sink_18 rfl (r_z hr2) (fun hc => ?_) (fun hc => ?_)
    · replace h := (if_pos hc).symm.trans h
      refine jj_aload_n hC dX10_sink_25 rfl 0 rfl ?_
      refine jj_iload_n hC dX10_sink_26 rfl 1 rfl ?_
      obtain ⟨q3, hq3, h⟩ := bd_e h
      refine jj_invV hC mvX10_sinkOf wd1916 wd45 wd1914 hl0_14 (by decide) rfl (xX10_sinkOf (OKC.tr hC) hl0_14 hl1_14 hq3) rfl rfl (c_le rfl) (c_le rfl) (c_le rfl) (c_le rfl) dX10_sink_27 noXk (po_kI (fun hr3 => ?_))
      cases h
      exact jj_iret hC (c_le rfl) (c_le rfl) dX10_sink_30 ⟨rfl, hr3, rfl, rfl, rfl, rfl, rfl⟩
    · replace h := (if_neg (hc)).symm.trans h
      refine jj_iconst hC dX10_sink_21 ?_
      refine jj_goto (tgt := 30) hC dX10_sink_22 rfl ?_
      cases h
      exact jj_iret hC (c_le rfl) (c_le rfl) dX10_sink_30 ⟨rfl, (show (-2147483648 ≤ (0 : Int) ∧ (0 : Int) < 2147483648) from by decide), rfl, rfl, rfl, rfl, rfl⟩
  unfold fX10_sink at h
  refine jj_aload_n hC dX10_sink_0 rfl 0 rfl ?_
  refine jj_aload_n hC dX10_sink_1 rfl 0 rfl ?_
  refine jj_iload_n hC dX10_sink_2 rfl 1 rfl ?_
  obtain ⟨q1, hq1, h⟩ := bd_e h
  refine jj_invV hC mvX10_isPilot wd1890 wd41 wd1888 hs0 (by decide) rfl (xX10_isPilot (OKC.tr hC) hs0 hx1 hq1) rfl rfl (c_le rfl) (c_le rfl) (c_le rfl) (c_le rfl) dX10_sink_3 noXk (po_kZ (fun hr1 => ?_))
  refine jj_if_ne (tgt := 13) hC dX10_sink_6 rfl (r_z hr1) (fun hc => ?_) (fun hc => ?_)
  · replace h := (if_pos hc).symm.trans h
    refine jj_iconst hC dX10_sink_13 ?_
    refine jj_lv (lv' := [(0, .ref a0), (1, .int (iI x1))]) [0, 1] rfl ?_
    exact hB14 M a0 x1 0 a0 hs0 hx1 (show (0 ≤ (0 : Int) ∧ (0 : Int) ≤ 1) from by decide) hs0 h
  · replace h := (if_neg (fun k => k hc)).symm.trans h
    refine jj_iconst hC dX10_sink_9 ?_
    refine jj_goto (tgt := 14) hC dX10_sink_10 rfl ?_
    refine jj_lv (lv' := [(0, .ref a0), (1, .int (iI x1))]) [0, 1] rfl ?_
    exact hB14 M a0 x1 1 a0 hs0 hx1 (show (0 ≤ (1 : Int) ∧ (1 : Int) ≤ 1) from by decide) hs0 h
def fX10_ofFlight_B43 (ad S Ln : Nat → Nat) (R : gR) (M43 : gM)  : Option (Int × gM) :=
  some ((0, M43))
def fX10_ofFlight_B36 (ad S Ln : Nat → Nat) (R : gR) (M36 : gM) (l0_36 : Nat) (l1_36 : Int) (l2_36 : Int) (s0_36 : Int) (s1_36 : Nat) : Option (Int × gM) :=
  bd (fX10_isThrown ad S Ln R M36 s1_36 s0_36 2) fun q4 => if q4.1 = 0 then (bd (fX10_of ad S Ln R q4.2 l0_36 l1_36 l2_36) fun q5 => some ((q5, q4.2))) else (fX10_ofFlight_B43 ad S Ln R q4.2 )
def fX10_ofFlight_B14 (ad S Ln : Nat → Nat) (R : gR) (M14 : gM) (l0_14 : Nat) (l1_14 : Int) (l2_14 : Int) (s0_14 : Int) (s1_14 : Nat) : Option (Int × gM) :=
  bd (fX10_isThrown ad S Ln R M14 s1_14 s0_14 1) fun q2 => if ¬ q2.1 = 0 then (fX10_ofFlight_B43 ad S Ln R q2.2 ) else (bd (fX10_of ad S Ln R q2.2 l0_14 l1_14 1) fun q3 => if ¬ q3 = 0 then (fX10_ofFlight_B36 ad S Ln R q2.2 l0_14 l1_14 l2_14 0 l0_14) else (fX10_ofFlight_B36 ad S Ln R q2.2 l0_14 l1_14 l2_14 1 l0_14))
def fX10_ofFlight (ad S Ln : Nat → Nat) (R : gR) (M : gM) (a0 : Nat) (x1 : Int) (x2 : Int) : Option (Int × gM) :=
  bd (fX10_isPilot ad S Ln R M a0 x1) fun q1 => if ¬ q1 = 0 then (fX10_ofFlight_B14 ad S Ln R M a0 x1 x2 0 a0) else (fX10_ofFlight_B14 ad S Ln R M a0 x1 x2 1 a0)
theorem xX10_ofFlight {l : Launch} {G : gE} {sz : Nat} {S Ln : Nat → Nat} {M : gM} {R : gR} (hl : l.stackTraces = false) {a0 : Nat} (hs0 : S a0 = 13) {x1 : Int} (hx1 : (-2147483648 ≤ x1 ∧ x1 < 2147483648)) {x2 : Int} (hx2 : (-2147483648 ≤ x2 ∧ x2 < 2147483648)) {r : Int × gM} (h : fX10_ofFlight G.2.2.2.2 S Ln R M a0 x1 x2 = some r) : Ct l G yX10_ofFlight cX10_ofFlight 3 (some .int) 3 0 0 [.ref a0, .int (iI x1), .int (iI x2)] sz S Ln M R (poI r.1 sz S Ln (r.2) R) noX := by
  refine jj_start (own := RX10) (lv0 := [(0, .ref a0), (1, .int (iI x1)), (2, .int (iI x2))]) hl (by decide +kernel) rfl rfl (c_le rfl) (fun C hCl hC => ?_)
  have hB43 : ∀ (M43 : gM) , fX10_ofFlight_B43 G.2.2.2.2 S Ln R M43  = some r → JJ G C 0 0 sz S Ln M43 R 43 [] [] := by
    intro M43 h
    unfold fX10_ofFlight_B43 at h
    refine jj_iconst hC dX10_ofFlight_43 ?_
    refine jj_goto (tgt := 53) hC dX10_ofFlight_44 rfl ?_
    cases h
    exact jj_iret hC (c_le rfl) (c_le rfl) dX10_ofFlight_53 ⟨rfl, (show (-2147483648 ≤ (0 : Int) ∧ (0 : Int) < 2147483648) from by decide), rfl, rfl, rfl, rfl, rfl⟩
  have hB36 : ∀ (M36 : gM) (l0_36 : Nat) (l1_36 : Int) (l2_36 : Int) (s0_36 : Int) (s1_36 : Nat), S l0_36 = 13 → (-2147483648 ≤ l1_36 ∧ l1_36 < 2147483648) → (-2147483648 ≤ l2_36 ∧ l2_36 < 2147483648) → (0 ≤ s0_36 ∧ s0_36 ≤ 1) → S s1_36 = 13 → fX10_ofFlight_B36 G.2.2.2.2 S Ln R M36 l0_36 l1_36 l2_36 s0_36 s1_36 = some r → JJ G C 0 0 sz S Ln M36 R 36 [(0, .ref l0_36), (1, .int (iI l1_36)), (2, .int (iI l2_36))] [.int (iI s0_36), .ref s1_36] := by
    intro M36 l0_36 l1_36 l2_36 s0_36 s1_36 hl0_36 hl1_36 hl2_36 hs0_36 hs1_36 h
    unfold fX10_ofFlight_B36 at h
    refine jj_iconst hC dX10_ofFlight_36 ?_
    obtain ⟨q4, hq4, h⟩ := bd_e h
    refine jj_invV hC mvX10_isThrown wd1791 wd24 wd1789 hs1_36 (by decide) rfl (xX10_isThrown (OKC.tr hC) hs1_36 hs0_36 (show (-2147483648 ≤ (2 : Int) ∧ (2 : Int) < 2147483648) from by decide) hq4) rfl rfl (c_le rfl) (c_le rfl) (c_le rfl) (c_le rfl) dX10_ofFlight_37 noXk (po_kZ (fun hr4 => ?_))
    refine jj_if_eq (tgt := 47) hC dX10_ofFlight_40 rfl (r_z hr4) (fun hc => ?_) (fun hc => ?_)
    · replace h := (if_pos hc).symm.trans h
      refine jj_aload_n hC dX10_ofFlight_47 rfl 0 rfl ?_
      refine jj_iload_n hC dX10_ofFlight_48 rfl 1 rfl ?_
      refine jj_iload_n hC dX10_ofFlight_49 rfl 2 rfl ?_
      obtain ⟨q5, hq5, h⟩ := bd_e h
      refine jj_invV hC mvX10_of wd1815 wd29 wd1813 hl0_36 (by decide) rfl (xX10_of (OKC.tr hC) hl0_36 hl1_36 hl2_36 hq5) rfl rfl (c_le rfl) (c_le rfl) (c_le rfl) (c_le rfl) dX10_ofFlight_50 noXk (po_kI (fun hr5 => ?_))
      cases h
      exact jj_iret hC (c_le rfl) (c_le rfl) dX10_ofFlight_53 ⟨rfl, hr5, rfl, rfl, rfl, rfl, rfl⟩
    · replace h := (if_neg (hc)).symm.trans h
      refine jj_lv (lv' := []) [] rfl ?_
      exact hB43 q4.2   h
  have hB14 : ∀ (M14 : gM) (l0_14 : Nat) (l1_14 : Int) (l2_14 : Int) (s0_14 : Int) (s1_14 : Nat), S l0_14 = 13 → (-2147483648 ≤ l1_14 ∧ l1_14 < 2147483648) → (-2147483648 ≤ l2_14 ∧ l2_14 < 2147483648) → (0 ≤ s0_14 ∧ s0_14 ≤ 1) → S s1_14 = 13 → fX10_ofFlight_B14 G.2.2.2.2 S Ln R M14 l0_14 l1_14 l2_14 s0_14 s1_14 = some r → JJ G C 0 0 sz S Ln M14 R 14 [(0, .ref l0_14), (1, .int (iI l1_14)), (2, .int (iI l2_14))] [.int (iI s0_14), .ref s1_14] := by
    intro M14 l0_14 l1_14 l2_14 s0_14 s1_14 hl0_14 hl1_14 hl2_14 hs0_14 hs1_14 h
    unfold fX10_ofFlight_B14 at h
    refine jj_iconst hC dX10_ofFlight_14 ?_
    obtain ⟨q2, hq2, h⟩ := bd_e h
    refine jj_invV hC mvX10_isThrown wd1791 wd24 wd1789 hs1_14 (by decide) rfl (xX10_isThrown (OKC.tr hC) hs1_14 hs0_14 (show (-2147483648 ≤ (1 : Int) ∧ (1 : Int) < 2147483648) from by decide) hq2) rfl rfl (c_le rfl) (c_le rfl) (c_le rfl) (c_le rfl) dX10_ofFlight_15 noXk (po_kZ (fun hr2 => ?_))
    refine jj_if_ne (tgt := 43) hC dX10_ofFlight_18 rfl (r_z hr2) (fun hc => ?_) (fun hc => ?_)
    · replace h := (if_pos hc).symm.trans h
      refine jj_lv (lv' := []) [] rfl ?_
      exact hB43 q2.2   h
    · replace h := (if_neg (fun k => k hc)).symm.trans h
      refine jj_aload_n hC dX10_ofFlight_21 rfl 0 rfl ?_
      refine jj_aload_n hC dX10_ofFlight_22 rfl 0 rfl ?_
      refine jj_iload_n hC dX10_ofFlight_23 rfl 1 rfl ?_
      refine jj_iconst hC dX10_ofFlight_24 ?_
      obtain ⟨q3, hq3, h⟩ := bd_e h
      refine jj_invV hC mvX10_of wd1815 wd29 wd1813 hl0_14 (by decide) rfl (xX10_of (OKC.tr hC) hl0_14 hl1_14 (show (-2147483648 ≤ (1 : Int) ∧ (1 : Int) < 2147483648) from by decide) hq3) rfl rfl (c_le rfl) (c_le rfl) (c_le rfl) (c_le rfl) dX10_ofFlight_25 noXk (po_kI (fun hr3 => ?_))
      refine jj_if_ne (tgt := 35) hC dX10_ofFlight_28 rfl hr3 (fun hc => ?_) (fun hc => ?_)
      · replace h := (if_pos hc).symm.trans h
        refine jj_iconst hC dX10_ofFlight_35 ?_
        refine jj_lv (lv' := [(0, .ref l0_14), (1, .int (iI l1_14)), (2, .int (iI l2_14))]) [0, 1, 2] rfl ?_
        exact hB36 q2.2 l0_14 l1_14 l2_14 0 l0_14 hl0_14 hl1_14 hl2_14 (show (0 ≤ (0 : Int) ∧ (0 : Int) ≤ 1) from by decide) hl0_14 h
      · replace h := (if_neg (fun k => k hc)).symm.trans h
        refine jj_iconst hC dX10_ofFlight_31 ?_
        refine jj_goto (tgt := 36) hC dX10_ofFlight_32 rfl ?_
        refine jj_lv (lv' := [(0, .ref l0_14), (1, .int (iI l1_14)), (2, .int (iI l2_14))]) [0, 1, 2] rfl ?_
        exact hB36 q2.2 l0_14 l1_14 l2_14 1 l0_14 hl0_14 hl1_14 hl2_14 (show (0 ≤ (1 : Int) ∧ (1 : Int) ≤ 1) from by decide) hl0_14 h
  unfold fX10_ofFlight at h
  refine jj_aload_n hC dX10_ofFlight_0 rfl 0 rfl ?_
  refine jj_aload_n hC dX10_ofFlight_1 rfl 0 rfl ?_
  refine jj_iload_n hC dX10_ofFlight_2 rfl 1 rfl ?_
  obtain ⟨q1, hq1, h⟩ := bd_e h
  refine jj_invV hC mvX10_isPilot wd1890 wd41 wd1888 hs0 (by decide) rfl (xX10_isPilot (OKC.tr hC) hs0 hx1 hq1) rfl rfl (c_le rfl) (c_le rfl) (c_le rfl) (c_le rfl) dX10_ofFlight_3 noXk (po_kZ (fun hr1 => ?_))
  refine jj_if_ne (tgt := 13) hC dX10_ofFlight_6 rfl (r_z hr1) (fun hc => ?_) (fun hc => ?_)
  · replace h := (if_pos hc).symm.trans h
    refine jj_iconst hC dX10_ofFlight_13 ?_
    refine jj_lv (lv' := [(0, .ref a0), (1, .int (iI x1)), (2, .int (iI x2))]) [0, 1, 2] rfl ?_
    exact hB14 M a0 x1 x2 0 a0 hs0 hx1 hx2 (show (0 ≤ (0 : Int) ∧ (0 : Int) ≤ 1) from by decide) hs0 h
  · replace h := (if_neg (fun k => k hc)).symm.trans h
    refine jj_iconst hC dX10_ofFlight_9 ?_
    refine jj_goto (tgt := 14) hC dX10_ofFlight_10 rfl ?_
    refine jj_lv (lv' := [(0, .ref a0), (1, .int (iI x1)), (2, .int (iI x2))]) [0, 1, 2] rfl ?_
    exact hB14 M a0 x1 x2 1 a0 hs0 hx1 hx2 (show (0 ≤ (1 : Int) ∧ (1 : Int) ≤ 1) from by decide) hs0 h
def fX10_x (ad S Ln : Nat → Nat) (R : gR) (M : gM) (a0 : Nat) (x1 : Int) : Option (Int × gM) :=
  bd (fX10_ofFlight ad S Ln R M a0 x1 2) fun q1 => some ((q1.1, q1.2))
theorem xX10_x {l : Launch} {G : gE} {sz : Nat} {S Ln : Nat → Nat} {M : gM} {R : gR} (hl : l.stackTraces = false) {a0 : Nat} (hs0 : S a0 = 13) {x1 : Int} (hx1 : (-2147483648 ≤ x1 ∧ x1 < 2147483648)) {r : Int × gM} (h : fX10_x G.2.2.2.2 S Ln R M a0 x1 = some r) : Ct l G yX10_x cX10_x 2 (some .int) 4 0 0 [.ref a0, .int (iI x1)] sz S Ln M R (poI r.1 sz S Ln (r.2) R) noX := by
  refine jj_start (own := RX10) (lv0 := [(0, .ref a0), (1, .int (iI x1))]) hl (by decide +kernel) rfl rfl (c_le rfl) (fun C hCl hC => ?_)
  unfold fX10_x at h
  refine jj_aload_n hC dX10_x_0 rfl 0 rfl ?_
  refine jj_iload_n hC dX10_x_1 rfl 1 rfl ?_
  refine jj_iconst hC dX10_x_2 ?_
  obtain ⟨q1, hq1, h⟩ := bd_e h
  refine jj_invV hC mvX10_ofFlight wd2049 wd59 wd2047 hs0 (by decide) rfl (xX10_ofFlight (OKC.tr hC) hs0 hx1 (show (-2147483648 ≤ (2 : Int) ∧ (2 : Int) < 2147483648) from by decide) hq1) rfl rfl (c_le rfl) (c_le rfl) (c_le rfl) (c_le rfl) dX10_x_3 noXk (po_kI (fun hr1 => ?_))
  cases h
  exact jj_iret hC (c_le rfl) (c_le rfl) dX10_x_6 ⟨rfl, hr1, rfl, rfl, rfl, rfl, rfl⟩
def fX10_y (ad S Ln : Nat → Nat) (R : gR) (M : gM) (a0 : Nat) (x1 : Int) : Option (Int × gM) :=
  bd (fX10_ofFlight ad S Ln R M a0 x1 3) fun q1 => some ((q1.1, q1.2))
theorem xX10_y {l : Launch} {G : gE} {sz : Nat} {S Ln : Nat → Nat} {M : gM} {R : gR} (hl : l.stackTraces = false) {a0 : Nat} (hs0 : S a0 = 13) {x1 : Int} (hx1 : (-2147483648 ≤ x1 ∧ x1 < 2147483648)) {r : Int × gM} (h : fX10_y G.2.2.2.2 S Ln R M a0 x1 = some r) : Ct l G yX10_y cX10_y 2 (some .int) 4 0 0 [.ref a0, .int (iI x1)] sz S Ln M R (poI r.1 sz S Ln (r.2) R) noX := by
  refine jj_start (own := RX10) (lv0 := [(0, .ref a0), (1, .int (iI x1))]) hl (by decide +kernel) rfl rfl (c_le rfl) (fun C hCl hC => ?_)
  unfold fX10_y at h
  refine jj_aload_n hC dX10_y_0 rfl 0 rfl ?_
  refine jj_iload_n hC dX10_y_1 rfl 1 rfl ?_
  refine jj_iconst hC dX10_y_2 ?_
  obtain ⟨q1, hq1, h⟩ := bd_e h
  refine jj_invV hC mvX10_ofFlight wd2049 wd59 wd2047 hs0 (by decide) rfl (xX10_ofFlight (OKC.tr hC) hs0 hx1 (show (-2147483648 ≤ (3 : Int) ∧ (3 : Int) < 2147483648) from by decide) hq1) rfl rfl (c_le rfl) (c_le rfl) (c_le rfl) (c_le rfl) dX10_y_3 noXk (po_kI (fun hr1 => ?_))
  cases h
  exact jj_iret hC (c_le rfl) (c_le rfl) dX10_y_6 ⟨rfl, hr1, rfl, rfl, rfl, rfl, rfl⟩
def fX10_height (ad S Ln : Nat → Nat) (R : gR) (M : gM) (a0 : Nat) (x1 : Int) : Option (Int × gM) :=
  bd (fX10_ofFlight ad S Ln R M a0 x1 4) fun q1 => some ((q1.1, q1.2))
theorem xX10_height {l : Launch} {G : gE} {sz : Nat} {S Ln : Nat → Nat} {M : gM} {R : gR} (hl : l.stackTraces = false) {a0 : Nat} (hs0 : S a0 = 13) {x1 : Int} (hx1 : (-2147483648 ≤ x1 ∧ x1 < 2147483648)) {r : Int × gM} (h : fX10_height G.2.2.2.2 S Ln R M a0 x1 = some r) : Ct l G yX10_height cX10_height 2 (some .int) 4 0 0 [.ref a0, .int (iI x1)] sz S Ln M R (poI r.1 sz S Ln (r.2) R) noX := by
  refine jj_start (own := RX10) (lv0 := [(0, .ref a0), (1, .int (iI x1))]) hl (by decide +kernel) rfl rfl (c_le rfl) (fun C hCl hC => ?_)
  unfold fX10_height at h
  refine jj_aload_n hC dX10_height_0 rfl 0 rfl ?_
  refine jj_iload_n hC dX10_height_1 rfl 1 rfl ?_
  refine jj_iconst hC dX10_height_2 ?_
  obtain ⟨q1, hq1, h⟩ := bd_e h
  refine jj_invV hC mvX10_ofFlight wd2049 wd59 wd2047 hs0 (by decide) rfl (xX10_ofFlight (OKC.tr hC) hs0 hx1 (show (-2147483648 ≤ (4 : Int) ∧ (4 : Int) < 2147483648) from by decide) hq1) rfl rfl (c_le rfl) (c_le rfl) (c_le rfl) (c_le rfl) dX10_height_3 noXk (po_kI (fun hr1 => ?_))
  cases h
  exact jj_iret hC (c_le rfl) (c_le rfl) dX10_height_6 ⟨rfl, hr1, rfl, rfl, rfl, rfl, rfl⟩
def fX10_minutes (ad S Ln : Nat → Nat) (R : gR) (M : gM) (a0 : Nat) (x1 : Int) : Option (Int × gM) :=
  bd (fX10_ofFlight ad S Ln R M a0 x1 5) fun q1 => some ((q1.1, q1.2))
theorem xX10_minutes {l : Launch} {G : gE} {sz : Nat} {S Ln : Nat → Nat} {M : gM} {R : gR} (hl : l.stackTraces = false) {a0 : Nat} (hs0 : S a0 = 13) {x1 : Int} (hx1 : (-2147483648 ≤ x1 ∧ x1 < 2147483648)) {r : Int × gM} (h : fX10_minutes G.2.2.2.2 S Ln R M a0 x1 = some r) : Ct l G yX10_minutes cX10_minutes 2 (some .int) 4 0 0 [.ref a0, .int (iI x1)] sz S Ln M R (poI r.1 sz S Ln (r.2) R) noX := by
  refine jj_start (own := RX10) (lv0 := [(0, .ref a0), (1, .int (iI x1))]) hl (by decide +kernel) rfl rfl (c_le rfl) (fun C hCl hC => ?_)
  unfold fX10_minutes at h
  refine jj_aload_n hC dX10_minutes_0 rfl 0 rfl ?_
  refine jj_iload_n hC dX10_minutes_1 rfl 1 rfl ?_
  refine jj_iconst hC dX10_minutes_2 ?_
  obtain ⟨q1, hq1, h⟩ := bd_e h
  refine jj_invV hC mvX10_ofFlight wd2049 wd59 wd2047 hs0 (by decide) rfl (xX10_ofFlight (OKC.tr hC) hs0 hx1 (show (-2147483648 ≤ (5 : Int) ∧ (5 : Int) < 2147483648) from by decide) hq1) rfl rfl (c_le rfl) (c_le rfl) (c_le rfl) (c_le rfl) dX10_minutes_3 noXk (po_kI (fun hr1 => ?_))
  cases h
  exact jj_iret hC (c_le rfl) (c_le rfl) dX10_minutes_6 ⟨rfl, hr1, rfl, rfl, rfl, rfl, rfl⟩
def fX10_penalty (ad S Ln : Nat → Nat) (R : gR) (M : gM) (a0 : Nat) (x1 : Int) : Option (Int × gM) :=
  bd (fX10_ofFlight ad S Ln R M a0 x1 6) fun q1 => some ((q1.1, q1.2))
theorem xX10_penalty {l : Launch} {G : gE} {sz : Nat} {S Ln : Nat → Nat} {M : gM} {R : gR} (hl : l.stackTraces = false) {a0 : Nat} (hs0 : S a0 = 13) {x1 : Int} (hx1 : (-2147483648 ≤ x1 ∧ x1 < 2147483648)) {r : Int × gM} (h : fX10_penalty G.2.2.2.2 S Ln R M a0 x1 = some r) : Ct l G yX10_penalty cX10_penalty 2 (some .int) 4 0 0 [.ref a0, .int (iI x1)] sz S Ln M R (poI r.1 sz S Ln (r.2) R) noX := by
  refine jj_start (own := RX10) (lv0 := [(0, .ref a0), (1, .int (iI x1))]) hl (by decide +kernel) rfl rfl (c_le rfl) (fun C hCl hC => ?_)
  unfold fX10_penalty at h
  refine jj_aload_n hC dX10_penalty_0 rfl 0 rfl ?_
  refine jj_iload_n hC dX10_penalty_1 rfl 1 rfl ?_
  refine jj_bipush hC dX10_penalty_2 (by decide) ?_
  obtain ⟨q1, hq1, h⟩ := bd_e h
  refine jj_invV hC mvX10_ofFlight wd2049 wd59 wd2047 hs0 (by decide) rfl (xX10_ofFlight (OKC.tr hC) hs0 hx1 (show (-2147483648 ≤ (6 : Int) ∧ (6 : Int) < 2147483648) from by decide) hq1) rfl rfl (c_le rfl) (c_le rfl) (c_le rfl) (c_le rfl) dX10_penalty_4 noXk (po_kI (fun hr1 => ?_))
  cases h
  exact jj_iret hC (c_le rfl) (c_le rfl) dX10_penalty_7 ⟨rfl, hr1, rfl, rfl, rfl, rfl, rfl⟩
def fX10_reached_B14 (ad S Ln : Nat → Nat) (R : gR) (M14 : gM) (l0_14 : Nat) (l1_14 : Int) (s0_14 : Int) (s1_14 : Nat) : Option (Int × gM) :=
  bd (fX10_isThrown ad S Ln R M14 s1_14 s0_14 1) fun q2 => if q2.1 = 0 then (bd (fX10_of ad S Ln R q2.2 l0_14 l1_14 7) fun q3 => some ((q3, q2.2))) else (some ((0, q2.2)))
def fX10_reached (ad S Ln : Nat → Nat) (R : gR) (M : gM) (a0 : Nat) (x1 : Int) : Option (Int × gM) :=
  bd (fX10_isPilot ad S Ln R M a0 x1) fun q1 => if ¬ q1 = 0 then (fX10_reached_B14 ad S Ln R M a0 x1 0 a0) else (fX10_reached_B14 ad S Ln R M a0 x1 1 a0)
theorem xX10_reached {l : Launch} {G : gE} {sz : Nat} {S Ln : Nat → Nat} {M : gM} {R : gR} (hl : l.stackTraces = false) {a0 : Nat} (hs0 : S a0 = 13) {x1 : Int} (hx1 : (-2147483648 ≤ x1 ∧ x1 < 2147483648)) {r : Int × gM} (h : fX10_reached G.2.2.2.2 S Ln R M a0 x1 = some r) : Ct l G yX10_reached cX10_reached 2 (some .int) 3 0 0 [.ref a0, .int (iI x1)] sz S Ln M R (poI r.1 sz S Ln (r.2) R) noX := by
  refine jj_start (own := RX10) (lv0 := [(0, .ref a0), (1, .int (iI x1))]) hl (by decide +kernel) rfl rfl (c_le rfl) (fun C hCl hC => ?_)
  have hB14 : ∀ (M14 : gM) (l0_14 : Nat) (l1_14 : Int) (s0_14 : Int) (s1_14 : Nat), S l0_14 = 13 → (-2147483648 ≤ l1_14 ∧ l1_14 < 2147483648) → (0 ≤ s0_14 ∧ s0_14 ≤ 1) → S s1_14 = 13 → fX10_reached_B14 G.2.2.2.2 S Ln R M14 l0_14 l1_14 s0_14 s1_14 = some r → JJ G C 0 0 sz S Ln M14 R 14 [(0, .ref l0_14), (1, .int (iI l1_14))] [.int (iI s0_14), .ref s1_14] := by
    intro M14 l0_14 l1_14 s0_14 s1_14 hl0_14 hl1_14 hs0_14 hs1_14 h
    unfold fX10_reached_B14 at h
    refine jj_iconst hC dX10_reached_14 ?_
    obtain ⟨q2, hq2, h⟩ := bd_e h
    refine jj_invV hC mvX10_isThrown wd1791 wd24 wd1789 hs1_14 (by decide) rfl (xX10_isThrown (OKC.tr hC) hs1_14 hs0_14 (show (-2147483648 ≤ (1 : Int) ∧ (1 : Int) < 2147483648) from by decide) hq2) rfl rfl (c_le rfl) (c_le rfl) (c_le rfl) (c_le rfl) dX10_reached_15 noXk (po_kZ (fun hr2 => ?_))
    refine jj_if_eq (tgt := 25) hC dX10_reached_18 rfl (r_z hr2) (fun hc => ?_) (fun hc => ?_)
    · replace h := (if_pos hc).symm.trans h
      refine jj_aload_n hC dX10_reached_25 rfl 0 rfl ?_
      refine jj_iload_n hC dX10_reached_26 rfl 1 rfl ?_
      refine jj_bipush hC dX10_reached_27 (by decide) ?_
      obtain ⟨q3, hq3, h⟩ := bd_e h
      refine jj_invV hC mvX10_of wd1815 wd29 wd1813 hl0_14 (by decide) rfl (xX10_of (OKC.tr hC) hl0_14 hl1_14 (show (-2147483648 ≤ (7 : Int) ∧ (7 : Int) < 2147483648) from by decide) hq3) rfl rfl (c_le rfl) (c_le rfl) (c_le rfl) (c_le rfl) dX10_reached_29 noXk (po_kI (fun hr3 => ?_))
      cases h
      exact jj_iret hC (c_le rfl) (c_le rfl) dX10_reached_32 ⟨rfl, hr3, rfl, rfl, rfl, rfl, rfl⟩
    · replace h := (if_neg (hc)).symm.trans h
      refine jj_iconst hC dX10_reached_21 ?_
      refine jj_goto (tgt := 32) hC dX10_reached_22 rfl ?_
      cases h
      exact jj_iret hC (c_le rfl) (c_le rfl) dX10_reached_32 ⟨rfl, (show (-2147483648 ≤ (0 : Int) ∧ (0 : Int) < 2147483648) from by decide), rfl, rfl, rfl, rfl, rfl⟩
  unfold fX10_reached at h
  refine jj_aload_n hC dX10_reached_0 rfl 0 rfl ?_
  refine jj_aload_n hC dX10_reached_1 rfl 0 rfl ?_
  refine jj_iload_n hC dX10_reached_2 rfl 1 rfl ?_
  obtain ⟨q1, hq1, h⟩ := bd_e h
  refine jj_invV hC mvX10_isPilot wd1890 wd41 wd1888 hs0 (by decide) rfl (xX10_isPilot (OKC.tr hC) hs0 hx1 hq1) rfl rfl (c_le rfl) (c_le rfl) (c_le rfl) (c_le rfl) dX10_reached_3 noXk (po_kZ (fun hr1 => ?_))
  refine jj_if_ne (tgt := 13) hC dX10_reached_6 rfl (r_z hr1) (fun hc => ?_) (fun hc => ?_)
  · replace h := (if_pos hc).symm.trans h
    refine jj_iconst hC dX10_reached_13 ?_
    refine jj_lv (lv' := [(0, .ref a0), (1, .int (iI x1))]) [0, 1] rfl ?_
    exact hB14 M a0 x1 0 a0 hs0 hx1 (show (0 ≤ (0 : Int) ∧ (0 : Int) ≤ 1) from by decide) hs0 h
  · replace h := (if_neg (fun k => k hc)).symm.trans h
    refine jj_iconst hC dX10_reached_9 ?_
    refine jj_goto (tgt := 14) hC dX10_reached_10 rfl ?_
    refine jj_lv (lv' := [(0, .ref a0), (1, .int (iI x1))]) [0, 1] rfl ?_
    exact hB14 M a0 x1 1 a0 hs0 hx1 (show (0 ≤ (1 : Int) ∧ (1 : Int) ≤ 1) from by decide) hs0 h
def fX10_isNoFlight_B44 (ad S Ln : Nat → Nat) (R : gR) (M44 : gM)  : Option (Int × gM) :=
  some ((1, M44))
def fX10_isNoFlight_B37 (ad S Ln : Nat → Nat) (R : gR) (M37 : gM) (s0_37 : Int) (s1_37 : Nat) : Option (Int × gM) :=
  bd (fX10_isThrown ad S Ln R M37 s1_37 s0_37 2) fun q4 => if q4.1 = 0 then (some ((0, q4.2))) else (fX10_isNoFlight_B44 ad S Ln R q4.2 )
def fX10_isNoFlight_B14 (ad S Ln : Nat → Nat) (R : gR) (M14 : gM) (l0_14 : Nat) (l1_14 : Int) (s0_14 : Int) (s1_14 : Nat) : Option (Int × gM) :=
  bd (fX10_isThrown ad S Ln R M14 s1_14 s0_14 1) fun q2 => if ¬ q2.1 = 0 then (fX10_isNoFlight_B44 ad S Ln R q2.2 ) else (bd (fX10_of ad S Ln R q2.2 l0_14 l1_14 1) fun q3 => if q3 = 1 then (fX10_isNoFlight_B37 ad S Ln R q2.2 0 l0_14) else (fX10_isNoFlight_B37 ad S Ln R q2.2 1 l0_14))
def fX10_isNoFlight (ad S Ln : Nat → Nat) (R : gR) (M : gM) (a0 : Nat) (x1 : Int) : Option (Int × gM) :=
  bd (fX10_isPilot ad S Ln R M a0 x1) fun q1 => if ¬ q1 = 0 then (fX10_isNoFlight_B14 ad S Ln R M a0 x1 0 a0) else (fX10_isNoFlight_B14 ad S Ln R M a0 x1 1 a0)
theorem xX10_isNoFlight {l : Launch} {G : gE} {sz : Nat} {S Ln : Nat → Nat} {M : gM} {R : gR} (hl : l.stackTraces = false) {a0 : Nat} (hs0 : S a0 = 13) {x1 : Int} (hx1 : (-2147483648 ≤ x1 ∧ x1 < 2147483648)) {r : Int × gM} (h : fX10_isNoFlight G.2.2.2.2 S Ln R M a0 x1 = some r) : Ct l G yX10_isNoFlight cX10_isNoFlight 2 (some .boolean) 3 0 0 [.ref a0, .int (iI x1)] sz S Ln M R (poZ r.1 sz S Ln (r.2) R) noX := by
  refine jj_start (own := RX10) (lv0 := [(0, .ref a0), (1, .int (iI x1))]) hl (by decide +kernel) rfl rfl (c_le rfl) (fun C hCl hC => ?_)
  have hB44 : ∀ (M44 : gM) , fX10_isNoFlight_B44 G.2.2.2.2 S Ln R M44  = some r → JJ G C 0 0 sz S Ln M44 R 44 [] [] := by
    intro M44 h
    unfold fX10_isNoFlight_B44 at h
    refine jj_iconst hC dX10_isNoFlight_44 ?_
    refine jj_goto (tgt := 49) hC dX10_isNoFlight_45 rfl ?_
    cases h
    exact jj_zret hC (show (0 ≤ (1 : Int) ∧ (1 : Int) ≤ 1) from by decide) (c_le rfl) (c_le rfl) dX10_isNoFlight_49 ⟨rfl, (show (0 ≤ (1 : Int) ∧ (1 : Int) ≤ 1) from by decide), rfl, rfl, rfl, rfl, rfl⟩
  have hB37 : ∀ (M37 : gM) (s0_37 : Int) (s1_37 : Nat), (0 ≤ s0_37 ∧ s0_37 ≤ 1) → S s1_37 = 13 → fX10_isNoFlight_B37 G.2.2.2.2 S Ln R M37 s0_37 s1_37 = some r → JJ G C 0 0 sz S Ln M37 R 37 [] [.int (iI s0_37), .ref s1_37] := by
    intro M37 s0_37 s1_37 hs0_37 hs1_37 h
    unfold fX10_isNoFlight_B37 at h
    refine jj_iconst hC dX10_isNoFlight_37 ?_
    obtain ⟨q4, hq4, h⟩ := bd_e h
    refine jj_invV hC mvX10_isThrown wd1791 wd24 wd1789 hs1_37 (by decide) rfl (xX10_isThrown (OKC.tr hC) hs1_37 hs0_37 (show (-2147483648 ≤ (2 : Int) ∧ (2 : Int) < 2147483648) from by decide) hq4) rfl rfl (c_le rfl) (c_le rfl) (c_le rfl) (c_le rfl) dX10_isNoFlight_38 noXk (po_kZ (fun hr4 => ?_))
    refine jj_if_eq (tgt := 48) hC dX10_isNoFlight_41 rfl (r_z hr4) (fun hc => ?_) (fun hc => ?_)
    · replace h := (if_pos hc).symm.trans h
      refine jj_iconst hC dX10_isNoFlight_48 ?_
      cases h
      exact jj_zret hC (show (0 ≤ (0 : Int) ∧ (0 : Int) ≤ 1) from by decide) (c_le rfl) (c_le rfl) dX10_isNoFlight_49 ⟨rfl, (show (0 ≤ (0 : Int) ∧ (0 : Int) ≤ 1) from by decide), rfl, rfl, rfl, rfl, rfl⟩
    · replace h := (if_neg (hc)).symm.trans h
      refine jj_lv (lv' := []) [] rfl ?_
      exact hB44 q4.2   h
  have hB14 : ∀ (M14 : gM) (l0_14 : Nat) (l1_14 : Int) (s0_14 : Int) (s1_14 : Nat), S l0_14 = 13 → (-2147483648 ≤ l1_14 ∧ l1_14 < 2147483648) → (0 ≤ s0_14 ∧ s0_14 ≤ 1) → S s1_14 = 13 → fX10_isNoFlight_B14 G.2.2.2.2 S Ln R M14 l0_14 l1_14 s0_14 s1_14 = some r → JJ G C 0 0 sz S Ln M14 R 14 [(0, .ref l0_14), (1, .int (iI l1_14))] [.int (iI s0_14), .ref s1_14] := by
    intro M14 l0_14 l1_14 s0_14 s1_14 hl0_14 hl1_14 hs0_14 hs1_14 h
    unfold fX10_isNoFlight_B14 at h
    refine jj_iconst hC dX10_isNoFlight_14 ?_
    obtain ⟨q2, hq2, h⟩ := bd_e h
    refine jj_invV hC mvX10_isThrown wd1791 wd24 wd1789 hs1_14 (by decide) rfl (xX10_isThrown (OKC.tr hC) hs1_14 hs0_14 (show (-2147483648 ≤ (1 : Int) ∧ (1 : Int) < 2147483648) from by decide) hq2) rfl rfl (c_le rfl) (c_le rfl) (c_le rfl) (c_le rfl) dX10_isNoFlight_15 noXk (po_kZ (fun hr2 => ?_))
    refine jj_if_ne (tgt := 44) hC dX10_isNoFlight_18 rfl (r_z hr2) (fun hc => ?_) (fun hc => ?_)
    · replace h := (if_pos hc).symm.trans h
      refine jj_lv (lv' := []) [] rfl ?_
      exact hB44 q2.2   h
    · replace h := (if_neg (fun k => k hc)).symm.trans h
      refine jj_aload_n hC dX10_isNoFlight_21 rfl 0 rfl ?_
      refine jj_aload_n hC dX10_isNoFlight_22 rfl 0 rfl ?_
      refine jj_iload_n hC dX10_isNoFlight_23 rfl 1 rfl ?_
      refine jj_iconst hC dX10_isNoFlight_24 ?_
      obtain ⟨q3, hq3, h⟩ := bd_e h
      refine jj_invV hC mvX10_of wd1815 wd29 wd1813 hl0_14 (by decide) rfl (xX10_of (OKC.tr hC) hl0_14 hl1_14 (show (-2147483648 ≤ (1 : Int) ∧ (1 : Int) < 2147483648) from by decide) hq3) rfl rfl (c_le rfl) (c_le rfl) (c_le rfl) (c_le rfl) dX10_isNoFlight_25 noXk (po_kI (fun hr3 => ?_))
      refine jj_iconst hC dX10_isNoFlight_28 ?_
      refine jj_icmp_eq (tgt := 36) hC dX10_isNoFlight_29 rfl hr3 (show (-2147483648 ≤ (1 : Int) ∧ (1 : Int) < 2147483648) from by decide) (fun hc => ?_) (fun hc => ?_)
      · replace h := (if_pos hc).symm.trans h
        refine jj_iconst hC dX10_isNoFlight_36 ?_
        refine jj_lv (lv' := []) [] rfl ?_
        exact hB37 q2.2 0 l0_14 (show (0 ≤ (0 : Int) ∧ (0 : Int) ≤ 1) from by decide) hl0_14 h
      · replace h := (if_neg (hc)).symm.trans h
        refine jj_iconst hC dX10_isNoFlight_32 ?_
        refine jj_goto (tgt := 37) hC dX10_isNoFlight_33 rfl ?_
        refine jj_lv (lv' := []) [] rfl ?_
        exact hB37 q2.2 1 l0_14 (show (0 ≤ (1 : Int) ∧ (1 : Int) ≤ 1) from by decide) hl0_14 h
  unfold fX10_isNoFlight at h
  refine jj_aload_n hC dX10_isNoFlight_0 rfl 0 rfl ?_
  refine jj_aload_n hC dX10_isNoFlight_1 rfl 0 rfl ?_
  refine jj_iload_n hC dX10_isNoFlight_2 rfl 1 rfl ?_
  obtain ⟨q1, hq1, h⟩ := bd_e h
  refine jj_invV hC mvX10_isPilot wd1890 wd41 wd1888 hs0 (by decide) rfl (xX10_isPilot (OKC.tr hC) hs0 hx1 hq1) rfl rfl (c_le rfl) (c_le rfl) (c_le rfl) (c_le rfl) dX10_isNoFlight_3 noXk (po_kZ (fun hr1 => ?_))
  refine jj_if_ne (tgt := 13) hC dX10_isNoFlight_6 rfl (r_z hr1) (fun hc => ?_) (fun hc => ?_)
  · replace h := (if_pos hc).symm.trans h
    refine jj_iconst hC dX10_isNoFlight_13 ?_
    refine jj_lv (lv' := [(0, .ref a0), (1, .int (iI x1))]) [0, 1] rfl ?_
    exact hB14 M a0 x1 0 a0 hs0 hx1 (show (0 ≤ (0 : Int) ∧ (0 : Int) ≤ 1) from by decide) hs0 h
  · replace h := (if_neg (fun k => k hc)).symm.trans h
    refine jj_iconst hC dX10_isNoFlight_9 ?_
    refine jj_goto (tgt := 14) hC dX10_isNoFlight_10 rfl ?_
    refine jj_lv (lv' := [(0, .ref a0), (1, .int (iI x1))]) [0, 1] rfl ?_
    exact hB14 M a0 x1 1 a0 hs0 hx1 (show (0 ≤ (1 : Int) ∧ (1 : Int) ≤ 1) from by decide) hs0 h
def fX10_remaining (ad S Ln : Nat → Nat) (R : gR) (M : gM) (a0 : Nat) (x1 : Int) : Option Int :=
  bd (fX10_toNext ad S Ln R M a0 x1) fun q1 => rf S (R a0 0) 20 fun b2 => gd ((0 : Int) ≤ 1 ∧ 1 < (Ln b2 : Int)) (bd (fX10_legs ad S Ln R M a0 (w32 ((M b2 1) - 1))) fun q4 => bd (fX10_of ad S Ln R M a0 x1 7) fun q5 => bd (fX10_legs ad S Ln R M a0 q5) fun q6 => some (w32 ((w32 (q1 + q4)) - q6)))
theorem xX10_remaining {l : Launch} {G : gE} {sz : Nat} {S Ln : Nat → Nat} {M : gM} {R : gR} (hl : l.stackTraces = false) {a0 : Nat} (hs0 : S a0 = 13) {x1 : Int} (hx1 : (-2147483648 ≤ x1 ∧ x1 < 2147483648)) {r : Int} (h : fX10_remaining G.2.2.2.2 S Ln R M a0 x1 = some r) : Ct l G yX10_remaining cX10_remaining 2 (some .int) 5 0 0 [.ref a0, .int (iI x1)] sz S Ln M R (poI r sz S Ln (M) R) noX := by
  refine jj_start (own := RX10) (lv0 := [(0, .ref a0), (1, .int (iI x1))]) hl (by decide +kernel) rfl rfl (c_le rfl) (fun C hCl hC => ?_)
  unfold fX10_remaining at h
  refine jj_aload_n hC dX10_remaining_0 rfl 0 rfl ?_
  refine jj_iload_n hC dX10_remaining_1 rfl 1 rfl ?_
  obtain ⟨q1, hq1, h⟩ := bd_e h
  refine jj_invV hC mvX10_toNext wd1968 wd56 wd1966 hs0 (by decide) rfl (xX10_toNext (OKC.tr hC) hs0 hx1 hq1) rfl rfl (c_le rfl) (c_le rfl) (c_le rfl) (c_le rfl) dX10_remaining_2 noXk (po_kI (fun hr1 => ?_))
  refine jj_aload_n hC dX10_remaining_5 rfl 0 rfl ?_
  refine jj_aload_n hC dX10_remaining_6 rfl 0 rfl ?_
  obtain ⟨b2, hb2, hs2, h⟩ := rf_e h
  refine jg_R hC kfX10 0 rfl hs0 (by decide) wd1709 rfl hb2 dX10_remaining_7 ?_
  refine jj_iconst hC dX10_remaining_10 ?_
  obtain ⟨⟨ha3, hb3⟩, h⟩ := gd_e h
  refine jj_iald hC hs2 ha3 hb3 dX10_remaining_11 (fun hr3 => ?_)
  refine jj_iconst hC dX10_remaining_12 ?_
  refine jg_isub hC dX10_remaining_13 ?_
  obtain ⟨q4, hq4, h⟩ := bd_e h
  refine jj_invV hC mvX10_legs wd1960 wd54 wd1958 hs0 (by decide) rfl (xX10_legs (OKC.tr hC) hs0 (w32_r _) hq4) rfl rfl (c_le rfl) (c_le rfl) (c_le rfl) (c_le rfl) dX10_remaining_14 noXk (po_kI (fun hr4 => ?_))
  refine jg_iadd hC dX10_remaining_17 ?_
  refine jj_aload_n hC dX10_remaining_18 rfl 0 rfl ?_
  refine jj_aload_n hC dX10_remaining_19 rfl 0 rfl ?_
  refine jj_iload_n hC dX10_remaining_20 rfl 1 rfl ?_
  refine jj_bipush hC dX10_remaining_21 (by decide) ?_
  obtain ⟨q5, hq5, h⟩ := bd_e h
  refine jj_invV hC mvX10_of wd1815 wd29 wd1813 hs0 (by decide) rfl (xX10_of (OKC.tr hC) hs0 hx1 (show (-2147483648 ≤ (7 : Int) ∧ (7 : Int) < 2147483648) from by decide) hq5) rfl rfl (c_le rfl) (c_le rfl) (c_le rfl) (c_le rfl) dX10_remaining_23 noXk (po_kI (fun hr5 => ?_))
  obtain ⟨q6, hq6, h⟩ := bd_e h
  refine jj_invV hC mvX10_legs wd1960 wd54 wd1958 hs0 (by decide) rfl (xX10_legs (OKC.tr hC) hs0 hr5 hq6) rfl rfl (c_le rfl) (c_le rfl) (c_le rfl) (c_le rfl) dX10_remaining_26 noXk (po_kI (fun hr6 => ?_))
  refine jg_isub hC dX10_remaining_29 ?_
  cases h
  exact jj_iret hC (c_le rfl) (c_le rfl) dX10_remaining_30 ⟨rfl, (w32_r _), rfl, rfl, rfl, rfl, rfl⟩
def fX10_remainingDistance (ad S Ln : Nat → Nat) (R : gR) (M : gM) (a0 : Nat) (x1 : Int) : Option (Int × gM) :=
  bd (fX10_isNoFlight ad S Ln R M a0 x1) fun q1 => if q1.1 = 0 then (bd (fX10_remaining ad S Ln R q1.2 a0 x1) fun q2 => some ((q2, q1.2))) else (some ((0, q1.2)))
theorem xX10_remainingDistance {l : Launch} {G : gE} {sz : Nat} {S Ln : Nat → Nat} {M : gM} {R : gR} (hl : l.stackTraces = false) {a0 : Nat} (hs0 : S a0 = 13) {x1 : Int} (hx1 : (-2147483648 ≤ x1 ∧ x1 < 2147483648)) {r : Int × gM} (h : fX10_remainingDistance G.2.2.2.2 S Ln R M a0 x1 = some r) : Ct l G yX10_remainingDistance cX10_remainingDistance 2 (some .int) 6 0 0 [.ref a0, .int (iI x1)] sz S Ln M R (poI r.1 sz S Ln (r.2) R) noX := by
  refine jj_start (own := RX10) (lv0 := [(0, .ref a0), (1, .int (iI x1))]) hl (by decide +kernel) rfl rfl (c_le rfl) (fun C hCl hC => ?_)
  unfold fX10_remainingDistance at h
  refine jj_aload_n hC dX10_remainingDistance_0 rfl 0 rfl ?_
  refine jj_iload_n hC dX10_remainingDistance_1 rfl 1 rfl ?_
  obtain ⟨q1, hq1, h⟩ := bd_e h
  refine jj_invV hC mvX10_isNoFlight wd2077 wd60 wd2075 hs0 (by decide) rfl (xX10_isNoFlight (OKC.tr hC) hs0 hx1 hq1) rfl rfl (c_le rfl) (c_le rfl) (c_le rfl) (c_le rfl) dX10_remainingDistance_2 noXk (po_kZ (fun hr1 => ?_))
  refine jj_if_eq (tgt := 12) hC dX10_remainingDistance_5 rfl (r_z hr1) (fun hc => ?_) (fun hc => ?_)
  · replace h := (if_pos hc).symm.trans h
    refine jj_aload_n hC dX10_remainingDistance_12 rfl 0 rfl ?_
    refine jj_iload_n hC dX10_remainingDistance_13 rfl 1 rfl ?_
    obtain ⟨q2, hq2, h⟩ := bd_e h
    refine jj_invV hC mvX10_remaining wd2081 wd61 wd2079 hs0 (by decide) rfl (xX10_remaining (OKC.tr hC) hs0 hx1 hq2) rfl rfl (c_le rfl) (c_le rfl) (c_le rfl) (c_le rfl) dX10_remainingDistance_14 noXk (po_kI (fun hr2 => ?_))
    cases h
    exact jj_iret hC (c_le rfl) (c_le rfl) dX10_remainingDistance_17 ⟨rfl, hr2, rfl, rfl, rfl, rfl, rfl⟩
  · replace h := (if_neg (hc)).symm.trans h
    refine jj_iconst hC dX10_remainingDistance_8 ?_
    refine jj_goto (tgt := 17) hC dX10_remainingDistance_9 rfl ?_
    cases h
    exact jj_iret hC (c_le rfl) (c_le rfl) dX10_remainingDistance_17 ⟨rfl, (show (-2147483648 ≤ (0 : Int) ∧ (0 : Int) < 2147483648) from by decide), rfl, rfl, rfl, rfl, rfl⟩
def fX10_canFinish (ad S Ln : Nat → Nat) (R : gR) (M : gM) (a0 : Nat) (x1 : Int) : Option (Int × gM) :=
  bd (fX10_isNoFlight ad S Ln R M a0 x1) fun q1 => if ¬ q1.1 = 0 then (some ((0, q1.2))) else (bd (fX10_of ad S Ln R q1.2 a0 x1 4) fun q2 => bd (fX10_remaining ad S Ln R q1.2 a0 x1) fun q3 => bd (fX10_sinkOf ad S Ln R q1.2 a0 x1) fun q4 => if q2 ≤ (w32 ((w32 (q3 - 1)) * q4)) then (some ((0, q1.2))) else (some ((1, q1.2))))
theorem xX10_canFinish {l : Launch} {G : gE} {sz : Nat} {S Ln : Nat → Nat} {M : gM} {R : gR} (hl : l.stackTraces = false) {a0 : Nat} (hs0 : S a0 = 13) {x1 : Int} (hx1 : (-2147483648 ≤ x1 ∧ x1 < 2147483648)) {r : Int × gM} (h : fX10_canFinish G.2.2.2.2 S Ln R M a0 x1 = some r) : Ct l G yX10_canFinish cX10_canFinish 2 (some .boolean) 6 0 0 [.ref a0, .int (iI x1)] sz S Ln M R (poZ r.1 sz S Ln (r.2) R) noX := by
  refine jj_start (own := RX10) (lv0 := [(0, .ref a0), (1, .int (iI x1))]) hl (by decide +kernel) rfl rfl (c_le rfl) (fun C hCl hC => ?_)
  unfold fX10_canFinish at h
  refine jj_aload_n hC dX10_canFinish_0 rfl 0 rfl ?_
  refine jj_iload_n hC dX10_canFinish_1 rfl 1 rfl ?_
  obtain ⟨q1, hq1, h⟩ := bd_e h
  refine jj_invV hC mvX10_isNoFlight wd2077 wd60 wd2075 hs0 (by decide) rfl (xX10_isNoFlight (OKC.tr hC) hs0 hx1 hq1) rfl rfl (c_le rfl) (c_le rfl) (c_le rfl) (c_le rfl) dX10_canFinish_2 noXk (po_kZ (fun hr1 => ?_))
  refine jj_if_ne (tgt := 34) hC dX10_canFinish_5 rfl (r_z hr1) (fun hc => ?_) (fun hc => ?_)
  · replace h := (if_pos hc).symm.trans h
    refine jj_iconst hC dX10_canFinish_34 ?_
    cases h
    exact jj_zret hC (show (0 ≤ (0 : Int) ∧ (0 : Int) ≤ 1) from by decide) (c_le rfl) (c_le rfl) dX10_canFinish_35 ⟨rfl, (show (0 ≤ (0 : Int) ∧ (0 : Int) ≤ 1) from by decide), rfl, rfl, rfl, rfl, rfl⟩
  · replace h := (if_neg (fun k => k hc)).symm.trans h
    refine jj_aload_n hC dX10_canFinish_8 rfl 0 rfl ?_
    refine jj_iload_n hC dX10_canFinish_9 rfl 1 rfl ?_
    refine jj_iconst hC dX10_canFinish_10 ?_
    obtain ⟨q2, hq2, h⟩ := bd_e h
    refine jj_invV hC mvX10_of wd1815 wd29 wd1813 hs0 (by decide) rfl (xX10_of (OKC.tr hC) hs0 hx1 (show (-2147483648 ≤ (4 : Int) ∧ (4 : Int) < 2147483648) from by decide) hq2) rfl rfl (c_le rfl) (c_le rfl) (c_le rfl) (c_le rfl) dX10_canFinish_11 noXk (po_kI (fun hr2 => ?_))
    refine jj_aload_n hC dX10_canFinish_14 rfl 0 rfl ?_
    refine jj_iload_n hC dX10_canFinish_15 rfl 1 rfl ?_
    obtain ⟨q3, hq3, h⟩ := bd_e h
    refine jj_invV hC mvX10_remaining wd2081 wd61 wd2079 hs0 (by decide) rfl (xX10_remaining (OKC.tr hC) hs0 hx1 hq3) rfl rfl (c_le rfl) (c_le rfl) (c_le rfl) (c_le rfl) dX10_canFinish_16 noXk (po_kI (fun hr3 => ?_))
    refine jj_iconst hC dX10_canFinish_19 ?_
    refine jg_isub hC dX10_canFinish_20 ?_
    refine jj_aload_n hC dX10_canFinish_21 rfl 0 rfl ?_
    refine jj_iload_n hC dX10_canFinish_22 rfl 1 rfl ?_
    obtain ⟨q4, hq4, h⟩ := bd_e h
    refine jj_invV hC mvX10_sinkOf wd1916 wd45 wd1914 hs0 (by decide) rfl (xX10_sinkOf (OKC.tr hC) hs0 hx1 hq4) rfl rfl (c_le rfl) (c_le rfl) (c_le rfl) (c_le rfl) dX10_canFinish_23 noXk (po_kI (fun hr4 => ?_))
    refine jg_imul hC dX10_canFinish_26 ?_
    refine jj_icmp_le (tgt := 34) hC dX10_canFinish_27 rfl hr2 (w32_r _) (fun hc => ?_) (fun hc => ?_)
    · replace h := (if_pos hc).symm.trans h
      refine jj_iconst hC dX10_canFinish_34 ?_
      cases h
      exact jj_zret hC (show (0 ≤ (0 : Int) ∧ (0 : Int) ≤ 1) from by decide) (c_le rfl) (c_le rfl) dX10_canFinish_35 ⟨rfl, (show (0 ≤ (0 : Int) ∧ (0 : Int) ≤ 1) from by decide), rfl, rfl, rfl, rfl, rfl⟩
    · replace h := (if_neg (Int.not_le.mpr hc)).symm.trans h
      refine jj_iconst hC dX10_canFinish_30 ?_
      refine jj_goto (tgt := 35) hC dX10_canFinish_31 rfl ?_
      cases h
      exact jj_zret hC (show (0 ≤ (1 : Int) ∧ (1 : Int) ≤ 1) from by decide) (c_le rfl) (c_le rfl) dX10_canFinish_35 ⟨rfl, (show (0 ≤ (1 : Int) ∧ (1 : Int) ≤ 1) from by decide), rfl, rfl, rfl, rfl, rfl⟩
def fX10_canFinishBySimulation (ad S Ln : Nat → Nat) (R : gR) (M : gM) (a0 : Nat) (x1 : Int) : Option (Int × gM) :=
  bd (fX10_canFinish ad S Ln R M a0 x1) fun q1 => some ((q1.1, q1.2))
theorem xX10_canFinishBySimulation {l : Launch} {G : gE} {sz : Nat} {S Ln : Nat → Nat} {M : gM} {R : gR} (hl : l.stackTraces = false) {a0 : Nat} (hs0 : S a0 = 13) {x1 : Int} (hx1 : (-2147483648 ≤ x1 ∧ x1 < 2147483648)) {r : Int × gM} (h : fX10_canFinishBySimulation G.2.2.2.2 S Ln R M a0 x1 = some r) : Ct l G yX10_canFinishBySimulation cX10_canFinishBySimulation 2 (some .boolean) 7 0 0 [.ref a0, .int (iI x1)] sz S Ln M R (poZ r.1 sz S Ln (r.2) R) noX := by
  refine jj_start (own := RX10) (lv0 := [(0, .ref a0), (1, .int (iI x1))]) hl (by decide +kernel) rfl rfl (c_le rfl) (fun C hCl hC => ?_)
  unfold fX10_canFinishBySimulation at h
  refine jj_aload_n hC dX10_canFinishBySimulation_0 rfl 0 rfl ?_
  refine jj_iload_n hC dX10_canFinishBySimulation_1 rfl 1 rfl ?_
  obtain ⟨q1, hq1, h⟩ := bd_e h
  refine jj_invV hC mvX10_canFinish wd2084 wd2085 wd2091 hs0 (by decide) rfl (xX10_canFinish (OKC.tr hC) hs0 hx1 hq1) rfl rfl (c_le rfl) (c_le rfl) (c_le rfl) (c_le rfl) dX10_canFinishBySimulation_2 noXk (po_kZ (fun hr1 => ?_))
  cases h
  exact jj_zret hC hr1 (c_le rfl) (c_le rfl) dX10_canFinishBySimulation_5 ⟨rfl, hr1, rfl, rfl, rfl, rfl, rfl⟩
def fX10_achievedDistance_B14 (ad S Ln : Nat → Nat) (R : gR) (M14 : gM) (l0_14 : Nat) (l1_14 : Int) (s0_14 : Int) (s1_14 : Nat) : Option (Int × gM) :=
  bd (fX10_isThrown ad S Ln R M14 s1_14 s0_14 1) fun q2 => if q2.1 = 0 then (bd (fX10_achieved ad S Ln R q2.2 l0_14 l1_14) fun q3 => some ((q3, q2.2))) else (some ((0, q2.2)))
def fX10_achievedDistance (ad S Ln : Nat → Nat) (R : gR) (M : gM) (a0 : Nat) (x1 : Int) : Option (Int × gM) :=
  bd (fX10_isPilot ad S Ln R M a0 x1) fun q1 => if ¬ q1 = 0 then (fX10_achievedDistance_B14 ad S Ln R M a0 x1 0 a0) else (fX10_achievedDistance_B14 ad S Ln R M a0 x1 1 a0)
theorem xX10_achievedDistance {l : Launch} {G : gE} {sz : Nat} {S Ln : Nat → Nat} {M : gM} {R : gR} (hl : l.stackTraces = false) {a0 : Nat} (hs0 : S a0 = 13) {x1 : Int} (hx1 : (-2147483648 ≤ x1 ∧ x1 < 2147483648)) {r : Int × gM} (h : fX10_achievedDistance G.2.2.2.2 S Ln R M a0 x1 = some r) : Ct l G yX10_achievedDistance cX10_achievedDistance 2 (some .int) 7 0 0 [.ref a0, .int (iI x1)] sz S Ln M R (poI r.1 sz S Ln (r.2) R) noX := by
  refine jj_start (own := RX10) (lv0 := [(0, .ref a0), (1, .int (iI x1))]) hl (by decide +kernel) rfl rfl (c_le rfl) (fun C hCl hC => ?_)
  have hB14 : ∀ (M14 : gM) (l0_14 : Nat) (l1_14 : Int) (s0_14 : Int) (s1_14 : Nat), S l0_14 = 13 → (-2147483648 ≤ l1_14 ∧ l1_14 < 2147483648) → (0 ≤ s0_14 ∧ s0_14 ≤ 1) → S s1_14 = 13 → fX10_achievedDistance_B14 G.2.2.2.2 S Ln R M14 l0_14 l1_14 s0_14 s1_14 = some r → JJ G C 0 0 sz S Ln M14 R 14 [(0, .ref l0_14), (1, .int (iI l1_14))] [.int (iI s0_14), .ref s1_14] := by
    intro M14 l0_14 l1_14 s0_14 s1_14 hl0_14 hl1_14 hs0_14 hs1_14 h
    unfold fX10_achievedDistance_B14 at h
    refine jj_iconst hC dX10_achievedDistance_14 ?_
    obtain ⟨q2, hq2, h⟩ := bd_e h
    refine jj_invV hC mvX10_isThrown wd1791 wd24 wd1789 hs1_14 (by decide) rfl (xX10_isThrown (OKC.tr hC) hs1_14 hs0_14 (show (-2147483648 ≤ (1 : Int) ∧ (1 : Int) < 2147483648) from by decide) hq2) rfl rfl (c_le rfl) (c_le rfl) (c_le rfl) (c_le rfl) dX10_achievedDistance_15 noXk (po_kZ (fun hr2 => ?_))
    refine jj_if_eq (tgt := 25) hC dX10_achievedDistance_18 rfl (r_z hr2) (fun hc => ?_) (fun hc => ?_)
    · replace h := (if_pos hc).symm.trans h
      refine jj_aload_n hC dX10_achievedDistance_25 rfl 0 rfl ?_
      refine jj_iload_n hC dX10_achievedDistance_26 rfl 1 rfl ?_
      obtain ⟨q3, hq3, h⟩ := bd_e h
      refine jj_invV hC mvX10_achieved wd1952 wd52 wd1950 hl0_14 (by decide) rfl (xX10_achieved (OKC.tr hC) hl0_14 hl1_14 hq3) rfl rfl (c_le rfl) (c_le rfl) (c_le rfl) (c_le rfl) dX10_achievedDistance_27 noXk (po_kI (fun hr3 => ?_))
      cases h
      exact jj_iret hC (c_le rfl) (c_le rfl) dX10_achievedDistance_30 ⟨rfl, hr3, rfl, rfl, rfl, rfl, rfl⟩
    · replace h := (if_neg (hc)).symm.trans h
      refine jj_iconst hC dX10_achievedDistance_21 ?_
      refine jj_goto (tgt := 30) hC dX10_achievedDistance_22 rfl ?_
      cases h
      exact jj_iret hC (c_le rfl) (c_le rfl) dX10_achievedDistance_30 ⟨rfl, (show (-2147483648 ≤ (0 : Int) ∧ (0 : Int) < 2147483648) from by decide), rfl, rfl, rfl, rfl, rfl⟩
  unfold fX10_achievedDistance at h
  refine jj_aload_n hC dX10_achievedDistance_0 rfl 0 rfl ?_
  refine jj_aload_n hC dX10_achievedDistance_1 rfl 0 rfl ?_
  refine jj_iload_n hC dX10_achievedDistance_2 rfl 1 rfl ?_
  obtain ⟨q1, hq1, h⟩ := bd_e h
  refine jj_invV hC mvX10_isPilot wd1890 wd41 wd1888 hs0 (by decide) rfl (xX10_isPilot (OKC.tr hC) hs0 hx1 hq1) rfl rfl (c_le rfl) (c_le rfl) (c_le rfl) (c_le rfl) dX10_achievedDistance_3 noXk (po_kZ (fun hr1 => ?_))
  refine jj_if_ne (tgt := 13) hC dX10_achievedDistance_6 rfl (r_z hr1) (fun hc => ?_) (fun hc => ?_)
  · replace h := (if_pos hc).symm.trans h
    refine jj_iconst hC dX10_achievedDistance_13 ?_
    refine jj_lv (lv' := [(0, .ref a0), (1, .int (iI x1))]) [0, 1] rfl ?_
    exact hB14 M a0 x1 0 a0 hs0 hx1 (show (0 ≤ (0 : Int) ∧ (0 : Int) ≤ 1) from by decide) hs0 h
  · replace h := (if_neg (fun k => k hc)).symm.trans h
    refine jj_iconst hC dX10_achievedDistance_9 ?_
    refine jj_goto (tgt := 14) hC dX10_achievedDistance_10 rfl ?_
    refine jj_lv (lv' := [(0, .ref a0), (1, .int (iI x1))]) [0, 1] rfl ?_
    exact hB14 M a0 x1 1 a0 hs0 hx1 (show (0 ≤ (1 : Int) ∧ (1 : Int) ≤ 1) from by decide) hs0 h
def fX10_dayScore_B14 (ad S Ln : Nat → Nat) (R : gR) (M14 : gM) (l0_14 : Nat) (l1_14 : Int) (s0_14 : Int) (s1_14 : Nat) : Option (Int × gM) :=
  bd (fX10_isThrown ad S Ln R M14 s1_14 s0_14 1) fun q2 => if q2.1 = 0 then (bd (fX10_score ad S Ln R q2.2 l0_14 l1_14) fun q3 => some ((q3, q2.2))) else (some ((0, q2.2)))
def fX10_dayScore (ad S Ln : Nat → Nat) (R : gR) (M : gM) (a0 : Nat) (x1 : Int) : Option (Int × gM) :=
  bd (fX10_isPilot ad S Ln R M a0 x1) fun q1 => if ¬ q1 = 0 then (fX10_dayScore_B14 ad S Ln R M a0 x1 0 a0) else (fX10_dayScore_B14 ad S Ln R M a0 x1 1 a0)
theorem xX10_dayScore {l : Launch} {G : gE} {sz : Nat} {S Ln : Nat → Nat} {M : gM} {R : gR} (hl : l.stackTraces = false) {a0 : Nat} (hs0 : S a0 = 13) {x1 : Int} (hx1 : (-2147483648 ≤ x1 ∧ x1 < 2147483648)) {r : Int × gM} (h : fX10_dayScore G.2.2.2.2 S Ln R M a0 x1 = some r) : Ct l G yX10_dayScore cX10_dayScore 2 (some .int) 8 0 0 [.ref a0, .int (iI x1)] sz S Ln M R (poI r.1 sz S Ln (r.2) R) noX := by
  refine jj_start (own := RX10) (lv0 := [(0, .ref a0), (1, .int (iI x1))]) hl (by decide +kernel) rfl rfl (c_le rfl) (fun C hCl hC => ?_)
  have hB14 : ∀ (M14 : gM) (l0_14 : Nat) (l1_14 : Int) (s0_14 : Int) (s1_14 : Nat), S l0_14 = 13 → (-2147483648 ≤ l1_14 ∧ l1_14 < 2147483648) → (0 ≤ s0_14 ∧ s0_14 ≤ 1) → S s1_14 = 13 → fX10_dayScore_B14 G.2.2.2.2 S Ln R M14 l0_14 l1_14 s0_14 s1_14 = some r → JJ G C 0 0 sz S Ln M14 R 14 [(0, .ref l0_14), (1, .int (iI l1_14))] [.int (iI s0_14), .ref s1_14] := by
    intro M14 l0_14 l1_14 s0_14 s1_14 hl0_14 hl1_14 hs0_14 hs1_14 h
    unfold fX10_dayScore_B14 at h
    refine jj_iconst hC dX10_dayScore_14 ?_
    obtain ⟨q2, hq2, h⟩ := bd_e h
    refine jj_invV hC mvX10_isThrown wd1791 wd24 wd1789 hs1_14 (by decide) rfl (xX10_isThrown (OKC.tr hC) hs1_14 hs0_14 (show (-2147483648 ≤ (1 : Int) ∧ (1 : Int) < 2147483648) from by decide) hq2) rfl rfl (c_le rfl) (c_le rfl) (c_le rfl) (c_le rfl) dX10_dayScore_15 noXk (po_kZ (fun hr2 => ?_))
    refine jj_if_eq (tgt := 25) hC dX10_dayScore_18 rfl (r_z hr2) (fun hc => ?_) (fun hc => ?_)
    · replace h := (if_pos hc).symm.trans h
      refine jj_aload_n hC dX10_dayScore_25 rfl 0 rfl ?_
      refine jj_iload_n hC dX10_dayScore_26 rfl 1 rfl ?_
      obtain ⟨q3, hq3, h⟩ := bd_e h
      refine jj_invV hC mvX10_score wd1948 wd51 wd1946 hl0_14 (by decide) rfl (xX10_score (OKC.tr hC) hl0_14 hl1_14 hq3) rfl rfl (c_le rfl) (c_le rfl) (c_le rfl) (c_le rfl) dX10_dayScore_27 noXk (po_kI (fun hr3 => ?_))
      cases h
      exact jj_iret hC (c_le rfl) (c_le rfl) dX10_dayScore_30 ⟨rfl, hr3, rfl, rfl, rfl, rfl, rfl⟩
    · replace h := (if_neg (hc)).symm.trans h
      refine jj_iconst hC dX10_dayScore_21 ?_
      refine jj_goto (tgt := 30) hC dX10_dayScore_22 rfl ?_
      cases h
      exact jj_iret hC (c_le rfl) (c_le rfl) dX10_dayScore_30 ⟨rfl, (show (-2147483648 ≤ (0 : Int) ∧ (0 : Int) < 2147483648) from by decide), rfl, rfl, rfl, rfl, rfl⟩
  unfold fX10_dayScore at h
  refine jj_aload_n hC dX10_dayScore_0 rfl 0 rfl ?_
  refine jj_aload_n hC dX10_dayScore_1 rfl 0 rfl ?_
  refine jj_iload_n hC dX10_dayScore_2 rfl 1 rfl ?_
  obtain ⟨q1, hq1, h⟩ := bd_e h
  refine jj_invV hC mvX10_isPilot wd1890 wd41 wd1888 hs0 (by decide) rfl (xX10_isPilot (OKC.tr hC) hs0 hx1 hq1) rfl rfl (c_le rfl) (c_le rfl) (c_le rfl) (c_le rfl) dX10_dayScore_3 noXk (po_kZ (fun hr1 => ?_))
  refine jj_if_ne (tgt := 13) hC dX10_dayScore_6 rfl (r_z hr1) (fun hc => ?_) (fun hc => ?_)
  · replace h := (if_pos hc).symm.trans h
    refine jj_iconst hC dX10_dayScore_13 ?_
    refine jj_lv (lv' := [(0, .ref a0), (1, .int (iI x1))]) [0, 1] rfl ?_
    exact hB14 M a0 x1 0 a0 hs0 hx1 (show (0 ≤ (0 : Int) ∧ (0 : Int) ≤ 1) from by decide) hs0 h
  · replace h := (if_neg (fun k => k hc)).symm.trans h
    refine jj_iconst hC dX10_dayScore_9 ?_
    refine jj_goto (tgt := 14) hC dX10_dayScore_10 rfl ?_
    refine jj_lv (lv' := [(0, .ref a0), (1, .int (iI x1))]) [0, 1] rfl ?_
    exact hB14 M a0 x1 1 a0 hs0 hx1 (show (0 ≤ (1 : Int) ∧ (1 : Int) ≤ 1) from by decide) hs0 h
def fX10_total_B14 (ad S Ln : Nat → Nat) (R : gR) (M14 : gM) (l0_14 : Nat) (l1_14 : Int) (s0_14 : Int) (s1_14 : Nat) : Option (Int × gM) :=
  bd (fX10_isThrown ad S Ln R M14 s1_14 s0_14 1) fun q2 => if q2.1 = 0 then (bd (fX10_of ad S Ln R q2.2 l0_14 l1_14 8) fun q3 => some ((q3, q2.2))) else (some ((0, q2.2)))
def fX10_total (ad S Ln : Nat → Nat) (R : gR) (M : gM) (a0 : Nat) (x1 : Int) : Option (Int × gM) :=
  bd (fX10_isPilot ad S Ln R M a0 x1) fun q1 => if ¬ q1 = 0 then (fX10_total_B14 ad S Ln R M a0 x1 0 a0) else (fX10_total_B14 ad S Ln R M a0 x1 1 a0)
theorem xX10_total {l : Launch} {G : gE} {sz : Nat} {S Ln : Nat → Nat} {M : gM} {R : gR} (hl : l.stackTraces = false) {a0 : Nat} (hs0 : S a0 = 13) {x1 : Int} (hx1 : (-2147483648 ≤ x1 ∧ x1 < 2147483648)) {r : Int × gM} (h : fX10_total G.2.2.2.2 S Ln R M a0 x1 = some r) : Ct l G yX10_total cX10_total 2 (some .long) 3 0 0 [.ref a0, .int (iI x1)] sz S Ln M R (poL r.1 sz S Ln (r.2) R) noX := by
  refine jj_start (own := RX10) (lv0 := [(0, .ref a0), (1, .int (iI x1))]) hl (by decide +kernel) rfl rfl (c_le rfl) (fun C hCl hC => ?_)
  have hB14 : ∀ (M14 : gM) (l0_14 : Nat) (l1_14 : Int) (s0_14 : Int) (s1_14 : Nat), S l0_14 = 13 → (-2147483648 ≤ l1_14 ∧ l1_14 < 2147483648) → (0 ≤ s0_14 ∧ s0_14 ≤ 1) → S s1_14 = 13 → fX10_total_B14 G.2.2.2.2 S Ln R M14 l0_14 l1_14 s0_14 s1_14 = some r → JJ G C 0 0 sz S Ln M14 R 14 [(0, .ref l0_14), (1, .int (iI l1_14))] [.int (iI s0_14), .ref s1_14] := by
    intro M14 l0_14 l1_14 s0_14 s1_14 hl0_14 hl1_14 hs0_14 hs1_14 h
    unfold fX10_total_B14 at h
    refine jj_iconst hC dX10_total_14 ?_
    obtain ⟨q2, hq2, h⟩ := bd_e h
    refine jj_invV hC mvX10_isThrown wd1791 wd24 wd1789 hs1_14 (by decide) rfl (xX10_isThrown (OKC.tr hC) hs1_14 hs0_14 (show (-2147483648 ≤ (1 : Int) ∧ (1 : Int) < 2147483648) from by decide) hq2) rfl rfl (c_le rfl) (c_le rfl) (c_le rfl) (c_le rfl) dX10_total_15 noXk (po_kZ (fun hr2 => ?_))
    refine jj_if_eq (tgt := 25) hC dX10_total_18 rfl (r_z hr2) (fun hc => ?_) (fun hc => ?_)
    · replace h := (if_pos hc).symm.trans h
      refine jj_aload_n hC dX10_total_25 rfl 0 rfl ?_
      refine jj_iload_n hC dX10_total_26 rfl 1 rfl ?_
      refine jj_bipush hC dX10_total_27 (by decide) ?_
      obtain ⟨q3, hq3, h⟩ := bd_e h
      refine jj_invV hC mvX10_of wd1815 wd29 wd1813 hl0_14 (by decide) rfl (xX10_of (OKC.tr hC) hl0_14 hl1_14 (show (-2147483648 ≤ (8 : Int) ∧ (8 : Int) < 2147483648) from by decide) hq3) rfl rfl (c_le rfl) (c_le rfl) (c_le rfl) (c_le rfl) dX10_total_29 noXk (po_kI (fun hr3 => ?_))
      refine jj_i2l hC dX10_total_32 hr3 ?_
      cases h
      exact jj_lret hC (c_le rfl) (c_le rfl) dX10_total_33 ⟨rfl, (r_il hr3), rfl, rfl, rfl, rfl, rfl⟩
    · replace h := (if_neg (hc)).symm.trans h
      refine jj_lconst (z := 0) hC dX10_total_21 rfl ?_
      refine jj_goto (tgt := 33) hC dX10_total_22 rfl ?_
      cases h
      exact jj_lret hC (c_le rfl) (c_le rfl) dX10_total_33 ⟨rfl, (show (-9223372036854775808 ≤ (0 : Int) ∧ (0 : Int) < 9223372036854775808) from by decide), rfl, rfl, rfl, rfl, rfl⟩
  unfold fX10_total at h
  refine jj_aload_n hC dX10_total_0 rfl 0 rfl ?_
  refine jj_aload_n hC dX10_total_1 rfl 0 rfl ?_
  refine jj_iload_n hC dX10_total_2 rfl 1 rfl ?_
  obtain ⟨q1, hq1, h⟩ := bd_e h
  refine jj_invV hC mvX10_isPilot wd1890 wd41 wd1888 hs0 (by decide) rfl (xX10_isPilot (OKC.tr hC) hs0 hx1 hq1) rfl rfl (c_le rfl) (c_le rfl) (c_le rfl) (c_le rfl) dX10_total_3 noXk (po_kZ (fun hr1 => ?_))
  refine jj_if_ne (tgt := 13) hC dX10_total_6 rfl (r_z hr1) (fun hc => ?_) (fun hc => ?_)
  · replace h := (if_pos hc).symm.trans h
    refine jj_iconst hC dX10_total_13 ?_
    refine jj_lv (lv' := [(0, .ref a0), (1, .int (iI x1))]) [0, 1] rfl ?_
    exact hB14 M a0 x1 0 a0 hs0 hx1 (show (0 ≤ (0 : Int) ∧ (0 : Int) ≤ 1) from by decide) hs0 h
  · replace h := (if_neg (fun k => k hc)).symm.trans h
    refine jj_iconst hC dX10_total_9 ?_
    refine jj_goto (tgt := 14) hC dX10_total_10 rfl ?_
    refine jj_lv (lv' := [(0, .ref a0), (1, .int (iI x1))]) [0, 1] rfl ?_
    exact hB14 M a0 x1 1 a0 hs0 hx1 (show (0 ≤ (1 : Int) ∧ (1 : Int) ≤ 1) from by decide) hs0 h
def fX10_isAhead (ad S Ln : Nat → Nat) (R : gR) (M : gM) (a0 : Nat) (x1 : Int) (x2 : Int) : Option Int :=
  bd (fX10_of ad S Ln R M a0 x1 8) fun q1 => bd (fX10_score ad S Ln R M a0 x1) fun q2 => bd (fX10_of ad S Ln R M a0 x2 8) fun q3 => bd (fX10_score ad S Ln R M a0 x2) fun q4 => if (w32 ((w32 ((w32 (q1 + q2)) - q3)) - q4)) = 0 then (bd (fX10_of ad S Ln R M a0 x2 6) fun q5 => bd (fX10_of ad S Ln R M a0 x1 6) fun q6 => if (w32 (q5 - q6)) = 0 then (if x2 ≤ x1 then (some (0)) else (some (1))) else (if (w32 (q5 - q6)) ≤ 0 then (some (0)) else (some (1)))) else (if (w32 ((w32 ((w32 (q1 + q2)) - q3)) - q4)) ≤ 0 then (some (0)) else (some (1)))
theorem xX10_isAhead {l : Launch} {G : gE} {sz : Nat} {S Ln : Nat → Nat} {M : gM} {R : gR} (hl : l.stackTraces = false) {a0 : Nat} (hs0 : S a0 = 13) {x1 : Int} (hx1 : (-2147483648 ≤ x1 ∧ x1 < 2147483648)) {x2 : Int} (hx2 : (-2147483648 ≤ x2 ∧ x2 < 2147483648)) {r : Int} (h : fX10_isAhead G.2.2.2.2 S Ln R M a0 x1 x2 = some r) : Ct l G yX10_isAhead cX10_isAhead 5 (some .boolean) 8 0 0 [.ref a0, .int (iI x1), .int (iI x2)] sz S Ln M R (poZ r sz S Ln (M) R) noX := by
  refine jj_start (own := RX10) (lv0 := [(0, .ref a0), (1, .int (iI x1)), (2, .int (iI x2))]) hl (by decide +kernel) rfl rfl (c_le rfl) (fun C hCl hC => ?_)
  unfold fX10_isAhead at h
  refine jj_aload_n hC dX10_isAhead_0 rfl 0 rfl ?_
  refine jj_iload_n hC dX10_isAhead_1 rfl 1 rfl ?_
  refine jj_bipush hC dX10_isAhead_2 (by decide) ?_
  obtain ⟨q1, hq1, h⟩ := bd_e h
  refine jj_invV hC mvX10_of wd1815 wd29 wd1813 hs0 (by decide) rfl (xX10_of (OKC.tr hC) hs0 hx1 (show (-2147483648 ≤ (8 : Int) ∧ (8 : Int) < 2147483648) from by decide) hq1) rfl rfl (c_le rfl) (c_le rfl) (c_le rfl) (c_le rfl) dX10_isAhead_4 noXk (po_kI (fun hr1 => ?_))
  refine jj_aload_n hC dX10_isAhead_7 rfl 0 rfl ?_
  refine jj_iload_n hC dX10_isAhead_8 rfl 1 rfl ?_
  obtain ⟨q2, hq2, h⟩ := bd_e h
  refine jj_invV hC mvX10_score wd1948 wd51 wd1946 hs0 (by decide) rfl (xX10_score (OKC.tr hC) hs0 hx1 hq2) rfl rfl (c_le rfl) (c_le rfl) (c_le rfl) (c_le rfl) dX10_isAhead_9 noXk (po_kI (fun hr2 => ?_))
  refine jg_iadd hC dX10_isAhead_12 ?_
  refine jj_aload_n hC dX10_isAhead_13 rfl 0 rfl ?_
  refine jj_iload_n hC dX10_isAhead_14 rfl 2 rfl ?_
  refine jj_bipush hC dX10_isAhead_15 (by decide) ?_
  obtain ⟨q3, hq3, h⟩ := bd_e h
  refine jj_invV hC mvX10_of wd1815 wd29 wd1813 hs0 (by decide) rfl (xX10_of (OKC.tr hC) hs0 hx2 (show (-2147483648 ≤ (8 : Int) ∧ (8 : Int) < 2147483648) from by decide) hq3) rfl rfl (c_le rfl) (c_le rfl) (c_le rfl) (c_le rfl) dX10_isAhead_17 noXk (po_kI (fun hr3 => ?_))
  refine jg_isub hC dX10_isAhead_20 ?_
  refine jj_aload_n hC dX10_isAhead_21 rfl 0 rfl ?_
  refine jj_iload_n hC dX10_isAhead_22 rfl 2 rfl ?_
  obtain ⟨q4, hq4, h⟩ := bd_e h
  refine jj_invV hC mvX10_score wd1948 wd51 wd1946 hs0 (by decide) rfl (xX10_score (OKC.tr hC) hs0 hx2 hq4) rfl rfl (c_le rfl) (c_le rfl) (c_le rfl) (c_le rfl) dX10_isAhead_23 noXk (po_kI (fun hr4 => ?_))
  refine jg_isub hC dX10_isAhead_26 ?_
  refine jj_istore_n (lv' := [(3, .int (iI (w32 ((w32 ((w32 (q1 + q2)) - q3)) - q4)))), (0, .ref a0), (1, .int (iI x1)), (2, .int (iI x2))]) hC dX10_isAhead_27 rfl (by decide) rfl ?_
  refine jj_iload_n hC dX10_isAhead_28 rfl 0 rfl ?_
  refine jj_if_eq (tgt := 42) hC dX10_isAhead_29 rfl (w32_r _) (fun hc => ?_) (fun hc => ?_)
  · replace h := (if_pos hc).symm.trans h
    refine jj_aload_n hC dX10_isAhead_42 rfl 1 rfl ?_
    refine jj_iload_n hC dX10_isAhead_43 rfl 3 rfl ?_
    refine jj_bipush hC dX10_isAhead_44 (by decide) ?_
    obtain ⟨q5, hq5, h⟩ := bd_e h
    refine jj_invV hC mvX10_of wd1815 wd29 wd1813 hs0 (by decide) rfl (xX10_of (OKC.tr hC) hs0 hx2 (show (-2147483648 ≤ (6 : Int) ∧ (6 : Int) < 2147483648) from by decide) hq5) rfl rfl (c_le rfl) (c_le rfl) (c_le rfl) (c_le rfl) dX10_isAhead_46 noXk (po_kI (fun hr5 => ?_))
    refine jj_aload_n hC dX10_isAhead_49 rfl 1 rfl ?_
    refine jj_iload_n hC dX10_isAhead_50 rfl 2 rfl ?_
    refine jj_bipush hC dX10_isAhead_51 (by decide) ?_
    obtain ⟨q6, hq6, h⟩ := bd_e h
    refine jj_invV hC mvX10_of wd1815 wd29 wd1813 hs0 (by decide) rfl (xX10_of (OKC.tr hC) hs0 hx1 (show (-2147483648 ≤ (6 : Int) ∧ (6 : Int) < 2147483648) from by decide) hq6) rfl rfl (c_le rfl) (c_le rfl) (c_le rfl) (c_le rfl) dX10_isAhead_53 noXk (po_kI (fun hr6 => ?_))
    refine jg_isub hC dX10_isAhead_56 ?_
    refine jj_istore (lv' := [(4, .int (iI (w32 (q5 - q6)))), (3, .int (iI (w32 ((w32 ((w32 (q1 + q2)) - q3)) - q4)))), (0, .ref a0), (1, .int (iI x1)), (2, .int (iI x2))]) hC dX10_isAhead_57 (by decide) rfl ?_
    refine jj_iload hC dX10_isAhead_59 0 rfl ?_
    refine jj_if_eq (tgt := 77) hC dX10_isAhead_61 rfl (w32_r _) (fun hc => ?_) (fun hc => ?_)
    · replace h := (if_pos hc).symm.trans h
      refine jj_iload_n hC dX10_isAhead_77 rfl 3 rfl ?_
      refine jj_iload_n hC dX10_isAhead_78 rfl 4 rfl ?_
      refine jj_icmp_ge (tgt := 86) hC dX10_isAhead_79 rfl hx1 hx2 (fun hc => ?_) (fun hc => ?_)
      · replace h := (if_pos hc).symm.trans h
        refine jj_iconst hC dX10_isAhead_86 ?_
        cases h
        exact jj_zret hC (show (0 ≤ (0 : Int) ∧ (0 : Int) ≤ 1) from by decide) (c_le rfl) (c_le rfl) dX10_isAhead_87 ⟨rfl, (show (0 ≤ (0 : Int) ∧ (0 : Int) ≤ 1) from by decide), rfl, rfl, rfl, rfl, rfl⟩
      · replace h := (if_neg (Int.not_le.mpr hc)).symm.trans h
        refine jj_iconst hC dX10_isAhead_82 ?_
        refine jj_goto (tgt := 87) hC dX10_isAhead_83 rfl ?_
        cases h
        exact jj_zret hC (show (0 ≤ (1 : Int) ∧ (1 : Int) ≤ 1) from by decide) (c_le rfl) (c_le rfl) dX10_isAhead_87 ⟨rfl, (show (0 ≤ (1 : Int) ∧ (1 : Int) ≤ 1) from by decide), rfl, rfl, rfl, rfl, rfl⟩
    · replace h := (if_neg (hc)).symm.trans h
      refine jj_iload hC dX10_isAhead_64 0 rfl ?_
      refine jj_if_le (tgt := 73) hC dX10_isAhead_66 rfl (w32_r _) (fun hc => ?_) (fun hc => ?_)
      · replace h := (if_pos hc).symm.trans h
        refine jj_iconst hC dX10_isAhead_73 ?_
        refine jj_goto (tgt := 87) hC dX10_isAhead_74 rfl ?_
        cases h
        exact jj_zret hC (show (0 ≤ (0 : Int) ∧ (0 : Int) ≤ 1) from by decide) (c_le rfl) (c_le rfl) dX10_isAhead_87 ⟨rfl, (show (0 ≤ (0 : Int) ∧ (0 : Int) ≤ 1) from by decide), rfl, rfl, rfl, rfl, rfl⟩
      · replace h := (if_neg (Int.not_le.mpr hc)).symm.trans h
        refine jj_iconst hC dX10_isAhead_69 ?_
        refine jj_goto (tgt := 87) hC dX10_isAhead_70 rfl ?_
        cases h
        exact jj_zret hC (show (0 ≤ (1 : Int) ∧ (1 : Int) ≤ 1) from by decide) (c_le rfl) (c_le rfl) dX10_isAhead_87 ⟨rfl, (show (0 ≤ (1 : Int) ∧ (1 : Int) ≤ 1) from by decide), rfl, rfl, rfl, rfl, rfl⟩
  · replace h := (if_neg (hc)).symm.trans h
    refine jj_iload_n hC dX10_isAhead_32 rfl 0 rfl ?_
    refine jj_if_le (tgt := 40) hC dX10_isAhead_33 rfl (w32_r _) (fun hc => ?_) (fun hc => ?_)
    · replace h := (if_pos hc).symm.trans h
      refine jj_iconst hC dX10_isAhead_40 ?_
      cases h
      exact jj_zret hC (show (0 ≤ (0 : Int) ∧ (0 : Int) ≤ 1) from by decide) (c_le rfl) (c_le rfl) dX10_isAhead_41 ⟨rfl, (show (0 ≤ (0 : Int) ∧ (0 : Int) ≤ 1) from by decide), rfl, rfl, rfl, rfl, rfl⟩
    · replace h := (if_neg (Int.not_le.mpr hc)).symm.trans h
      refine jj_iconst hC dX10_isAhead_36 ?_
      refine jj_goto (tgt := 41) hC dX10_isAhead_37 rfl ?_
      cases h
      exact jj_zret hC (show (0 ≤ (1 : Int) ∧ (1 : Int) ≤ 1) from by decide) (c_le rfl) (c_le rfl) dX10_isAhead_41 ⟨rfl, (show (0 ≤ (1 : Int) ∧ (1 : Int) ≤ 1) from by decide), rfl, rfl, rfl, rfl, rfl⟩
def fX10_pilotAtRank_B50 (ad S Ln : Nat → Nat) (R : gR) (M17 : gM) (l0_17 : Nat) (l1_17 : Int) (l2_17 : Int) (l4_50 : Int) (s0_50 : Int) (s1_50 : Int) : Option ((Int × Int) ⊕ ((Int) ⊕ (Int × gM))) :=
  some (.inl (w32 (s1_50 + s0_50), w32 (l4_50 + 1)))
def fX10_pilotAtRank_B49 (ad S Ln : Nat → Nat) (R : gR) (M17 : gM) (l0_17 : Nat) (l1_17 : Int) (l2_17 : Int) (l4_49 : Int) (s0_49 : Int) : Option ((Int × Int) ⊕ ((Int) ⊕ (Int × gM))) :=
  fX10_pilotAtRank_B50 ad S Ln R M17 l0_17 l1_17 l2_17 l4_49 0 s0_49
def fX10_pilotAtRank_L17 (ad S Ln : Nat → Nat) (R : gR) (M17 : gM) (l0_17 : Nat) (l1_17 : Int) (l2_17 : Int) (s17 : Int × Int) : Option ((Int × Int) ⊕ ((Int) ⊕ (Int × gM))) :=
  rf S (R l0_17 0) 20 fun b3 => gd ((0 : Int) ≤ 4 ∧ 4 < (Ln b3 : Int)) (if (M17 b3 4) ≤ s17.2 then (some (.inr (.inl s17.1))) else (if s17.2 = l2_17 then (fX10_pilotAtRank_B49 ad S Ln R M17 l0_17 l1_17 l2_17 s17.2 s17.1) else (bd (fX10_isAhead ad S Ln R M17 l0_17 s17.2 l2_17) fun q5 => if q5 = 0 then (fX10_pilotAtRank_B49 ad S Ln R M17 l0_17 l1_17 l2_17 s17.2 s17.1) else (fX10_pilotAtRank_B50 ad S Ln R M17 l0_17 l1_17 l2_17 s17.2 1 s17.1))))
def fX10_pilotAtRank_L2 (ad S Ln : Nat → Nat) (R : gR) (M2 : gM) (l0_2 : Nat) (l1_2 : Int) (s2 : Int) : Option ((Int) ⊕ ((Unit) ⊕ (Int × gM))) :=
  rf S (R l0_2 0) 20 fun b1 => gd ((0 : Int) ≤ 4 ∧ 4 < (Ln b1 : Int)) (if (M2 b1 4) ≤ s2 then (some (.inr (.inl ()))) else (bd (lp (fX10_pilotAtRank_L17 ad S Ln R M2 l0_2 l1_2 s2) FU (0, 0)) fun q8 => Sum.elim (fun e17_6 => if ¬ e17_6 = l1_2 then (some (.inl (w32 (s2 + 1)))) else (nam (wr M2 l0_2 5 0) fun M7 => some (.inr (.inr ((s2, M7)))))) (fun c8 => some (.inr (.inr c8))) q8))
def fX10_pilotAtRank (ad S Ln : Nat → Nat) (R : gR) (M : gM) (a0 : Nat) (x1 : Int) : Option (Int × gM) :=
  bd (lp (fX10_pilotAtRank_L2 ad S Ln R M a0 x1) FU 0) fun q11 => Sum.elim (fun e2_9 => nam (wr M a0 5 1) fun M10 => some ((0, M10))) (fun c11 => some c11) q11
theorem xX10_pilotAtRank {l : Launch} {G : gE} {sz : Nat} {S Ln : Nat → Nat} {M : gM} {R : gR} (hl : l.stackTraces = false) {a0 : Nat} (hs0 : S a0 = 13) {x1 : Int} (hx1 : (-2147483648 ≤ x1 ∧ x1 < 2147483648)) {r : Int × gM} (h : fX10_pilotAtRank G.2.2.2.2 S Ln R M a0 x1 = some r) : Ct l G yX10_pilotAtRank cX10_pilotAtRank 5 (some .int) 9 0 0 [.ref a0, .int (iI x1)] sz S Ln M R (poI r.1 sz S Ln (r.2) R) noX := by
  refine jj_start (own := RX10) (lv0 := [(0, .ref a0), (1, .int (iI x1))]) hl (by decide +kernel) rfl rfl (c_le rfl) (fun C hCl hC => ?_)
  have hL2 : ∀ (M2 : gM) (l0_2 : Nat) (l1_2 : Int), S l0_2 = 13 → (-2147483648 ≤ l1_2 ∧ l1_2 < 2147483648) → ∀ (n : Nat) (s2 : Int) (q : (Unit) ⊕ (Int × gM)), lp (fX10_pilotAtRank_L2 G.2.2.2.2 S Ln R M2 l0_2 l1_2) n s2 = some q → (-2147483648 ≤ s2 ∧ s2 < 2147483648) → (∀ e2, q = .inl e2 → True → JJ G C 0 0 sz S Ln M2 R 76 [(0, .ref l0_2)] []) → (∀ c, q = .inr c → c = r) → JJ G C 0 0 sz S Ln M2 R 2 [(0, .ref l0_2), (1, .int (iI l1_2)), (2, .int (iI s2))] [] := by
    intro M2 l0_2 l1_2 hl0_2 hl1_2
    refine lp_ind ?_
    intro s2 r2 hI2 h hJ2 hE2 hR2
    have hs2_0 := hI2
    have hL17 : ∀ (M17 : gM) (l0_17 : Nat) (l1_17 : Int) (l2_17 : Int), S l0_17 = 13 → (-2147483648 ≤ l1_17 ∧ l1_17 < 2147483648) → (-2147483648 ≤ l2_17 ∧ l2_17 < 2147483648) → ∀ (n : Nat) (s17 : Int × Int) (q : (Int) ⊕ (Int × gM)), lp (fX10_pilotAtRank_L17 G.2.2.2.2 S Ln R M17 l0_17 l1_17 l2_17) n s17 = some q → (-2147483648 ≤ s17.1 ∧ s17.1 < 2147483648) ∧ (-2147483648 ≤ s17.2 ∧ s17.2 < 2147483648) → (∀ e17, q = .inl e17 → (-2147483648 ≤ e17 ∧ e17 < 2147483648) → JJ G C 0 0 sz S Ln M17 R 58 [(0, .ref l0_17), (1, .int (iI l1_17)), (2, .int (iI l2_17)), (3, .int (iI e17))] []) → (∀ c, q = .inr c → c = r) → JJ G C 0 0 sz S Ln M17 R 17 [(0, .ref l0_17), (1, .int (iI l1_17)), (2, .int (iI l2_17)), (3, .int (iI s17.1)), (4, .int (iI s17.2))] [] := by
      intro M17 l0_17 l1_17 l2_17 hl0_17 hl1_17 hl2_17
      refine lp_ind ?_
      intro s17 r17 hI17 h hJ17 hE17 hR17
      obtain ⟨hs17_0, hs17_1⟩ := hI17
      have hB50 : ∀ (l4_50 : Int) (s0_50 : Int) (s1_50 : Int), (-2147483648 ≤ l4_50 ∧ l4_50 < 2147483648) → (0 ≤ s0_50 ∧ s0_50 ≤ 1) → (-2147483648 ≤ s1_50 ∧ s1_50 < 2147483648) → fX10_pilotAtRank_B50 G.2.2.2.2 S Ln R M17 l0_17 l1_17 l2_17 l4_50 s0_50 s1_50 = some r17 → JJ G C 0 0 sz S Ln M17 R 50 [(0, .ref l0_17), (1, .int (iI l1_17)), (2, .int (iI l2_17)), (4, .int (iI l4_50))] [.int (iI s0_50), .int (iI s1_50)] := by
        intro l4_50 s0_50 s1_50 hl4_50 hs0_50 hs1_50 h
        unfold fX10_pilotAtRank_B50 at h
        refine jg_iadd hC dX10_pilotAtRank_50 ?_
        refine jj_istore_n (lv' := [(3, .int (iI (w32 (s1_50 + s0_50)))), (0, .ref l0_17), (1, .int (iI l1_17)), (2, .int (iI l2_17)), (4, .int (iI l4_50))]) hC dX10_pilotAtRank_51 rfl (by decide) rfl ?_
        refine jg_iinc (q := 4) (lv' := [(4, .int (iI (w32 (l4_50 + 1)))), (3, .int (iI (w32 (s1_50 + s0_50)))), (0, .ref l0_17), (1, .int (iI l1_17)), (2, .int (iI l2_17))]) hC dX10_pilotAtRank_52 rfl (by decide) rfl ?_
        refine jj_goto (tgt := 17) hC dX10_pilotAtRank_55 rfl ?_
        refine jj_lv (lv' := [(0, .ref l0_17), (1, .int (iI l1_17)), (2, .int (iI l2_17)), (3, .int (iI (w32 (s1_50 + s0_50)))), (4, .int (iI (w32 (l4_50 + 1))))]) [2, 3, 4, 1, 0] rfl ?_
        exact hJ17 _ (Option.some.inj h).symm ⟨(w32_r _), (w32_r _)⟩
      have hB49 : ∀ (l4_49 : Int) (s0_49 : Int), (-2147483648 ≤ l4_49 ∧ l4_49 < 2147483648) → (-2147483648 ≤ s0_49 ∧ s0_49 < 2147483648) → fX10_pilotAtRank_B49 G.2.2.2.2 S Ln R M17 l0_17 l1_17 l2_17 l4_49 s0_49 = some r17 → JJ G C 0 0 sz S Ln M17 R 49 [(0, .ref l0_17), (1, .int (iI l1_17)), (2, .int (iI l2_17)), (4, .int (iI l4_49))] [.int (iI s0_49)] := by
        intro l4_49 s0_49 hl4_49 hs0_49 h
        unfold fX10_pilotAtRank_B49 at h
        refine jj_iconst hC dX10_pilotAtRank_49 ?_
        refine jj_lv (lv' := [(0, .ref l0_17), (1, .int (iI l1_17)), (2, .int (iI l2_17)), (4, .int (iI l4_49))]) [0, 1, 2, 3] rfl ?_
        exact hB50 l4_49 0 s0_49 hl4_49 (show (0 ≤ (0 : Int) ∧ (0 : Int) ≤ 1) from by decide) hs0_49 h
      unfold fX10_pilotAtRank_L17 at h
      refine jj_iload hC dX10_pilotAtRank_17 4 rfl ?_
      refine jj_aload_n hC dX10_pilotAtRank_19 rfl 0 rfl ?_
      obtain ⟨b3, hb3, hs3, h⟩ := rf_e h
      refine jg_R hC kfX10 0 rfl hl0_17 (by decide) wd1709 rfl hb3 dX10_pilotAtRank_20 ?_
      refine jj_iconst hC dX10_pilotAtRank_23 ?_
      obtain ⟨⟨ha4, hb4⟩, h⟩ := gd_e h
      refine jj_iald hC hs3 ha4 hb4 dX10_pilotAtRank_24 (fun hr4 => ?_)
      refine jj_icmp_ge (tgt := 58) hC dX10_pilotAtRank_25 rfl hs17_1 hr4 (fun hc => ?_) (fun hc => ?_)
      · replace h := (if_pos hc).symm.trans h
        refine jj_lv (lv' := [(0, .ref l0_17), (1, .int (iI l1_17)), (2, .int (iI l2_17)), (3, .int (iI s17.1))]) [0, 1, 2, 3] rfl ?_
        exact hE17 _ (Option.some.inj h).symm hs17_0
      · replace h := (if_neg (Int.not_le.mpr hc)).symm.trans h
        refine jj_iload_n hC dX10_pilotAtRank_28 rfl 3 rfl ?_
        refine jj_iload hC dX10_pilotAtRank_29 4 rfl ?_
        refine jj_iload_n hC dX10_pilotAtRank_31 rfl 2 rfl ?_
        refine jj_icmp_eq (tgt := 49) hC dX10_pilotAtRank_32 rfl hs17_1 hl2_17 (fun hc => ?_) (fun hc => ?_)
        · replace h := (if_pos hc).symm.trans h
          refine jj_lv (lv' := [(0, .ref l0_17), (1, .int (iI l1_17)), (2, .int (iI l2_17)), (4, .int (iI s17.2))]) [0, 1, 2, 4] rfl ?_
          exact hB49 s17.2 s17.1 hs17_1 hs17_0 h
        · replace h := (if_neg (hc)).symm.trans h
          refine jj_aload_n hC dX10_pilotAtRank_35 rfl 0 rfl ?_
          refine jj_iload hC dX10_pilotAtRank_36 4 rfl ?_
          refine jj_iload_n hC dX10_pilotAtRank_38 rfl 2 rfl ?_
          obtain ⟨q5, hq5, h⟩ := bd_e h
          refine jj_invV hC mvX10_isAhead wd2110 wd62 wd2108 hl0_17 (by decide) rfl (xX10_isAhead (OKC.tr hC) hl0_17 hs17_1 hl2_17 hq5) rfl rfl (c_le rfl) (c_le rfl) (c_le rfl) (c_le rfl) dX10_pilotAtRank_39 noXk (po_kZ (fun hr5 => ?_))
          refine jj_if_eq (tgt := 49) hC dX10_pilotAtRank_42 rfl (r_z hr5) (fun hc => ?_) (fun hc => ?_)
          · replace h := (if_pos hc).symm.trans h
            refine jj_lv (lv' := [(0, .ref l0_17), (1, .int (iI l1_17)), (2, .int (iI l2_17)), (4, .int (iI s17.2))]) [0, 1, 2, 4] rfl ?_
            exact hB49 s17.2 s17.1 hs17_1 hs17_0 h
          · replace h := (if_neg (hc)).symm.trans h
            refine jj_iconst hC dX10_pilotAtRank_45 ?_
            refine jj_goto (tgt := 50) hC dX10_pilotAtRank_46 rfl ?_
            refine jj_lv (lv' := [(0, .ref l0_17), (1, .int (iI l1_17)), (2, .int (iI l2_17)), (4, .int (iI s17.2))]) [0, 1, 2, 4] rfl ?_
            exact hB50 s17.2 1 s17.1 hs17_1 (show (0 ≤ (1 : Int) ∧ (1 : Int) ≤ 1) from by decide) hs17_0 h
    unfold fX10_pilotAtRank_L2 at h
    refine jj_iload_n hC dX10_pilotAtRank_2 rfl 2 rfl ?_
    refine jj_aload_n hC dX10_pilotAtRank_3 rfl 0 rfl ?_
    obtain ⟨b1, hb1, hs1, h⟩ := rf_e h
    refine jg_R hC kfX10 0 rfl hl0_2 (by decide) wd1709 rfl hb1 dX10_pilotAtRank_4 ?_
    refine jj_iconst hC dX10_pilotAtRank_7 ?_
    obtain ⟨⟨ha2, hb2⟩, h⟩ := gd_e h
    refine jj_iald hC hs1 ha2 hb2 dX10_pilotAtRank_8 (fun hr2 => ?_)
    refine jj_icmp_ge (tgt := 76) hC dX10_pilotAtRank_9 rfl hs2_0 hr2 (fun hc => ?_) (fun hc => ?_)
    · replace h := (if_pos hc).symm.trans h
      refine jj_lv (lv' := [(0, .ref l0_2)]) [0] rfl ?_
      exact hE2 _ (Option.some.inj h).symm trivial
    · replace h := (if_neg (Int.not_le.mpr hc)).symm.trans h
      refine jj_iconst hC dX10_pilotAtRank_12 ?_
      refine jj_istore_n (lv' := [(3, .int (iI 0)), (0, .ref l0_2), (1, .int (iI l1_2)), (2, .int (iI s2))]) hC dX10_pilotAtRank_13 rfl (by decide) rfl ?_
      refine jj_iconst hC dX10_pilotAtRank_14 ?_
      refine jj_istore (lv' := [(4, .int (iI 0)), (3, .int (iI 0)), (0, .ref l0_2), (1, .int (iI l1_2)), (2, .int (iI s2))]) hC dX10_pilotAtRank_15 (by decide) rfl ?_
      obtain ⟨q8, hq8, h⟩ := bd_e h
      refine jj_lv (lv' := [(0, .ref l0_2), (1, .int (iI l1_2)), (2, .int (iI s2)), (3, .int (iI 0)), (4, .int (iI 0))]) [2, 3, 4, 1, 0] rfl ?_
      refine hL17 M2 l0_2 l1_2 s2 hl0_2 hl1_2 hs2_0 FU _ q8 hq8 ⟨(show (-2147483648 ≤ (0 : Int) ∧ (0 : Int) < 2147483648) from by decide), (show (-2147483648 ≤ (0 : Int) ∧ (0 : Int) < 2147483648) from by decide)⟩ (fun e17_6 he8 hIE8 => ?_) (fun c8 hc8 => ?_)
      · subst he8
        replace h := el_l h
        have he17_6_0 := hIE8
        refine jj_iload_n hC dX10_pilotAtRank_58 rfl 3 rfl ?_
        refine jj_iload_n hC dX10_pilotAtRank_59 rfl 1 rfl ?_
        refine jj_icmp_ne (tgt := 70) hC dX10_pilotAtRank_60 rfl he17_6_0 hl1_2 (fun hc => ?_) (fun hc => ?_)
        · replace h := (if_pos hc).symm.trans h
          refine jg_iinc (q := 2) (lv' := [(2, .int (iI (w32 (s2 + 1)))), (0, .ref l0_2), (1, .int (iI l1_2)), (3, .int (iI e17_6))]) hC dX10_pilotAtRank_70 rfl (by decide) rfl ?_
          refine jj_goto (tgt := 2) hC dX10_pilotAtRank_73 rfl ?_
          refine jj_lv (lv' := [(0, .ref l0_2), (1, .int (iI l1_2)), (2, .int (iI (w32 (s2 + 1))))]) [1, 2, 0] rfl ?_
          exact hJ2 _ (Option.some.inj h).symm (w32_r _)
        · replace h := (if_neg (fun k => k hc)).symm.trans h
          refine jj_aload_n hC dX10_pilotAtRank_63 rfl 0 rfl ?_
          refine jj_iconst hC dX10_pilotAtRank_64 ?_
          obtain ⟨M7, hM7, h⟩ := nam_e h
          refine jp_I hC kfX10 5 rfl hl0_2 rfl (by decide) wd1714 rfl rfl rfl (show (-2147483648 ≤ (0 : Int) ∧ (0 : Int) < 2147483648) from by decide) dX10_pilotAtRank_65 (jj_M hM7 ?_)
          refine jj_iload_n hC dX10_pilotAtRank_68 rfl 2 rfl ?_
          have h := hR2 _ (Option.some.inj h).symm
          subst h
          exact jj_iret hC (c_le rfl) (c_le rfl) dX10_pilotAtRank_69 ⟨rfl, hs2_0, rfl, rfl, rfl, rfl, rfl⟩
      · subst hc8
        replace h := el_r h
        exact hR2 _ (Option.some.inj h).symm
  unfold fX10_pilotAtRank at h
  refine jj_iconst hC dX10_pilotAtRank_0 ?_
  refine jj_istore_n (lv' := [(2, .int (iI 0)), (0, .ref a0), (1, .int (iI x1))]) hC dX10_pilotAtRank_1 rfl (by decide) rfl ?_
  obtain ⟨q11, hq11, h⟩ := bd_e h
  refine jj_lv (lv' := [(0, .ref a0), (1, .int (iI x1)), (2, .int (iI 0))]) [1, 2, 0] rfl ?_
  refine hL2 M a0 x1 hs0 hx1 FU _ q11 hq11 (show (-2147483648 ≤ (0 : Int) ∧ (0 : Int) < 2147483648) from by decide) (fun e2_9 he11 hIE11 => ?_) (fun c11 hc11 => ?_)
  · subst he11
    replace h := el_l h
    refine jj_aload_n hC dX10_pilotAtRank_76 rfl 0 rfl ?_
    refine jj_iconst hC dX10_pilotAtRank_77 ?_
    obtain ⟨M10, hM10, h⟩ := nam_e h
    refine jp_I hC kfX10 5 rfl hs0 rfl (by decide) wd1714 rfl rfl rfl (show (-2147483648 ≤ (1 : Int) ∧ (1 : Int) < 2147483648) from by decide) dX10_pilotAtRank_78 (jj_M hM10 ?_)
    refine jj_iconst hC dX10_pilotAtRank_81 ?_
    cases h
    exact jj_iret hC (c_le rfl) (c_le rfl) dX10_pilotAtRank_82 ⟨rfl, (show (-2147483648 ≤ (0 : Int) ∧ (0 : Int) < 2147483648) from by decide), rfl, rfl, rfl, rfl, rfl⟩
  · subst hc11
    replace h := el_r h
    exact Option.some.inj h
def fX10_days (ad S Ln : Nat → Nat) (R : gR) (M : gM) (a0 : Nat) : Option (Int × gM) :=
  nam (wr M a0 5 0) fun M1 => rf S (R a0 0) 20 fun b2 => gd ((0 : Int) ≤ 6 ∧ 6 < (Ln b2 : Int)) (some ((M1 b2 6, M1)))
theorem xX10_days {l : Launch} {G : gE} {sz : Nat} {S Ln : Nat → Nat} {M : gM} {R : gR} (hl : l.stackTraces = false) {a0 : Nat} (hs0 : S a0 = 13) {r : Int × gM} (h : fX10_days G.2.2.2.2 S Ln R M a0 = some r) : Ct l G yX10_days cX10_days 1 (some .int) 1 0 0 [.ref a0] sz S Ln M R (poI r.1 sz S Ln (r.2) R) noX := by
  refine jj_start (own := RX10) (lv0 := [(0, .ref a0)]) hl (by decide +kernel) rfl rfl (c_le rfl) (fun C hCl hC => ?_)
  unfold fX10_days at h
  refine jj_aload_n hC dX10_days_0 rfl 0 rfl ?_
  refine jj_iconst hC dX10_days_1 ?_
  obtain ⟨M1, hM1, h⟩ := nam_e h
  refine jp_I hC kfX10 5 rfl hs0 rfl (by decide) wd1714 rfl rfl rfl (show (-2147483648 ≤ (0 : Int) ∧ (0 : Int) < 2147483648) from by decide) dX10_days_2 (jj_M hM1 ?_)
  refine jj_aload_n hC dX10_days_5 rfl 0 rfl ?_
  obtain ⟨b2, hb2, hs2, h⟩ := rf_e h
  refine jg_R hC kfX10 0 rfl hs0 (by decide) wd1709 rfl hb2 dX10_days_6 ?_
  refine jj_bipush hC dX10_days_9 (by decide) ?_
  obtain ⟨⟨ha3, hb3⟩, h⟩ := gd_e h
  refine jj_iald hC hs2 ha3 hb3 dX10_days_11 (fun hr3 => ?_)
  cases h
  exact jj_iret hC (c_le rfl) (c_le rfl) dX10_days_12 ⟨rfl, hr3, rfl, rfl, rfl, rfl, rfl⟩
def fX10_speed_B37 (ad S Ln : Nat → Nat) (R : gR) (M37 : gM) (l0_37 : Nat) (l1_37 : Int) (s0_37 : Int) (s1_37 : Nat) : Option (UInt32 × gM) :=
  bd (fX10_isThrown ad S Ln R M37 s1_37 s0_37 2) fun q4 => if q4.1 = 0 then (bd (fX10_whole ad S Ln R q4.2 l0_37) fun q5 => bd (fX10_of ad S Ln R q4.2 l0_37 l1_37 5) fun q6 => gd (FP.fdiv (FP.i2f (iI q5)) (FP.i2f (iI q6)) &&& 0x7fffffff ≤ 0x7f800000) (some ((FP.fdiv (FP.i2f (iI q5)) (FP.i2f (iI q6)), q4.2)))) else (some ((0, q4.2)))
def fX10_speed_B14 (ad S Ln : Nat → Nat) (R : gR) (M14 : gM) (l0_14 : Nat) (l1_14 : Int) (s0_14 : Int) (s1_14 : Nat) : Option (UInt32 × gM) :=
  bd (fX10_isThrown ad S Ln R M14 s1_14 s0_14 1) fun q2 => if ¬ q2.1 = 0 then (some ((0, q2.2))) else (bd (fX10_of ad S Ln R q2.2 l0_14 l1_14 1) fun q3 => if q3 = 3 then (fX10_speed_B37 ad S Ln R q2.2 l0_14 l1_14 0 l0_14) else (fX10_speed_B37 ad S Ln R q2.2 l0_14 l1_14 1 l0_14))
def fX10_speed (ad S Ln : Nat → Nat) (R : gR) (M : gM) (a0 : Nat) (x1 : Int) : Option (UInt32 × gM) :=
  bd (fX10_isPilot ad S Ln R M a0 x1) fun q1 => if ¬ q1 = 0 then (fX10_speed_B14 ad S Ln R M a0 x1 0 a0) else (fX10_speed_B14 ad S Ln R M a0 x1 1 a0)
theorem xX10_speed {l : Launch} {G : gE} {sz : Nat} {S Ln : Nat → Nat} {M : gM} {R : gR} (hl : l.stackTraces = false) {a0 : Nat} (hs0 : S a0 = 13) {x1 : Int} (hx1 : (-2147483648 ≤ x1 ∧ x1 < 2147483648)) {r : UInt32 × gM} (h : fX10_speed G.2.2.2.2 S Ln R M a0 x1 = some r) : Ct l G yX10_speed cX10_speed 2 (some .float) 6 0 0 [.ref a0, .int (iI x1)] sz S Ln M R (poF r.1 sz S Ln (r.2) R) noX := by
  refine jj_start (own := RX10) (lv0 := [(0, .ref a0), (1, .int (iI x1))]) hl (by decide +kernel) rfl rfl (c_le rfl) (fun C hCl hC => ?_)
  have hB37 : ∀ (M37 : gM) (l0_37 : Nat) (l1_37 : Int) (s0_37 : Int) (s1_37 : Nat), S l0_37 = 13 → (-2147483648 ≤ l1_37 ∧ l1_37 < 2147483648) → (0 ≤ s0_37 ∧ s0_37 ≤ 1) → S s1_37 = 13 → fX10_speed_B37 G.2.2.2.2 S Ln R M37 l0_37 l1_37 s0_37 s1_37 = some r → JJ G C 0 0 sz S Ln M37 R 37 [(0, .ref l0_37), (1, .int (iI l1_37))] [.int (iI s0_37), .ref s1_37] := by
    intro M37 l0_37 l1_37 s0_37 s1_37 hl0_37 hl1_37 hs0_37 hs1_37 h
    unfold fX10_speed_B37 at h
    refine jj_iconst hC dX10_speed_37 ?_
    obtain ⟨q4, hq4, h⟩ := bd_e h
    refine jj_invV hC mvX10_isThrown wd1791 wd24 wd1789 hs1_37 (by decide) rfl (xX10_isThrown (OKC.tr hC) hs1_37 hs0_37 (show (-2147483648 ≤ (2 : Int) ∧ (2 : Int) < 2147483648) from by decide) hq4) rfl rfl (c_le rfl) (c_le rfl) (c_le rfl) (c_le rfl) dX10_speed_38 noXk (po_kZ (fun hr4 => ?_))
    refine jj_if_eq (tgt := 46) hC dX10_speed_41 rfl (r_z hr4) (fun hc => ?_) (fun hc => ?_)
    · replace h := (if_pos hc).symm.trans h
      refine jj_aload_n hC dX10_speed_46 rfl 0 rfl ?_
      obtain ⟨q5, hq5, h⟩ := bd_e h
      refine jj_invV hC mvX10_whole wd1956 wd53 wd1954 hl0_37 (by decide) rfl (xX10_whole (OKC.tr hC) hl0_37 hq5) rfl rfl (c_le rfl) (c_le rfl) (c_le rfl) (c_le rfl) dX10_speed_47 noXk (po_kI (fun hr5 => ?_))
      refine jj_i2f hC dX10_speed_50 ?_
      refine jj_aload_n hC dX10_speed_51 rfl 0 rfl ?_
      refine jj_iload_n hC dX10_speed_52 rfl 1 rfl ?_
      refine jj_iconst hC dX10_speed_53 ?_
      obtain ⟨q6, hq6, h⟩ := bd_e h
      refine jj_invV hC mvX10_of wd1815 wd29 wd1813 hl0_37 (by decide) rfl (xX10_of (OKC.tr hC) hl0_37 hl1_37 (show (-2147483648 ≤ (5 : Int) ∧ (5 : Int) < 2147483648) from by decide) hq6) rfl rfl (c_le rfl) (c_le rfl) (c_le rfl) (c_le rfl) dX10_speed_54 noXk (po_kI (fun hr6 => ?_))
      refine jj_i2f hC dX10_speed_57 ?_
      obtain ⟨hg7, h⟩ := gd_e h
      refine jj_fdiv hC hg7 dX10_speed_58 ?_
      cases h
      exact jj_fret hC (c_le rfl) (c_le rfl) dX10_speed_59 ⟨rfl, trivial, rfl, rfl, rfl, rfl, rfl⟩
    · replace h := (if_neg (hc)).symm.trans h
      refine jj_fconst0 hC rfl dX10_speed_44 ?_
      cases h
      exact jj_fret hC (c_le rfl) (c_le rfl) dX10_speed_45 ⟨rfl, trivial, rfl, rfl, rfl, rfl, rfl⟩
  have hB14 : ∀ (M14 : gM) (l0_14 : Nat) (l1_14 : Int) (s0_14 : Int) (s1_14 : Nat), S l0_14 = 13 → (-2147483648 ≤ l1_14 ∧ l1_14 < 2147483648) → (0 ≤ s0_14 ∧ s0_14 ≤ 1) → S s1_14 = 13 → fX10_speed_B14 G.2.2.2.2 S Ln R M14 l0_14 l1_14 s0_14 s1_14 = some r → JJ G C 0 0 sz S Ln M14 R 14 [(0, .ref l0_14), (1, .int (iI l1_14))] [.int (iI s0_14), .ref s1_14] := by
    intro M14 l0_14 l1_14 s0_14 s1_14 hl0_14 hl1_14 hs0_14 hs1_14 h
    unfold fX10_speed_B14 at h
    refine jj_iconst hC dX10_speed_14 ?_
    obtain ⟨q2, hq2, h⟩ := bd_e h
    refine jj_invV hC mvX10_isThrown wd1791 wd24 wd1789 hs1_14 (by decide) rfl (xX10_isThrown (OKC.tr hC) hs1_14 hs0_14 (show (-2147483648 ≤ (1 : Int) ∧ (1 : Int) < 2147483648) from by decide) hq2) rfl rfl (c_le rfl) (c_le rfl) (c_le rfl) (c_le rfl) dX10_speed_15 noXk (po_kZ (fun hr2 => ?_))
    refine jj_if_ne (tgt := 44) hC dX10_speed_18 rfl (r_z hr2) (fun hc => ?_) (fun hc => ?_)
    · replace h := (if_pos hc).symm.trans h
      refine jj_fconst0 hC rfl dX10_speed_44 ?_
      cases h
      exact jj_fret hC (c_le rfl) (c_le rfl) dX10_speed_45 ⟨rfl, trivial, rfl, rfl, rfl, rfl, rfl⟩
    · replace h := (if_neg (fun k => k hc)).symm.trans h
      refine jj_aload_n hC dX10_speed_21 rfl 0 rfl ?_
      refine jj_aload_n hC dX10_speed_22 rfl 0 rfl ?_
      refine jj_iload_n hC dX10_speed_23 rfl 1 rfl ?_
      refine jj_iconst hC dX10_speed_24 ?_
      obtain ⟨q3, hq3, h⟩ := bd_e h
      refine jj_invV hC mvX10_of wd1815 wd29 wd1813 hl0_14 (by decide) rfl (xX10_of (OKC.tr hC) hl0_14 hl1_14 (show (-2147483648 ≤ (1 : Int) ∧ (1 : Int) < 2147483648) from by decide) hq3) rfl rfl (c_le rfl) (c_le rfl) (c_le rfl) (c_le rfl) dX10_speed_25 noXk (po_kI (fun hr3 => ?_))
      refine jj_iconst hC dX10_speed_28 ?_
      refine jj_icmp_eq (tgt := 36) hC dX10_speed_29 rfl hr3 (show (-2147483648 ≤ (3 : Int) ∧ (3 : Int) < 2147483648) from by decide) (fun hc => ?_) (fun hc => ?_)
      · replace h := (if_pos hc).symm.trans h
        refine jj_iconst hC dX10_speed_36 ?_
        refine jj_lv (lv' := [(0, .ref l0_14), (1, .int (iI l1_14))]) [0, 1] rfl ?_
        exact hB37 q2.2 l0_14 l1_14 0 l0_14 hl0_14 hl1_14 (show (0 ≤ (0 : Int) ∧ (0 : Int) ≤ 1) from by decide) hl0_14 h
      · replace h := (if_neg (hc)).symm.trans h
        refine jj_iconst hC dX10_speed_32 ?_
        refine jj_goto (tgt := 37) hC dX10_speed_33 rfl ?_
        refine jj_lv (lv' := [(0, .ref l0_14), (1, .int (iI l1_14))]) [0, 1] rfl ?_
        exact hB37 q2.2 l0_14 l1_14 1 l0_14 hl0_14 hl1_14 (show (0 ≤ (1 : Int) ∧ (1 : Int) ≤ 1) from by decide) hl0_14 h
  unfold fX10_speed at h
  refine jj_aload_n hC dX10_speed_0 rfl 0 rfl ?_
  refine jj_aload_n hC dX10_speed_1 rfl 0 rfl ?_
  refine jj_iload_n hC dX10_speed_2 rfl 1 rfl ?_
  obtain ⟨q1, hq1, h⟩ := bd_e h
  refine jj_invV hC mvX10_isPilot wd1890 wd41 wd1888 hs0 (by decide) rfl (xX10_isPilot (OKC.tr hC) hs0 hx1 hq1) rfl rfl (c_le rfl) (c_le rfl) (c_le rfl) (c_le rfl) dX10_speed_3 noXk (po_kZ (fun hr1 => ?_))
  refine jj_if_ne (tgt := 13) hC dX10_speed_6 rfl (r_z hr1) (fun hc => ?_) (fun hc => ?_)
  · replace h := (if_pos hc).symm.trans h
    refine jj_iconst hC dX10_speed_13 ?_
    refine jj_lv (lv' := [(0, .ref a0), (1, .int (iI x1))]) [0, 1] rfl ?_
    exact hB14 M a0 x1 0 a0 hs0 hx1 (show (0 ≤ (0 : Int) ∧ (0 : Int) ≤ 1) from by decide) hs0 h
  · replace h := (if_neg (fun k => k hc)).symm.trans h
    refine jj_iconst hC dX10_speed_9 ?_
    refine jj_goto (tgt := 14) hC dX10_speed_10 rfl ?_
    refine jj_lv (lv' := [(0, .ref a0), (1, .int (iI x1))]) [0, 1] rfl ?_
    exact hB14 M a0 x1 1 a0 hs0 hx1 (show (0 ≤ (1 : Int) ∧ (1 : Int) ≤ 1) from by decide) hs0 h
def fX10_meanScore_L4 (ad S Ln : Nat → Nat) (R : gR) (M4 : gM) (l0_4 : Nat) (s4 : Int × Int) : Option ((Int × Int) ⊕ ((Int) ⊕ (UInt64 × gM))) :=
  rf S (R l0_4 0) 20 fun b1 => gd ((0 : Int) ≤ 4 ∧ 4 < (Ln b1 : Int)) (if (M4 b1 4) ≤ s4.2 then (some (.inr (.inl s4.1))) else (bd (fX10_score ad S Ln R M4 l0_4 s4.2) fun q3 => some (.inl (w32 (s4.1 + q3), w32 (s4.2 + 1)))))
def fX10_meanScore_B43 (ad S Ln : Nat → Nat) (R : gR) (M43 : gM) (l0_43 : Nat) (l1_43 : Int) (s0_43 : Int) (s1_43 : Nat) : Option (UInt64 × gM) :=
  bd (fX10_isThrown ad S Ln R M43 s1_43 s0_43 1) fun q7 => if q7.1 = 0 then (rf S (R l0_43 0) 20 fun b8 => gd ((0 : Int) ≤ 4 ∧ 4 < (Ln b8 : Int)) (gd (FP.ddiv (FP.i2d (iI l1_43)) (FP.i2d (iI (q7.2 b8 4))) &&& 0x7fffffffffffffff ≤ 0x7ff0000000000000) (some ((FP.ddiv (FP.i2d (iI l1_43)) (FP.i2d (iI (q7.2 b8 4))), q7.2))))) else (some ((0, q7.2)))
def fX10_meanScore (ad S Ln : Nat → Nat) (R : gR) (M : gM) (a0 : Nat) : Option (UInt64 × gM) :=
  bd (lp (fX10_meanScore_L4 ad S Ln R M a0) FU (0, 0)) fun q11 => Sum.elim (fun e4_4 => rf S (R a0 0) 20 fun b5 => gd ((0 : Int) ≤ 4 ∧ 4 < (Ln b5 : Int)) (if ¬ (M b5 4) = 0 then (fX10_meanScore_B43 ad S Ln R M a0 e4_4 0 a0) else (fX10_meanScore_B43 ad S Ln R M a0 e4_4 1 a0))) (fun c11 => some c11) q11
theorem xX10_meanScore {l : Launch} {G : gE} {sz : Nat} {S Ln : Nat → Nat} {M : gM} {R : gR} (hl : l.stackTraces = false) {a0 : Nat} (hs0 : S a0 = 13) {r : UInt64 × gM} (h : fX10_meanScore G.2.2.2.2 S Ln R M a0 = some r) : Ct l G yX10_meanScore cX10_meanScore 3 (some .double) 8 0 0 [.ref a0] sz S Ln M R (poD r.1 sz S Ln (r.2) R) noX := by
  refine jj_start (own := RX10) (lv0 := [(0, .ref a0)]) hl (by decide +kernel) rfl rfl (c_le rfl) (fun C hCl hC => ?_)
  have hL4 : ∀ (M4 : gM) (l0_4 : Nat), S l0_4 = 13 → ∀ (n : Nat) (s4 : Int × Int) (q : (Int) ⊕ (UInt64 × gM)), lp (fX10_meanScore_L4 G.2.2.2.2 S Ln R M4 l0_4) n s4 = some q → (-2147483648 ≤ s4.1 ∧ s4.1 < 2147483648) ∧ (-2147483648 ≤ s4.2 ∧ s4.2 < 2147483648) → (∀ e4, q = .inl e4 → (-2147483648 ≤ e4 ∧ e4 < 2147483648) → JJ G C 0 0 sz S Ln M4 R 28 [(0, .ref l0_4), (1, .int (iI e4))] []) → (∀ c, q = .inr c → c = r) → JJ G C 0 0 sz S Ln M4 R 4 [(0, .ref l0_4), (1, .int (iI s4.1)), (2, .int (iI s4.2))] [] := by
    intro M4 l0_4 hl0_4
    refine lp_ind ?_
    intro s4 r4 hI4 h hJ4 hE4 hR4
    obtain ⟨hs4_0, hs4_1⟩ := hI4
    unfold fX10_meanScore_L4 at h
    refine jj_iload_n hC dX10_meanScore_4 rfl 2 rfl ?_
    refine jj_aload_n hC dX10_meanScore_5 rfl 0 rfl ?_
    obtain ⟨b1, hb1, hs1, h⟩ := rf_e h
    refine jg_R hC kfX10 0 rfl hl0_4 (by decide) wd1709 rfl hb1 dX10_meanScore_6 ?_
    refine jj_iconst hC dX10_meanScore_9 ?_
    obtain ⟨⟨ha2, hb2⟩, h⟩ := gd_e h
    refine jj_iald hC hs1 ha2 hb2 dX10_meanScore_10 (fun hr2 => ?_)
    refine jj_icmp_ge (tgt := 28) hC dX10_meanScore_11 rfl hs4_1 hr2 (fun hc => ?_) (fun hc => ?_)
    · replace h := (if_pos hc).symm.trans h
      refine jj_lv (lv' := [(0, .ref l0_4), (1, .int (iI s4.1))]) [0, 1] rfl ?_
      exact hE4 _ (Option.some.inj h).symm hs4_0
    · replace h := (if_neg (Int.not_le.mpr hc)).symm.trans h
      refine jj_iload_n hC dX10_meanScore_14 rfl 1 rfl ?_
      refine jj_aload_n hC dX10_meanScore_15 rfl 0 rfl ?_
      refine jj_iload_n hC dX10_meanScore_16 rfl 2 rfl ?_
      obtain ⟨q3, hq3, h⟩ := bd_e h
      refine jj_invV hC mvX10_score wd1948 wd51 wd1946 hl0_4 (by decide) rfl (xX10_score (OKC.tr hC) hl0_4 hs4_1 hq3) rfl rfl (c_le rfl) (c_le rfl) (c_le rfl) (c_le rfl) dX10_meanScore_17 noXk (po_kI (fun hr3 => ?_))
      refine jg_iadd hC dX10_meanScore_20 ?_
      refine jj_istore_n (lv' := [(1, .int (iI (w32 (s4.1 + q3)))), (0, .ref l0_4), (2, .int (iI s4.2))]) hC dX10_meanScore_21 rfl (by decide) rfl ?_
      refine jg_iinc (q := 2) (lv' := [(2, .int (iI (w32 (s4.2 + 1)))), (1, .int (iI (w32 (s4.1 + q3)))), (0, .ref l0_4)]) hC dX10_meanScore_22 rfl (by decide) rfl ?_
      refine jj_goto (tgt := 4) hC dX10_meanScore_25 rfl ?_
      refine jj_lv (lv' := [(0, .ref l0_4), (1, .int (iI (w32 (s4.1 + q3)))), (2, .int (iI (w32 (s4.2 + 1))))]) [2, 1, 0] rfl ?_
      exact hJ4 _ (Option.some.inj h).symm ⟨(w32_r _), (w32_r _)⟩
  have hB43 : ∀ (M43 : gM) (l0_43 : Nat) (l1_43 : Int) (s0_43 : Int) (s1_43 : Nat), S l0_43 = 13 → (-2147483648 ≤ l1_43 ∧ l1_43 < 2147483648) → (0 ≤ s0_43 ∧ s0_43 ≤ 1) → S s1_43 = 13 → fX10_meanScore_B43 G.2.2.2.2 S Ln R M43 l0_43 l1_43 s0_43 s1_43 = some r → JJ G C 0 0 sz S Ln M43 R 43 [(0, .ref l0_43), (1, .int (iI l1_43))] [.int (iI s0_43), .ref s1_43] := by
    intro M43 l0_43 l1_43 s0_43 s1_43 hl0_43 hl1_43 hs0_43 hs1_43 h
    unfold fX10_meanScore_B43 at h
    refine jj_iconst hC dX10_meanScore_43 ?_
    obtain ⟨q7, hq7, h⟩ := bd_e h
    refine jj_invV hC mvX10_isThrown wd1791 wd24 wd1789 hs1_43 (by decide) rfl (xX10_isThrown (OKC.tr hC) hs1_43 hs0_43 (show (-2147483648 ≤ (1 : Int) ∧ (1 : Int) < 2147483648) from by decide) hq7) rfl rfl (c_le rfl) (c_le rfl) (c_le rfl) (c_le rfl) dX10_meanScore_44 noXk (po_kZ (fun hr7 => ?_))
    refine jj_if_eq (tgt := 54) hC dX10_meanScore_47 rfl (r_z hr7) (fun hc => ?_) (fun hc => ?_)
    · replace h := (if_pos hc).symm.trans h
      refine jj_iload_n hC dX10_meanScore_54 rfl 1 rfl ?_
      refine jj_i2d hC dX10_meanScore_55 ?_
      refine jj_aload_n hC dX10_meanScore_56 rfl 0 rfl ?_
      obtain ⟨b8, hb8, hs8, h⟩ := rf_e h
      refine jg_R hC kfX10 0 rfl hl0_43 (by decide) wd1709 rfl hb8 dX10_meanScore_57 ?_
      refine jj_iconst hC dX10_meanScore_60 ?_
      obtain ⟨⟨ha9, hb9⟩, h⟩ := gd_e h
      refine jj_iald hC hs8 ha9 hb9 dX10_meanScore_61 (fun hr9 => ?_)
      refine jj_i2d hC dX10_meanScore_62 ?_
      obtain ⟨hg10, h⟩ := gd_e h
      refine jj_ddiv hC hg10 dX10_meanScore_63 ?_
      cases h
      exact jj_dret hC (c_le rfl) (c_le rfl) dX10_meanScore_64 ⟨rfl, trivial, rfl, rfl, rfl, rfl, rfl⟩
    · replace h := (if_neg (hc)).symm.trans h
      refine jj_dconst0 hC rfl dX10_meanScore_50 ?_
      refine jj_goto (tgt := 64) hC dX10_meanScore_51 rfl ?_
      cases h
      exact jj_dret hC (c_le rfl) (c_le rfl) dX10_meanScore_64 ⟨rfl, trivial, rfl, rfl, rfl, rfl, rfl⟩
  unfold fX10_meanScore at h
  refine jj_iconst hC dX10_meanScore_0 ?_
  refine jj_istore_n (lv' := [(1, .int (iI 0)), (0, .ref a0)]) hC dX10_meanScore_1 rfl (by decide) rfl ?_
  refine jj_iconst hC dX10_meanScore_2 ?_
  refine jj_istore_n (lv' := [(2, .int (iI 0)), (1, .int (iI 0)), (0, .ref a0)]) hC dX10_meanScore_3 rfl (by decide) rfl ?_
  obtain ⟨q11, hq11, h⟩ := bd_e h
  refine jj_lv (lv' := [(0, .ref a0), (1, .int (iI 0)), (2, .int (iI 0))]) [2, 1, 0] rfl ?_
  refine hL4 M a0 hs0 FU _ q11 hq11 ⟨(show (-2147483648 ≤ (0 : Int) ∧ (0 : Int) < 2147483648) from by decide), (show (-2147483648 ≤ (0 : Int) ∧ (0 : Int) < 2147483648) from by decide)⟩ (fun e4_4 he11 hIE11 => ?_) (fun c11 hc11 => ?_)
  · subst he11
    replace h := el_l h
    have he4_4_0 := hIE11
    refine jj_aload_n hC dX10_meanScore_28 rfl 0 rfl ?_
    refine jj_aload_n hC dX10_meanScore_29 rfl 0 rfl ?_
    obtain ⟨b5, hb5, hs5, h⟩ := rf_e h
    refine jg_R hC kfX10 0 rfl hs0 (by decide) wd1709 rfl hb5 dX10_meanScore_30 ?_
    refine jj_iconst hC dX10_meanScore_33 ?_
    obtain ⟨⟨ha6, hb6⟩, h⟩ := gd_e h
    refine jj_iald hC hs5 ha6 hb6 dX10_meanScore_34 (fun hr6 => ?_)
    refine jj_if_ne (tgt := 42) hC dX10_meanScore_35 rfl hr6 (fun hc => ?_) (fun hc => ?_)
    · replace h := (if_pos hc).symm.trans h
      refine jj_iconst hC dX10_meanScore_42 ?_
      refine jj_lv (lv' := [(0, .ref a0), (1, .int (iI e4_4))]) [0, 1] rfl ?_
      exact hB43 M a0 e4_4 0 a0 hs0 he4_4_0 (show (0 ≤ (0 : Int) ∧ (0 : Int) ≤ 1) from by decide) hs0 h
    · replace h := (if_neg (fun k => k hc)).symm.trans h
      refine jj_iconst hC dX10_meanScore_38 ?_
      refine jj_goto (tgt := 43) hC dX10_meanScore_39 rfl ?_
      refine jj_lv (lv' := [(0, .ref a0), (1, .int (iI e4_4))]) [0, 1] rfl ?_
      exact hB43 M a0 e4_4 1 a0 hs0 he4_4_0 (show (0 ≤ (1 : Int) ∧ (1 : Int) ≤ 1) from by decide) hs0 h
  · subst hc11
    replace h := el_r h
    exact Option.some.inj h
def fX10_isConsistent_B37 (ad S Ln : Nat → Nat) (R : gR) (M9 : gM) (l0_9 : Nat) (l2_37 : Int) (s0_37 : Int) (s1_37 : Int) : Option ((Int × Int) ⊕ ((Int) ⊕ (Int × gM))) :=
  some (.inl (i_and s1_37 s0_37, w32 (l2_37 + 1)))
def fX10_isConsistent_L9 (ad S Ln : Nat → Nat) (R : gR) (M9 : gM) (l0_9 : Nat) (s9 : Int × Int) : Option ((Int × Int) ⊕ ((Int) ⊕ (Int × gM))) :=
  rf S (R l0_9 0) 20 fun b2 => gd ((0 : Int) ≤ 4 ∧ 4 < (Ln b2 : Int)) (if (M9 b2 4) ≤ s9.2 then (some (.inr (.inl s9.1))) else (bd (fX10_achieved ad S Ln R M9 l0_9 s9.2) fun q4 => bd (fX10_whole ad S Ln R M9 l0_9) fun q5 => if q5 < q4 then (fX10_isConsistent_B37 ad S Ln R M9 l0_9 s9.2 0 s9.1) else (fX10_isConsistent_B37 ad S Ln R M9 l0_9 s9.2 1 s9.1)))
def fX10_isConsistent (ad S Ln : Nat → Nat) (R : gR) (M : gM) (a0 : Nat) : Option (Int × gM) :=
  nam (wr M a0 5 0) fun M1 => bd (lp (fX10_isConsistent_L9 ad S Ln R M1 a0) FU (1, 0)) fun q7 => Sum.elim (fun e9_6 => some ((e9_6, M1))) (fun c7 => some c7) q7
theorem xX10_isConsistent {l : Launch} {G : gE} {sz : Nat} {S Ln : Nat → Nat} {M : gM} {R : gR} (hl : l.stackTraces = false) {a0 : Nat} (hs0 : S a0 = 13) {r : Int × gM} (h : fX10_isConsistent G.2.2.2.2 S Ln R M a0 = some r) : Ct l G yX10_isConsistent cX10_isConsistent 3 (some .boolean) 7 0 0 [.ref a0] sz S Ln M R (poZ r.1 sz S Ln (r.2) R) noX := by
  refine jj_start (own := RX10) (lv0 := [(0, .ref a0)]) hl (by decide +kernel) rfl rfl (c_le rfl) (fun C hCl hC => ?_)
  have hL9 : ∀ (M9 : gM) (l0_9 : Nat), S l0_9 = 13 → ∀ (n : Nat) (s9 : Int × Int) (q : (Int) ⊕ (Int × gM)), lp (fX10_isConsistent_L9 G.2.2.2.2 S Ln R M9 l0_9) n s9 = some q → (0 ≤ s9.1 ∧ s9.1 ≤ 1) ∧ (-2147483648 ≤ s9.2 ∧ s9.2 < 2147483648) → (∀ e9, q = .inl e9 → (0 ≤ e9 ∧ e9 ≤ 1) → JJ G C 0 0 sz S Ln M9 R 45 [(1, .int (iI e9))] []) → (∀ c, q = .inr c → c = r) → JJ G C 0 0 sz S Ln M9 R 9 [(0, .ref l0_9), (1, .int (iI s9.1)), (2, .int (iI s9.2))] [] := by
    intro M9 l0_9 hl0_9
    refine lp_ind ?_
    intro s9 r9 hI9 h hJ9 hE9 hR9
    obtain ⟨hs9_0, hs9_1⟩ := hI9
    have hB37 : ∀ (l2_37 : Int) (s0_37 : Int) (s1_37 : Int), (-2147483648 ≤ l2_37 ∧ l2_37 < 2147483648) → (0 ≤ s0_37 ∧ s0_37 ≤ 1) → (0 ≤ s1_37 ∧ s1_37 ≤ 1) → fX10_isConsistent_B37 G.2.2.2.2 S Ln R M9 l0_9 l2_37 s0_37 s1_37 = some r9 → JJ G C 0 0 sz S Ln M9 R 37 [(0, .ref l0_9), (2, .int (iI l2_37))] [.int (iI s0_37), .int (iI s1_37)] := by
      intro l2_37 s0_37 s1_37 hl2_37 hs0_37 hs1_37 h
      unfold fX10_isConsistent_B37 at h
      refine jg_iand hC dX10_isConsistent_37 ?_
      refine jj_istore_n (lv' := [(1, .int (iI (i_and s1_37 s0_37))), (0, .ref l0_9), (2, .int (iI l2_37))]) hC dX10_isConsistent_38 rfl (by decide) rfl ?_
      refine jg_iinc (q := 2) (lv' := [(2, .int (iI (w32 (l2_37 + 1)))), (1, .int (iI (i_and s1_37 s0_37))), (0, .ref l0_9)]) hC dX10_isConsistent_39 rfl (by decide) rfl ?_
      refine jj_goto (tgt := 9) hC dX10_isConsistent_42 rfl ?_
      refine jj_lv (lv' := [(0, .ref l0_9), (1, .int (iI (i_and s1_37 s0_37))), (2, .int (iI (w32 (l2_37 + 1))))]) [2, 1, 0] rfl ?_
      exact hJ9 _ (Option.some.inj h).symm ⟨(i_and_z hs1_37 hs0_37), (w32_r _)⟩
    unfold fX10_isConsistent_L9 at h
    refine jj_iload_n hC dX10_isConsistent_9 rfl 2 rfl ?_
    refine jj_aload_n hC dX10_isConsistent_10 rfl 0 rfl ?_
    obtain ⟨b2, hb2, hs2, h⟩ := rf_e h
    refine jg_R hC kfX10 0 rfl hl0_9 (by decide) wd1709 rfl hb2 dX10_isConsistent_11 ?_
    refine jj_iconst hC dX10_isConsistent_14 ?_
    obtain ⟨⟨ha3, hb3⟩, h⟩ := gd_e h
    refine jj_iald hC hs2 ha3 hb3 dX10_isConsistent_15 (fun hr3 => ?_)
    refine jj_icmp_ge (tgt := 45) hC dX10_isConsistent_16 rfl hs9_1 hr3 (fun hc => ?_) (fun hc => ?_)
    · replace h := (if_pos hc).symm.trans h
      refine jj_lv (lv' := [(1, .int (iI s9.1))]) [1] rfl ?_
      exact hE9 _ (Option.some.inj h).symm hs9_0
    · replace h := (if_neg (Int.not_le.mpr hc)).symm.trans h
      refine jj_iload_n hC dX10_isConsistent_19 rfl 1 rfl ?_
      refine jj_aload_n hC dX10_isConsistent_20 rfl 0 rfl ?_
      refine jj_iload_n hC dX10_isConsistent_21 rfl 2 rfl ?_
      obtain ⟨q4, hq4, h⟩ := bd_e h
      refine jj_invV hC mvX10_achieved wd1952 wd52 wd1950 hl0_9 (by decide) rfl (xX10_achieved (OKC.tr hC) hl0_9 hs9_1 hq4) rfl rfl (c_le rfl) (c_le rfl) (c_le rfl) (c_le rfl) dX10_isConsistent_22 noXk (po_kI (fun hr4 => ?_))
      refine jj_aload_n hC dX10_isConsistent_25 rfl 0 rfl ?_
      obtain ⟨q5, hq5, h⟩ := bd_e h
      refine jj_invV hC mvX10_whole wd1956 wd53 wd1954 hl0_9 (by decide) rfl (xX10_whole (OKC.tr hC) hl0_9 hq5) rfl rfl (c_le rfl) (c_le rfl) (c_le rfl) (c_le rfl) dX10_isConsistent_26 noXk (po_kI (fun hr5 => ?_))
      refine jj_icmp_gt (tgt := 36) hC dX10_isConsistent_29 rfl hr4 hr5 (fun hc => ?_) (fun hc => ?_)
      · replace h := (if_pos hc).symm.trans h
        refine jj_iconst hC dX10_isConsistent_36 ?_
        refine jj_lv (lv' := [(0, .ref l0_9), (2, .int (iI s9.2))]) [0, 2] rfl ?_
        exact hB37 s9.2 0 s9.1 hs9_1 (show (0 ≤ (0 : Int) ∧ (0 : Int) ≤ 1) from by decide) hs9_0 h
      · replace h := (if_neg (Int.not_lt.mpr hc)).symm.trans h
        refine jj_iconst hC dX10_isConsistent_32 ?_
        refine jj_goto (tgt := 37) hC dX10_isConsistent_33 rfl ?_
        refine jj_lv (lv' := [(0, .ref l0_9), (2, .int (iI s9.2))]) [0, 2] rfl ?_
        exact hB37 s9.2 1 s9.1 hs9_1 (show (0 ≤ (1 : Int) ∧ (1 : Int) ≤ 1) from by decide) hs9_0 h
  unfold fX10_isConsistent at h
  refine jj_aload_n hC dX10_isConsistent_0 rfl 0 rfl ?_
  refine jj_iconst hC dX10_isConsistent_1 ?_
  obtain ⟨M1, hM1, h⟩ := nam_e h
  refine jp_I hC kfX10 5 rfl hs0 rfl (by decide) wd1714 rfl rfl rfl (show (-2147483648 ≤ (0 : Int) ∧ (0 : Int) < 2147483648) from by decide) dX10_isConsistent_2 (jj_M hM1 ?_)
  refine jj_iconst hC dX10_isConsistent_5 ?_
  refine jj_istore_n (lv' := [(1, .int (iI 1)), (0, .ref a0)]) hC dX10_isConsistent_6 rfl (by decide) rfl ?_
  refine jj_iconst hC dX10_isConsistent_7 ?_
  refine jj_istore_n (lv' := [(2, .int (iI 0)), (1, .int (iI 1)), (0, .ref a0)]) hC dX10_isConsistent_8 rfl (by decide) rfl ?_
  obtain ⟨q7, hq7, h⟩ := bd_e h
  refine jj_lv (lv' := [(0, .ref a0), (1, .int (iI 1)), (2, .int (iI 0))]) [2, 1, 0] rfl ?_
  refine hL9 M1 a0 hs0 FU _ q7 hq7 ⟨(show (0 ≤ (1 : Int) ∧ (1 : Int) ≤ 1) from by decide), (show (-2147483648 ≤ (0 : Int) ∧ (0 : Int) < 2147483648) from by decide)⟩ (fun e9_6 he7 hIE7 => ?_) (fun c7 hc7 => ?_)
  · subst he7
    replace h := el_l h
    have he9_6_0 := hIE7
    refine jj_iload_n hC dX10_isConsistent_45 rfl 0 rfl ?_
    cases h
    exact jj_zret hC he9_6_0 (c_le rfl) (c_le rfl) dX10_isConsistent_46 ⟨rfl, he9_6_0, rfl, rfl, rfl, rfl, rfl⟩
  · subst hc7
    replace h := el_r h
    exact Option.some.inj h
def fX10_puts (ad S Ln : Nat → Nat) (R : gR) (M : gM) (a0 : Nat) (x1 : Int) : Option gM :=
  rf S (R a0 11) 20 fun b1 => gd ((0 : Int) ≤ (M a0 12) ∧ (M a0 12) < (Ln b1 : Int)) (nam (wr M b1 (M a0 12) x1) fun M3 => nam (wr M3 a0 12 (w32 ((M3 a0 12) + 1))) fun M5 => some (M5))
theorem xX10_puts {l : Launch} {G : gE} {sz : Nat} {S Ln : Nat → Nat} {M : gM} {R : gR} (hl : l.stackTraces = false) {a0 : Nat} (hs0 : S a0 = 13) {x1 : Int} (hx1 : (-2147483648 ≤ x1 ∧ x1 < 2147483648)) {r : gM} (h : fX10_puts G.2.2.2.2 S Ln R M a0 x1 = some r) : Ct l G yX10_puts cX10_puts 2 none 1 0 0 [.ref a0, .int (iI x1)] sz S Ln M R (poV sz S Ln (r) R) noX := by
  refine jj_start (own := RX10) (lv0 := [(0, .ref a0), (1, .int (iI x1))]) hl (by decide +kernel) rfl rfl (c_le rfl) (fun C hCl hC => ?_)
  unfold fX10_puts at h
  refine jj_aload_n hC dX10_puts_0 rfl 0 rfl ?_
  obtain ⟨b1, hb1, hs1, h⟩ := rf_e h
  refine jg_R hC kfX10 11 rfl hs0 (by decide) wd1720 rfl hb1 dX10_puts_1 ?_
  refine jj_aload_n hC dX10_puts_4 rfl 0 rfl ?_
  refine jg_I hC kfX10 12 rfl hs0 (by decide) wd1721 rfl dX10_puts_5 (fun hr2 => ?_)
  refine jj_iload_n hC dX10_puts_8 rfl 1 rfl ?_
  obtain ⟨⟨ha3, hb3⟩, h⟩ := gd_e h
  obtain ⟨M3, hM3, h⟩ := nam_e h
  refine jj_iast hC hs1 ha3 hb3 hx1 dX10_puts_9 (jj_M hM3 ?_)
  refine jj_aload_n hC dX10_puts_10 rfl 0 rfl ?_
  refine jj_dup hC dX10_puts_11 rfl ?_
  refine jg_I hC kfX10 12 rfl hs0 (by decide) wd1721 rfl dX10_puts_12 (fun hr4 => ?_)
  refine jj_iconst hC dX10_puts_15 ?_
  refine jg_iadd hC dX10_puts_16 ?_
  obtain ⟨M5, hM5, h⟩ := nam_e h
  refine jp_I hC kfX10 12 rfl hs0 rfl (by decide) wd1721 rfl rfl rfl (w32_r _) dX10_puts_17 (jj_M hM5 ?_)
  cases h
  exact jj_vret hC (c_le rfl) (c_le rfl) dX10_puts_20 ⟨rfl, trivial, rfl, rfl, rfl, rfl, rfl⟩
def fX10_number_B14 (ad S Ln : Nat → Nat) (R : gR) (M14 : gM) (l0_14 : Nat) (l1_14 : Int) : Option gM :=
  gd ((0 : Int) < 10) (bd (fX10_puts ad S Ln R M14 l0_14 (w32 (48 + (Int.tmod l1_14 10)))) fun q2 => some (q2))
def fX10_number_F (n0 : Nat) (ad S Ln : Nat → Nat) (R : gR) (M : gM) (a0 : Nat) (x1 : Int) : Option gM :=
  match n0 with
  | 0 => none
  | n0 + 1 => if x1 < 10 then (fX10_number_B14 ad S Ln R M a0 x1) else (gd ((0 : Int) < 10) (bd (fX10_number_F n0 ad S Ln R M a0 (Int.tdiv x1 10)) fun q4 => fX10_number_B14 ad S Ln R q4 a0 x1))
def fX10_number (ad S Ln : Nat → Nat) (R : gR) (M : gM) (a0 : Nat) (x1 : Int) : Option gM := fX10_number_F 12 ad S Ln R M a0 x1
theorem xX10_number_F (n0 : Nat) : ∀ {l : Launch} {G : gE} {sz : Nat} {S Ln : Nat → Nat} {M : gM} {R : gR} (hl : l.stackTraces = false) {a0 : Nat} (hs0 : S a0 = 13) {x1 : Int} (hx1 : (-2147483648 ≤ x1 ∧ x1 < 2147483648)) {r : gM} (h : fX10_number_F n0 G.2.2.2.2 S Ln R M a0 x1 = some r), Ct l G yX10_number cX10_number 2 none (n0 + 2) 0 0 [.ref a0, .int (iI x1)] sz S Ln M R (poV sz S Ln (r) R) noX := by
  induction n0 with
  | zero => intro l G sz S Ln M R hl a0 hs0 x1 hx1 r h; cases h
  | succ n0 ih =>
    intro l G sz S Ln M R hl a0 hs0 x1 hx1 r h
    refine jj_start (own := RX10) (lv0 := [(0, .ref a0), (1, .int (iI x1))]) hl (by decide +kernel) rfl rfl (c_le rfl) (fun C hCl hC => ?_)
    have hB14 : ∀ (M14 : gM) (l0_14 : Nat) (l1_14 : Int), S l0_14 = 13 → (-2147483648 ≤ l1_14 ∧ l1_14 < 2147483648) → fX10_number_B14 G.2.2.2.2 S Ln R M14 l0_14 l1_14 = some r → JJ G C 0 0 sz S Ln M14 R 14 [(0, .ref l0_14), (1, .int (iI l1_14))] [] := by
      intro M14 l0_14 l1_14 hl0_14 hl1_14 h
      unfold fX10_number_B14 at h
      refine jj_aload_n hC dX10_number_14 rfl 0 rfl ?_
      refine jj_bipush hC dX10_number_15 (by decide) ?_
      refine jj_iload_n hC dX10_number_17 rfl 1 rfl ?_
      refine jj_bipush hC dX10_number_18 (by decide) ?_
      obtain ⟨hg1, h⟩ := gd_e h
      refine jj_irem hC dX10_number_20 hl1_14 (show (-2147483648 ≤ (10 : Int) ∧ (10 : Int) < 2147483648) from by decide) hg1 ?_
      refine jg_iadd hC dX10_number_21 ?_
      obtain ⟨q2, hq2, h⟩ := bd_e h
      refine jj_invV hC mvX10_puts wd2138 wd64 wd2136 hl0_14 (by decide) rfl (xX10_puts (OKC.tr hC) hl0_14 (w32_r _) hq2) rfl rfl (c_le rfl) (by omega) (c_le rfl) (c_le rfl) dX10_number_22 noXk (po_kV ?_)
      cases h
      exact jj_vret hC (c_le rfl) (c_le rfl) dX10_number_25 ⟨rfl, trivial, rfl, rfl, rfl, rfl, rfl⟩
    rw [fX10_number_F] at h
    refine jj_iload_n hC dX10_number_0 rfl 1 rfl ?_
    refine jj_bipush hC dX10_number_1 (by decide) ?_
    refine jj_icmp_lt (tgt := 14) hC dX10_number_3 rfl hx1 (show (-2147483648 ≤ (10 : Int) ∧ (10 : Int) < 2147483648) from by decide) (fun hc => ?_) (fun hc => ?_)
    · replace h := (if_pos hc).symm.trans h
      refine jj_lv (lv' := [(0, .ref a0), (1, .int (iI x1))]) [0, 1] rfl ?_
      exact hB14 M a0 x1 hs0 hx1 h
    · replace h := (if_neg (Int.not_lt.mpr hc)).symm.trans h
      refine jj_aload_n hC dX10_number_6 rfl 0 rfl ?_
      refine jj_iload_n hC dX10_number_7 rfl 1 rfl ?_
      refine jj_bipush hC dX10_number_8 (by decide) ?_
      obtain ⟨hg3, h⟩ := gd_e h
      refine jj_idiv hC dX10_number_10 hx1 (show (-2147483648 ≤ (10 : Int) ∧ (10 : Int) < 2147483648) from by decide) hg3 ?_
      obtain ⟨q4, hq4, h⟩ := bd_e h
      refine jj_invV hC mvX10_number wd2134 wd63 wd2132 hs0 (by decide) rfl (ih (OKC.tr hC) hs0 (i_tdiv_r hx1 hg3) hq4) rfl rfl (c_le rfl) (by omega) (c_le rfl) (c_le rfl) dX10_number_11 noXk (po_kV ?_)
      refine jj_lv (lv' := [(0, .ref a0), (1, .int (iI x1))]) [0, 1] rfl ?_
      exact hB14 q4 a0 x1 hs0 hx1 h
theorem xX10_number {l : Launch} {G : gE} {sz : Nat} {S Ln : Nat → Nat} {M : gM} {R : gR} (hl : l.stackTraces = false) {a0 : Nat} (hs0 : S a0 = 13) {x1 : Int} (hx1 : (-2147483648 ≤ x1 ∧ x1 < 2147483648)) {r : gM} (h : fX10_number G.2.2.2.2 S Ln R M a0 x1 = some r) : Ct l G yX10_number cX10_number 2 none 14 0 0 [.ref a0, .int (iI x1)] sz S Ln M R (poV sz S Ln (r) R) noX := xX10_number_F 12 hl hs0 hx1 h
def fX10_writePilot_B14 (ad S Ln : Nat → Nat) (R : gR) (M14 : gM) (l0_14 : Nat) (l1_14 : Int) (s0_14 : Int) (s1_14 : Nat) : Option (Int × gM) :=
  bd (fX10_isThrown ad S Ln R M14 s1_14 s0_14 1) fun q2 => if q2.1 = 0 then (nam (wr q2.2 l0_14 12 0) fun M3 => bd (fX10_number ad S Ln R M3 l0_14 l1_14) fun q4 => rf S (some (ad 28)) 1 fun b5 => bd (fX10_of ad S Ln R q4 l0_14 l1_14 1) fun q6 => bd (fJ0_charAt_5068e ad S Ln R q4 b5 q6) fun q7 => bd (fX10_puts ad S Ln R q4 l0_14 q7) fun q8 => bd (fX10_of ad S Ln R q8 l0_14 l1_14 1) fun q9 => if ¬ q9 = 0 then (bd (fX10_of ad S Ln R q8 l0_14 l1_14 2) fun q10 => bd (fX10_number ad S Ln R q8 l0_14 q10) fun q11 => bd (fX10_puts ad S Ln R q11 l0_14 44) fun q12 => bd (fX10_of ad S Ln R q12 l0_14 l1_14 3) fun q13 => bd (fX10_number ad S Ln R q12 l0_14 q13) fun q14 => bd (fX10_puts ad S Ln R q14 l0_14 32) fun q15 => bd (fX10_of ad S Ln R q15 l0_14 l1_14 4) fun q16 => bd (fX10_number ad S Ln R q15 l0_14 q16) fun q17 => bd (fX10_puts ad S Ln R q17 l0_14 109) fun q18 => bd (fX10_puts ad S Ln R q18 l0_14 32) fun q19 => bd (fX10_of ad S Ln R q19 l0_14 l1_14 7) fun q20 => bd (fX10_number ad S Ln R q19 l0_14 q20) fun q21 => bd (fX10_puts ad S Ln R q21 l0_14 47) fun q22 => rf S (R l0_14 0) 20 fun b23 => gd ((0 : Int) ≤ 1 ∧ 1 < (Ln b23 : Int)) (bd (fX10_number ad S Ln R q22 l0_14 (q22 b23 1)) fun q25 => bd (fX10_of ad S Ln R q25 l0_14 l1_14 6) fun q26 => if q26 ≤ 0 then (some ((q25 l0_14 12, q25))) else (bd (fX10_puts ad S Ln R q25 l0_14 32) fun q28 => bd (fX10_puts ad S Ln R q28 l0_14 45) fun q29 => bd (fX10_of ad S Ln R q29 l0_14 l1_14 6) fun q30 => bd (fX10_number ad S Ln R q29 l0_14 q30) fun q31 => some ((q31 l0_14 12, q31))))) else (some ((q8 l0_14 12, q8)))) else (some ((0, q2.2)))
def fX10_writePilot (ad S Ln : Nat → Nat) (R : gR) (M : gM) (a0 : Nat) (x1 : Int) : Option (Int × gM) :=
  bd (fX10_isPilot ad S Ln R M a0 x1) fun q1 => if ¬ q1 = 0 then (fX10_writePilot_B14 ad S Ln R M a0 x1 0 a0) else (fX10_writePilot_B14 ad S Ln R M a0 x1 1 a0)
theorem xX10_writePilot {l : Launch} {G : gE} {sz : Nat} {S Ln : Nat → Nat} {M : gM} {R : gR} (hl : l.stackTraces = false) {a0 : Nat} (hs0 : S a0 = 13) {x1 : Int} (hx1 : (-2147483648 ≤ x1 ∧ x1 < 2147483648)) {r : Int × gM} (h : fX10_writePilot G.2.2.2.2 S Ln R M a0 x1 = some r) : Ct l G yX10_writePilot cX10_writePilot 2 (some .int) 15 0 0 [.ref a0, .int (iI x1)] sz S Ln M R (poI r.1 sz S Ln (r.2) R) noX := by
  refine jj_start (own := RX10) (lv0 := [(0, .ref a0), (1, .int (iI x1))]) hl (by decide +kernel) rfl rfl (c_le rfl) (fun C hCl hC => ?_)
  have hB14 : ∀ (M14 : gM) (l0_14 : Nat) (l1_14 : Int) (s0_14 : Int) (s1_14 : Nat), S l0_14 = 13 → (-2147483648 ≤ l1_14 ∧ l1_14 < 2147483648) → (0 ≤ s0_14 ∧ s0_14 ≤ 1) → S s1_14 = 13 → fX10_writePilot_B14 G.2.2.2.2 S Ln R M14 l0_14 l1_14 s0_14 s1_14 = some r → JJ G C 0 0 sz S Ln M14 R 14 [(0, .ref l0_14), (1, .int (iI l1_14))] [.int (iI s0_14), .ref s1_14] := by
    intro M14 l0_14 l1_14 s0_14 s1_14 hl0_14 hl1_14 hs0_14 hs1_14 h
    unfold fX10_writePilot_B14 at h
    refine jj_iconst hC dX10_writePilot_14 ?_
    obtain ⟨q2, hq2, h⟩ := bd_e h
    refine jj_invV hC mvX10_isThrown wd1791 wd24 wd1789 hs1_14 (by decide) rfl (xX10_isThrown (OKC.tr hC) hs1_14 hs0_14 (show (-2147483648 ≤ (1 : Int) ∧ (1 : Int) < 2147483648) from by decide) hq2) rfl rfl (c_le rfl) (c_le rfl) (c_le rfl) (c_le rfl) dX10_writePilot_15 noXk (po_kZ (fun hr2 => ?_))
    refine jj_if_eq (tgt := 23) hC dX10_writePilot_18 rfl (r_z hr2) (fun hc => ?_) (fun hc => ?_)
    · replace h := (if_pos hc).symm.trans h
      refine jj_aload_n hC dX10_writePilot_23 rfl 0 rfl ?_
      refine jj_iconst hC dX10_writePilot_24 ?_
      obtain ⟨M3, hM3, h⟩ := nam_e h
      refine jp_I hC kfX10 12 rfl hl0_14 rfl (by decide) wd1721 rfl rfl rfl (show (-2147483648 ≤ (0 : Int) ∧ (0 : Int) < 2147483648) from by decide) dX10_writePilot_25 (jj_M hM3 ?_)
      refine jj_aload_n hC dX10_writePilot_28 rfl 0 rfl ?_
      refine jj_iload_n hC dX10_writePilot_29 rfl 1 rfl ?_
      obtain ⟨q4, hq4, h⟩ := bd_e h
      refine jj_invV hC mvX10_number wd2134 wd63 wd2132 hl0_14 (by decide) rfl (xX10_number (OKC.tr hC) hl0_14 hl1_14 hq4) rfl rfl (c_le rfl) (c_le rfl) (c_le rfl) (c_le rfl) dX10_writePilot_30 noXk (po_kV ?_)
      refine jj_aload_n hC dX10_writePilot_33 rfl 0 rfl ?_
      obtain ⟨b5, hb5, hs5, h⟩ := rf_e h
      refine jg_ldcS hC 12 rfl (Option.some.inj hb5) dX10_writePilot_34 ?_
      refine jj_aload_n hC dX10_writePilot_36 rfl 0 rfl ?_
      refine jj_iload_n hC dX10_writePilot_37 rfl 1 rfl ?_
      refine jj_iconst hC dX10_writePilot_38 ?_
      obtain ⟨q6, hq6, h⟩ := bd_e h
      refine jj_invV hC mvX10_of wd1815 wd29 wd1813 hl0_14 (by decide) rfl (xX10_of (OKC.tr hC) hl0_14 hl1_14 (show (-2147483648 ≤ (1 : Int) ∧ (1 : Int) < 2147483648) from by decide) hq6) rfl rfl (c_le rfl) (c_le rfl) (c_le rfl) (c_le rfl) dX10_writePilot_39 noXk (po_kI (fun hr6 => ?_))
      obtain ⟨q7, hq7, h⟩ := bd_e h
      refine jj_invV hC mvJ0_charAt_5068e wd1576 wd1577 wd2141 hs5 (by decide) rfl (xJ0_charAt_5068e (OKC.tr hC) hs5 hr6 hq7) rfl rfl (c_le rfl) (c_le rfl) (c_le rfl) (c_le rfl) dX10_writePilot_42 noXk (po_kC (fun hr7 => ?_))
      obtain ⟨q8, hq8, h⟩ := bd_e h
      refine jj_invV hC mvX10_puts wd2138 wd64 wd2136 hl0_14 (by decide) rfl (xX10_puts (OKC.tr hC) hl0_14 (r_c hr7) hq8) rfl rfl (c_le rfl) (c_le rfl) (c_le rfl) (c_le rfl) dX10_writePilot_45 noXk (po_kV ?_)
      refine jj_aload_n hC dX10_writePilot_48 rfl 0 rfl ?_
      refine jj_iload_n hC dX10_writePilot_49 rfl 1 rfl ?_
      refine jj_iconst hC dX10_writePilot_50 ?_
      obtain ⟨q9, hq9, h⟩ := bd_e h
      refine jj_invV hC mvX10_of wd1815 wd29 wd1813 hl0_14 (by decide) rfl (xX10_of (OKC.tr hC) hl0_14 hl1_14 (show (-2147483648 ≤ (1 : Int) ∧ (1 : Int) < 2147483648) from by decide) hq9) rfl rfl (c_le rfl) (c_le rfl) (c_le rfl) (c_le rfl) dX10_writePilot_51 noXk (po_kI (fun hr9 => ?_))
      refine jj_if_ne (tgt := 62) hC dX10_writePilot_54 rfl hr9 (fun hc => ?_) (fun hc => ?_)
      · replace h := (if_pos hc).symm.trans h
        refine jj_aload_n hC dX10_writePilot_62 rfl 0 rfl ?_
        refine jj_aload_n hC dX10_writePilot_63 rfl 0 rfl ?_
        refine jj_iload_n hC dX10_writePilot_64 rfl 1 rfl ?_
        refine jj_iconst hC dX10_writePilot_65 ?_
        obtain ⟨q10, hq10, h⟩ := bd_e h
        refine jj_invV hC mvX10_of wd1815 wd29 wd1813 hl0_14 (by decide) rfl (xX10_of (OKC.tr hC) hl0_14 hl1_14 (show (-2147483648 ≤ (2 : Int) ∧ (2 : Int) < 2147483648) from by decide) hq10) rfl rfl (c_le rfl) (c_le rfl) (c_le rfl) (c_le rfl) dX10_writePilot_66 noXk (po_kI (fun hr10 => ?_))
        obtain ⟨q11, hq11, h⟩ := bd_e h
        refine jj_invV hC mvX10_number wd2134 wd63 wd2132 hl0_14 (by decide) rfl (xX10_number (OKC.tr hC) hl0_14 hr10 hq11) rfl rfl (c_le rfl) (c_le rfl) (c_le rfl) (c_le rfl) dX10_writePilot_69 noXk (po_kV ?_)
        refine jj_aload_n hC dX10_writePilot_72 rfl 0 rfl ?_
        refine jj_bipush hC dX10_writePilot_73 (by decide) ?_
        obtain ⟨q12, hq12, h⟩ := bd_e h
        refine jj_invV hC mvX10_puts wd2138 wd64 wd2136 hl0_14 (by decide) rfl (xX10_puts (OKC.tr hC) hl0_14 (show (-2147483648 ≤ (44 : Int) ∧ (44 : Int) < 2147483648) from by decide) hq12) rfl rfl (c_le rfl) (c_le rfl) (c_le rfl) (c_le rfl) dX10_writePilot_75 noXk (po_kV ?_)
        refine jj_aload_n hC dX10_writePilot_78 rfl 0 rfl ?_
        refine jj_aload_n hC dX10_writePilot_79 rfl 0 rfl ?_
        refine jj_iload_n hC dX10_writePilot_80 rfl 1 rfl ?_
        refine jj_iconst hC dX10_writePilot_81 ?_
        obtain ⟨q13, hq13, h⟩ := bd_e h
        refine jj_invV hC mvX10_of wd1815 wd29 wd1813 hl0_14 (by decide) rfl (xX10_of (OKC.tr hC) hl0_14 hl1_14 (show (-2147483648 ≤ (3 : Int) ∧ (3 : Int) < 2147483648) from by decide) hq13) rfl rfl (c_le rfl) (c_le rfl) (c_le rfl) (c_le rfl) dX10_writePilot_82 noXk (po_kI (fun hr13 => ?_))
        obtain ⟨q14, hq14, h⟩ := bd_e h
        refine jj_invV hC mvX10_number wd2134 wd63 wd2132 hl0_14 (by decide) rfl (xX10_number (OKC.tr hC) hl0_14 hr13 hq14) rfl rfl (c_le rfl) (c_le rfl) (c_le rfl) (c_le rfl) dX10_writePilot_85 noXk (po_kV ?_)
        refine jj_aload_n hC dX10_writePilot_88 rfl 0 rfl ?_
        refine jj_bipush hC dX10_writePilot_89 (by decide) ?_
        obtain ⟨q15, hq15, h⟩ := bd_e h
        refine jj_invV hC mvX10_puts wd2138 wd64 wd2136 hl0_14 (by decide) rfl (xX10_puts (OKC.tr hC) hl0_14 (show (-2147483648 ≤ (32 : Int) ∧ (32 : Int) < 2147483648) from by decide) hq15) rfl rfl (c_le rfl) (c_le rfl) (c_le rfl) (c_le rfl) dX10_writePilot_91 noXk (po_kV ?_)
        refine jj_aload_n hC dX10_writePilot_94 rfl 0 rfl ?_
        refine jj_aload_n hC dX10_writePilot_95 rfl 0 rfl ?_
        refine jj_iload_n hC dX10_writePilot_96 rfl 1 rfl ?_
        refine jj_iconst hC dX10_writePilot_97 ?_
        obtain ⟨q16, hq16, h⟩ := bd_e h
        refine jj_invV hC mvX10_of wd1815 wd29 wd1813 hl0_14 (by decide) rfl (xX10_of (OKC.tr hC) hl0_14 hl1_14 (show (-2147483648 ≤ (4 : Int) ∧ (4 : Int) < 2147483648) from by decide) hq16) rfl rfl (c_le rfl) (c_le rfl) (c_le rfl) (c_le rfl) dX10_writePilot_98 noXk (po_kI (fun hr16 => ?_))
        obtain ⟨q17, hq17, h⟩ := bd_e h
        refine jj_invV hC mvX10_number wd2134 wd63 wd2132 hl0_14 (by decide) rfl (xX10_number (OKC.tr hC) hl0_14 hr16 hq17) rfl rfl (c_le rfl) (c_le rfl) (c_le rfl) (c_le rfl) dX10_writePilot_101 noXk (po_kV ?_)
        refine jj_aload_n hC dX10_writePilot_104 rfl 0 rfl ?_
        refine jj_bipush hC dX10_writePilot_105 (by decide) ?_
        obtain ⟨q18, hq18, h⟩ := bd_e h
        refine jj_invV hC mvX10_puts wd2138 wd64 wd2136 hl0_14 (by decide) rfl (xX10_puts (OKC.tr hC) hl0_14 (show (-2147483648 ≤ (109 : Int) ∧ (109 : Int) < 2147483648) from by decide) hq18) rfl rfl (c_le rfl) (c_le rfl) (c_le rfl) (c_le rfl) dX10_writePilot_107 noXk (po_kV ?_)
        refine jj_aload_n hC dX10_writePilot_110 rfl 0 rfl ?_
        refine jj_bipush hC dX10_writePilot_111 (by decide) ?_
        obtain ⟨q19, hq19, h⟩ := bd_e h
        refine jj_invV hC mvX10_puts wd2138 wd64 wd2136 hl0_14 (by decide) rfl (xX10_puts (OKC.tr hC) hl0_14 (show (-2147483648 ≤ (32 : Int) ∧ (32 : Int) < 2147483648) from by decide) hq19) rfl rfl (c_le rfl) (c_le rfl) (c_le rfl) (c_le rfl) dX10_writePilot_113 noXk (po_kV ?_)
        refine jj_aload_n hC dX10_writePilot_116 rfl 0 rfl ?_
        refine jj_aload_n hC dX10_writePilot_117 rfl 0 rfl ?_
        refine jj_iload_n hC dX10_writePilot_118 rfl 1 rfl ?_
        refine jj_bipush hC dX10_writePilot_119 (by decide) ?_
        obtain ⟨q20, hq20, h⟩ := bd_e h
        refine jj_invV hC mvX10_of wd1815 wd29 wd1813 hl0_14 (by decide) rfl (xX10_of (OKC.tr hC) hl0_14 hl1_14 (show (-2147483648 ≤ (7 : Int) ∧ (7 : Int) < 2147483648) from by decide) hq20) rfl rfl (c_le rfl) (c_le rfl) (c_le rfl) (c_le rfl) dX10_writePilot_121 noXk (po_kI (fun hr20 => ?_))
        obtain ⟨q21, hq21, h⟩ := bd_e h
        refine jj_invV hC mvX10_number wd2134 wd63 wd2132 hl0_14 (by decide) rfl (xX10_number (OKC.tr hC) hl0_14 hr20 hq21) rfl rfl (c_le rfl) (c_le rfl) (c_le rfl) (c_le rfl) dX10_writePilot_124 noXk (po_kV ?_)
        refine jj_aload_n hC dX10_writePilot_127 rfl 0 rfl ?_
        refine jj_bipush hC dX10_writePilot_128 (by decide) ?_
        obtain ⟨q22, hq22, h⟩ := bd_e h
        refine jj_invV hC mvX10_puts wd2138 wd64 wd2136 hl0_14 (by decide) rfl (xX10_puts (OKC.tr hC) hl0_14 (show (-2147483648 ≤ (47 : Int) ∧ (47 : Int) < 2147483648) from by decide) hq22) rfl rfl (c_le rfl) (c_le rfl) (c_le rfl) (c_le rfl) dX10_writePilot_130 noXk (po_kV ?_)
        refine jj_aload_n hC dX10_writePilot_133 rfl 0 rfl ?_
        refine jj_aload_n hC dX10_writePilot_134 rfl 0 rfl ?_
        obtain ⟨b23, hb23, hs23, h⟩ := rf_e h
        refine jg_R hC kfX10 0 rfl hl0_14 (by decide) wd1709 rfl hb23 dX10_writePilot_135 ?_
        refine jj_iconst hC dX10_writePilot_138 ?_
        obtain ⟨⟨ha24, hb24⟩, h⟩ := gd_e h
        refine jj_iald hC hs23 ha24 hb24 dX10_writePilot_139 (fun hr24 => ?_)
        obtain ⟨q25, hq25, h⟩ := bd_e h
        refine jj_invV hC mvX10_number wd2134 wd63 wd2132 hl0_14 (by decide) rfl (xX10_number (OKC.tr hC) hl0_14 hr24 hq25) rfl rfl (c_le rfl) (c_le rfl) (c_le rfl) (c_le rfl) dX10_writePilot_140 noXk (po_kV ?_)
        refine jj_aload_n hC dX10_writePilot_143 rfl 0 rfl ?_
        refine jj_iload_n hC dX10_writePilot_144 rfl 1 rfl ?_
        refine jj_bipush hC dX10_writePilot_145 (by decide) ?_
        obtain ⟨q26, hq26, h⟩ := bd_e h
        refine jj_invV hC mvX10_of wd1815 wd29 wd1813 hl0_14 (by decide) rfl (xX10_of (OKC.tr hC) hl0_14 hl1_14 (show (-2147483648 ≤ (6 : Int) ∧ (6 : Int) < 2147483648) from by decide) hq26) rfl rfl (c_le rfl) (c_le rfl) (c_le rfl) (c_le rfl) dX10_writePilot_147 noXk (po_kI (fun hr26 => ?_))
        refine jj_if_le (tgt := 176) hC dX10_writePilot_150 rfl hr26 (fun hc => ?_) (fun hc => ?_)
        · replace h := (if_pos hc).symm.trans h
          refine jj_aload_n hC dX10_writePilot_176 rfl 0 rfl ?_
          refine jg_I hC kfX10 12 rfl hl0_14 (by decide) wd1721 rfl dX10_writePilot_177 (fun hr27 => ?_)
          cases h
          exact jj_iret hC (c_le rfl) (c_le rfl) dX10_writePilot_180 ⟨rfl, hr27, rfl, rfl, rfl, rfl, rfl⟩
        · replace h := (if_neg (Int.not_le.mpr hc)).symm.trans h
          refine jj_aload_n hC dX10_writePilot_153 rfl 0 rfl ?_
          refine jj_bipush hC dX10_writePilot_154 (by decide) ?_
          obtain ⟨q28, hq28, h⟩ := bd_e h
          refine jj_invV hC mvX10_puts wd2138 wd64 wd2136 hl0_14 (by decide) rfl (xX10_puts (OKC.tr hC) hl0_14 (show (-2147483648 ≤ (32 : Int) ∧ (32 : Int) < 2147483648) from by decide) hq28) rfl rfl (c_le rfl) (c_le rfl) (c_le rfl) (c_le rfl) dX10_writePilot_156 noXk (po_kV ?_)
          refine jj_aload_n hC dX10_writePilot_159 rfl 0 rfl ?_
          refine jj_bipush hC dX10_writePilot_160 (by decide) ?_
          obtain ⟨q29, hq29, h⟩ := bd_e h
          refine jj_invV hC mvX10_puts wd2138 wd64 wd2136 hl0_14 (by decide) rfl (xX10_puts (OKC.tr hC) hl0_14 (show (-2147483648 ≤ (45 : Int) ∧ (45 : Int) < 2147483648) from by decide) hq29) rfl rfl (c_le rfl) (c_le rfl) (c_le rfl) (c_le rfl) dX10_writePilot_162 noXk (po_kV ?_)
          refine jj_aload_n hC dX10_writePilot_165 rfl 0 rfl ?_
          refine jj_aload_n hC dX10_writePilot_166 rfl 0 rfl ?_
          refine jj_iload_n hC dX10_writePilot_167 rfl 1 rfl ?_
          refine jj_bipush hC dX10_writePilot_168 (by decide) ?_
          obtain ⟨q30, hq30, h⟩ := bd_e h
          refine jj_invV hC mvX10_of wd1815 wd29 wd1813 hl0_14 (by decide) rfl (xX10_of (OKC.tr hC) hl0_14 hl1_14 (show (-2147483648 ≤ (6 : Int) ∧ (6 : Int) < 2147483648) from by decide) hq30) rfl rfl (c_le rfl) (c_le rfl) (c_le rfl) (c_le rfl) dX10_writePilot_170 noXk (po_kI (fun hr30 => ?_))
          obtain ⟨q31, hq31, h⟩ := bd_e h
          refine jj_invV hC mvX10_number wd2134 wd63 wd2132 hl0_14 (by decide) rfl (xX10_number (OKC.tr hC) hl0_14 hr30 hq31) rfl rfl (c_le rfl) (c_le rfl) (c_le rfl) (c_le rfl) dX10_writePilot_173 noXk (po_kV ?_)
          refine jj_aload_n hC dX10_writePilot_176 rfl 0 rfl ?_
          refine jg_I hC kfX10 12 rfl hl0_14 (by decide) wd1721 rfl dX10_writePilot_177 (fun hr32 => ?_)
          cases h
          exact jj_iret hC (c_le rfl) (c_le rfl) dX10_writePilot_180 ⟨rfl, hr32, rfl, rfl, rfl, rfl, rfl⟩
      · replace h := (if_neg (fun k => k hc)).symm.trans h
        refine jj_aload_n hC dX10_writePilot_57 rfl 0 rfl ?_
        refine jg_I hC kfX10 12 rfl hl0_14 (by decide) wd1721 rfl dX10_writePilot_58 (fun hr33 => ?_)
        cases h
        exact jj_iret hC (c_le rfl) (c_le rfl) dX10_writePilot_61 ⟨rfl, hr33, rfl, rfl, rfl, rfl, rfl⟩
    · replace h := (if_neg (hc)).symm.trans h
      refine jj_iconst hC dX10_writePilot_21 ?_
      cases h
      exact jj_iret hC (c_le rfl) (c_le rfl) dX10_writePilot_22 ⟨rfl, (show (-2147483648 ≤ (0 : Int) ∧ (0 : Int) < 2147483648) from by decide), rfl, rfl, rfl, rfl, rfl⟩
  unfold fX10_writePilot at h
  refine jj_aload_n hC dX10_writePilot_0 rfl 0 rfl ?_
  refine jj_aload_n hC dX10_writePilot_1 rfl 0 rfl ?_
  refine jj_iload_n hC dX10_writePilot_2 rfl 1 rfl ?_
  obtain ⟨q1, hq1, h⟩ := bd_e h
  refine jj_invV hC mvX10_isPilot wd1890 wd41 wd1888 hs0 (by decide) rfl (xX10_isPilot (OKC.tr hC) hs0 hx1 hq1) rfl rfl (c_le rfl) (c_le rfl) (c_le rfl) (c_le rfl) dX10_writePilot_3 noXk (po_kZ (fun hr1 => ?_))
  refine jj_if_ne (tgt := 13) hC dX10_writePilot_6 rfl (r_z hr1) (fun hc => ?_) (fun hc => ?_)
  · replace h := (if_pos hc).symm.trans h
    refine jj_iconst hC dX10_writePilot_13 ?_
    refine jj_lv (lv' := [(0, .ref a0), (1, .int (iI x1))]) [0, 1] rfl ?_
    exact hB14 M a0 x1 0 a0 hs0 hx1 (show (0 ≤ (0 : Int) ∧ (0 : Int) ≤ 1) from by decide) hs0 h
  · replace h := (if_neg (fun k => k hc)).symm.trans h
    refine jj_iconst hC dX10_writePilot_9 ?_
    refine jj_goto (tgt := 14) hC dX10_writePilot_10 rfl ?_
    refine jj_lv (lv' := [(0, .ref a0), (1, .int (iI x1))]) [0, 1] rfl ?_
    exact hB14 M a0 x1 1 a0 hs0 hx1 (show (0 ≤ (1 : Int) ∧ (1 : Int) ≤ 1) from by decide) hs0 h
def fX10_writeTask_B49 (ad S Ln : Nat → Nat) (R : gR) (M49 : gM) (l0_12 : Nat) (l1_49 : Int) : Option ((Int × gM) ⊕ ((gM) ⊕ (Int × gM))) :=
  bd (fX10_inTask ad S Ln R M49 l0_12 l1_49) fun q5 => bd (fX10_number ad S Ln R M49 l0_12 q5) fun q6 => some (.inl (w32 (l1_49 + 1), q6))
def fX10_writeTask_L12 (ad S Ln : Nat → Nat) (R : gR) (l0_12 : Nat) (s12 : Int × gM) : Option ((Int × gM) ⊕ ((gM) ⊕ (Int × gM))) :=
  rf S (R l0_12 0) 20 fun b3 => gd ((0 : Int) ≤ 1 ∧ 1 < (Ln b3 : Int)) (if (s12.2 b3 1) ≤ s12.1 then (some (.inr (.inl s12.2))) else (if s12.1 ≤ 0 then (fX10_writeTask_B49 ad S Ln R s12.2 l0_12 s12.1) else (bd (fX10_puts ad S Ln R s12.2 l0_12 45) fun q7 => bd (fX10_leg ad S Ln R q7 l0_12 (w32 (s12.1 - 1))) fun q8 => bd (fX10_number ad S Ln R q7 l0_12 q8) fun q9 => bd (fX10_puts ad S Ln R q9 l0_12 62) fun q10 => fX10_writeTask_B49 ad S Ln R q10 l0_12 s12.1)))
def fX10_writeTask (ad S Ln : Nat → Nat) (R : gR) (M : gM) (a0 : Nat) : Option (Int × gM) :=
  nam (wr M a0 5 0) fun M1 => nam (wr M1 a0 12 0) fun M2 => bd (lp (fX10_writeTask_L12 ad S Ln R a0) FU (0, M2)) fun q13 => Sum.elim (fun e12_11 => some ((e12_11 a0 12, e12_11))) (fun c13 => some c13) q13
theorem xX10_writeTask {l : Launch} {G : gE} {sz : Nat} {S Ln : Nat → Nat} {M : gM} {R : gR} (hl : l.stackTraces = false) {a0 : Nat} (hs0 : S a0 = 13) {r : Int × gM} (h : fX10_writeTask G.2.2.2.2 S Ln R M a0 = some r) : Ct l G yX10_writeTask cX10_writeTask 2 (some .int) 15 0 0 [.ref a0] sz S Ln M R (poI r.1 sz S Ln (r.2) R) noX := by
  refine jj_start (own := RX10) (lv0 := [(0, .ref a0)]) hl (by decide +kernel) rfl rfl (c_le rfl) (fun C hCl hC => ?_)
  have hL12 : ∀ (l0_12 : Nat), S l0_12 = 13 → ∀ (n : Nat) (s12 : Int × gM) (q : (gM) ⊕ (Int × gM)), lp (fX10_writeTask_L12 G.2.2.2.2 S Ln R l0_12) n s12 = some q → (-2147483648 ≤ s12.1 ∧ s12.1 < 2147483648) → (∀ e12, q = .inl e12 → True → JJ G C 0 0 sz S Ln e12 R 64 [(0, .ref l0_12)] []) → (∀ c, q = .inr c → c = r) → JJ G C 0 0 sz S Ln s12.2 R 12 [(0, .ref l0_12), (1, .int (iI s12.1))] [] := by
    intro l0_12 hl0_12
    refine lp_ind ?_
    intro s12 r12 hI12 h hJ12 hE12 hR12
    have hs12_0 := hI12
    have hB49 : ∀ (M49 : gM) (l1_49 : Int), (-2147483648 ≤ l1_49 ∧ l1_49 < 2147483648) → fX10_writeTask_B49 G.2.2.2.2 S Ln R M49 l0_12 l1_49 = some r12 → JJ G C 0 0 sz S Ln M49 R 49 [(0, .ref l0_12), (1, .int (iI l1_49))] [] := by
      intro M49 l1_49 hl1_49 h
      unfold fX10_writeTask_B49 at h
      refine jj_aload_n hC dX10_writeTask_49 rfl 0 rfl ?_
      refine jj_aload_n hC dX10_writeTask_50 rfl 0 rfl ?_
      refine jj_iload_n hC dX10_writeTask_51 rfl 1 rfl ?_
      obtain ⟨q5, hq5, h⟩ := bd_e h
      refine jj_invV hC mvX10_inTask wd1819 wd30 wd1817 hl0_12 (by decide) rfl (xX10_inTask (OKC.tr hC) hl0_12 hl1_49 hq5) rfl rfl (c_le rfl) (c_le rfl) (c_le rfl) (c_le rfl) dX10_writeTask_52 noXk (po_kI (fun hr5 => ?_))
      obtain ⟨q6, hq6, h⟩ := bd_e h
      refine jj_invV hC mvX10_number wd2134 wd63 wd2132 hl0_12 (by decide) rfl (xX10_number (OKC.tr hC) hl0_12 hr5 hq6) rfl rfl (c_le rfl) (c_le rfl) (c_le rfl) (c_le rfl) dX10_writeTask_55 noXk (po_kV ?_)
      refine jg_iinc (q := 1) (lv' := [(1, .int (iI (w32 (l1_49 + 1)))), (0, .ref l0_12)]) hC dX10_writeTask_58 rfl (by decide) rfl ?_
      refine jj_goto (tgt := 12) hC dX10_writeTask_61 rfl ?_
      refine jj_lv (lv' := [(0, .ref l0_12), (1, .int (iI (w32 (l1_49 + 1))))]) [1, 0] rfl ?_
      exact hJ12 _ (Option.some.inj h).symm (w32_r _)
    unfold fX10_writeTask_L12 at h
    refine jj_iload_n hC dX10_writeTask_12 rfl 1 rfl ?_
    refine jj_aload_n hC dX10_writeTask_13 rfl 0 rfl ?_
    obtain ⟨b3, hb3, hs3, h⟩ := rf_e h
    refine jg_R hC kfX10 0 rfl hl0_12 (by decide) wd1709 rfl hb3 dX10_writeTask_14 ?_
    refine jj_iconst hC dX10_writeTask_17 ?_
    obtain ⟨⟨ha4, hb4⟩, h⟩ := gd_e h
    refine jj_iald hC hs3 ha4 hb4 dX10_writeTask_18 (fun hr4 => ?_)
    refine jj_icmp_ge (tgt := 64) hC dX10_writeTask_19 rfl hs12_0 hr4 (fun hc => ?_) (fun hc => ?_)
    · replace h := (if_pos hc).symm.trans h
      refine jj_lv (lv' := [(0, .ref l0_12)]) [0] rfl ?_
      exact hE12 _ (Option.some.inj h).symm trivial
    · replace h := (if_neg (Int.not_le.mpr hc)).symm.trans h
      refine jj_iload_n hC dX10_writeTask_22 rfl 1 rfl ?_
      refine jj_if_le (tgt := 49) hC dX10_writeTask_23 rfl hs12_0 (fun hc => ?_) (fun hc => ?_)
      · replace h := (if_pos hc).symm.trans h
        refine jj_lv (lv' := [(0, .ref l0_12), (1, .int (iI s12.1))]) [0, 1] rfl ?_
        exact hB49 s12.2 s12.1 hs12_0 h
      · replace h := (if_neg (Int.not_le.mpr hc)).symm.trans h
        refine jj_aload_n hC dX10_writeTask_26 rfl 0 rfl ?_
        refine jj_bipush hC dX10_writeTask_27 (by decide) ?_
        obtain ⟨q7, hq7, h⟩ := bd_e h
        refine jj_invV hC mvX10_puts wd2138 wd64 wd2136 hl0_12 (by decide) rfl (xX10_puts (OKC.tr hC) hl0_12 (show (-2147483648 ≤ (45 : Int) ∧ (45 : Int) < 2147483648) from by decide) hq7) rfl rfl (c_le rfl) (c_le rfl) (c_le rfl) (c_le rfl) dX10_writeTask_29 noXk (po_kV ?_)
        refine jj_aload_n hC dX10_writeTask_32 rfl 0 rfl ?_
        refine jj_aload_n hC dX10_writeTask_33 rfl 0 rfl ?_
        refine jj_iload_n hC dX10_writeTask_34 rfl 1 rfl ?_
        refine jj_iconst hC dX10_writeTask_35 ?_
        refine jg_isub hC dX10_writeTask_36 ?_
        obtain ⟨q8, hq8, h⟩ := bd_e h
        refine jj_invV hC mvX10_leg wd1964 wd55 wd1962 hl0_12 (by decide) rfl (xX10_leg (OKC.tr hC) hl0_12 (w32_r _) hq8) rfl rfl (c_le rfl) (c_le rfl) (c_le rfl) (c_le rfl) dX10_writeTask_37 noXk (po_kI (fun hr8 => ?_))
        obtain ⟨q9, hq9, h⟩ := bd_e h
        refine jj_invV hC mvX10_number wd2134 wd63 wd2132 hl0_12 (by decide) rfl (xX10_number (OKC.tr hC) hl0_12 hr8 hq9) rfl rfl (c_le rfl) (c_le rfl) (c_le rfl) (c_le rfl) dX10_writeTask_40 noXk (po_kV ?_)
        refine jj_aload_n hC dX10_writeTask_43 rfl 0 rfl ?_
        refine jj_bipush hC dX10_writeTask_44 (by decide) ?_
        obtain ⟨q10, hq10, h⟩ := bd_e h
        refine jj_invV hC mvX10_puts wd2138 wd64 wd2136 hl0_12 (by decide) rfl (xX10_puts (OKC.tr hC) hl0_12 (show (-2147483648 ≤ (62 : Int) ∧ (62 : Int) < 2147483648) from by decide) hq10) rfl rfl (c_le rfl) (c_le rfl) (c_le rfl) (c_le rfl) dX10_writeTask_46 noXk (po_kV ?_)
        refine jj_lv (lv' := [(0, .ref l0_12), (1, .int (iI s12.1))]) [0, 1] rfl ?_
        exact hB49 q10 s12.1 hs12_0 h
  unfold fX10_writeTask at h
  refine jj_aload_n hC dX10_writeTask_0 rfl 0 rfl ?_
  refine jj_iconst hC dX10_writeTask_1 ?_
  obtain ⟨M1, hM1, h⟩ := nam_e h
  refine jp_I hC kfX10 5 rfl hs0 rfl (by decide) wd1714 rfl rfl rfl (show (-2147483648 ≤ (0 : Int) ∧ (0 : Int) < 2147483648) from by decide) dX10_writeTask_2 (jj_M hM1 ?_)
  refine jj_aload_n hC dX10_writeTask_5 rfl 0 rfl ?_
  refine jj_iconst hC dX10_writeTask_6 ?_
  obtain ⟨M2, hM2, h⟩ := nam_e h
  refine jp_I hC kfX10 12 rfl hs0 rfl (by decide) wd1721 rfl rfl rfl (show (-2147483648 ≤ (0 : Int) ∧ (0 : Int) < 2147483648) from by decide) dX10_writeTask_7 (jj_M hM2 ?_)
  refine jj_iconst hC dX10_writeTask_10 ?_
  refine jj_istore_n (lv' := [(1, .int (iI 0)), (0, .ref a0)]) hC dX10_writeTask_11 rfl (by decide) rfl ?_
  obtain ⟨q13, hq13, h⟩ := bd_e h
  refine jj_lv (lv' := [(0, .ref a0), (1, .int (iI 0))]) [1, 0] rfl ?_
  refine hL12 a0 hs0 FU _ q13 hq13 (show (-2147483648 ≤ (0 : Int) ∧ (0 : Int) < 2147483648) from by decide) (fun e12_11 he13 hIE13 => ?_) (fun c13 hc13 => ?_)
  · subst he13
    replace h := el_l h
    refine jj_aload_n hC dX10_writeTask_64 rfl 0 rfl ?_
    refine jg_I hC kfX10 12 rfl hs0 (by decide) wd1721 rfl dX10_writeTask_65 (fun hr12 => ?_)
    cases h
    exact jj_iret hC (c_le rfl) (c_le rfl) dX10_writeTask_68 ⟨rfl, hr12, rfl, rfl, rfl, rfl, rfl⟩
  · subst hc13
    replace h := el_r h
    exact Option.some.inj h
def fX10_outputAt_B20 (ad S Ln : Nat → Nat) (R : gR) (M20 : gM) (l0_20 : Nat) (l1_20 : Int) (s0_20 : Int) (s1_20 : Nat) : Option (Int × gM) :=
  bd (fX10_isThrown ad S Ln R M20 s1_20 s0_20 1) fun q3 => if q3.1 = 0 then (rf S (R l0_20 11) 20 fun b4 => gd ((0 : Int) ≤ l1_20 ∧ l1_20 < (Ln b4 : Int)) (some ((i_i2c (q3.2 b4 l1_20), q3.2)))) else (some ((0, q3.2)))
def fX10_outputAt (ad S Ln : Nat → Nat) (R : gR) (M : gM) (a0 : Nat) (x1 : Int) : Option (Int × gM) :=
  bd (fX10_isIn ad S Ln R M x1 0 (w32 ((M a0 12) - 1))) fun q2 => if ¬ q2 = 0 then (fX10_outputAt_B20 ad S Ln R M a0 x1 0 a0) else (fX10_outputAt_B20 ad S Ln R M a0 x1 1 a0)
theorem xX10_outputAt {l : Launch} {G : gE} {sz : Nat} {S Ln : Nat → Nat} {M : gM} {R : gR} (hl : l.stackTraces = false) {a0 : Nat} (hs0 : S a0 = 13) {x1 : Int} (hx1 : (-2147483648 ≤ x1 ∧ x1 < 2147483648)) {r : Int × gM} (h : fX10_outputAt G.2.2.2.2 S Ln R M a0 x1 = some r) : Ct l G yX10_outputAt cX10_outputAt 2 (some .char) 2 0 0 [.ref a0, .int (iI x1)] sz S Ln M R (poC r.1 sz S Ln (r.2) R) noX := by
  refine jj_start (own := RX10) (lv0 := [(0, .ref a0), (1, .int (iI x1))]) hl (by decide +kernel) rfl rfl (c_le rfl) (fun C hCl hC => ?_)
  have hB20 : ∀ (M20 : gM) (l0_20 : Nat) (l1_20 : Int) (s0_20 : Int) (s1_20 : Nat), S l0_20 = 13 → (-2147483648 ≤ l1_20 ∧ l1_20 < 2147483648) → (0 ≤ s0_20 ∧ s0_20 ≤ 1) → S s1_20 = 13 → fX10_outputAt_B20 G.2.2.2.2 S Ln R M20 l0_20 l1_20 s0_20 s1_20 = some r → JJ G C 0 0 sz S Ln M20 R 20 [(0, .ref l0_20), (1, .int (iI l1_20))] [.int (iI s0_20), .ref s1_20] := by
    intro M20 l0_20 l1_20 s0_20 s1_20 hl0_20 hl1_20 hs0_20 hs1_20 h
    unfold fX10_outputAt_B20 at h
    refine jj_iconst hC dX10_outputAt_20 ?_
    obtain ⟨q3, hq3, h⟩ := bd_e h
    refine jj_invV hC mvX10_isThrown wd1791 wd24 wd1789 hs1_20 (by decide) rfl (xX10_isThrown (OKC.tr hC) hs1_20 hs0_20 (show (-2147483648 ≤ (1 : Int) ∧ (1 : Int) < 2147483648) from by decide) hq3) rfl rfl (c_le rfl) (c_le rfl) (c_le rfl) (c_le rfl) dX10_outputAt_21 noXk (po_kZ (fun hr3 => ?_))
    refine jj_if_eq (tgt := 31) hC dX10_outputAt_24 rfl (r_z hr3) (fun hc => ?_) (fun hc => ?_)
    · replace h := (if_pos hc).symm.trans h
      refine jj_aload_n hC dX10_outputAt_31 rfl 0 rfl ?_
      obtain ⟨b4, hb4, hs4, h⟩ := rf_e h
      refine jg_R hC kfX10 11 rfl hl0_20 (by decide) wd1720 rfl hb4 dX10_outputAt_32 ?_
      refine jj_iload_n hC dX10_outputAt_35 rfl 1 rfl ?_
      obtain ⟨⟨ha5, hb5⟩, h⟩ := gd_e h
      refine jj_iald hC hs4 ha5 hb5 dX10_outputAt_36 (fun hr5 => ?_)
      refine jg_i2c hC dX10_outputAt_37 ?_
      cases h
      exact jj_cret hC (i_i2c_r _) (c_le rfl) (c_le rfl) dX10_outputAt_38 ⟨rfl, (i_i2c_r _), rfl, rfl, rfl, rfl, rfl⟩
    · replace h := (if_neg (hc)).symm.trans h
      refine jj_iconst hC dX10_outputAt_27 ?_
      refine jj_goto (tgt := 38) hC dX10_outputAt_28 rfl ?_
      cases h
      exact jj_cret hC (show (0 ≤ (0 : Int) ∧ (0 : Int) < 65536) from by decide) (c_le rfl) (c_le rfl) dX10_outputAt_38 ⟨rfl, (show (0 ≤ (0 : Int) ∧ (0 : Int) < 65536) from by decide), rfl, rfl, rfl, rfl, rfl⟩
  unfold fX10_outputAt at h
  refine jj_aload_n hC dX10_outputAt_0 rfl 0 rfl ?_
  refine jj_iload_n hC dX10_outputAt_1 rfl 1 rfl ?_
  refine jj_iconst hC dX10_outputAt_2 ?_
  refine jj_aload_n hC dX10_outputAt_3 rfl 0 rfl ?_
  refine jg_I hC kfX10 12 rfl hs0 (by decide) wd1721 rfl dX10_outputAt_4 (fun hr1 => ?_)
  refine jj_iconst hC dX10_outputAt_7 ?_
  refine jg_isub hC dX10_outputAt_8 ?_
  obtain ⟨q2, hq2, h⟩ := bd_e h
  refine jj_invS hC mvX10_isIn wd1787 wd1786 (xX10_isIn (OKC.tr hC) hx1 (show (-2147483648 ≤ (0 : Int) ∧ (0 : Int) < 2147483648) from by decide) (w32_r _) hq2) rfl rfl (c_le rfl) (c_le rfl) (c_le rfl) (c_le rfl) dX10_outputAt_9 noXk (po_kZ (fun hr2 => ?_))
  refine jj_if_ne (tgt := 19) hC dX10_outputAt_12 rfl (r_z hr2) (fun hc => ?_) (fun hc => ?_)
  · replace h := (if_pos hc).symm.trans h
    refine jj_iconst hC dX10_outputAt_19 ?_
    refine jj_lv (lv' := [(0, .ref a0), (1, .int (iI x1))]) [0, 1] rfl ?_
    exact hB20 M a0 x1 0 a0 hs0 hx1 (show (0 ≤ (0 : Int) ∧ (0 : Int) ≤ 1) from by decide) hs0 h
  · replace h := (if_neg (fun k => k hc)).symm.trans h
    refine jj_iconst hC dX10_outputAt_15 ?_
    refine jj_goto (tgt := 20) hC dX10_outputAt_16 rfl ?_
    refine jj_lv (lv' := [(0, .ref a0), (1, .int (iI x1))]) [0, 1] rfl ?_
    exact hB20 M a0 x1 1 a0 hs0 hx1 (show (0 ≤ (1 : Int) ∧ (1 : Int) ≤ 1) from by decide) hs0 h
def fX10_append_B15 (ad S Ln : Nat → Nat) (R : gR) (M15 : gM) (l0_15 : Nat) (l1_15 : Int) (s0_15 : Int) (s1_15 : Nat) : Option (Int × gM) :=
  bd (fX10_isThrown ad S Ln R M15 s1_15 s0_15 1) fun q2 => if q2.1 = 0 then (rf S (R l0_15 13) 20 fun b3 => gd ((0 : Int) ≤ (q2.2 l0_15 15) ∧ (q2.2 l0_15 15) < (Ln b3 : Int)) (nam (wr q2.2 b3 (q2.2 l0_15 15) l1_15) fun M5 => nam (wr M5 l0_15 15 (w32 ((M5 l0_15 15) + 1))) fun M7 => some ((M7 l0_15 15, M7)))) else (some ((0, q2.2)))
def fX10_append (ad S Ln : Nat → Nat) (R : gR) (M : gM) (a0 : Nat) (x1 : Int) : Option (Int × gM) :=
  if ¬ (M a0 15) = 60 then (fX10_append_B15 ad S Ln R M a0 x1 0 a0) else (fX10_append_B15 ad S Ln R M a0 x1 1 a0)
theorem xX10_append {l : Launch} {G : gE} {sz : Nat} {S Ln : Nat → Nat} {M : gM} {R : gR} (hl : l.stackTraces = false) {a0 : Nat} (hs0 : S a0 = 13) {x1 : Int} (hx1 : (0 ≤ x1 ∧ x1 < 65536)) {r : Int × gM} (h : fX10_append G.2.2.2.2 S Ln R M a0 x1 = some r) : Ct l G yX10_append cX10_append 2 (some .int) 2 0 0 [.ref a0, .int (iI x1)] sz S Ln M R (poI r.1 sz S Ln (r.2) R) noX := by
  refine jj_start (own := RX10) (lv0 := [(0, .ref a0), (1, .int (iI x1))]) hl (by decide +kernel) rfl rfl (c_le rfl) (fun C hCl hC => ?_)
  have hB15 : ∀ (M15 : gM) (l0_15 : Nat) (l1_15 : Int) (s0_15 : Int) (s1_15 : Nat), S l0_15 = 13 → (0 ≤ l1_15 ∧ l1_15 < 65536) → (0 ≤ s0_15 ∧ s0_15 ≤ 1) → S s1_15 = 13 → fX10_append_B15 G.2.2.2.2 S Ln R M15 l0_15 l1_15 s0_15 s1_15 = some r → JJ G C 0 0 sz S Ln M15 R 15 [(0, .ref l0_15), (1, .int (iI l1_15))] [.int (iI s0_15), .ref s1_15] := by
    intro M15 l0_15 l1_15 s0_15 s1_15 hl0_15 hl1_15 hs0_15 hs1_15 h
    unfold fX10_append_B15 at h
    refine jj_iconst hC dX10_append_15 ?_
    obtain ⟨q2, hq2, h⟩ := bd_e h
    refine jj_invV hC mvX10_isThrown wd1791 wd24 wd1789 hs1_15 (by decide) rfl (xX10_isThrown (OKC.tr hC) hs1_15 hs0_15 (show (-2147483648 ≤ (1 : Int) ∧ (1 : Int) < 2147483648) from by decide) hq2) rfl rfl (c_le rfl) (c_le rfl) (c_le rfl) (c_le rfl) dX10_append_16 noXk (po_kZ (fun hr2 => ?_))
    refine jj_if_eq (tgt := 24) hC dX10_append_19 rfl (r_z hr2) (fun hc => ?_) (fun hc => ?_)
    · replace h := (if_pos hc).symm.trans h
      refine jj_aload_n hC dX10_append_24 rfl 0 rfl ?_
      obtain ⟨b3, hb3, hs3, h⟩ := rf_e h
      refine jg_R hC kfX10 13 rfl hl0_15 (by decide) wd1722 rfl hb3 dX10_append_25 ?_
      refine jj_aload_n hC dX10_append_28 rfl 0 rfl ?_
      refine jg_I hC kfX10 15 rfl hl0_15 (by decide) wd1724 rfl dX10_append_29 (fun hr4 => ?_)
      refine jj_iload_n hC dX10_append_32 rfl 1 rfl ?_
      obtain ⟨⟨ha5, hb5⟩, h⟩ := gd_e h
      obtain ⟨M5, hM5, h⟩ := nam_e h
      refine jj_iast hC hs3 ha5 hb5 (r_c hl1_15) dX10_append_33 (jj_M hM5 ?_)
      refine jj_aload_n hC dX10_append_34 rfl 0 rfl ?_
      refine jj_dup hC dX10_append_35 rfl ?_
      refine jg_I hC kfX10 15 rfl hl0_15 (by decide) wd1724 rfl dX10_append_36 (fun hr6 => ?_)
      refine jj_iconst hC dX10_append_39 ?_
      refine jg_iadd hC dX10_append_40 ?_
      obtain ⟨M7, hM7, h⟩ := nam_e h
      refine jp_I hC kfX10 15 rfl hl0_15 rfl (by decide) wd1724 rfl rfl rfl (w32_r _) dX10_append_41 (jj_M hM7 ?_)
      refine jj_aload_n hC dX10_append_44 rfl 0 rfl ?_
      refine jg_I hC kfX10 15 rfl hl0_15 (by decide) wd1724 rfl dX10_append_45 (fun hr8 => ?_)
      cases h
      exact jj_iret hC (c_le rfl) (c_le rfl) dX10_append_48 ⟨rfl, hr8, rfl, rfl, rfl, rfl, rfl⟩
    · replace h := (if_neg (hc)).symm.trans h
      refine jj_iconst hC dX10_append_22 ?_
      cases h
      exact jj_iret hC (c_le rfl) (c_le rfl) dX10_append_23 ⟨rfl, (show (-2147483648 ≤ (0 : Int) ∧ (0 : Int) < 2147483648) from by decide), rfl, rfl, rfl, rfl, rfl⟩
  unfold fX10_append at h
  refine jj_aload_n hC dX10_append_0 rfl 0 rfl ?_
  refine jj_aload_n hC dX10_append_1 rfl 0 rfl ?_
  refine jg_I hC kfX10 15 rfl hs0 (by decide) wd1724 rfl dX10_append_2 (fun hr1 => ?_)
  refine jj_bipush hC dX10_append_5 (by decide) ?_
  refine jj_icmp_ne (tgt := 14) hC dX10_append_7 rfl hr1 (show (-2147483648 ≤ (60 : Int) ∧ (60 : Int) < 2147483648) from by decide) (fun hc => ?_) (fun hc => ?_)
  · replace h := (if_pos hc).symm.trans h
    refine jj_iconst hC dX10_append_14 ?_
    refine jj_lv (lv' := [(0, .ref a0), (1, .int (iI x1))]) [0, 1] rfl ?_
    exact hB15 M a0 x1 0 a0 hs0 hx1 (show (0 ≤ (0 : Int) ∧ (0 : Int) ≤ 1) from by decide) hs0 h
  · replace h := (if_neg (fun k => k hc)).symm.trans h
    refine jj_iconst hC dX10_append_10 ?_
    refine jj_goto (tgt := 15) hC dX10_append_11 rfl ?_
    refine jj_lv (lv' := [(0, .ref a0), (1, .int (iI x1))]) [0, 1] rfl ?_
    exact hB15 M a0 x1 1 a0 hs0 hx1 (show (0 ≤ (1 : Int) ∧ (1 : Int) ≤ 1) from by decide) hs0 h
def fX10_sign (ad S Ln : Nat → Nat) (R : gR) (M : gM) (a0 : Nat) : Option Int :=
  if (M a0 15) ≤ (M a0 16) then (some ((-1))) else (rf S (R a0 13) 20 fun b3 => gd ((0 : Int) ≤ (M a0 16) ∧ (M a0 16) < (Ln b3 : Int)) (some (M b3 (M a0 16))))
theorem xX10_sign {l : Launch} {G : gE} {sz : Nat} {S Ln : Nat → Nat} {M : gM} {R : gR} (hl : l.stackTraces = false) {a0 : Nat} (hs0 : S a0 = 13) {r : Int} (h : fX10_sign G.2.2.2.2 S Ln R M a0 = some r) : Ct l G yX10_sign cX10_sign 1 (some .int) 1 0 0 [.ref a0] sz S Ln M R (poI r sz S Ln (M) R) noX := by
  refine jj_start (own := RX10) (lv0 := [(0, .ref a0)]) hl (by decide +kernel) rfl rfl (c_le rfl) (fun C hCl hC => ?_)
  unfold fX10_sign at h
  refine jj_aload_n hC dX10_sign_0 rfl 0 rfl ?_
  refine jg_I hC kfX10 16 rfl hs0 (by decide) wd1725 rfl dX10_sign_1 (fun hr1 => ?_)
  refine jj_aload_n hC dX10_sign_4 rfl 0 rfl ?_
  refine jg_I hC kfX10 15 rfl hs0 (by decide) wd1724 rfl dX10_sign_5 (fun hr2 => ?_)
  refine jj_icmp_ge (tgt := 23) hC dX10_sign_8 rfl hr1 hr2 (fun hc => ?_) (fun hc => ?_)
  · replace h := (if_pos hc).symm.trans h
    refine jj_iconst hC dX10_sign_23 ?_
    cases h
    exact jj_iret hC (c_le rfl) (c_le rfl) dX10_sign_24 ⟨rfl, (show (-2147483648 ≤ ((-1) : Int) ∧ ((-1) : Int) < 2147483648) from by decide), rfl, rfl, rfl, rfl, rfl⟩
  · replace h := (if_neg (Int.not_le.mpr hc)).symm.trans h
    refine jj_aload_n hC dX10_sign_11 rfl 0 rfl ?_
    obtain ⟨b3, hb3, hs3, h⟩ := rf_e h
    refine jg_R hC kfX10 13 rfl hs0 (by decide) wd1722 rfl hb3 dX10_sign_12 ?_
    refine jj_aload_n hC dX10_sign_15 rfl 0 rfl ?_
    refine jg_I hC kfX10 16 rfl hs0 (by decide) wd1725 rfl dX10_sign_16 (fun hr4 => ?_)
    obtain ⟨⟨ha5, hb5⟩, h⟩ := gd_e h
    refine jj_iald hC hs3 ha5 hb5 dX10_sign_19 (fun hr5 => ?_)
    refine jj_goto (tgt := 24) hC dX10_sign_20 rfl ?_
    cases h
    exact jj_iret hC (c_le rfl) (c_le rfl) dX10_sign_24 ⟨rfl, hr5, rfl, rfl, rfl, rfl, rfl⟩
def fX10_isSign_B28 (ad S Ln : Nat → Nat) (R : gR) (M28 : gM) (l2_28 : Int) (s0_28 : Int) (s1_28 : Int) (s2_28 : Nat) : Option (Int × gM) :=
  nam (wr M28 s2_28 16 (w32 (s1_28 + s0_28))) fun M3 => some ((l2_28, M3))
def fX10_isSign_B13 (ad S Ln : Nat → Nat) (R : gR) (M13 : gM) (l0_13 : Nat) (s0_13 : Int) : Option (Int × gM) :=
  if s0_13 = 0 then (fX10_isSign_B28 ad S Ln R M13 s0_13 0 (M13 l0_13 16) l0_13) else (fX10_isSign_B28 ad S Ln R M13 s0_13 1 (M13 l0_13 16) l0_13)
def fX10_isSign (ad S Ln : Nat → Nat) (R : gR) (M : gM) (a0 : Nat) (x1 : Int) : Option (Int × gM) :=
  bd (fX10_sign ad S Ln R M a0) fun q1 => if ¬ q1 = x1 then (fX10_isSign_B13 ad S Ln R M a0 0) else (fX10_isSign_B13 ad S Ln R M a0 1)
theorem xX10_isSign {l : Launch} {G : gE} {sz : Nat} {S Ln : Nat → Nat} {M : gM} {R : gR} (hl : l.stackTraces = false) {a0 : Nat} (hs0 : S a0 = 13) {x1 : Int} (hx1 : (-2147483648 ≤ x1 ∧ x1 < 2147483648)) {r : Int × gM} (h : fX10_isSign G.2.2.2.2 S Ln R M a0 x1 = some r) : Ct l G yX10_isSign cX10_isSign 3 (some .boolean) 2 0 0 [.ref a0, .int (iI x1)] sz S Ln M R (poZ r.1 sz S Ln (r.2) R) noX := by
  refine jj_start (own := RX10) (lv0 := [(0, .ref a0), (1, .int (iI x1))]) hl (by decide +kernel) rfl rfl (c_le rfl) (fun C hCl hC => ?_)
  have hB28 : ∀ (M28 : gM) (l2_28 : Int) (s0_28 : Int) (s1_28 : Int) (s2_28 : Nat), (0 ≤ l2_28 ∧ l2_28 ≤ 1) → (0 ≤ s0_28 ∧ s0_28 ≤ 1) → (-2147483648 ≤ s1_28 ∧ s1_28 < 2147483648) → S s2_28 = 13 → fX10_isSign_B28 G.2.2.2.2 S Ln R M28 l2_28 s0_28 s1_28 s2_28 = some r → JJ G C 0 0 sz S Ln M28 R 28 [(2, .int (iI l2_28))] [.int (iI s0_28), .int (iI s1_28), .ref s2_28] := by
    intro M28 l2_28 s0_28 s1_28 s2_28 hl2_28 hs0_28 hs1_28 hs2_28 h
    unfold fX10_isSign_B28 at h
    refine jg_iadd hC dX10_isSign_28 ?_
    obtain ⟨M3, hM3, h⟩ := nam_e h
    refine jp_I hC kfX10 16 rfl hs2_28 rfl (by decide) wd1725 rfl rfl rfl (w32_r _) dX10_isSign_29 (jj_M hM3 ?_)
    refine jj_iload_n hC dX10_isSign_32 rfl 0 rfl ?_
    cases h
    exact jj_zret hC hl2_28 (c_le rfl) (c_le rfl) dX10_isSign_33 ⟨rfl, hl2_28, rfl, rfl, rfl, rfl, rfl⟩
  have hB13 : ∀ (M13 : gM) (l0_13 : Nat) (s0_13 : Int), S l0_13 = 13 → (0 ≤ s0_13 ∧ s0_13 ≤ 1) → fX10_isSign_B13 G.2.2.2.2 S Ln R M13 l0_13 s0_13 = some r → JJ G C 0 0 sz S Ln M13 R 13 [(0, .ref l0_13)] [.int (iI s0_13)] := by
    intro M13 l0_13 s0_13 hl0_13 hs0_13 h
    unfold fX10_isSign_B13 at h
    refine jj_istore_n (lv' := [(2, .int (iI s0_13)), (0, .ref l0_13)]) hC dX10_isSign_13 rfl (by decide) rfl ?_
    refine jj_aload_n hC dX10_isSign_14 rfl 1 rfl ?_
    refine jj_dup hC dX10_isSign_15 rfl ?_
    refine jg_I hC kfX10 16 rfl hl0_13 (by decide) wd1725 rfl dX10_isSign_16 (fun hr2 => ?_)
    refine jj_iload_n hC dX10_isSign_19 rfl 0 rfl ?_
    refine jj_if_eq (tgt := 27) hC dX10_isSign_20 rfl (r_z hs0_13) (fun hc => ?_) (fun hc => ?_)
    · replace h := (if_pos hc).symm.trans h
      refine jj_iconst hC dX10_isSign_27 ?_
      refine jj_lv (lv' := [(2, .int (iI s0_13))]) [0] rfl ?_
      exact hB28 M13 s0_13 0 (M13 l0_13 16) l0_13 hs0_13 (show (0 ≤ (0 : Int) ∧ (0 : Int) ≤ 1) from by decide) hr2 hl0_13 h
    · replace h := (if_neg (hc)).symm.trans h
      refine jj_iconst hC dX10_isSign_23 ?_
      refine jj_goto (tgt := 28) hC dX10_isSign_24 rfl ?_
      refine jj_lv (lv' := [(2, .int (iI s0_13))]) [0] rfl ?_
      exact hB28 M13 s0_13 1 (M13 l0_13 16) l0_13 hs0_13 (show (0 ≤ (1 : Int) ∧ (1 : Int) ≤ 1) from by decide) hr2 hl0_13 h
  unfold fX10_isSign at h
  refine jj_aload_n hC dX10_isSign_0 rfl 0 rfl ?_
  obtain ⟨q1, hq1, h⟩ := bd_e h
  refine jj_invV hC mvX10_sign wd2168 wd67 wd2166 hs0 (by decide) rfl (xX10_sign (OKC.tr hC) hs0 hq1) rfl rfl (c_le rfl) (c_le rfl) (c_le rfl) (c_le rfl) dX10_isSign_1 noXk (po_kI (fun hr1 => ?_))
  refine jj_iload_n hC dX10_isSign_4 rfl 1 rfl ?_
  refine jj_icmp_ne (tgt := 12) hC dX10_isSign_5 rfl hr1 hx1 (fun hc => ?_) (fun hc => ?_)
  · replace h := (if_pos hc).symm.trans h
    refine jj_iconst hC dX10_isSign_12 ?_
    refine jj_lv (lv' := [(0, .ref a0)]) [0] rfl ?_
    exact hB13 M a0 0 hs0 (show (0 ≤ (0 : Int) ∧ (0 : Int) ≤ 1) from by decide) h
  · replace h := (if_neg (fun k => k hc)).symm.trans h
    refine jj_iconst hC dX10_isSign_8 ?_
    refine jj_goto (tgt := 13) hC dX10_isSign_9 rfl ?_
    refine jj_lv (lv' := [(0, .ref a0)]) [0] rfl ?_
    exact hB13 M a0 1 hs0 (show (0 ≤ (1 : Int) ∧ (1 : Int) ≤ 1) from by decide) h
def fX10_isNumber_L5 (ad S Ln : Nat → Nat) (R : gR) (l0_5 : Nat) (l1_5 : Int) (l2_5 : Int) (s5 : Int × Int × gM) : Option ((Int × Int × gM) ⊕ ((Int × Int × gM) ⊕ (Int × gM))) :=
  if l1_5 ≤ s5.2.1 then (some (.inr (.inl (s5.1, s5.2.1, s5.2.2)))) else (bd (fX10_sign ad S Ln R s5.2.2 l0_5) fun q1 => bd (fX10_isIn ad S Ln R s5.2.2 q1 48 57) fun q2 => if q2 = 0 then (some (.inr (.inl (s5.1, s5.2.1, s5.2.2)))) else (bd (fX10_sign ad S Ln R s5.2.2 l0_5) fun q3 => nam (wr s5.2.2 l0_5 16 (w32 ((s5.2.2 l0_5 16) + 1))) fun M5 => some (.inl (w32 ((w32 ((w32 (10 * s5.1)) + q3)) - 48), w32 (s5.2.1 + 1), M5))))
def fX10_isNumber_B54 (ad S Ln : Nat → Nat) (R : gR) (M54 : gM) (l0_54 : Nat) (l2_54 : Int) (l3_54 : Int) (l4_54 : Int) : Option (Int × gM) :=
  rf S (R l0_54 14) 20 fun b7 => gd ((0 : Int) ≤ l2_54 ∧ l2_54 < (Ln b7 : Int)) (nam (wr M54 b7 l2_54 l3_54) fun M8 => if l4_54 ≤ 0 then (some ((0, M8))) else (some ((1, M8))))
def fX10_isNumber (ad S Ln : Nat → Nat) (R : gR) (M : gM) (a0 : Nat) (x1 : Int) (x2 : Int) : Option (Int × gM) :=
  bd (lp (fX10_isNumber_L5 ad S Ln R a0 x1 x2) FU (0, 0, M)) fun q9 => Sum.elim (fun e5_6 => fX10_isNumber_B54 ad S Ln R e5_6.2.2 a0 x2 e5_6.1 e5_6.2.1) (fun c9 => some c9) q9
theorem xX10_isNumber {l : Launch} {G : gE} {sz : Nat} {S Ln : Nat → Nat} {M : gM} {R : gR} (hl : l.stackTraces = false) {a0 : Nat} (hs0 : S a0 = 13) {x1 : Int} (hx1 : (-2147483648 ≤ x1 ∧ x1 < 2147483648)) {x2 : Int} (hx2 : (-2147483648 ≤ x2 ∧ x2 < 2147483648)) {r : Int × gM} (h : fX10_isNumber G.2.2.2.2 S Ln R M a0 x1 x2 = some r) : Ct l G yX10_isNumber cX10_isNumber 5 (some .boolean) 2 0 0 [.ref a0, .int (iI x1), .int (iI x2)] sz S Ln M R (poZ r.1 sz S Ln (r.2) R) noX := by
  refine jj_start (own := RX10) (lv0 := [(0, .ref a0), (1, .int (iI x1)), (2, .int (iI x2))]) hl (by decide +kernel) rfl rfl (c_le rfl) (fun C hCl hC => ?_)
  have hL5 : ∀ (l0_5 : Nat) (l1_5 : Int) (l2_5 : Int), S l0_5 = 13 → (-2147483648 ≤ l1_5 ∧ l1_5 < 2147483648) → (-2147483648 ≤ l2_5 ∧ l2_5 < 2147483648) → ∀ (n : Nat) (s5 : Int × Int × gM) (q : (Int × Int × gM) ⊕ (Int × gM)), lp (fX10_isNumber_L5 G.2.2.2.2 S Ln R l0_5 l1_5 l2_5) n s5 = some q → (-2147483648 ≤ s5.1 ∧ s5.1 < 2147483648) ∧ (-2147483648 ≤ s5.2.1 ∧ s5.2.1 < 2147483648) → (∀ e5, q = .inl e5 → (-2147483648 ≤ e5.1 ∧ e5.1 < 2147483648) ∧ (-2147483648 ≤ e5.2.1 ∧ e5.2.1 < 2147483648) → JJ G C 0 0 sz S Ln e5.2.2 R 54 [(0, .ref l0_5), (2, .int (iI l2_5)), (3, .int (iI e5.1)), (4, .int (iI e5.2.1))] []) → (∀ c, q = .inr c → c = r) → JJ G C 0 0 sz S Ln s5.2.2 R 5 [(0, .ref l0_5), (1, .int (iI l1_5)), (2, .int (iI l2_5)), (3, .int (iI s5.1)), (4, .int (iI s5.2.1))] [] := by
    intro l0_5 l1_5 l2_5 hl0_5 hl1_5 hl2_5
    refine lp_ind ?_
    intro s5 r5 hI5 h hJ5 hE5 hR5
    obtain ⟨hs5_0, hs5_1⟩ := hI5
    unfold fX10_isNumber_L5 at h
    refine jj_iload hC dX10_isNumber_5 4 rfl ?_
    refine jj_iload_n hC dX10_isNumber_7 rfl 1 rfl ?_
    refine jj_icmp_ge (tgt := 54) hC dX10_isNumber_8 rfl hs5_1 hl1_5 (fun hc => ?_) (fun hc => ?_)
    · replace h := (if_pos hc).symm.trans h
      refine jj_lv (lv' := [(0, .ref l0_5), (2, .int (iI l2_5)), (3, .int (iI s5.1)), (4, .int (iI s5.2.1))]) [0, 2, 3, 4] rfl ?_
      exact hE5 _ (Option.some.inj h).symm ⟨hs5_0, hs5_1⟩
    · replace h := (if_neg (Int.not_le.mpr hc)).symm.trans h
      refine jj_aload_n hC dX10_isNumber_11 rfl 0 rfl ?_
      obtain ⟨q1, hq1, h⟩ := bd_e h
      refine jj_invV hC mvX10_sign wd2168 wd67 wd2166 hl0_5 (by decide) rfl (xX10_sign (OKC.tr hC) hl0_5 hq1) rfl rfl (c_le rfl) (c_le rfl) (c_le rfl) (c_le rfl) dX10_isNumber_12 noXk (po_kI (fun hr1 => ?_))
      refine jj_bipush hC dX10_isNumber_15 (by decide) ?_
      refine jj_bipush hC dX10_isNumber_17 (by decide) ?_
      obtain ⟨q2, hq2, h⟩ := bd_e h
      refine jj_invS hC mvX10_isIn wd1787 wd1786 (xX10_isIn (OKC.tr hC) hr1 (show (-2147483648 ≤ (48 : Int) ∧ (48 : Int) < 2147483648) from by decide) (show (-2147483648 ≤ (57 : Int) ∧ (57 : Int) < 2147483648) from by decide) hq2) rfl rfl (c_le rfl) (c_le rfl) (c_le rfl) (c_le rfl) dX10_isNumber_19 noXk (po_kZ (fun hr2 => ?_))
      refine jj_if_eq (tgt := 54) hC dX10_isNumber_22 rfl (r_z hr2) (fun hc => ?_) (fun hc => ?_)
      · replace h := (if_pos hc).symm.trans h
        refine jj_lv (lv' := [(0, .ref l0_5), (2, .int (iI l2_5)), (3, .int (iI s5.1)), (4, .int (iI s5.2.1))]) [0, 2, 3, 4] rfl ?_
        exact hE5 _ (Option.some.inj h).symm ⟨hs5_0, hs5_1⟩
      · replace h := (if_neg (hc)).symm.trans h
        refine jj_bipush hC dX10_isNumber_25 (by decide) ?_
        refine jj_iload_n hC dX10_isNumber_27 rfl 3 rfl ?_
        refine jg_imul hC dX10_isNumber_28 ?_
        refine jj_aload_n hC dX10_isNumber_29 rfl 0 rfl ?_
        obtain ⟨q3, hq3, h⟩ := bd_e h
        refine jj_invV hC mvX10_sign wd2168 wd67 wd2166 hl0_5 (by decide) rfl (xX10_sign (OKC.tr hC) hl0_5 hq3) rfl rfl (c_le rfl) (c_le rfl) (c_le rfl) (c_le rfl) dX10_isNumber_30 noXk (po_kI (fun hr3 => ?_))
        refine jg_iadd hC dX10_isNumber_33 ?_
        refine jj_bipush hC dX10_isNumber_34 (by decide) ?_
        refine jg_isub hC dX10_isNumber_36 ?_
        refine jj_istore_n (lv' := [(3, .int (iI (w32 ((w32 ((w32 (10 * s5.1)) + q3)) - 48)))), (0, .ref l0_5), (1, .int (iI l1_5)), (2, .int (iI l2_5)), (4, .int (iI s5.2.1))]) hC dX10_isNumber_37 rfl (by decide) rfl ?_
        refine jj_aload_n hC dX10_isNumber_38 rfl 1 rfl ?_
        refine jj_dup hC dX10_isNumber_39 rfl ?_
        refine jg_I hC kfX10 16 rfl hl0_5 (by decide) wd1725 rfl dX10_isNumber_40 (fun hr4 => ?_)
        refine jj_iconst hC dX10_isNumber_43 ?_
        refine jg_iadd hC dX10_isNumber_44 ?_
        obtain ⟨M5, hM5, h⟩ := nam_e h
        refine jp_I hC kfX10 16 rfl hl0_5 rfl (by decide) wd1725 rfl rfl rfl (w32_r _) dX10_isNumber_45 (jj_M hM5 ?_)
        refine jg_iinc (q := 4) (lv' := [(4, .int (iI (w32 (s5.2.1 + 1)))), (3, .int (iI (w32 ((w32 ((w32 (10 * s5.1)) + q3)) - 48)))), (0, .ref l0_5), (1, .int (iI l1_5)), (2, .int (iI l2_5))]) hC dX10_isNumber_48 rfl (by decide) rfl ?_
        refine jj_goto (tgt := 5) hC dX10_isNumber_51 rfl ?_
        refine jj_lv (lv' := [(0, .ref l0_5), (1, .int (iI l1_5)), (2, .int (iI l2_5)), (3, .int (iI (w32 ((w32 ((w32 (10 * s5.1)) + q3)) - 48)))), (4, .int (iI (w32 (s5.2.1 + 1))))]) [2, 3, 4, 1, 0] rfl ?_
        exact hJ5 _ (Option.some.inj h).symm ⟨(w32_r _), (w32_r _)⟩
  have hB54 : ∀ (M54 : gM) (l0_54 : Nat) (l2_54 : Int) (l3_54 : Int) (l4_54 : Int), S l0_54 = 13 → (-2147483648 ≤ l2_54 ∧ l2_54 < 2147483648) → (-2147483648 ≤ l3_54 ∧ l3_54 < 2147483648) → (-2147483648 ≤ l4_54 ∧ l4_54 < 2147483648) → fX10_isNumber_B54 G.2.2.2.2 S Ln R M54 l0_54 l2_54 l3_54 l4_54 = some r → JJ G C 0 0 sz S Ln M54 R 54 [(0, .ref l0_54), (2, .int (iI l2_54)), (3, .int (iI l3_54)), (4, .int (iI l4_54))] [] := by
    intro M54 l0_54 l2_54 l3_54 l4_54 hl0_54 hl2_54 hl3_54 hl4_54 h
    unfold fX10_isNumber_B54 at h
    refine jj_aload_n hC dX10_isNumber_54 rfl 0 rfl ?_
    obtain ⟨b7, hb7, hs7, h⟩ := rf_e h
    refine jg_R hC kfX10 14 rfl hl0_54 (by decide) wd1723 rfl hb7 dX10_isNumber_55 ?_
    refine jj_iload_n hC dX10_isNumber_58 rfl 1 rfl ?_
    refine jj_iload_n hC dX10_isNumber_59 rfl 2 rfl ?_
    obtain ⟨⟨ha8, hb8⟩, h⟩ := gd_e h
    obtain ⟨M8, hM8, h⟩ := nam_e h
    refine jj_iast hC hs7 ha8 hb8 hl3_54 dX10_isNumber_60 (jj_M hM8 ?_)
    refine jj_iload hC dX10_isNumber_61 3 rfl ?_
    refine jj_if_le (tgt := 70) hC dX10_isNumber_63 rfl hl4_54 (fun hc => ?_) (fun hc => ?_)
    · replace h := (if_pos hc).symm.trans h
      refine jj_iconst hC dX10_isNumber_70 ?_
      cases h
      exact jj_zret hC (show (0 ≤ (0 : Int) ∧ (0 : Int) ≤ 1) from by decide) (c_le rfl) (c_le rfl) dX10_isNumber_71 ⟨rfl, (show (0 ≤ (0 : Int) ∧ (0 : Int) ≤ 1) from by decide), rfl, rfl, rfl, rfl, rfl⟩
    · replace h := (if_neg (Int.not_le.mpr hc)).symm.trans h
      refine jj_iconst hC dX10_isNumber_66 ?_
      refine jj_goto (tgt := 71) hC dX10_isNumber_67 rfl ?_
      cases h
      exact jj_zret hC (show (0 ≤ (1 : Int) ∧ (1 : Int) ≤ 1) from by decide) (c_le rfl) (c_le rfl) dX10_isNumber_71 ⟨rfl, (show (0 ≤ (1 : Int) ∧ (1 : Int) ≤ 1) from by decide), rfl, rfl, rfl, rfl, rfl⟩
  unfold fX10_isNumber at h
  refine jj_iconst hC dX10_isNumber_0 ?_
  refine jj_istore_n (lv' := [(3, .int (iI 0)), (0, .ref a0), (1, .int (iI x1)), (2, .int (iI x2))]) hC dX10_isNumber_1 rfl (by decide) rfl ?_
  refine jj_iconst hC dX10_isNumber_2 ?_
  refine jj_istore (lv' := [(4, .int (iI 0)), (3, .int (iI 0)), (0, .ref a0), (1, .int (iI x1)), (2, .int (iI x2))]) hC dX10_isNumber_3 (by decide) rfl ?_
  obtain ⟨q9, hq9, h⟩ := bd_e h
  refine jj_lv (lv' := [(0, .ref a0), (1, .int (iI x1)), (2, .int (iI x2)), (3, .int (iI 0)), (4, .int (iI 0))]) [2, 3, 4, 1, 0] rfl ?_
  refine hL5 a0 x1 x2 hs0 hx1 hx2 FU _ q9 hq9 ⟨(show (-2147483648 ≤ (0 : Int) ∧ (0 : Int) < 2147483648) from by decide), (show (-2147483648 ≤ (0 : Int) ∧ (0 : Int) < 2147483648) from by decide)⟩ (fun e5_6 he9 hIE9 => ?_) (fun c9 hc9 => ?_)
  · subst he9
    replace h := el_l h
    obtain ⟨he5_6_0, he5_6_1⟩ := hIE9
    refine jj_lv (lv' := [(0, .ref a0), (2, .int (iI x2)), (3, .int (iI e5_6.1)), (4, .int (iI e5_6.2.1))]) [0, 1, 2, 3] rfl ?_
    exact hB54 e5_6.2.2 a0 x2 e5_6.1 e5_6.2.1 hs0 hx2 he5_6_0 he5_6_1 h
  · subst hc9
    replace h := el_r h
    exact Option.some.inj h
def fX10_isSpaced (ad S Ln : Nat → Nat) (R : gR) (M : gM) (a0 : Nat) (x1 : Int) (x2 : Int) : Option (Int × gM) :=
  bd (fX10_isSign ad S Ln R M a0 32) fun q1 => if q1.1 = 0 then (some ((0, q1.2))) else (bd (fX10_isNumber ad S Ln R q1.2 a0 x1 x2) fun q2 => if q2.1 = 0 then (some ((0, q2.2))) else (some ((1, q2.2))))
theorem xX10_isSpaced {l : Launch} {G : gE} {sz : Nat} {S Ln : Nat → Nat} {M : gM} {R : gR} (hl : l.stackTraces = false) {a0 : Nat} (hs0 : S a0 = 13) {x1 : Int} (hx1 : (-2147483648 ≤ x1 ∧ x1 < 2147483648)) {x2 : Int} (hx2 : (-2147483648 ≤ x2 ∧ x2 < 2147483648)) {r : Int × gM} (h : fX10_isSpaced G.2.2.2.2 S Ln R M a0 x1 x2 = some r) : Ct l G yX10_isSpaced cX10_isSpaced 3 (some .boolean) 3 0 0 [.ref a0, .int (iI x1), .int (iI x2)] sz S Ln M R (poZ r.1 sz S Ln (r.2) R) noX := by
  refine jj_start (own := RX10) (lv0 := [(0, .ref a0), (1, .int (iI x1)), (2, .int (iI x2))]) hl (by decide +kernel) rfl rfl (c_le rfl) (fun C hCl hC => ?_)
  unfold fX10_isSpaced at h
  refine jj_aload_n hC dX10_isSpaced_0 rfl 0 rfl ?_
  refine jj_bipush hC dX10_isSpaced_1 (by decide) ?_
  obtain ⟨q1, hq1, h⟩ := bd_e h
  refine jj_invV hC mvX10_isSign wd2183 wd70 wd2181 hs0 (by decide) rfl (xX10_isSign (OKC.tr hC) hs0 (show (-2147483648 ≤ (32 : Int) ∧ (32 : Int) < 2147483648) from by decide) hq1) rfl rfl (c_le rfl) (c_le rfl) (c_le rfl) (c_le rfl) dX10_isSpaced_3 noXk (po_kZ (fun hr1 => ?_))
  refine jj_if_eq (tgt := 22) hC dX10_isSpaced_6 rfl (r_z hr1) (fun hc => ?_) (fun hc => ?_)
  · replace h := (if_pos hc).symm.trans h
    refine jj_iconst hC dX10_isSpaced_22 ?_
    cases h
    exact jj_zret hC (show (0 ≤ (0 : Int) ∧ (0 : Int) ≤ 1) from by decide) (c_le rfl) (c_le rfl) dX10_isSpaced_23 ⟨rfl, (show (0 ≤ (0 : Int) ∧ (0 : Int) ≤ 1) from by decide), rfl, rfl, rfl, rfl, rfl⟩
  · replace h := (if_neg (hc)).symm.trans h
    refine jj_aload_n hC dX10_isSpaced_9 rfl 0 rfl ?_
    refine jj_iload_n hC dX10_isSpaced_10 rfl 1 rfl ?_
    refine jj_iload_n hC dX10_isSpaced_11 rfl 2 rfl ?_
    obtain ⟨q2, hq2, h⟩ := bd_e h
    refine jj_invV hC mvX10_isNumber wd2197 wd73 wd2195 hs0 (by decide) rfl (xX10_isNumber (OKC.tr hC) hs0 hx1 hx2 hq2) rfl rfl (c_le rfl) (c_le rfl) (c_le rfl) (c_le rfl) dX10_isSpaced_12 noXk (po_kZ (fun hr2 => ?_))
    refine jj_if_eq (tgt := 22) hC dX10_isSpaced_15 rfl (r_z hr2) (fun hc => ?_) (fun hc => ?_)
    · replace h := (if_pos hc).symm.trans h
      refine jj_iconst hC dX10_isSpaced_22 ?_
      cases h
      exact jj_zret hC (show (0 ≤ (0 : Int) ∧ (0 : Int) ≤ 1) from by decide) (c_le rfl) (c_le rfl) dX10_isSpaced_23 ⟨rfl, (show (0 ≤ (0 : Int) ∧ (0 : Int) ≤ 1) from by decide), rfl, rfl, rfl, rfl, rfl⟩
    · replace h := (if_neg (hc)).symm.trans h
      refine jj_iconst hC dX10_isSpaced_18 ?_
      refine jj_goto (tgt := 23) hC dX10_isSpaced_19 rfl ?_
      cases h
      exact jj_zret hC (show (0 ≤ (1 : Int) ∧ (1 : Int) ≤ 1) from by decide) (c_le rfl) (c_le rfl) dX10_isSpaced_23 ⟨rfl, (show (0 ≤ (1 : Int) ∧ (1 : Int) ≤ 1) from by decide), rfl, rfl, rfl, rfl, rfl⟩
def fX10_isWord_L2 (ad S Ln : Nat → Nat) (R : gR) (l0_2 : Nat) (l1_2 : Nat) (s2 : Int × gM) : Option ((Int × gM) ⊕ ((gM) ⊕ (Int × gM))) :=
  bd (fJ0_length_8abf5 ad S Ln R s2.2 l1_2) fun q1 => if q1 ≤ s2.1 then (some (.inr (.inl s2.2))) else (bd (fJ0_charAt_5068e ad S Ln R s2.2 l1_2 s2.1) fun q2 => bd (fX10_isSign ad S Ln R s2.2 l0_2 q2) fun q3 => if ¬ q3.1 = 0 then (some (.inl (w32 (s2.1 + 1), q3.2))) else (some (.inr (.inr ((0, q3.2))))))
def fX10_isWord (ad S Ln : Nat → Nat) (R : gR) (M : gM) (a0 : Nat) (x1 : Nat) : Option (Int × gM) :=
  bd (lp (fX10_isWord_L2 ad S Ln R a0 x1) FU (0, M)) fun q5 => Sum.elim (fun e2_4 => some ((1, e2_4))) (fun c5 => some c5) q5
theorem xX10_isWord {l : Launch} {G : gE} {sz : Nat} {S Ln : Nat → Nat} {M : gM} {R : gR} (hl : l.stackTraces = false) {a0 : Nat} (hs0 : S a0 = 13) {x1 : Nat} (hx1 : S x1 = 1) {r : Int × gM} (h : fX10_isWord G.2.2.2.2 S Ln R M a0 x1 = some r) : Ct l G yX10_isWord cX10_isWord 3 (some .boolean) 12 0 0 [.ref a0, .ref x1] sz S Ln M R (poZ r.1 sz S Ln (r.2) R) noX := by
  refine jj_start (own := RX10) (lv0 := [(0, .ref a0), (1, .ref x1)]) hl (by decide +kernel) rfl rfl (c_le rfl) (fun C hCl hC => ?_)
  have hL2 : ∀ (l0_2 : Nat) (l1_2 : Nat), S l0_2 = 13 → S l1_2 = 1 → ∀ (n : Nat) (s2 : Int × gM) (q : (gM) ⊕ (Int × gM)), lp (fX10_isWord_L2 G.2.2.2.2 S Ln R l0_2 l1_2) n s2 = some q → (-2147483648 ≤ s2.1 ∧ s2.1 < 2147483648) → (∀ e2, q = .inl e2 → True → JJ G C 0 0 sz S Ln e2 R 30 [] []) → (∀ c, q = .inr c → c = r) → JJ G C 0 0 sz S Ln s2.2 R 2 [(0, .ref l0_2), (1, .ref l1_2), (2, .int (iI s2.1))] [] := by
    intro l0_2 l1_2 hl0_2 hl1_2
    refine lp_ind ?_
    intro s2 r2 hI2 h hJ2 hE2 hR2
    have hs2_0 := hI2
    unfold fX10_isWord_L2 at h
    refine jj_iload_n hC dX10_isWord_2 rfl 2 rfl ?_
    refine jj_aload_n hC dX10_isWord_3 rfl 1 rfl ?_
    obtain ⟨q1, hq1, h⟩ := bd_e h
    refine jj_invV hC mvJ0_length_8abf5 wd670 wd671 wd2190 hl1_2 (by decide) rfl (xJ0_length_8abf5 (OKC.tr hC) hl1_2 hq1) rfl rfl (c_le rfl) (c_le rfl) (c_le rfl) (c_le rfl) dX10_isWord_4 noXk (po_kI (fun hr1 => ?_))
    refine jj_icmp_ge (tgt := 30) hC dX10_isWord_7 rfl hs2_0 hr1 (fun hc => ?_) (fun hc => ?_)
    · replace h := (if_pos hc).symm.trans h
      refine jj_lv (lv' := []) [] rfl ?_
      exact hE2 _ (Option.some.inj h).symm trivial
    · replace h := (if_neg (Int.not_le.mpr hc)).symm.trans h
      refine jj_aload_n hC dX10_isWord_10 rfl 0 rfl ?_
      refine jj_aload_n hC dX10_isWord_11 rfl 1 rfl ?_
      refine jj_iload_n hC dX10_isWord_12 rfl 2 rfl ?_
      obtain ⟨q2, hq2, h⟩ := bd_e h
      refine jj_invV hC mvJ0_charAt_5068e wd1576 wd1577 wd2141 hl1_2 (by decide) rfl (xJ0_charAt_5068e (OKC.tr hC) hl1_2 hs2_0 hq2) rfl rfl (c_le rfl) (c_le rfl) (c_le rfl) (c_le rfl) dX10_isWord_13 noXk (po_kC (fun hr2 => ?_))
      obtain ⟨q3, hq3, h⟩ := bd_e h
      refine jj_invV hC mvX10_isSign wd2183 wd70 wd2181 hl0_2 (by decide) rfl (xX10_isSign (OKC.tr hC) hl0_2 (r_c hr2) hq3) rfl rfl (c_le rfl) (c_le rfl) (c_le rfl) (c_le rfl) dX10_isWord_16 noXk (po_kZ (fun hr3 => ?_))
      refine jj_if_ne (tgt := 24) hC dX10_isWord_19 rfl (r_z hr3) (fun hc => ?_) (fun hc => ?_)
      · replace h := (if_pos hc).symm.trans h
        refine jg_iinc (q := 2) (lv' := [(2, .int (iI (w32 (s2.1 + 1)))), (0, .ref l0_2), (1, .ref l1_2)]) hC dX10_isWord_24 rfl (by decide) rfl ?_
        refine jj_goto (tgt := 2) hC dX10_isWord_27 rfl ?_
        refine jj_lv (lv' := [(0, .ref l0_2), (1, .ref l1_2), (2, .int (iI (w32 (s2.1 + 1))))]) [1, 2, 0] rfl ?_
        exact hJ2 _ (Option.some.inj h).symm (w32_r _)
      · replace h := (if_neg (fun k => k hc)).symm.trans h
        refine jj_iconst hC dX10_isWord_22 ?_
        have h := hR2 _ (Option.some.inj h).symm
        subst h
        exact jj_zret hC (show (0 ≤ (0 : Int) ∧ (0 : Int) ≤ 1) from by decide) (c_le rfl) (c_le rfl) dX10_isWord_23 ⟨rfl, (show (0 ≤ (0 : Int) ∧ (0 : Int) ≤ 1) from by decide), rfl, rfl, rfl, rfl, rfl⟩
  unfold fX10_isWord at h
  refine jj_iconst hC dX10_isWord_0 ?_
  refine jj_istore_n (lv' := [(2, .int (iI 0)), (0, .ref a0), (1, .ref x1)]) hC dX10_isWord_1 rfl (by decide) rfl ?_
  obtain ⟨q5, hq5, h⟩ := bd_e h
  refine jj_lv (lv' := [(0, .ref a0), (1, .ref x1), (2, .int (iI 0))]) [1, 2, 0] rfl ?_
  refine hL2 a0 x1 hs0 hx1 FU _ q5 hq5 (show (-2147483648 ≤ (0 : Int) ∧ (0 : Int) < 2147483648) from by decide) (fun e2_4 he5 hIE5 => ?_) (fun c5 hc5 => ?_)
  · subst he5
    replace h := el_l h
    refine jj_iconst hC dX10_isWord_30 ?_
    cases h
    exact jj_zret hC (show (0 ≤ (1 : Int) ∧ (1 : Int) ≤ 1) from by decide) (c_le rfl) (c_le rfl) dX10_isWord_31 ⟨rfl, (show (0 ≤ (1 : Int) ∧ (1 : Int) ≤ 1) from by decide), rfl, rfl, rfl, rfl, rfl⟩
  · subst hc5
    replace h := el_r h
    exact Option.some.inj h
def fX10_isWay_L2 (ad S Ln : Nat → Nat) (R : gR) (l0_2 : Nat) (l1_2 : Int) (s2 : Int × gM) : Option ((Int × gM) ⊕ ((Int × gM) ⊕ (Int × gM))) :=
  if 4 ≤ s2.1 then (some (.inr (.inr ((0, s2.2))))) else (rf S (some (ad 29)) 1 fun b1 => bd (fJ0_charAt_5068e ad S Ln R s2.2 b1 s2.1) fun q2 => bd (fX10_isSign ad S Ln R s2.2 l0_2 q2) fun q3 => if q3.1 = 0 then (some (.inl (w32 (s2.1 + 1), q3.2))) else (some (.inr (.inl (s2.1, q3.2)))))
def fX10_isWay (ad S Ln : Nat → Nat) (R : gR) (M : gM) (a0 : Nat) (x1 : Int) : Option (Int × gM) :=
  bd (lp (fX10_isWay_L2 ad S Ln R a0 x1) FU (0, M)) fun q7 => Sum.elim (fun e2_4 => rf S (R a0 14) 20 fun b5 => gd ((0 : Int) ≤ x1 ∧ x1 < (Ln b5 : Int)) (nam (wr e2_4.2 b5 x1 e2_4.1) fun M6 => some ((1, M6)))) (fun c7 => some c7) q7
theorem xX10_isWay {l : Launch} {G : gE} {sz : Nat} {S Ln : Nat → Nat} {M : gM} {R : gR} (hl : l.stackTraces = false) {a0 : Nat} (hs0 : S a0 = 13) {x1 : Int} (hx1 : (-2147483648 ≤ x1 ∧ x1 < 2147483648)) {r : Int × gM} (h : fX10_isWay G.2.2.2.2 S Ln R M a0 x1 = some r) : Ct l G yX10_isWay cX10_isWay 3 (some .boolean) 12 0 0 [.ref a0, .int (iI x1)] sz S Ln M R (poZ r.1 sz S Ln (r.2) R) noX := by
  refine jj_start (own := RX10) (lv0 := [(0, .ref a0), (1, .int (iI x1))]) hl (by decide +kernel) rfl rfl (c_le rfl) (fun C hCl hC => ?_)
  have hL2 : ∀ (l0_2 : Nat) (l1_2 : Int), S l0_2 = 13 → (-2147483648 ≤ l1_2 ∧ l1_2 < 2147483648) → ∀ (n : Nat) (s2 : Int × gM) (q : (Int × gM) ⊕ (Int × gM)), lp (fX10_isWay_L2 G.2.2.2.2 S Ln R l0_2 l1_2) n s2 = some q → (-2147483648 ≤ s2.1 ∧ s2.1 < 2147483648) → (∀ e2, q = .inl e2 → (-2147483648 ≤ e2.1 ∧ e2.1 < 2147483648) → JJ G C 0 0 sz S Ln e2.2 R 20 [(0, .ref l0_2), (1, .int (iI l1_2)), (2, .int (iI e2.1))] []) → (∀ c, q = .inr c → c = r) → JJ G C 0 0 sz S Ln s2.2 R 2 [(0, .ref l0_2), (1, .int (iI l1_2)), (2, .int (iI s2.1))] [] := by
    intro l0_2 l1_2 hl0_2 hl1_2
    refine lp_ind ?_
    intro s2 r2 hI2 h hJ2 hE2 hR2
    have hs2_0 := hI2
    unfold fX10_isWay_L2 at h
    refine jj_iload_n hC dX10_isWay_2 rfl 2 rfl ?_
    refine jj_iconst hC dX10_isWay_3 ?_
    refine jj_icmp_ge (tgt := 35) hC dX10_isWay_4 rfl hs2_0 (show (-2147483648 ≤ (4 : Int) ∧ (4 : Int) < 2147483648) from by decide) (fun hc => ?_) (fun hc => ?_)
    · replace h := (if_pos hc).symm.trans h
      refine jj_iconst hC dX10_isWay_35 ?_
      have h := hR2 _ (Option.some.inj h).symm
      subst h
      exact jj_zret hC (show (0 ≤ (0 : Int) ∧ (0 : Int) ≤ 1) from by decide) (c_le rfl) (c_le rfl) dX10_isWay_36 ⟨rfl, (show (0 ≤ (0 : Int) ∧ (0 : Int) ≤ 1) from by decide), rfl, rfl, rfl, rfl, rfl⟩
    · replace h := (if_neg (Int.not_le.mpr hc)).symm.trans h
      refine jj_aload_n hC dX10_isWay_7 rfl 0 rfl ?_
      obtain ⟨b1, hb1, hs1, h⟩ := rf_e h
      refine jg_ldcS hC 13 rfl (Option.some.inj hb1) dX10_isWay_8 ?_
      refine jj_iload_n hC dX10_isWay_10 rfl 2 rfl ?_
      obtain ⟨q2, hq2, h⟩ := bd_e h
      refine jj_invV hC mvJ0_charAt_5068e wd1576 wd1577 wd2141 hs1 (by decide) rfl (xJ0_charAt_5068e (OKC.tr hC) hs1 hs2_0 hq2) rfl rfl (c_le rfl) (c_le rfl) (c_le rfl) (c_le rfl) dX10_isWay_11 noXk (po_kC (fun hr2 => ?_))
      obtain ⟨q3, hq3, h⟩ := bd_e h
      refine jj_invV hC mvX10_isSign wd2183 wd70 wd2181 hl0_2 (by decide) rfl (xX10_isSign (OKC.tr hC) hl0_2 (r_c hr2) hq3) rfl rfl (c_le rfl) (c_le rfl) (c_le rfl) (c_le rfl) dX10_isWay_14 noXk (po_kZ (fun hr3 => ?_))
      refine jj_if_eq (tgt := 29) hC dX10_isWay_17 rfl (r_z hr3) (fun hc => ?_) (fun hc => ?_)
      · replace h := (if_pos hc).symm.trans h
        refine jg_iinc (q := 2) (lv' := [(2, .int (iI (w32 (s2.1 + 1)))), (0, .ref l0_2), (1, .int (iI l1_2))]) hC dX10_isWay_29 rfl (by decide) rfl ?_
        refine jj_goto (tgt := 2) hC dX10_isWay_32 rfl ?_
        refine jj_lv (lv' := [(0, .ref l0_2), (1, .int (iI l1_2)), (2, .int (iI (w32 (s2.1 + 1))))]) [1, 2, 0] rfl ?_
        exact hJ2 _ (Option.some.inj h).symm (w32_r _)
      · replace h := (if_neg (hc)).symm.trans h
        refine jj_lv (lv' := [(0, .ref l0_2), (1, .int (iI l1_2)), (2, .int (iI s2.1))]) [0, 1, 2] rfl ?_
        exact hE2 _ (Option.some.inj h).symm hs2_0
  unfold fX10_isWay at h
  refine jj_iconst hC dX10_isWay_0 ?_
  refine jj_istore_n (lv' := [(2, .int (iI 0)), (0, .ref a0), (1, .int (iI x1))]) hC dX10_isWay_1 rfl (by decide) rfl ?_
  obtain ⟨q7, hq7, h⟩ := bd_e h
  refine jj_lv (lv' := [(0, .ref a0), (1, .int (iI x1)), (2, .int (iI 0))]) [1, 2, 0] rfl ?_
  refine hL2 a0 x1 hs0 hx1 FU _ q7 hq7 (show (-2147483648 ≤ (0 : Int) ∧ (0 : Int) < 2147483648) from by decide) (fun e2_4 he7 hIE7 => ?_) (fun c7 hc7 => ?_)
  · subst he7
    replace h := el_l h
    have he2_4_0 := hIE7
    refine jj_aload_n hC dX10_isWay_20 rfl 0 rfl ?_
    obtain ⟨b5, hb5, hs5, h⟩ := rf_e h
    refine jg_R hC kfX10 14 rfl hs0 (by decide) wd1723 rfl hb5 dX10_isWay_21 ?_
    refine jj_iload_n hC dX10_isWay_24 rfl 1 rfl ?_
    refine jj_iload_n hC dX10_isWay_25 rfl 2 rfl ?_
    obtain ⟨⟨ha6, hb6⟩, h⟩ := gd_e h
    obtain ⟨M6, hM6, h⟩ := nam_e h
    refine jj_iast hC hs5 ha6 hb6 he2_4_0 dX10_isWay_26 (jj_M hM6 ?_)
    refine jj_iconst hC dX10_isWay_27 ?_
    cases h
    exact jj_zret hC (show (0 ≤ (1 : Int) ∧ (1 : Int) ≤ 1) from by decide) (c_le rfl) (c_le rfl) dX10_isWay_28 ⟨rfl, (show (0 ≤ (1 : Int) ∧ (1 : Int) ≤ 1) from by decide), rfl, rfl, rfl, rfl, rfl⟩
  · subst hc7
    replace h := el_r h
    exact Option.some.inj h
def fX10_readsP (ad S Ln : Nat → Nat) (R : gR) (M : gM) (a0 : Nat) (x1 : Int) : Option (Int × gM) :=
  bd (fX10_isSign ad S Ln R M a0 111) fun q1 => if q1.1 = 0 then (rf S (R a0 14) 20 fun b2 => gd ((0 : Int) ≤ x1 ∧ x1 < (Ln b2 : Int)) (nam (wr q1.2 b2 x1 105) fun M3 => rf S (some (ad 31)) 1 fun b4 => bd (fX10_isWord ad S Ln R M3 a0 b4) fun q5 => if q5.1 = 0 then (some ((0, q5.2))) else (bd (fX10_isSpaced ad S Ln R q5.2 a0 2 (w32 (x1 + 1))) fun q6 => if q6.1 = 0 then (some ((0, q6.2))) else (some ((1, q6.2)))))) else (rf S (some (ad 30)) 1 fun b7 => bd (fX10_isWord ad S Ln R q1.2 a0 b7) fun q8 => if q8.1 = 0 then (some ((0, q8.2))) else (bd (fX10_isSpaced ad S Ln R q8.2 a0 2 (w32 (x1 + 1))) fun q9 => if q9.1 = 0 then (some ((0, q9.2))) else (bd (fX10_isSpaced ad S Ln R q9.2 a0 2 (w32 (x1 + 2))) fun q10 => if q10.1 = 0 then (some ((0, q10.2))) else (some ((1, q10.2))))))
theorem xX10_readsP {l : Launch} {G : gE} {sz : Nat} {S Ln : Nat → Nat} {M : gM} {R : gR} (hl : l.stackTraces = false) {a0 : Nat} (hs0 : S a0 = 13) {x1 : Int} (hx1 : (-2147483648 ≤ x1 ∧ x1 < 2147483648)) {r : Int × gM} (h : fX10_readsP G.2.2.2.2 S Ln R M a0 x1 = some r) : Ct l G yX10_readsP cX10_readsP 2 (some .boolean) 13 0 0 [.ref a0, .int (iI x1)] sz S Ln M R (poZ r.1 sz S Ln (r.2) R) noX := by
  refine jj_start (own := RX10) (lv0 := [(0, .ref a0), (1, .int (iI x1))]) hl (by decide +kernel) rfl rfl (c_le rfl) (fun C hCl hC => ?_)
  unfold fX10_readsP at h
  refine jj_aload_n hC dX10_readsP_0 rfl 0 rfl ?_
  refine jj_bipush hC dX10_readsP_1 (by decide) ?_
  obtain ⟨q1, hq1, h⟩ := bd_e h
  refine jj_invV hC mvX10_isSign wd2183 wd70 wd2181 hs0 (by decide) rfl (xX10_isSign (OKC.tr hC) hs0 (show (-2147483648 ≤ (111 : Int) ∧ (111 : Int) < 2147483648) from by decide) hq1) rfl rfl (c_le rfl) (c_le rfl) (c_le rfl) (c_le rfl) dX10_readsP_3 noXk (po_kZ (fun hr1 => ?_))
  refine jj_if_eq (tgt := 46) hC dX10_readsP_6 rfl (r_z hr1) (fun hc => ?_) (fun hc => ?_)
  · replace h := (if_pos hc).symm.trans h
    refine jj_aload_n hC dX10_readsP_46 rfl 0 rfl ?_
    obtain ⟨b2, hb2, hs2, h⟩ := rf_e h
    refine jg_R hC kfX10 14 rfl hs0 (by decide) wd1723 rfl hb2 dX10_readsP_47 ?_
    refine jj_iload_n hC dX10_readsP_50 rfl 1 rfl ?_
    refine jj_bipush hC dX10_readsP_51 (by decide) ?_
    obtain ⟨⟨ha3, hb3⟩, h⟩ := gd_e h
    obtain ⟨M3, hM3, h⟩ := nam_e h
    refine jj_iast hC hs2 ha3 hb3 (show (-2147483648 ≤ (105 : Int) ∧ (105 : Int) < 2147483648) from by decide) dX10_readsP_53 (jj_M hM3 ?_)
    refine jj_aload_n hC dX10_readsP_54 rfl 0 rfl ?_
    obtain ⟨b4, hb4, hs4, h⟩ := rf_e h
    refine jg_ldcS hC 15 rfl (Option.some.inj hb4) dX10_readsP_55 ?_
    obtain ⟨q5, hq5, h⟩ := bd_e h
    refine jj_invV hC mvX10_isWord wd2188 wd71 wd2186 hs0 (by decide) rfl (xX10_isWord (OKC.tr hC) hs0 hs4 hq5) rfl rfl (c_le rfl) (c_le rfl) (c_le rfl) (c_le rfl) dX10_readsP_57 noXk (po_kZ (fun hr5 => ?_))
    refine jj_if_eq (tgt := 78) hC dX10_readsP_60 rfl (r_z hr5) (fun hc => ?_) (fun hc => ?_)
    · replace h := (if_pos hc).symm.trans h
      refine jj_iconst hC dX10_readsP_78 ?_
      cases h
      exact jj_zret hC (show (0 ≤ (0 : Int) ∧ (0 : Int) ≤ 1) from by decide) (c_le rfl) (c_le rfl) dX10_readsP_79 ⟨rfl, (show (0 ≤ (0 : Int) ∧ (0 : Int) ≤ 1) from by decide), rfl, rfl, rfl, rfl, rfl⟩
    · replace h := (if_neg (hc)).symm.trans h
      refine jj_aload_n hC dX10_readsP_63 rfl 0 rfl ?_
      refine jj_iconst hC dX10_readsP_64 ?_
      refine jj_iload_n hC dX10_readsP_65 rfl 1 rfl ?_
      refine jj_iconst hC dX10_readsP_66 ?_
      refine jg_iadd hC dX10_readsP_67 ?_
      obtain ⟨q6, hq6, h⟩ := bd_e h
      refine jj_invV hC mvX10_isSpaced wd2193 wd72 wd2191 hs0 (by decide) rfl (xX10_isSpaced (OKC.tr hC) hs0 (show (-2147483648 ≤ (2 : Int) ∧ (2 : Int) < 2147483648) from by decide) (w32_r _) hq6) rfl rfl (c_le rfl) (c_le rfl) (c_le rfl) (c_le rfl) dX10_readsP_68 noXk (po_kZ (fun hr6 => ?_))
      refine jj_if_eq (tgt := 78) hC dX10_readsP_71 rfl (r_z hr6) (fun hc => ?_) (fun hc => ?_)
      · replace h := (if_pos hc).symm.trans h
        refine jj_iconst hC dX10_readsP_78 ?_
        cases h
        exact jj_zret hC (show (0 ≤ (0 : Int) ∧ (0 : Int) ≤ 1) from by decide) (c_le rfl) (c_le rfl) dX10_readsP_79 ⟨rfl, (show (0 ≤ (0 : Int) ∧ (0 : Int) ≤ 1) from by decide), rfl, rfl, rfl, rfl, rfl⟩
      · replace h := (if_neg (hc)).symm.trans h
        refine jj_iconst hC dX10_readsP_74 ?_
        refine jj_goto (tgt := 79) hC dX10_readsP_75 rfl ?_
        cases h
        exact jj_zret hC (show (0 ≤ (1 : Int) ∧ (1 : Int) ≤ 1) from by decide) (c_le rfl) (c_le rfl) dX10_readsP_79 ⟨rfl, (show (0 ≤ (1 : Int) ∧ (1 : Int) ≤ 1) from by decide), rfl, rfl, rfl, rfl, rfl⟩
  · replace h := (if_neg (hc)).symm.trans h
    refine jj_aload_n hC dX10_readsP_9 rfl 0 rfl ?_
    obtain ⟨b7, hb7, hs7, h⟩ := rf_e h
    refine jg_ldcS hC 14 rfl (Option.some.inj hb7) dX10_readsP_10 ?_
    obtain ⟨q8, hq8, h⟩ := bd_e h
    refine jj_invV hC mvX10_isWord wd2188 wd71 wd2186 hs0 (by decide) rfl (xX10_isWord (OKC.tr hC) hs0 hs7 hq8) rfl rfl (c_le rfl) (c_le rfl) (c_le rfl) (c_le rfl) dX10_readsP_12 noXk (po_kZ (fun hr8 => ?_))
    refine jj_if_eq (tgt := 44) hC dX10_readsP_15 rfl (r_z hr8) (fun hc => ?_) (fun hc => ?_)
    · replace h := (if_pos hc).symm.trans h
      refine jj_iconst hC dX10_readsP_44 ?_
      cases h
      exact jj_zret hC (show (0 ≤ (0 : Int) ∧ (0 : Int) ≤ 1) from by decide) (c_le rfl) (c_le rfl) dX10_readsP_45 ⟨rfl, (show (0 ≤ (0 : Int) ∧ (0 : Int) ≤ 1) from by decide), rfl, rfl, rfl, rfl, rfl⟩
    · replace h := (if_neg (hc)).symm.trans h
      refine jj_aload_n hC dX10_readsP_18 rfl 0 rfl ?_
      refine jj_iconst hC dX10_readsP_19 ?_
      refine jj_iload_n hC dX10_readsP_20 rfl 1 rfl ?_
      refine jj_iconst hC dX10_readsP_21 ?_
      refine jg_iadd hC dX10_readsP_22 ?_
      obtain ⟨q9, hq9, h⟩ := bd_e h
      refine jj_invV hC mvX10_isSpaced wd2193 wd72 wd2191 hs0 (by decide) rfl (xX10_isSpaced (OKC.tr hC) hs0 (show (-2147483648 ≤ (2 : Int) ∧ (2 : Int) < 2147483648) from by decide) (w32_r _) hq9) rfl rfl (c_le rfl) (c_le rfl) (c_le rfl) (c_le rfl) dX10_readsP_23 noXk (po_kZ (fun hr9 => ?_))
      refine jj_if_eq (tgt := 44) hC dX10_readsP_26 rfl (r_z hr9) (fun hc => ?_) (fun hc => ?_)
      · replace h := (if_pos hc).symm.trans h
        refine jj_iconst hC dX10_readsP_44 ?_
        cases h
        exact jj_zret hC (show (0 ≤ (0 : Int) ∧ (0 : Int) ≤ 1) from by decide) (c_le rfl) (c_le rfl) dX10_readsP_45 ⟨rfl, (show (0 ≤ (0 : Int) ∧ (0 : Int) ≤ 1) from by decide), rfl, rfl, rfl, rfl, rfl⟩
      · replace h := (if_neg (hc)).symm.trans h
        refine jj_aload_n hC dX10_readsP_29 rfl 0 rfl ?_
        refine jj_iconst hC dX10_readsP_30 ?_
        refine jj_iload_n hC dX10_readsP_31 rfl 1 rfl ?_
        refine jj_iconst hC dX10_readsP_32 ?_
        refine jg_iadd hC dX10_readsP_33 ?_
        obtain ⟨q10, hq10, h⟩ := bd_e h
        refine jj_invV hC mvX10_isSpaced wd2193 wd72 wd2191 hs0 (by decide) rfl (xX10_isSpaced (OKC.tr hC) hs0 (show (-2147483648 ≤ (2 : Int) ∧ (2 : Int) < 2147483648) from by decide) (w32_r _) hq10) rfl rfl (c_le rfl) (c_le rfl) (c_le rfl) (c_le rfl) dX10_readsP_34 noXk (po_kZ (fun hr10 => ?_))
        refine jj_if_eq (tgt := 44) hC dX10_readsP_37 rfl (r_z hr10) (fun hc => ?_) (fun hc => ?_)
        · replace h := (if_pos hc).symm.trans h
          refine jj_iconst hC dX10_readsP_44 ?_
          cases h
          exact jj_zret hC (show (0 ≤ (0 : Int) ∧ (0 : Int) ≤ 1) from by decide) (c_le rfl) (c_le rfl) dX10_readsP_45 ⟨rfl, (show (0 ≤ (0 : Int) ∧ (0 : Int) ≤ 1) from by decide), rfl, rfl, rfl, rfl, rfl⟩
        · replace h := (if_neg (hc)).symm.trans h
          refine jj_iconst hC dX10_readsP_40 ?_
          refine jj_goto (tgt := 45) hC dX10_readsP_41 rfl ?_
          cases h
          exact jj_zret hC (show (0 ≤ (1 : Int) ∧ (1 : Int) ≤ 1) from by decide) (c_le rfl) (c_le rfl) dX10_readsP_45 ⟨rfl, (show (0 ≤ (1 : Int) ∧ (1 : Int) ≤ 1) from by decide), rfl, rfl, rfl, rfl, rfl⟩
def fX10_readsT (ad S Ln : Nat → Nat) (R : gR) (M : gM) (a0 : Nat) (x1 : Int) : Option (Int × gM) :=
  bd (fX10_isSign ad S Ln R M a0 97) fun q1 => if q1.1 = 0 then (rf S (R a0 14) 20 fun b2 => gd ((0 : Int) ≤ x1 ∧ x1 < (Ln b2 : Int)) (nam (wr q1.2 b2 x1 104) fun M3 => rf S (some (ad 33)) 1 fun b4 => bd (fX10_isWord ad S Ln R M3 a0 b4) fun q5 => if q5.1 = 0 then (some ((0, q5.2))) else (bd (fX10_isSpaced ad S Ln R q5.2 a0 2 (w32 (x1 + 1))) fun q6 => if q6.1 = 0 then (some ((0, q6.2))) else (bd (fX10_isSpaced ad S Ln R q6.2 a0 2 (w32 (x1 + 2))) fun q7 => if q7.1 = 0 then (some ((0, q7.2))) else (bd (fX10_isSpaced ad S Ln R q7.2 a0 1 (w32 (x1 + 3))) fun q8 => if q8.1 = 0 then (some ((0, q8.2))) else (some ((1, q8.2)))))))) else (rf S (some (ad 32)) 1 fun b9 => bd (fX10_isWord ad S Ln R q1.2 a0 b9) fun q10 => if q10.1 = 0 then (some ((0, q10.2))) else (bd (fX10_isSpaced ad S Ln R q10.2 a0 1 (w32 (x1 + 1))) fun q11 => if q11.1 = 0 then (some ((0, q11.2))) else (some ((1, q11.2)))))
theorem xX10_readsT {l : Launch} {G : gE} {sz : Nat} {S Ln : Nat → Nat} {M : gM} {R : gR} (hl : l.stackTraces = false) {a0 : Nat} (hs0 : S a0 = 13) {x1 : Int} (hx1 : (-2147483648 ≤ x1 ∧ x1 < 2147483648)) {r : Int × gM} (h : fX10_readsT G.2.2.2.2 S Ln R M a0 x1 = some r) : Ct l G yX10_readsT cX10_readsT 2 (some .boolean) 13 0 0 [.ref a0, .int (iI x1)] sz S Ln M R (poZ r.1 sz S Ln (r.2) R) noX := by
  refine jj_start (own := RX10) (lv0 := [(0, .ref a0), (1, .int (iI x1))]) hl (by decide +kernel) rfl rfl (c_le rfl) (fun C hCl hC => ?_)
  unfold fX10_readsT at h
  refine jj_aload_n hC dX10_readsT_0 rfl 0 rfl ?_
  refine jj_bipush hC dX10_readsT_1 (by decide) ?_
  obtain ⟨q1, hq1, h⟩ := bd_e h
  refine jj_invV hC mvX10_isSign wd2183 wd70 wd2181 hs0 (by decide) rfl (xX10_isSign (OKC.tr hC) hs0 (show (-2147483648 ≤ (97 : Int) ∧ (97 : Int) < 2147483648) from by decide) hq1) rfl rfl (c_le rfl) (c_le rfl) (c_le rfl) (c_le rfl) dX10_readsT_3 noXk (po_kZ (fun hr1 => ?_))
  refine jj_if_eq (tgt := 36) hC dX10_readsT_6 rfl (r_z hr1) (fun hc => ?_) (fun hc => ?_)
  · replace h := (if_pos hc).symm.trans h
    refine jj_aload_n hC dX10_readsT_36 rfl 0 rfl ?_
    obtain ⟨b2, hb2, hs2, h⟩ := rf_e h
    refine jg_R hC kfX10 14 rfl hs0 (by decide) wd1723 rfl hb2 dX10_readsT_37 ?_
    refine jj_iload_n hC dX10_readsT_40 rfl 1 rfl ?_
    refine jj_bipush hC dX10_readsT_41 (by decide) ?_
    obtain ⟨⟨ha3, hb3⟩, h⟩ := gd_e h
    obtain ⟨M3, hM3, h⟩ := nam_e h
    refine jj_iast hC hs2 ha3 hb3 (show (-2147483648 ≤ (104 : Int) ∧ (104 : Int) < 2147483648) from by decide) dX10_readsT_43 (jj_M hM3 ?_)
    refine jj_aload_n hC dX10_readsT_44 rfl 0 rfl ?_
    obtain ⟨b4, hb4, hs4, h⟩ := rf_e h
    refine jg_ldc_wS hC 17 rfl (Option.some.inj hb4) dX10_readsT_45 ?_
    obtain ⟨q5, hq5, h⟩ := bd_e h
    refine jj_invV hC mvX10_isWord wd2188 wd71 wd2186 hs0 (by decide) rfl (xX10_isWord (OKC.tr hC) hs0 hs4 hq5) rfl rfl (c_le rfl) (c_le rfl) (c_le rfl) (c_le rfl) dX10_readsT_48 noXk (po_kZ (fun hr5 => ?_))
    refine jj_if_eq (tgt := 91) hC dX10_readsT_51 rfl (r_z hr5) (fun hc => ?_) (fun hc => ?_)
    · replace h := (if_pos hc).symm.trans h
      refine jj_iconst hC dX10_readsT_91 ?_
      cases h
      exact jj_zret hC (show (0 ≤ (0 : Int) ∧ (0 : Int) ≤ 1) from by decide) (c_le rfl) (c_le rfl) dX10_readsT_92 ⟨rfl, (show (0 ≤ (0 : Int) ∧ (0 : Int) ≤ 1) from by decide), rfl, rfl, rfl, rfl, rfl⟩
    · replace h := (if_neg (hc)).symm.trans h
      refine jj_aload_n hC dX10_readsT_54 rfl 0 rfl ?_
      refine jj_iconst hC dX10_readsT_55 ?_
      refine jj_iload_n hC dX10_readsT_56 rfl 1 rfl ?_
      refine jj_iconst hC dX10_readsT_57 ?_
      refine jg_iadd hC dX10_readsT_58 ?_
      obtain ⟨q6, hq6, h⟩ := bd_e h
      refine jj_invV hC mvX10_isSpaced wd2193 wd72 wd2191 hs0 (by decide) rfl (xX10_isSpaced (OKC.tr hC) hs0 (show (-2147483648 ≤ (2 : Int) ∧ (2 : Int) < 2147483648) from by decide) (w32_r _) hq6) rfl rfl (c_le rfl) (c_le rfl) (c_le rfl) (c_le rfl) dX10_readsT_59 noXk (po_kZ (fun hr6 => ?_))
      refine jj_if_eq (tgt := 91) hC dX10_readsT_62 rfl (r_z hr6) (fun hc => ?_) (fun hc => ?_)
      · replace h := (if_pos hc).symm.trans h
        refine jj_iconst hC dX10_readsT_91 ?_
        cases h
        exact jj_zret hC (show (0 ≤ (0 : Int) ∧ (0 : Int) ≤ 1) from by decide) (c_le rfl) (c_le rfl) dX10_readsT_92 ⟨rfl, (show (0 ≤ (0 : Int) ∧ (0 : Int) ≤ 1) from by decide), rfl, rfl, rfl, rfl, rfl⟩
      · replace h := (if_neg (hc)).symm.trans h
        refine jj_aload_n hC dX10_readsT_65 rfl 0 rfl ?_
        refine jj_iconst hC dX10_readsT_66 ?_
        refine jj_iload_n hC dX10_readsT_67 rfl 1 rfl ?_
        refine jj_iconst hC dX10_readsT_68 ?_
        refine jg_iadd hC dX10_readsT_69 ?_
        obtain ⟨q7, hq7, h⟩ := bd_e h
        refine jj_invV hC mvX10_isSpaced wd2193 wd72 wd2191 hs0 (by decide) rfl (xX10_isSpaced (OKC.tr hC) hs0 (show (-2147483648 ≤ (2 : Int) ∧ (2 : Int) < 2147483648) from by decide) (w32_r _) hq7) rfl rfl (c_le rfl) (c_le rfl) (c_le rfl) (c_le rfl) dX10_readsT_70 noXk (po_kZ (fun hr7 => ?_))
        refine jj_if_eq (tgt := 91) hC dX10_readsT_73 rfl (r_z hr7) (fun hc => ?_) (fun hc => ?_)
        · replace h := (if_pos hc).symm.trans h
          refine jj_iconst hC dX10_readsT_91 ?_
          cases h
          exact jj_zret hC (show (0 ≤ (0 : Int) ∧ (0 : Int) ≤ 1) from by decide) (c_le rfl) (c_le rfl) dX10_readsT_92 ⟨rfl, (show (0 ≤ (0 : Int) ∧ (0 : Int) ≤ 1) from by decide), rfl, rfl, rfl, rfl, rfl⟩
        · replace h := (if_neg (hc)).symm.trans h
          refine jj_aload_n hC dX10_readsT_76 rfl 0 rfl ?_
          refine jj_iconst hC dX10_readsT_77 ?_
          refine jj_iload_n hC dX10_readsT_78 rfl 1 rfl ?_
          refine jj_iconst hC dX10_readsT_79 ?_
          refine jg_iadd hC dX10_readsT_80 ?_
          obtain ⟨q8, hq8, h⟩ := bd_e h
          refine jj_invV hC mvX10_isSpaced wd2193 wd72 wd2191 hs0 (by decide) rfl (xX10_isSpaced (OKC.tr hC) hs0 (show (-2147483648 ≤ (1 : Int) ∧ (1 : Int) < 2147483648) from by decide) (w32_r _) hq8) rfl rfl (c_le rfl) (c_le rfl) (c_le rfl) (c_le rfl) dX10_readsT_81 noXk (po_kZ (fun hr8 => ?_))
          refine jj_if_eq (tgt := 91) hC dX10_readsT_84 rfl (r_z hr8) (fun hc => ?_) (fun hc => ?_)
          · replace h := (if_pos hc).symm.trans h
            refine jj_iconst hC dX10_readsT_91 ?_
            cases h
            exact jj_zret hC (show (0 ≤ (0 : Int) ∧ (0 : Int) ≤ 1) from by decide) (c_le rfl) (c_le rfl) dX10_readsT_92 ⟨rfl, (show (0 ≤ (0 : Int) ∧ (0 : Int) ≤ 1) from by decide), rfl, rfl, rfl, rfl, rfl⟩
          · replace h := (if_neg (hc)).symm.trans h
            refine jj_iconst hC dX10_readsT_87 ?_
            refine jj_goto (tgt := 92) hC dX10_readsT_88 rfl ?_
            cases h
            exact jj_zret hC (show (0 ≤ (1 : Int) ∧ (1 : Int) ≤ 1) from by decide) (c_le rfl) (c_le rfl) dX10_readsT_92 ⟨rfl, (show (0 ≤ (1 : Int) ∧ (1 : Int) ≤ 1) from by decide), rfl, rfl, rfl, rfl, rfl⟩
  · replace h := (if_neg (hc)).symm.trans h
    refine jj_aload_n hC dX10_readsT_9 rfl 0 rfl ?_
    obtain ⟨b9, hb9, hs9, h⟩ := rf_e h
    refine jg_ldc_wS hC 16 rfl (Option.some.inj hb9) dX10_readsT_10 ?_
    obtain ⟨q10, hq10, h⟩ := bd_e h
    refine jj_invV hC mvX10_isWord wd2188 wd71 wd2186 hs0 (by decide) rfl (xX10_isWord (OKC.tr hC) hs0 hs9 hq10) rfl rfl (c_le rfl) (c_le rfl) (c_le rfl) (c_le rfl) dX10_readsT_13 noXk (po_kZ (fun hr10 => ?_))
    refine jj_if_eq (tgt := 34) hC dX10_readsT_16 rfl (r_z hr10) (fun hc => ?_) (fun hc => ?_)
    · replace h := (if_pos hc).symm.trans h
      refine jj_iconst hC dX10_readsT_34 ?_
      cases h
      exact jj_zret hC (show (0 ≤ (0 : Int) ∧ (0 : Int) ≤ 1) from by decide) (c_le rfl) (c_le rfl) dX10_readsT_35 ⟨rfl, (show (0 ≤ (0 : Int) ∧ (0 : Int) ≤ 1) from by decide), rfl, rfl, rfl, rfl, rfl⟩
    · replace h := (if_neg (hc)).symm.trans h
      refine jj_aload_n hC dX10_readsT_19 rfl 0 rfl ?_
      refine jj_iconst hC dX10_readsT_20 ?_
      refine jj_iload_n hC dX10_readsT_21 rfl 1 rfl ?_
      refine jj_iconst hC dX10_readsT_22 ?_
      refine jg_iadd hC dX10_readsT_23 ?_
      obtain ⟨q11, hq11, h⟩ := bd_e h
      refine jj_invV hC mvX10_isSpaced wd2193 wd72 wd2191 hs0 (by decide) rfl (xX10_isSpaced (OKC.tr hC) hs0 (show (-2147483648 ≤ (1 : Int) ∧ (1 : Int) < 2147483648) from by decide) (w32_r _) hq11) rfl rfl (c_le rfl) (c_le rfl) (c_le rfl) (c_le rfl) dX10_readsT_24 noXk (po_kZ (fun hr11 => ?_))
      refine jj_if_eq (tgt := 34) hC dX10_readsT_27 rfl (r_z hr11) (fun hc => ?_) (fun hc => ?_)
      · replace h := (if_pos hc).symm.trans h
        refine jj_iconst hC dX10_readsT_34 ?_
        cases h
        exact jj_zret hC (show (0 ≤ (0 : Int) ∧ (0 : Int) ≤ 1) from by decide) (c_le rfl) (c_le rfl) dX10_readsT_35 ⟨rfl, (show (0 ≤ (0 : Int) ∧ (0 : Int) ≤ 1) from by decide), rfl, rfl, rfl, rfl, rfl⟩
      · replace h := (if_neg (hc)).symm.trans h
        refine jj_iconst hC dX10_readsT_30 ?_
        refine jj_goto (tgt := 35) hC dX10_readsT_31 rfl ?_
        cases h
        exact jj_zret hC (show (0 ≤ (1 : Int) ∧ (1 : Int) ≤ 1) from by decide) (c_le rfl) (c_le rfl) dX10_readsT_35 ⟨rfl, (show (0 ≤ (1 : Int) ∧ (1 : Int) ≤ 1) from by decide), rfl, rfl, rfl, rfl, rfl⟩
def fX10_readsRest_B290 (ad S Ln : Nat → Nat) (R : gR) (M290 : gM) (l0_290 : Nat) : Option (Int × gM) :=
  rf S (some (ad 38)) 1 fun b1 => bd (fX10_isWord ad S Ln R M290 l0_290 b1) fun q2 => some ((q2.1, q2.2))
def fX10_readsRest (ad S Ln : Nat → Nat) (R : gR) (M : gM) (a0 : Nat) (x1 : Int) (x2 : Int) : Option (Int × gM) :=
  if x1 = 97 then (rf S (some (ad 34)) 1 fun b19 => bd (fX10_isWord ad S Ln R M a0 b19) fun q20 => if q20.1 = 0 then (some ((0, q20.2))) else (bd (fX10_isSpaced ad S Ln R q20.2 a0 2 (w32 (x2 + 1))) fun q21 => if q21.1 = 0 then (some ((0, q21.2))) else (bd (fX10_isSpaced ad S Ln R q21.2 a0 2 (w32 (x2 + 2))) fun q22 => if q22.1 = 0 then (some ((0, q22.2))) else (bd (fX10_isSpaced ad S Ln R q22.2 a0 2 (w32 (x2 + 3))) fun q23 => if q23.1 = 0 then (some ((0, q23.2))) else (bd (fX10_isSpaced ad S Ln R q23.2 a0 2 (w32 (x2 + 4))) fun q24 => if q24.1 = 0 then (some ((0, q24.2))) else (some ((1, q24.2)))))))) else (if x1 = 98 then (fX10_readsRest_B290 ad S Ln R M a0) else (if x1 = 99 then (rf S (some (ad 37)) 1 fun b15 => bd (fX10_isWord ad S Ln R M a0 b15) fun q16 => if q16.1 = 0 then (some ((0, q16.2))) else (bd (fX10_isSpaced ad S Ln R q16.2 a0 1 (w32 (x2 + 1))) fun q17 => if q17.1 = 0 then (some ((0, q17.2))) else (bd (fX10_isSpaced ad S Ln R q17.2 a0 2 (w32 (x2 + 2))) fun q18 => if q18.1 = 0 then (some ((0, q18.2))) else (some ((1, q18.2)))))) else (if x1 = 100 then (fX10_readsRest_B290 ad S Ln R M a0) else (if x1 = 101 then (fX10_readsRest_B290 ad S Ln R M a0) else (if x1 = 102 then (rf S (some (ad 36)) 1 fun b9 => bd (fX10_isWord ad S Ln R M a0 b9) fun q10 => if q10.1 = 0 then (some ((0, q10.2))) else (bd (fX10_isSpaced ad S Ln R q10.2 a0 1 (w32 (x2 + 1))) fun q11 => if q11.1 = 0 then (some ((0, q11.2))) else (bd (fX10_isSign ad S Ln R q11.2 a0 32) fun q12 => if q12.1 = 0 then (some ((0, q12.2))) else (bd (fX10_isWay ad S Ln R q12.2 a0 (w32 (x2 + 2))) fun q13 => if q13.1 = 0 then (some ((0, q13.2))) else (bd (fX10_isNumber ad S Ln R q13.2 a0 2 (w32 (x2 + 3))) fun q14 => if q14.1 = 0 then (some ((0, q14.2))) else (some ((1, q14.2)))))))) else (if x1 = 103 then (fX10_readsRest_B290 ad S Ln R M a0) else (if x1 = 104 then (fX10_readsRest_B290 ad S Ln R M a0) else (if x1 = 105 then (fX10_readsRest_B290 ad S Ln R M a0) else (if x1 = 106 then (fX10_readsRest_B290 ad S Ln R M a0) else (if x1 = 107 then (fX10_readsRest_B290 ad S Ln R M a0) else (if x1 = 108 then (rf S (some (ad 35)) 1 fun b6 => bd (fX10_isWord ad S Ln R M a0 b6) fun q7 => if q7.1 = 0 then (some ((0, q7.2))) else (bd (fX10_isSpaced ad S Ln R q7.2 a0 1 (w32 (x2 + 1))) fun q8 => if q8.1 = 0 then (some ((0, q8.2))) else (some ((1, q8.2))))) else (if x1 = 109 then (fX10_readsRest_B290 ad S Ln R M a0) else (if x1 = 110 then (fX10_readsRest_B290 ad S Ln R M a0) else (if x1 = 111 then (fX10_readsRest_B290 ad S Ln R M a0) else (if x1 = 112 then (bd (fX10_readsP ad S Ln R M a0 x2) fun q5 => some ((q5.1, q5.2))) else (if x1 = 113 then (fX10_readsRest_B290 ad S Ln R M a0) else (if x1 = 114 then (fX10_readsRest_B290 ad S Ln R M a0) else (if x1 = 115 then (fX10_readsRest_B290 ad S Ln R M a0) else (if x1 = 116 then (bd (fX10_readsT ad S Ln R M a0 x2) fun q4 => some ((q4.1, q4.2))) else (fX10_readsRest_B290 ad S Ln R M a0))))))))))))))))))))
theorem xX10_readsRest {l : Launch} {G : gE} {sz : Nat} {S Ln : Nat → Nat} {M : gM} {R : gR} (hl : l.stackTraces = false) {a0 : Nat} (hs0 : S a0 = 13) {x1 : Int} (hx1 : (-2147483648 ≤ x1 ∧ x1 < 2147483648)) {x2 : Int} (hx2 : (-2147483648 ≤ x2 ∧ x2 < 2147483648)) {r : Int × gM} (h : fX10_readsRest G.2.2.2.2 S Ln R M a0 x1 x2 = some r) : Ct l G yX10_readsRest cX10_readsRest 3 (some .boolean) 14 0 0 [.ref a0, .int (iI x1), .int (iI x2)] sz S Ln M R (poZ r.1 sz S Ln (r.2) R) noX := by
  refine jj_start (own := RX10) (lv0 := [(0, .ref a0), (1, .int (iI x1)), (2, .int (iI x2))]) hl (by decide +kernel) rfl rfl (c_le rfl) (fun C hCl hC => ?_)
  have hB290 : ∀ (M290 : gM) (l0_290 : Nat), S l0_290 = 13 → fX10_readsRest_B290 G.2.2.2.2 S Ln R M290 l0_290 = some r → JJ G C 0 0 sz S Ln M290 R 290 [(0, .ref l0_290)] [] := by
    intro M290 l0_290 hl0_290 h
    unfold fX10_readsRest_B290 at h
    refine jj_aload_n hC dX10_readsRest_290 rfl 0 rfl ?_
    obtain ⟨b1, hb1, hs1, h⟩ := rf_e h
    refine jg_ldc_wS hC 22 rfl (Option.some.inj hb1) dX10_readsRest_291 ?_
    obtain ⟨q2, hq2, h⟩ := bd_e h
    refine jj_invV hC mvX10_isWord wd2188 wd71 wd2186 hl0_290 (by decide) rfl (xX10_isWord (OKC.tr hC) hl0_290 hs1 hq2) rfl rfl (c_le rfl) (c_le rfl) (c_le rfl) (c_le rfl) dX10_readsRest_294 noXk (po_kZ (fun hr2 => ?_))
    cases h
    exact jj_zret hC hr2 (c_le rfl) (c_le rfl) dX10_readsRest_297 ⟨rfl, hr2, rfl, rfl, rfl, rfl, rfl⟩
  unfold fX10_readsRest at h
  refine jj_iload_n hC dX10_readsRest_0 rfl 1 rfl ?_
  by_cases hc3_97 : x1 = 97
  · replace h := (if_pos hc3_97).symm.trans h
    refine jj_tblIn (tgt := 108) hC dX10_readsRest_1 hx1 (by omega) (by omega) (by rw [hc3_97]; rfl) rfl ?_
    refine jj_aload_n hC dX10_readsRest_108 rfl 0 rfl ?_
    obtain ⟨b19, hb19, hs19, h⟩ := rf_e h
    refine jg_ldc_wS hC 18 rfl (Option.some.inj hb19) dX10_readsRest_109 ?_
    obtain ⟨q20, hq20, h⟩ := bd_e h
    refine jj_invV hC mvX10_isWord wd2188 wd71 wd2186 hs0 (by decide) rfl (xX10_isWord (OKC.tr hC) hs0 hs19 hq20) rfl rfl (c_le rfl) (c_le rfl) (c_le rfl) (c_le rfl) dX10_readsRest_112 noXk (po_kZ (fun hr20 => ?_))
    refine jj_if_eq (tgt := 166) hC dX10_readsRest_115 rfl (r_z hr20) (fun hc => ?_) (fun hc => ?_)
    · replace h := (if_pos hc).symm.trans h
      refine jj_iconst hC dX10_readsRest_166 ?_
      cases h
      exact jj_zret hC (show (0 ≤ (0 : Int) ∧ (0 : Int) ≤ 1) from by decide) (c_le rfl) (c_le rfl) dX10_readsRest_167 ⟨rfl, (show (0 ≤ (0 : Int) ∧ (0 : Int) ≤ 1) from by decide), rfl, rfl, rfl, rfl, rfl⟩
    · replace h := (if_neg (hc)).symm.trans h
      refine jj_aload_n hC dX10_readsRest_118 rfl 0 rfl ?_
      refine jj_iconst hC dX10_readsRest_119 ?_
      refine jj_iload_n hC dX10_readsRest_120 rfl 2 rfl ?_
      refine jj_iconst hC dX10_readsRest_121 ?_
      refine jg_iadd hC dX10_readsRest_122 ?_
      obtain ⟨q21, hq21, h⟩ := bd_e h
      refine jj_invV hC mvX10_isSpaced wd2193 wd72 wd2191 hs0 (by decide) rfl (xX10_isSpaced (OKC.tr hC) hs0 (show (-2147483648 ≤ (2 : Int) ∧ (2 : Int) < 2147483648) from by decide) (w32_r _) hq21) rfl rfl (c_le rfl) (c_le rfl) (c_le rfl) (c_le rfl) dX10_readsRest_123 noXk (po_kZ (fun hr21 => ?_))
      refine jj_if_eq (tgt := 166) hC dX10_readsRest_126 rfl (r_z hr21) (fun hc => ?_) (fun hc => ?_)
      · replace h := (if_pos hc).symm.trans h
        refine jj_iconst hC dX10_readsRest_166 ?_
        cases h
        exact jj_zret hC (show (0 ≤ (0 : Int) ∧ (0 : Int) ≤ 1) from by decide) (c_le rfl) (c_le rfl) dX10_readsRest_167 ⟨rfl, (show (0 ≤ (0 : Int) ∧ (0 : Int) ≤ 1) from by decide), rfl, rfl, rfl, rfl, rfl⟩
      · replace h := (if_neg (hc)).symm.trans h
        refine jj_aload_n hC dX10_readsRest_129 rfl 0 rfl ?_
        refine jj_iconst hC dX10_readsRest_130 ?_
        refine jj_iload_n hC dX10_readsRest_131 rfl 2 rfl ?_
        refine jj_iconst hC dX10_readsRest_132 ?_
        refine jg_iadd hC dX10_readsRest_133 ?_
        obtain ⟨q22, hq22, h⟩ := bd_e h
        refine jj_invV hC mvX10_isSpaced wd2193 wd72 wd2191 hs0 (by decide) rfl (xX10_isSpaced (OKC.tr hC) hs0 (show (-2147483648 ≤ (2 : Int) ∧ (2 : Int) < 2147483648) from by decide) (w32_r _) hq22) rfl rfl (c_le rfl) (c_le rfl) (c_le rfl) (c_le rfl) dX10_readsRest_134 noXk (po_kZ (fun hr22 => ?_))
        refine jj_if_eq (tgt := 166) hC dX10_readsRest_137 rfl (r_z hr22) (fun hc => ?_) (fun hc => ?_)
        · replace h := (if_pos hc).symm.trans h
          refine jj_iconst hC dX10_readsRest_166 ?_
          cases h
          exact jj_zret hC (show (0 ≤ (0 : Int) ∧ (0 : Int) ≤ 1) from by decide) (c_le rfl) (c_le rfl) dX10_readsRest_167 ⟨rfl, (show (0 ≤ (0 : Int) ∧ (0 : Int) ≤ 1) from by decide), rfl, rfl, rfl, rfl, rfl⟩
        · replace h := (if_neg (hc)).symm.trans h
          refine jj_aload_n hC dX10_readsRest_140 rfl 0 rfl ?_
          refine jj_iconst hC dX10_readsRest_141 ?_
          refine jj_iload_n hC dX10_readsRest_142 rfl 2 rfl ?_
          refine jj_iconst hC dX10_readsRest_143 ?_
          refine jg_iadd hC dX10_readsRest_144 ?_
          obtain ⟨q23, hq23, h⟩ := bd_e h
          refine jj_invV hC mvX10_isSpaced wd2193 wd72 wd2191 hs0 (by decide) rfl (xX10_isSpaced (OKC.tr hC) hs0 (show (-2147483648 ≤ (2 : Int) ∧ (2 : Int) < 2147483648) from by decide) (w32_r _) hq23) rfl rfl (c_le rfl) (c_le rfl) (c_le rfl) (c_le rfl) dX10_readsRest_145 noXk (po_kZ (fun hr23 => ?_))
          refine jj_if_eq (tgt := 166) hC dX10_readsRest_148 rfl (r_z hr23) (fun hc => ?_) (fun hc => ?_)
          · replace h := (if_pos hc).symm.trans h
            refine jj_iconst hC dX10_readsRest_166 ?_
            cases h
            exact jj_zret hC (show (0 ≤ (0 : Int) ∧ (0 : Int) ≤ 1) from by decide) (c_le rfl) (c_le rfl) dX10_readsRest_167 ⟨rfl, (show (0 ≤ (0 : Int) ∧ (0 : Int) ≤ 1) from by decide), rfl, rfl, rfl, rfl, rfl⟩
          · replace h := (if_neg (hc)).symm.trans h
            refine jj_aload_n hC dX10_readsRest_151 rfl 0 rfl ?_
            refine jj_iconst hC dX10_readsRest_152 ?_
            refine jj_iload_n hC dX10_readsRest_153 rfl 2 rfl ?_
            refine jj_iconst hC dX10_readsRest_154 ?_
            refine jg_iadd hC dX10_readsRest_155 ?_
            obtain ⟨q24, hq24, h⟩ := bd_e h
            refine jj_invV hC mvX10_isSpaced wd2193 wd72 wd2191 hs0 (by decide) rfl (xX10_isSpaced (OKC.tr hC) hs0 (show (-2147483648 ≤ (2 : Int) ∧ (2 : Int) < 2147483648) from by decide) (w32_r _) hq24) rfl rfl (c_le rfl) (c_le rfl) (c_le rfl) (c_le rfl) dX10_readsRest_156 noXk (po_kZ (fun hr24 => ?_))
            refine jj_if_eq (tgt := 166) hC dX10_readsRest_159 rfl (r_z hr24) (fun hc => ?_) (fun hc => ?_)
            · replace h := (if_pos hc).symm.trans h
              refine jj_iconst hC dX10_readsRest_166 ?_
              cases h
              exact jj_zret hC (show (0 ≤ (0 : Int) ∧ (0 : Int) ≤ 1) from by decide) (c_le rfl) (c_le rfl) dX10_readsRest_167 ⟨rfl, (show (0 ≤ (0 : Int) ∧ (0 : Int) ≤ 1) from by decide), rfl, rfl, rfl, rfl, rfl⟩
            · replace h := (if_neg (hc)).symm.trans h
              refine jj_iconst hC dX10_readsRest_162 ?_
              refine jj_goto (tgt := 167) hC dX10_readsRest_163 rfl ?_
              cases h
              exact jj_zret hC (show (0 ≤ (1 : Int) ∧ (1 : Int) ≤ 1) from by decide) (c_le rfl) (c_le rfl) dX10_readsRest_167 ⟨rfl, (show (0 ≤ (1 : Int) ∧ (1 : Int) ≤ 1) from by decide), rfl, rfl, rfl, rfl, rfl⟩
  · replace h := (if_neg hc3_97).symm.trans h
    by_cases hc3_98 : x1 = 98
    · replace h := (if_pos hc3_98).symm.trans h
      refine jj_tblIn (tgt := 290) hC dX10_readsRest_1 hx1 (by omega) (by omega) (by rw [hc3_98]; rfl) rfl ?_
      refine jj_lv (lv' := [(0, .ref a0)]) [0] rfl ?_
      exact hB290 M a0 hs0 h
    · replace h := (if_neg hc3_98).symm.trans h
      by_cases hc3_99 : x1 = 99
      · replace h := (if_pos hc3_99).symm.trans h
        refine jj_tblIn (tgt := 252) hC dX10_readsRest_1 hx1 (by omega) (by omega) (by rw [hc3_99]; rfl) rfl ?_
        refine jj_aload_n hC dX10_readsRest_252 rfl 0 rfl ?_
        obtain ⟨b15, hb15, hs15, h⟩ := rf_e h
        refine jg_ldc_wS hC 21 rfl (Option.some.inj hb15) dX10_readsRest_253 ?_
        obtain ⟨q16, hq16, h⟩ := bd_e h
        refine jj_invV hC mvX10_isWord wd2188 wd71 wd2186 hs0 (by decide) rfl (xX10_isWord (OKC.tr hC) hs0 hs15 hq16) rfl rfl (c_le rfl) (c_le rfl) (c_le rfl) (c_le rfl) dX10_readsRest_256 noXk (po_kZ (fun hr16 => ?_))
        refine jj_if_eq (tgt := 288) hC dX10_readsRest_259 rfl (r_z hr16) (fun hc => ?_) (fun hc => ?_)
        · replace h := (if_pos hc).symm.trans h
          refine jj_iconst hC dX10_readsRest_288 ?_
          cases h
          exact jj_zret hC (show (0 ≤ (0 : Int) ∧ (0 : Int) ≤ 1) from by decide) (c_le rfl) (c_le rfl) dX10_readsRest_289 ⟨rfl, (show (0 ≤ (0 : Int) ∧ (0 : Int) ≤ 1) from by decide), rfl, rfl, rfl, rfl, rfl⟩
        · replace h := (if_neg (hc)).symm.trans h
          refine jj_aload_n hC dX10_readsRest_262 rfl 0 rfl ?_
          refine jj_iconst hC dX10_readsRest_263 ?_
          refine jj_iload_n hC dX10_readsRest_264 rfl 2 rfl ?_
          refine jj_iconst hC dX10_readsRest_265 ?_
          refine jg_iadd hC dX10_readsRest_266 ?_
          obtain ⟨q17, hq17, h⟩ := bd_e h
          refine jj_invV hC mvX10_isSpaced wd2193 wd72 wd2191 hs0 (by decide) rfl (xX10_isSpaced (OKC.tr hC) hs0 (show (-2147483648 ≤ (1 : Int) ∧ (1 : Int) < 2147483648) from by decide) (w32_r _) hq17) rfl rfl (c_le rfl) (c_le rfl) (c_le rfl) (c_le rfl) dX10_readsRest_267 noXk (po_kZ (fun hr17 => ?_))
          refine jj_if_eq (tgt := 288) hC dX10_readsRest_270 rfl (r_z hr17) (fun hc => ?_) (fun hc => ?_)
          · replace h := (if_pos hc).symm.trans h
            refine jj_iconst hC dX10_readsRest_288 ?_
            cases h
            exact jj_zret hC (show (0 ≤ (0 : Int) ∧ (0 : Int) ≤ 1) from by decide) (c_le rfl) (c_le rfl) dX10_readsRest_289 ⟨rfl, (show (0 ≤ (0 : Int) ∧ (0 : Int) ≤ 1) from by decide), rfl, rfl, rfl, rfl, rfl⟩
          · replace h := (if_neg (hc)).symm.trans h
            refine jj_aload_n hC dX10_readsRest_273 rfl 0 rfl ?_
            refine jj_iconst hC dX10_readsRest_274 ?_
            refine jj_iload_n hC dX10_readsRest_275 rfl 2 rfl ?_
            refine jj_iconst hC dX10_readsRest_276 ?_
            refine jg_iadd hC dX10_readsRest_277 ?_
            obtain ⟨q18, hq18, h⟩ := bd_e h
            refine jj_invV hC mvX10_isSpaced wd2193 wd72 wd2191 hs0 (by decide) rfl (xX10_isSpaced (OKC.tr hC) hs0 (show (-2147483648 ≤ (2 : Int) ∧ (2 : Int) < 2147483648) from by decide) (w32_r _) hq18) rfl rfl (c_le rfl) (c_le rfl) (c_le rfl) (c_le rfl) dX10_readsRest_278 noXk (po_kZ (fun hr18 => ?_))
            refine jj_if_eq (tgt := 288) hC dX10_readsRest_281 rfl (r_z hr18) (fun hc => ?_) (fun hc => ?_)
            · replace h := (if_pos hc).symm.trans h
              refine jj_iconst hC dX10_readsRest_288 ?_
              cases h
              exact jj_zret hC (show (0 ≤ (0 : Int) ∧ (0 : Int) ≤ 1) from by decide) (c_le rfl) (c_le rfl) dX10_readsRest_289 ⟨rfl, (show (0 ≤ (0 : Int) ∧ (0 : Int) ≤ 1) from by decide), rfl, rfl, rfl, rfl, rfl⟩
            · replace h := (if_neg (hc)).symm.trans h
              refine jj_iconst hC dX10_readsRest_284 ?_
              refine jj_goto (tgt := 289) hC dX10_readsRest_285 rfl ?_
              cases h
              exact jj_zret hC (show (0 ≤ (1 : Int) ∧ (1 : Int) ≤ 1) from by decide) (c_le rfl) (c_le rfl) dX10_readsRest_289 ⟨rfl, (show (0 ≤ (1 : Int) ∧ (1 : Int) ≤ 1) from by decide), rfl, rfl, rfl, rfl, rfl⟩
      · replace h := (if_neg hc3_99).symm.trans h
        by_cases hc3_100 : x1 = 100
        · replace h := (if_pos hc3_100).symm.trans h
          refine jj_tblIn (tgt := 290) hC dX10_readsRest_1 hx1 (by omega) (by omega) (by rw [hc3_100]; rfl) rfl ?_
          refine jj_lv (lv' := [(0, .ref a0)]) [0] rfl ?_
          exact hB290 M a0 hs0 h
        · replace h := (if_neg hc3_100).symm.trans h
          by_cases hc3_101 : x1 = 101
          · replace h := (if_pos hc3_101).symm.trans h
            refine jj_tblIn (tgt := 290) hC dX10_readsRest_1 hx1 (by omega) (by omega) (by rw [hc3_101]; rfl) rfl ?_
            refine jj_lv (lv' := [(0, .ref a0)]) [0] rfl ?_
            exact hB290 M a0 hs0 h
          · replace h := (if_neg hc3_101).symm.trans h
            by_cases hc3_102 : x1 = 102
            · replace h := (if_pos hc3_102).symm.trans h
              refine jj_tblIn (tgt := 195) hC dX10_readsRest_1 hx1 (by omega) (by omega) (by rw [hc3_102]; rfl) rfl ?_
              refine jj_aload_n hC dX10_readsRest_195 rfl 0 rfl ?_
              obtain ⟨b9, hb9, hs9, h⟩ := rf_e h
              refine jg_ldc_wS hC 20 rfl (Option.some.inj hb9) dX10_readsRest_196 ?_
              obtain ⟨q10, hq10, h⟩ := bd_e h
              refine jj_invV hC mvX10_isWord wd2188 wd71 wd2186 hs0 (by decide) rfl (xX10_isWord (OKC.tr hC) hs0 hs9 hq10) rfl rfl (c_le rfl) (c_le rfl) (c_le rfl) (c_le rfl) dX10_readsRest_199 noXk (po_kZ (fun hr10 => ?_))
              refine jj_if_eq (tgt := 250) hC dX10_readsRest_202 rfl (r_z hr10) (fun hc => ?_) (fun hc => ?_)
              · replace h := (if_pos hc).symm.trans h
                refine jj_iconst hC dX10_readsRest_250 ?_
                cases h
                exact jj_zret hC (show (0 ≤ (0 : Int) ∧ (0 : Int) ≤ 1) from by decide) (c_le rfl) (c_le rfl) dX10_readsRest_251 ⟨rfl, (show (0 ≤ (0 : Int) ∧ (0 : Int) ≤ 1) from by decide), rfl, rfl, rfl, rfl, rfl⟩
              · replace h := (if_neg (hc)).symm.trans h
                refine jj_aload_n hC dX10_readsRest_205 rfl 0 rfl ?_
                refine jj_iconst hC dX10_readsRest_206 ?_
                refine jj_iload_n hC dX10_readsRest_207 rfl 2 rfl ?_
                refine jj_iconst hC dX10_readsRest_208 ?_
                refine jg_iadd hC dX10_readsRest_209 ?_
                obtain ⟨q11, hq11, h⟩ := bd_e h
                refine jj_invV hC mvX10_isSpaced wd2193 wd72 wd2191 hs0 (by decide) rfl (xX10_isSpaced (OKC.tr hC) hs0 (show (-2147483648 ≤ (1 : Int) ∧ (1 : Int) < 2147483648) from by decide) (w32_r _) hq11) rfl rfl (c_le rfl) (c_le rfl) (c_le rfl) (c_le rfl) dX10_readsRest_210 noXk (po_kZ (fun hr11 => ?_))
                refine jj_if_eq (tgt := 250) hC dX10_readsRest_213 rfl (r_z hr11) (fun hc => ?_) (fun hc => ?_)
                · replace h := (if_pos hc).symm.trans h
                  refine jj_iconst hC dX10_readsRest_250 ?_
                  cases h
                  exact jj_zret hC (show (0 ≤ (0 : Int) ∧ (0 : Int) ≤ 1) from by decide) (c_le rfl) (c_le rfl) dX10_readsRest_251 ⟨rfl, (show (0 ≤ (0 : Int) ∧ (0 : Int) ≤ 1) from by decide), rfl, rfl, rfl, rfl, rfl⟩
                · replace h := (if_neg (hc)).symm.trans h
                  refine jj_aload_n hC dX10_readsRest_216 rfl 0 rfl ?_
                  refine jj_bipush hC dX10_readsRest_217 (by decide) ?_
                  obtain ⟨q12, hq12, h⟩ := bd_e h
                  refine jj_invV hC mvX10_isSign wd2183 wd70 wd2181 hs0 (by decide) rfl (xX10_isSign (OKC.tr hC) hs0 (show (-2147483648 ≤ (32 : Int) ∧ (32 : Int) < 2147483648) from by decide) hq12) rfl rfl (c_le rfl) (c_le rfl) (c_le rfl) (c_le rfl) dX10_readsRest_219 noXk (po_kZ (fun hr12 => ?_))
                  refine jj_if_eq (tgt := 250) hC dX10_readsRest_222 rfl (r_z hr12) (fun hc => ?_) (fun hc => ?_)
                  · replace h := (if_pos hc).symm.trans h
                    refine jj_iconst hC dX10_readsRest_250 ?_
                    cases h
                    exact jj_zret hC (show (0 ≤ (0 : Int) ∧ (0 : Int) ≤ 1) from by decide) (c_le rfl) (c_le rfl) dX10_readsRest_251 ⟨rfl, (show (0 ≤ (0 : Int) ∧ (0 : Int) ≤ 1) from by decide), rfl, rfl, rfl, rfl, rfl⟩
                  · replace h := (if_neg (hc)).symm.trans h
                    refine jj_aload_n hC dX10_readsRest_225 rfl 0 rfl ?_
                    refine jj_iload_n hC dX10_readsRest_226 rfl 2 rfl ?_
                    refine jj_iconst hC dX10_readsRest_227 ?_
                    refine jg_iadd hC dX10_readsRest_228 ?_
                    obtain ⟨q13, hq13, h⟩ := bd_e h
                    refine jj_invV hC mvX10_isWay wd2211 wd75 wd2209 hs0 (by decide) rfl (xX10_isWay (OKC.tr hC) hs0 (w32_r _) hq13) rfl rfl (c_le rfl) (c_le rfl) (c_le rfl) (c_le rfl) dX10_readsRest_229 noXk (po_kZ (fun hr13 => ?_))
                    refine jj_if_eq (tgt := 250) hC dX10_readsRest_232 rfl (r_z hr13) (fun hc => ?_) (fun hc => ?_)
                    · replace h := (if_pos hc).symm.trans h
                      refine jj_iconst hC dX10_readsRest_250 ?_
                      cases h
                      exact jj_zret hC (show (0 ≤ (0 : Int) ∧ (0 : Int) ≤ 1) from by decide) (c_le rfl) (c_le rfl) dX10_readsRest_251 ⟨rfl, (show (0 ≤ (0 : Int) ∧ (0 : Int) ≤ 1) from by decide), rfl, rfl, rfl, rfl, rfl⟩
                    · replace h := (if_neg (hc)).symm.trans h
                      refine jj_aload_n hC dX10_readsRest_235 rfl 0 rfl ?_
                      refine jj_iconst hC dX10_readsRest_236 ?_
                      refine jj_iload_n hC dX10_readsRest_237 rfl 2 rfl ?_
                      refine jj_iconst hC dX10_readsRest_238 ?_
                      refine jg_iadd hC dX10_readsRest_239 ?_
                      obtain ⟨q14, hq14, h⟩ := bd_e h
                      refine jj_invV hC mvX10_isNumber wd2197 wd73 wd2195 hs0 (by decide) rfl (xX10_isNumber (OKC.tr hC) hs0 (show (-2147483648 ≤ (2 : Int) ∧ (2 : Int) < 2147483648) from by decide) (w32_r _) hq14) rfl rfl (c_le rfl) (c_le rfl) (c_le rfl) (c_le rfl) dX10_readsRest_240 noXk (po_kZ (fun hr14 => ?_))
                      refine jj_if_eq (tgt := 250) hC dX10_readsRest_243 rfl (r_z hr14) (fun hc => ?_) (fun hc => ?_)
                      · replace h := (if_pos hc).symm.trans h
                        refine jj_iconst hC dX10_readsRest_250 ?_
                        cases h
                        exact jj_zret hC (show (0 ≤ (0 : Int) ∧ (0 : Int) ≤ 1) from by decide) (c_le rfl) (c_le rfl) dX10_readsRest_251 ⟨rfl, (show (0 ≤ (0 : Int) ∧ (0 : Int) ≤ 1) from by decide), rfl, rfl, rfl, rfl, rfl⟩
                      · replace h := (if_neg (hc)).symm.trans h
                        refine jj_iconst hC dX10_readsRest_246 ?_
                        refine jj_goto (tgt := 251) hC dX10_readsRest_247 rfl ?_
                        cases h
                        exact jj_zret hC (show (0 ≤ (1 : Int) ∧ (1 : Int) ≤ 1) from by decide) (c_le rfl) (c_le rfl) dX10_readsRest_251 ⟨rfl, (show (0 ≤ (1 : Int) ∧ (1 : Int) ≤ 1) from by decide), rfl, rfl, rfl, rfl, rfl⟩
            · replace h := (if_neg hc3_102).symm.trans h
              by_cases hc3_103 : x1 = 103
              · replace h := (if_pos hc3_103).symm.trans h
                refine jj_tblIn (tgt := 290) hC dX10_readsRest_1 hx1 (by omega) (by omega) (by rw [hc3_103]; rfl) rfl ?_
                refine jj_lv (lv' := [(0, .ref a0)]) [0] rfl ?_
                exact hB290 M a0 hs0 h
              · replace h := (if_neg hc3_103).symm.trans h
                by_cases hc3_104 : x1 = 104
                · replace h := (if_pos hc3_104).symm.trans h
                  refine jj_tblIn (tgt := 290) hC dX10_readsRest_1 hx1 (by omega) (by omega) (by rw [hc3_104]; rfl) rfl ?_
                  refine jj_lv (lv' := [(0, .ref a0)]) [0] rfl ?_
                  exact hB290 M a0 hs0 h
                · replace h := (if_neg hc3_104).symm.trans h
                  by_cases hc3_105 : x1 = 105
                  · replace h := (if_pos hc3_105).symm.trans h
                    refine jj_tblIn (tgt := 290) hC dX10_readsRest_1 hx1 (by omega) (by omega) (by rw [hc3_105]; rfl) rfl ?_
                    refine jj_lv (lv' := [(0, .ref a0)]) [0] rfl ?_
                    exact hB290 M a0 hs0 h
                  · replace h := (if_neg hc3_105).symm.trans h
                    by_cases hc3_106 : x1 = 106
                    · replace h := (if_pos hc3_106).symm.trans h
                      refine jj_tblIn (tgt := 290) hC dX10_readsRest_1 hx1 (by omega) (by omega) (by rw [hc3_106]; rfl) rfl ?_
                      refine jj_lv (lv' := [(0, .ref a0)]) [0] rfl ?_
                      exact hB290 M a0 hs0 h
                    · replace h := (if_neg hc3_106).symm.trans h
                      by_cases hc3_107 : x1 = 107
                      · replace h := (if_pos hc3_107).symm.trans h
                        refine jj_tblIn (tgt := 290) hC dX10_readsRest_1 hx1 (by omega) (by omega) (by rw [hc3_107]; rfl) rfl ?_
                        refine jj_lv (lv' := [(0, .ref a0)]) [0] rfl ?_
                        exact hB290 M a0 hs0 h
                      · replace h := (if_neg hc3_107).symm.trans h
                        by_cases hc3_108 : x1 = 108
                        · replace h := (if_pos hc3_108).symm.trans h
                          refine jj_tblIn (tgt := 168) hC dX10_readsRest_1 hx1 (by omega) (by omega) (by rw [hc3_108]; rfl) rfl ?_
                          refine jj_aload_n hC dX10_readsRest_168 rfl 0 rfl ?_
                          obtain ⟨b6, hb6, hs6, h⟩ := rf_e h
                          refine jg_ldc_wS hC 19 rfl (Option.some.inj hb6) dX10_readsRest_169 ?_
                          obtain ⟨q7, hq7, h⟩ := bd_e h
                          refine jj_invV hC mvX10_isWord wd2188 wd71 wd2186 hs0 (by decide) rfl (xX10_isWord (OKC.tr hC) hs0 hs6 hq7) rfl rfl (c_le rfl) (c_le rfl) (c_le rfl) (c_le rfl) dX10_readsRest_172 noXk (po_kZ (fun hr7 => ?_))
                          refine jj_if_eq (tgt := 193) hC dX10_readsRest_175 rfl (r_z hr7) (fun hc => ?_) (fun hc => ?_)
                          · replace h := (if_pos hc).symm.trans h
                            refine jj_iconst hC dX10_readsRest_193 ?_
                            cases h
                            exact jj_zret hC (show (0 ≤ (0 : Int) ∧ (0 : Int) ≤ 1) from by decide) (c_le rfl) (c_le rfl) dX10_readsRest_194 ⟨rfl, (show (0 ≤ (0 : Int) ∧ (0 : Int) ≤ 1) from by decide), rfl, rfl, rfl, rfl, rfl⟩
                          · replace h := (if_neg (hc)).symm.trans h
                            refine jj_aload_n hC dX10_readsRest_178 rfl 0 rfl ?_
                            refine jj_iconst hC dX10_readsRest_179 ?_
                            refine jj_iload_n hC dX10_readsRest_180 rfl 2 rfl ?_
                            refine jj_iconst hC dX10_readsRest_181 ?_
                            refine jg_iadd hC dX10_readsRest_182 ?_
                            obtain ⟨q8, hq8, h⟩ := bd_e h
                            refine jj_invV hC mvX10_isSpaced wd2193 wd72 wd2191 hs0 (by decide) rfl (xX10_isSpaced (OKC.tr hC) hs0 (show (-2147483648 ≤ (1 : Int) ∧ (1 : Int) < 2147483648) from by decide) (w32_r _) hq8) rfl rfl (c_le rfl) (c_le rfl) (c_le rfl) (c_le rfl) dX10_readsRest_183 noXk (po_kZ (fun hr8 => ?_))
                            refine jj_if_eq (tgt := 193) hC dX10_readsRest_186 rfl (r_z hr8) (fun hc => ?_) (fun hc => ?_)
                            · replace h := (if_pos hc).symm.trans h
                              refine jj_iconst hC dX10_readsRest_193 ?_
                              cases h
                              exact jj_zret hC (show (0 ≤ (0 : Int) ∧ (0 : Int) ≤ 1) from by decide) (c_le rfl) (c_le rfl) dX10_readsRest_194 ⟨rfl, (show (0 ≤ (0 : Int) ∧ (0 : Int) ≤ 1) from by decide), rfl, rfl, rfl, rfl, rfl⟩
                            · replace h := (if_neg (hc)).symm.trans h
                              refine jj_iconst hC dX10_readsRest_189 ?_
                              refine jj_goto (tgt := 194) hC dX10_readsRest_190 rfl ?_
                              cases h
                              exact jj_zret hC (show (0 ≤ (1 : Int) ∧ (1 : Int) ≤ 1) from by decide) (c_le rfl) (c_le rfl) dX10_readsRest_194 ⟨rfl, (show (0 ≤ (1 : Int) ∧ (1 : Int) ≤ 1) from by decide), rfl, rfl, rfl, rfl, rfl⟩
                        · replace h := (if_neg hc3_108).symm.trans h
                          by_cases hc3_109 : x1 = 109
                          · replace h := (if_pos hc3_109).symm.trans h
                            refine jj_tblIn (tgt := 290) hC dX10_readsRest_1 hx1 (by omega) (by omega) (by rw [hc3_109]; rfl) rfl ?_
                            refine jj_lv (lv' := [(0, .ref a0)]) [0] rfl ?_
                            exact hB290 M a0 hs0 h
                          · replace h := (if_neg hc3_109).symm.trans h
                            by_cases hc3_110 : x1 = 110
                            · replace h := (if_pos hc3_110).symm.trans h
                              refine jj_tblIn (tgt := 290) hC dX10_readsRest_1 hx1 (by omega) (by omega) (by rw [hc3_110]; rfl) rfl ?_
                              refine jj_lv (lv' := [(0, .ref a0)]) [0] rfl ?_
                              exact hB290 M a0 hs0 h
                            · replace h := (if_neg hc3_110).symm.trans h
                              by_cases hc3_111 : x1 = 111
                              · replace h := (if_pos hc3_111).symm.trans h
                                refine jj_tblIn (tgt := 290) hC dX10_readsRest_1 hx1 (by omega) (by omega) (by rw [hc3_111]; rfl) rfl ?_
                                refine jj_lv (lv' := [(0, .ref a0)]) [0] rfl ?_
                                exact hB290 M a0 hs0 h
                              · replace h := (if_neg hc3_111).symm.trans h
                                by_cases hc3_112 : x1 = 112
                                · replace h := (if_pos hc3_112).symm.trans h
                                  refine jj_tblIn (tgt := 96) hC dX10_readsRest_1 hx1 (by omega) (by omega) (by rw [hc3_112]; rfl) rfl ?_
                                  refine jj_aload_n hC dX10_readsRest_96 rfl 0 rfl ?_
                                  refine jj_iload_n hC dX10_readsRest_97 rfl 2 rfl ?_
                                  obtain ⟨q5, hq5, h⟩ := bd_e h
                                  refine jj_invV hC mvX10_readsP wd2179 wd69 wd2177 hs0 (by decide) rfl (xX10_readsP (OKC.tr hC) hs0 hx2 hq5) rfl rfl (c_le rfl) (c_le rfl) (c_le rfl) (c_le rfl) dX10_readsRest_98 noXk (po_kZ (fun hr5 => ?_))
                                  cases h
                                  exact jj_zret hC hr5 (c_le rfl) (c_le rfl) dX10_readsRest_101 ⟨rfl, hr5, rfl, rfl, rfl, rfl, rfl⟩
                                · replace h := (if_neg hc3_112).symm.trans h
                                  by_cases hc3_113 : x1 = 113
                                  · replace h := (if_pos hc3_113).symm.trans h
                                    refine jj_tblIn (tgt := 290) hC dX10_readsRest_1 hx1 (by omega) (by omega) (by rw [hc3_113]; rfl) rfl ?_
                                    refine jj_lv (lv' := [(0, .ref a0)]) [0] rfl ?_
                                    exact hB290 M a0 hs0 h
                                  · replace h := (if_neg hc3_113).symm.trans h
                                    by_cases hc3_114 : x1 = 114
                                    · replace h := (if_pos hc3_114).symm.trans h
                                      refine jj_tblIn (tgt := 290) hC dX10_readsRest_1 hx1 (by omega) (by omega) (by rw [hc3_114]; rfl) rfl ?_
                                      refine jj_lv (lv' := [(0, .ref a0)]) [0] rfl ?_
                                      exact hB290 M a0 hs0 h
                                    · replace h := (if_neg hc3_114).symm.trans h
                                      by_cases hc3_115 : x1 = 115
                                      · replace h := (if_pos hc3_115).symm.trans h
                                        refine jj_tblIn (tgt := 290) hC dX10_readsRest_1 hx1 (by omega) (by omega) (by rw [hc3_115]; rfl) rfl ?_
                                        refine jj_lv (lv' := [(0, .ref a0)]) [0] rfl ?_
                                        exact hB290 M a0 hs0 h
                                      · replace h := (if_neg hc3_115).symm.trans h
                                        by_cases hc3_116 : x1 = 116
                                        · replace h := (if_pos hc3_116).symm.trans h
                                          refine jj_tblIn (tgt := 102) hC dX10_readsRest_1 hx1 (by omega) (by omega) (by rw [hc3_116]; rfl) rfl ?_
                                          refine jj_aload_n hC dX10_readsRest_102 rfl 0 rfl ?_
                                          refine jj_iload_n hC dX10_readsRest_103 rfl 2 rfl ?_
                                          obtain ⟨q4, hq4, h⟩ := bd_e h
                                          refine jj_invV hC mvX10_readsT wd2202 wd74 wd2200 hs0 (by decide) rfl (xX10_readsT (OKC.tr hC) hs0 hx2 hq4) rfl rfl (c_le rfl) (c_le rfl) (c_le rfl) (c_le rfl) dX10_readsRest_104 noXk (po_kZ (fun hr4 => ?_))
                                          cases h
                                          exact jj_zret hC hr4 (c_le rfl) (c_le rfl) dX10_readsRest_107 ⟨rfl, hr4, rfl, rfl, rfl, rfl, rfl⟩
                                        · replace h := (if_neg hc3_116).symm.trans h
                                          refine jj_tblOut (tgt := 290) hC dX10_readsRest_1 hx1 (by omega) rfl ?_
                                          refine jj_lv (lv' := [(0, .ref a0)]) [0] rfl ?_
                                          exact hB290 M a0 hs0 h
def fX10_isFirst_B42 (ad S Ln : Nat → Nat) (R : gR) (M : gM)  : Option Int :=
  some (1)
def fX10_isFirst (ad S Ln : Nat → Nat) (R : gR) (M : gM) (x0 : Int) : Option Int :=
  if x0 = 112 then (fX10_isFirst_B42 ad S Ln R M ) else (if x0 = 116 then (fX10_isFirst_B42 ad S Ln R M ) else (if x0 = 97 then (fX10_isFirst_B42 ad S Ln R M ) else (if x0 = 108 then (fX10_isFirst_B42 ad S Ln R M ) else (if x0 = 102 then (fX10_isFirst_B42 ad S Ln R M ) else (if x0 = 99 then (fX10_isFirst_B42 ad S Ln R M ) else (if ¬ x0 = 101 then (some (0)) else (fX10_isFirst_B42 ad S Ln R M )))))))
theorem xX10_isFirst {l : Launch} {G : gE} {sz : Nat} {S Ln : Nat → Nat} {M : gM} {R : gR} (hl : l.stackTraces = false) {x0 : Int} (hx0 : (-2147483648 ≤ x0 ∧ x0 < 2147483648)) {r : Int} (h : fX10_isFirst G.2.2.2.2 S Ln R M x0 = some r) : Ct l G yX10_isFirst cX10_isFirst 1 (some .boolean) 1 0 0 [.int (iI x0)] sz S Ln M R (poZ r sz S Ln (M) R) noX := by
  refine jj_start (own := RX10) (lv0 := [(0, .int (iI x0))]) hl (by decide +kernel) rfl rfl (c_le rfl) (fun C hCl hC => ?_)
  have hB42 : fX10_isFirst_B42 G.2.2.2.2 S Ln R M  = some r → JJ G C 0 0 sz S Ln M R 42 [] [] := by
    intro h
    unfold fX10_isFirst_B42 at h
    refine jj_iconst hC dX10_isFirst_42 ?_
    refine jj_goto (tgt := 47) hC dX10_isFirst_43 rfl ?_
    cases h
    exact jj_zret hC (show (0 ≤ (1 : Int) ∧ (1 : Int) ≤ 1) from by decide) (c_le rfl) (c_le rfl) dX10_isFirst_47 ⟨rfl, (show (0 ≤ (1 : Int) ∧ (1 : Int) ≤ 1) from by decide), rfl, rfl, rfl, rfl, rfl⟩
  unfold fX10_isFirst at h
  refine jj_iload_n hC dX10_isFirst_0 rfl 0 rfl ?_
  refine jj_bipush hC dX10_isFirst_1 (by decide) ?_
  refine jj_icmp_eq (tgt := 42) hC dX10_isFirst_3 rfl hx0 (show (-2147483648 ≤ (112 : Int) ∧ (112 : Int) < 2147483648) from by decide) (fun hc => ?_) (fun hc => ?_)
  · replace h := (if_pos hc).symm.trans h
    refine jj_lv (lv' := []) [] rfl ?_
    exact hB42   h
  · replace h := (if_neg (hc)).symm.trans h
    refine jj_iload_n hC dX10_isFirst_6 rfl 0 rfl ?_
    refine jj_bipush hC dX10_isFirst_7 (by decide) ?_
    refine jj_icmp_eq (tgt := 42) hC dX10_isFirst_9 rfl hx0 (show (-2147483648 ≤ (116 : Int) ∧ (116 : Int) < 2147483648) from by decide) (fun hc => ?_) (fun hc => ?_)
    · replace h := (if_pos hc).symm.trans h
      refine jj_lv (lv' := []) [] rfl ?_
      exact hB42   h
    · replace h := (if_neg (hc)).symm.trans h
      refine jj_iload_n hC dX10_isFirst_12 rfl 0 rfl ?_
      refine jj_bipush hC dX10_isFirst_13 (by decide) ?_
      refine jj_icmp_eq (tgt := 42) hC dX10_isFirst_15 rfl hx0 (show (-2147483648 ≤ (97 : Int) ∧ (97 : Int) < 2147483648) from by decide) (fun hc => ?_) (fun hc => ?_)
      · replace h := (if_pos hc).symm.trans h
        refine jj_lv (lv' := []) [] rfl ?_
        exact hB42   h
      · replace h := (if_neg (hc)).symm.trans h
        refine jj_iload_n hC dX10_isFirst_18 rfl 0 rfl ?_
        refine jj_bipush hC dX10_isFirst_19 (by decide) ?_
        refine jj_icmp_eq (tgt := 42) hC dX10_isFirst_21 rfl hx0 (show (-2147483648 ≤ (108 : Int) ∧ (108 : Int) < 2147483648) from by decide) (fun hc => ?_) (fun hc => ?_)
        · replace h := (if_pos hc).symm.trans h
          refine jj_lv (lv' := []) [] rfl ?_
          exact hB42   h
        · replace h := (if_neg (hc)).symm.trans h
          refine jj_iload_n hC dX10_isFirst_24 rfl 0 rfl ?_
          refine jj_bipush hC dX10_isFirst_25 (by decide) ?_
          refine jj_icmp_eq (tgt := 42) hC dX10_isFirst_27 rfl hx0 (show (-2147483648 ≤ (102 : Int) ∧ (102 : Int) < 2147483648) from by decide) (fun hc => ?_) (fun hc => ?_)
          · replace h := (if_pos hc).symm.trans h
            refine jj_lv (lv' := []) [] rfl ?_
            exact hB42   h
          · replace h := (if_neg (hc)).symm.trans h
            refine jj_iload_n hC dX10_isFirst_30 rfl 0 rfl ?_
            refine jj_bipush hC dX10_isFirst_31 (by decide) ?_
            refine jj_icmp_eq (tgt := 42) hC dX10_isFirst_33 rfl hx0 (show (-2147483648 ≤ (99 : Int) ∧ (99 : Int) < 2147483648) from by decide) (fun hc => ?_) (fun hc => ?_)
            · replace h := (if_pos hc).symm.trans h
              refine jj_lv (lv' := []) [] rfl ?_
              exact hB42   h
            · replace h := (if_neg (hc)).symm.trans h
              refine jj_iload_n hC dX10_isFirst_36 rfl 0 rfl ?_
              refine jj_bipush hC dX10_isFirst_37 (by decide) ?_
              refine jj_icmp_ne (tgt := 46) hC dX10_isFirst_39 rfl hx0 (show (-2147483648 ≤ (101 : Int) ∧ (101 : Int) < 2147483648) from by decide) (fun hc => ?_) (fun hc => ?_)
              · replace h := (if_pos hc).symm.trans h
                refine jj_iconst hC dX10_isFirst_46 ?_
                cases h
                exact jj_zret hC (show (0 ≤ (0 : Int) ∧ (0 : Int) ≤ 1) from by decide) (c_le rfl) (c_le rfl) dX10_isFirst_47 ⟨rfl, (show (0 ≤ (0 : Int) ∧ (0 : Int) ≤ 1) from by decide), rfl, rfl, rfl, rfl, rfl⟩
              · replace h := (if_neg (fun k => k hc)).symm.trans h
                refine jj_lv (lv' := []) [] rfl ?_
                exact hB42   h
def fX10_readsCommand (ad S Ln : Nat → Nat) (R : gR) (M : gM) (a0 : Nat) : Option (Int × gM) :=
  bd (fX10_sign ad S Ln R M a0) fun q2 => bd (fX10_isFirst ad S Ln R M q2) fun q3 => if ¬ q3 = 0 then (rf S (R a0 14) 20 fun b4 => gd ((0 : Int) ≤ (w32 (5 * (M a0 17))) ∧ (w32 (5 * (M a0 17))) < (Ln b4 : Int)) (nam (wr M b4 (w32 (5 * (M a0 17))) q2) fun M5 => nam (wr M5 a0 16 (w32 ((M5 a0 16) + 1))) fun M7 => nam (wr M7 a0 17 (w32 ((M7 a0 17) + 1))) fun M9 => bd (fX10_readsRest ad S Ln R M9 a0 q2 (w32 (5 * (M a0 17)))) fun q10 => some ((q10.1, q10.2)))) else (some ((0, M)))
theorem xX10_readsCommand {l : Launch} {G : gE} {sz : Nat} {S Ln : Nat → Nat} {M : gM} {R : gR} (hl : l.stackTraces = false) {a0 : Nat} (hs0 : S a0 = 13) {r : Int × gM} (h : fX10_readsCommand G.2.2.2.2 S Ln R M a0 = some r) : Ct l G yX10_readsCommand cX10_readsCommand 3 (some .boolean) 15 0 0 [.ref a0] sz S Ln M R (poZ r.1 sz S Ln (r.2) R) noX := by
  refine jj_start (own := RX10) (lv0 := [(0, .ref a0)]) hl (by decide +kernel) rfl rfl (c_le rfl) (fun C hCl hC => ?_)
  unfold fX10_readsCommand at h
  refine jj_iconst hC dX10_readsCommand_0 ?_
  refine jj_aload_n hC dX10_readsCommand_1 rfl 0 rfl ?_
  refine jg_I hC kfX10 17 rfl hs0 (by decide) wd1726 rfl dX10_readsCommand_2 (fun hr1 => ?_)
  refine jg_imul hC dX10_readsCommand_5 ?_
  refine jj_istore_n (lv' := [(1, .int (iI (w32 (5 * (M a0 17))))), (0, .ref a0)]) hC dX10_readsCommand_6 rfl (by decide) rfl ?_
  refine jj_aload_n hC dX10_readsCommand_7 rfl 1 rfl ?_
  obtain ⟨q2, hq2, h⟩ := bd_e h
  refine jj_invV hC mvX10_sign wd2168 wd67 wd2166 hs0 (by decide) rfl (xX10_sign (OKC.tr hC) hs0 hq2) rfl rfl (c_le rfl) (c_le rfl) (c_le rfl) (c_le rfl) dX10_readsCommand_8 noXk (po_kI (fun hr2 => ?_))
  refine jj_istore_n (lv' := [(2, .int (iI q2)), (1, .int (iI (w32 (5 * (M a0 17))))), (0, .ref a0)]) hC dX10_readsCommand_11 rfl (by decide) rfl ?_
  refine jj_iload_n hC dX10_readsCommand_12 rfl 0 rfl ?_
  obtain ⟨q3, hq3, h⟩ := bd_e h
  refine jj_invS hC mvX10_isFirst wd2171 wd2170 (xX10_isFirst (OKC.tr hC) hr2 hq3) rfl rfl (c_le rfl) (c_le rfl) (c_le rfl) (c_le rfl) dX10_readsCommand_13 noXk (po_kZ (fun hr3 => ?_))
  refine jj_if_ne (tgt := 21) hC dX10_readsCommand_16 rfl (r_z hr3) (fun hc => ?_) (fun hc => ?_)
  · replace h := (if_pos hc).symm.trans h
    refine jj_aload_n hC dX10_readsCommand_21 rfl 2 rfl ?_
    obtain ⟨b4, hb4, hs4, h⟩ := rf_e h
    refine jg_R hC kfX10 14 rfl hs0 (by decide) wd1723 rfl hb4 dX10_readsCommand_22 ?_
    refine jj_iload_n hC dX10_readsCommand_25 rfl 1 rfl ?_
    refine jj_iload_n hC dX10_readsCommand_26 rfl 0 rfl ?_
    obtain ⟨⟨ha5, hb5⟩, h⟩ := gd_e h
    obtain ⟨M5, hM5, h⟩ := nam_e h
    refine jj_iast hC hs4 ha5 hb5 hr2 dX10_readsCommand_27 (jj_M hM5 ?_)
    refine jj_aload_n hC dX10_readsCommand_28 rfl 2 rfl ?_
    refine jj_dup hC dX10_readsCommand_29 rfl ?_
    refine jg_I hC kfX10 16 rfl hs0 (by decide) wd1725 rfl dX10_readsCommand_30 (fun hr6 => ?_)
    refine jj_iconst hC dX10_readsCommand_33 ?_
    refine jg_iadd hC dX10_readsCommand_34 ?_
    obtain ⟨M7, hM7, h⟩ := nam_e h
    refine jp_I hC kfX10 16 rfl hs0 rfl (by decide) wd1725 rfl rfl rfl (w32_r _) dX10_readsCommand_35 (jj_M hM7 ?_)
    refine jj_aload_n hC dX10_readsCommand_38 rfl 2 rfl ?_
    refine jj_dup hC dX10_readsCommand_39 rfl ?_
    refine jg_I hC kfX10 17 rfl hs0 (by decide) wd1726 rfl dX10_readsCommand_40 (fun hr8 => ?_)
    refine jj_iconst hC dX10_readsCommand_43 ?_
    refine jg_iadd hC dX10_readsCommand_44 ?_
    obtain ⟨M9, hM9, h⟩ := nam_e h
    refine jp_I hC kfX10 17 rfl hs0 rfl (by decide) wd1726 rfl rfl rfl (w32_r _) dX10_readsCommand_45 (jj_M hM9 ?_)
    refine jj_aload_n hC dX10_readsCommand_48 rfl 2 rfl ?_
    refine jj_iload_n hC dX10_readsCommand_49 rfl 0 rfl ?_
    refine jj_iload_n hC dX10_readsCommand_50 rfl 1 rfl ?_
    obtain ⟨q10, hq10, h⟩ := bd_e h
    refine jj_invV hC mvX10_readsRest wd2175 wd68 wd2173 hs0 (by decide) rfl (xX10_readsRest (OKC.tr hC) hs0 hr2 (w32_r _) hq10) rfl rfl (c_le rfl) (c_le rfl) (c_le rfl) (c_le rfl) dX10_readsCommand_51 noXk (po_kZ (fun hr10 => ?_))
    cases h
    exact jj_zret hC hr10 (c_le rfl) (c_le rfl) dX10_readsCommand_54 ⟨rfl, hr10, rfl, rfl, rfl, rfl, rfl⟩
  · replace h := (if_neg (fun k => k hc)).symm.trans h
    refine jj_iconst hC dX10_readsCommand_19 ?_
    cases h
    exact jj_zret hC (show (0 ≤ (0 : Int) ∧ (0 : Int) ≤ 1) from by decide) (c_le rfl) (c_le rfl) dX10_readsCommand_20 ⟨rfl, (show (0 ≤ (0 : Int) ∧ (0 : Int) ≤ 1) from by decide), rfl, rfl, rfl, rfl, rfl⟩
def fX10_isProgram_L15 (ad S Ln : Nat → Nat) (R : gR) (l0_15 : Nat) (s15 : Int × gM) : Option ((Int × gM) ⊕ ((Int × gM) ⊕ (Int × gM))) :=
  if s15.1 = 0 then (some (.inr (.inl (s15.1, s15.2)))) else (bd (fX10_isSign ad S Ln R s15.2 l0_15 59) fun q4 => if q4.1 = 0 then (some (.inr (.inl (s15.1, q4.2)))) else (bd (fX10_readsCommand ad S Ln R q4.2 l0_15) fun q5 => some (.inl (q5.1, q5.2))))
def fX10_isProgram_B36 (ad S Ln : Nat → Nat) (R : gR) (M36 : gM) (l0_36 : Nat) (l1_36 : Int) : Option (Int × gM) :=
  if l1_36 = 0 then (some ((0, M36))) else (if ¬ (M36 l0_36 16) = (M36 l0_36 15) then (some ((0, M36))) else (some ((1, M36))))
def fX10_isProgram (ad S Ln : Nat → Nat) (R : gR) (M : gM) (a0 : Nat) : Option (Int × gM) :=
  nam (wr M a0 16 0) fun M1 => nam (wr M1 a0 17 0) fun M2 => bd (fX10_readsCommand ad S Ln R M2 a0) fun q3 => bd (lp (fX10_isProgram_L15 ad S Ln R a0) FU (q3.1, q3.2)) fun q9 => Sum.elim (fun e15_6 => fX10_isProgram_B36 ad S Ln R e15_6.2 a0 e15_6.1) (fun c9 => some c9) q9
theorem xX10_isProgram {l : Launch} {G : gE} {sz : Nat} {S Ln : Nat → Nat} {M : gM} {R : gR} (hl : l.stackTraces = false) {a0 : Nat} (hs0 : S a0 = 13) {r : Int × gM} (h : fX10_isProgram G.2.2.2.2 S Ln R M a0 = some r) : Ct l G yX10_isProgram cX10_isProgram 2 (some .boolean) 16 0 0 [.ref a0] sz S Ln M R (poZ r.1 sz S Ln (r.2) R) noX := by
  refine jj_start (own := RX10) (lv0 := [(0, .ref a0)]) hl (by decide +kernel) rfl rfl (c_le rfl) (fun C hCl hC => ?_)
  have hL15 : ∀ (l0_15 : Nat), S l0_15 = 13 → ∀ (n : Nat) (s15 : Int × gM) (q : (Int × gM) ⊕ (Int × gM)), lp (fX10_isProgram_L15 G.2.2.2.2 S Ln R l0_15) n s15 = some q → (0 ≤ s15.1 ∧ s15.1 ≤ 1) → (∀ e15, q = .inl e15 → (0 ≤ e15.1 ∧ e15.1 ≤ 1) → JJ G C 0 0 sz S Ln e15.2 R 36 [(0, .ref l0_15), (1, .int (iI e15.1))] []) → (∀ c, q = .inr c → c = r) → JJ G C 0 0 sz S Ln s15.2 R 15 [(0, .ref l0_15), (1, .int (iI s15.1))] [] := by
    intro l0_15 hl0_15
    refine lp_ind ?_
    intro s15 r15 hI15 h hJ15 hE15 hR15
    have hs15_0 := hI15
    unfold fX10_isProgram_L15 at h
    refine jj_iload_n hC dX10_isProgram_15 rfl 1 rfl ?_
    refine jj_if_eq (tgt := 36) hC dX10_isProgram_16 rfl (r_z hs15_0) (fun hc => ?_) (fun hc => ?_)
    · replace h := (if_pos hc).symm.trans h
      refine jj_lv (lv' := [(0, .ref l0_15), (1, .int (iI s15.1))]) [0, 1] rfl ?_
      exact hE15 _ (Option.some.inj h).symm hs15_0
    · replace h := (if_neg (hc)).symm.trans h
      refine jj_aload_n hC dX10_isProgram_19 rfl 0 rfl ?_
      refine jj_bipush hC dX10_isProgram_20 (by decide) ?_
      obtain ⟨q4, hq4, h⟩ := bd_e h
      refine jj_invV hC mvX10_isSign wd2183 wd70 wd2181 hl0_15 (by decide) rfl (xX10_isSign (OKC.tr hC) hl0_15 (show (-2147483648 ≤ (59 : Int) ∧ (59 : Int) < 2147483648) from by decide) hq4) rfl rfl (c_le rfl) (c_le rfl) (c_le rfl) (c_le rfl) dX10_isProgram_22 noXk (po_kZ (fun hr4 => ?_))
      refine jj_if_eq (tgt := 36) hC dX10_isProgram_25 rfl (r_z hr4) (fun hc => ?_) (fun hc => ?_)
      · replace h := (if_pos hc).symm.trans h
        refine jj_lv (lv' := [(0, .ref l0_15), (1, .int (iI s15.1))]) [0, 1] rfl ?_
        exact hE15 _ (Option.some.inj h).symm hs15_0
      · replace h := (if_neg (hc)).symm.trans h
        refine jj_aload_n hC dX10_isProgram_28 rfl 0 rfl ?_
        obtain ⟨q5, hq5, h⟩ := bd_e h
        refine jj_invV hC mvX10_readsCommand wd2164 wd66 wd2162 hl0_15 (by decide) rfl (xX10_readsCommand (OKC.tr hC) hl0_15 hq5) rfl rfl (c_le rfl) (c_le rfl) (c_le rfl) (c_le rfl) dX10_isProgram_29 noXk (po_kZ (fun hr5 => ?_))
        refine jj_istore_n (lv' := [(1, .int (iI q5.1)), (0, .ref l0_15)]) hC dX10_isProgram_32 rfl (by decide) rfl ?_
        refine jj_goto (tgt := 15) hC dX10_isProgram_33 rfl ?_
        refine jj_lv (lv' := [(0, .ref l0_15), (1, .int (iI q5.1))]) [1, 0] rfl ?_
        exact hJ15 _ (Option.some.inj h).symm hr5
  have hB36 : ∀ (M36 : gM) (l0_36 : Nat) (l1_36 : Int), S l0_36 = 13 → (0 ≤ l1_36 ∧ l1_36 ≤ 1) → fX10_isProgram_B36 G.2.2.2.2 S Ln R M36 l0_36 l1_36 = some r → JJ G C 0 0 sz S Ln M36 R 36 [(0, .ref l0_36), (1, .int (iI l1_36))] [] := by
    intro M36 l0_36 l1_36 hl0_36 hl1_36 h
    unfold fX10_isProgram_B36 at h
    refine jj_iload_n hC dX10_isProgram_36 rfl 1 rfl ?_
    refine jj_if_eq (tgt := 55) hC dX10_isProgram_37 rfl (r_z hl1_36) (fun hc => ?_) (fun hc => ?_)
    · replace h := (if_pos hc).symm.trans h
      refine jj_iconst hC dX10_isProgram_55 ?_
      cases h
      exact jj_zret hC (show (0 ≤ (0 : Int) ∧ (0 : Int) ≤ 1) from by decide) (c_le rfl) (c_le rfl) dX10_isProgram_56 ⟨rfl, (show (0 ≤ (0 : Int) ∧ (0 : Int) ≤ 1) from by decide), rfl, rfl, rfl, rfl, rfl⟩
    · replace h := (if_neg (hc)).symm.trans h
      refine jj_aload_n hC dX10_isProgram_40 rfl 0 rfl ?_
      refine jg_I hC kfX10 16 rfl hl0_36 (by decide) wd1725 rfl dX10_isProgram_41 (fun hr7 => ?_)
      refine jj_aload_n hC dX10_isProgram_44 rfl 0 rfl ?_
      refine jg_I hC kfX10 15 rfl hl0_36 (by decide) wd1724 rfl dX10_isProgram_45 (fun hr8 => ?_)
      refine jj_icmp_ne (tgt := 55) hC dX10_isProgram_48 rfl hr7 hr8 (fun hc => ?_) (fun hc => ?_)
      · replace h := (if_pos hc).symm.trans h
        refine jj_iconst hC dX10_isProgram_55 ?_
        cases h
        exact jj_zret hC (show (0 ≤ (0 : Int) ∧ (0 : Int) ≤ 1) from by decide) (c_le rfl) (c_le rfl) dX10_isProgram_56 ⟨rfl, (show (0 ≤ (0 : Int) ∧ (0 : Int) ≤ 1) from by decide), rfl, rfl, rfl, rfl, rfl⟩
      · replace h := (if_neg (fun k => k hc)).symm.trans h
        refine jj_iconst hC dX10_isProgram_51 ?_
        refine jj_goto (tgt := 56) hC dX10_isProgram_52 rfl ?_
        cases h
        exact jj_zret hC (show (0 ≤ (1 : Int) ∧ (1 : Int) ≤ 1) from by decide) (c_le rfl) (c_le rfl) dX10_isProgram_56 ⟨rfl, (show (0 ≤ (1 : Int) ∧ (1 : Int) ≤ 1) from by decide), rfl, rfl, rfl, rfl, rfl⟩
  unfold fX10_isProgram at h
  refine jj_aload_n hC dX10_isProgram_0 rfl 0 rfl ?_
  refine jj_iconst hC dX10_isProgram_1 ?_
  obtain ⟨M1, hM1, h⟩ := nam_e h
  refine jp_I hC kfX10 16 rfl hs0 rfl (by decide) wd1725 rfl rfl rfl (show (-2147483648 ≤ (0 : Int) ∧ (0 : Int) < 2147483648) from by decide) dX10_isProgram_2 (jj_M hM1 ?_)
  refine jj_aload_n hC dX10_isProgram_5 rfl 0 rfl ?_
  refine jj_iconst hC dX10_isProgram_6 ?_
  obtain ⟨M2, hM2, h⟩ := nam_e h
  refine jp_I hC kfX10 17 rfl hs0 rfl (by decide) wd1726 rfl rfl rfl (show (-2147483648 ≤ (0 : Int) ∧ (0 : Int) < 2147483648) from by decide) dX10_isProgram_7 (jj_M hM2 ?_)
  refine jj_aload_n hC dX10_isProgram_10 rfl 0 rfl ?_
  obtain ⟨q3, hq3, h⟩ := bd_e h
  refine jj_invV hC mvX10_readsCommand wd2164 wd66 wd2162 hs0 (by decide) rfl (xX10_readsCommand (OKC.tr hC) hs0 hq3) rfl rfl (c_le rfl) (c_le rfl) (c_le rfl) (c_le rfl) dX10_isProgram_11 noXk (po_kZ (fun hr3 => ?_))
  refine jj_istore_n (lv' := [(1, .int (iI q3.1)), (0, .ref a0)]) hC dX10_isProgram_14 rfl (by decide) rfl ?_
  obtain ⟨q9, hq9, h⟩ := bd_e h
  refine jj_lv (lv' := [(0, .ref a0), (1, .int (iI q3.1))]) [1, 0] rfl ?_
  refine hL15 a0 hs0 FU _ q9 hq9 hr3 (fun e15_6 he9 hIE9 => ?_) (fun c9 hc9 => ?_)
  · subst he9
    replace h := el_l h
    have he15_6_0 := hIE9
    refine jj_lv (lv' := [(0, .ref a0), (1, .int (iI e15_6.1))]) [0, 1] rfl ?_
    exact hB36 e15_6.2 a0 e15_6.1 hs0 he15_6_0 h
  · subst hc9
    replace h := el_r h
    exact Option.some.inj h
def fX10_does_B195 (ad S Ln : Nat → Nat) (R : gR) (M195 : gM) (l0_195 : Nat) : Option (Int × gM) :=
  bd (fX10_finishes ad S Ln R M195 l0_195) fun q9 => some ((q9.1, q9.2))
def fX10_does (ad S Ln : Nat → Nat) (R : gR) (M : gM) (a0 : Nat) (x1 : Int) : Option (Int × gM) :=
  rf S (R a0 14) 20 fun b1 => gd ((0 : Int) ≤ (w32 (x1 + 1)) ∧ (w32 (x1 + 1)) < (Ln b1 : Int)) (rf S (R a0 14) 20 fun b3 => gd ((0 : Int) ≤ (w32 (x1 + 2)) ∧ (w32 (x1 + 2)) < (Ln b3 : Int)) (rf S (R a0 14) 20 fun b5 => gd ((0 : Int) ≤ (w32 (x1 + 3)) ∧ (w32 (x1 + 3)) < (Ln b5 : Int)) (rf S (R a0 14) 20 fun b7 => gd ((0 : Int) ≤ x1 ∧ x1 < (Ln b7 : Int)) (if (M b7 x1) = 97 then (rf S (R a0 14) 20 fun b18 => gd ((0 : Int) ≤ (w32 (x1 + 4)) ∧ (w32 (x1 + 4)) < (Ln b18 : Int)) (bd (fX10_areas ad S Ln R M a0 (M b1 (w32 (x1 + 1))) (M b3 (w32 (x1 + 2))) (M b5 (w32 (x1 + 3))) (M b18 (w32 (x1 + 4)))) fun q20 => some ((q20.1, q20.2)))) else (if (M b7 x1) = 98 then (fX10_does_B195 ad S Ln R M a0) else (if (M b7 x1) = 99 then (bd (fX10_climbs ad S Ln R M a0 (M b1 (w32 (x1 + 1))) (M b3 (w32 (x1 + 2)))) fun q17 => some ((q17.1, q17.2))) else (if (M b7 x1) = 100 then (fX10_does_B195 ad S Ln R M a0) else (if (M b7 x1) = 101 then (fX10_does_B195 ad S Ln R M a0) else (if (M b7 x1) = 102 then (bd (fX10_flies ad S Ln R M a0 (M b1 (w32 (x1 + 1))) (M b3 (w32 (x1 + 2))) (M b5 (w32 (x1 + 3)))) fun q16 => some ((q16.1, q16.2))) else (if (M b7 x1) = 103 then (fX10_does_B195 ad S Ln R M a0) else (if (M b7 x1) = 104 then (bd (fX10_thermals ad S Ln R M a0 (M b1 (w32 (x1 + 1))) (M b3 (w32 (x1 + 2))) (M b5 (w32 (x1 + 3)))) fun q15 => some ((q15.1, q15.2))) else (if (M b7 x1) = 105 then (bd (fX10_pilots ad S Ln R M a0 (M b1 (w32 (x1 + 1)))) fun q14 => some ((q14.1, q14.2))) else (if (M b7 x1) = 106 then (fX10_does_B195 ad S Ln R M a0) else (if (M b7 x1) = 107 then (fX10_does_B195 ad S Ln R M a0) else (if (M b7 x1) = 108 then (bd (fX10_launches ad S Ln R M a0 (M b1 (w32 (x1 + 1)))) fun q13 => some ((q13.1, q13.2))) else (if (M b7 x1) = 109 then (fX10_does_B195 ad S Ln R M a0) else (if (M b7 x1) = 110 then (fX10_does_B195 ad S Ln R M a0) else (if (M b7 x1) = 111 then (fX10_does_B195 ad S Ln R M a0) else (if (M b7 x1) = 112 then (bd (fX10_points ad S Ln R M a0 (M b1 (w32 (x1 + 1))) (M b3 (w32 (x1 + 2)))) fun q12 => some ((q12.1, q12.2))) else (if (M b7 x1) = 113 then (fX10_does_B195 ad S Ln R M a0) else (if (M b7 x1) = 114 then (fX10_does_B195 ad S Ln R M a0) else (if (M b7 x1) = 115 then (fX10_does_B195 ad S Ln R M a0) else (if (M b7 x1) = 116 then (bd (fX10_tasks ad S Ln R M a0 (M b1 (w32 (x1 + 1)))) fun q11 => some ((q11.1, q11.2))) else (fX10_does_B195 ad S Ln R M a0))))))))))))))))))))))))
theorem xX10_does {l : Launch} {G : gE} {sz : Nat} {S Ln : Nat → Nat} {M : gM} {R : gR} (hl : l.stackTraces = false) {a0 : Nat} (hs0 : S a0 = 13) {x1 : Int} (hx1 : (-2147483648 ≤ x1 ∧ x1 < 2147483648)) {r : Int × gM} (h : fX10_does G.2.2.2.2 S Ln R M a0 x1 = some r) : Ct l G yX10_does cX10_does 5 (some .int) 9 0 0 [.ref a0, .int (iI x1)] sz S Ln M R (poI r.1 sz S Ln (r.2) R) noX := by
  refine jj_start (own := RX10) (lv0 := [(0, .ref a0), (1, .int (iI x1))]) hl (by decide +kernel) rfl rfl (c_le rfl) (fun C hCl hC => ?_)
  have hB195 : ∀ (M195 : gM) (l0_195 : Nat), S l0_195 = 13 → fX10_does_B195 G.2.2.2.2 S Ln R M195 l0_195 = some r → JJ G C 0 0 sz S Ln M195 R 195 [(0, .ref l0_195)] [] := by
    intro M195 l0_195 hl0_195 h
    unfold fX10_does_B195 at h
    refine jj_aload_n hC dX10_does_195 rfl 0 rfl ?_
    obtain ⟨q9, hq9, h⟩ := bd_e h
    refine jj_invV hC mvX10_finishes wd1944 wd50 wd1942 hl0_195 (by decide) rfl (xX10_finishes (OKC.tr hC) hl0_195 hq9) rfl rfl (c_le rfl) (c_le rfl) (c_le rfl) (c_le rfl) dX10_does_196 noXk (po_kI (fun hr9 => ?_))
    cases h
    exact jj_iret hC (c_le rfl) (c_le rfl) dX10_does_199 ⟨rfl, hr9, rfl, rfl, rfl, rfl, rfl⟩
  unfold fX10_does at h
  refine jj_aload_n hC dX10_does_0 rfl 0 rfl ?_
  obtain ⟨b1, hb1, hs1, h⟩ := rf_e h
  refine jg_R hC kfX10 14 rfl hs0 (by decide) wd1723 rfl hb1 dX10_does_1 ?_
  refine jj_iload_n hC dX10_does_4 rfl 1 rfl ?_
  refine jj_iconst hC dX10_does_5 ?_
  refine jg_iadd hC dX10_does_6 ?_
  obtain ⟨⟨ha2, hb2⟩, h⟩ := gd_e h
  refine jj_iald hC hs1 ha2 hb2 dX10_does_7 (fun hr2 => ?_)
  refine jj_istore_n (lv' := [(2, .int (iI (M b1 (w32 (x1 + 1))))), (0, .ref a0), (1, .int (iI x1))]) hC dX10_does_8 rfl (by decide) rfl ?_
  refine jj_aload_n hC dX10_does_9 rfl 1 rfl ?_
  obtain ⟨b3, hb3, hs3, h⟩ := rf_e h
  refine jg_R hC kfX10 14 rfl hs0 (by decide) wd1723 rfl hb3 dX10_does_10 ?_
  refine jj_iload_n hC dX10_does_13 rfl 2 rfl ?_
  refine jj_iconst hC dX10_does_14 ?_
  refine jg_iadd hC dX10_does_15 ?_
  obtain ⟨⟨ha4, hb4⟩, h⟩ := gd_e h
  refine jj_iald hC hs3 ha4 hb4 dX10_does_16 (fun hr4 => ?_)
  refine jj_istore_n (lv' := [(3, .int (iI (M b3 (w32 (x1 + 2))))), (2, .int (iI (M b1 (w32 (x1 + 1))))), (0, .ref a0), (1, .int (iI x1))]) hC dX10_does_17 rfl (by decide) rfl ?_
  refine jj_aload_n hC dX10_does_18 rfl 2 rfl ?_
  obtain ⟨b5, hb5, hs5, h⟩ := rf_e h
  refine jg_R hC kfX10 14 rfl hs0 (by decide) wd1723 rfl hb5 dX10_does_19 ?_
  refine jj_iload_n hC dX10_does_22 rfl 3 rfl ?_
  refine jj_iconst hC dX10_does_23 ?_
  refine jg_iadd hC dX10_does_24 ?_
  obtain ⟨⟨ha6, hb6⟩, h⟩ := gd_e h
  refine jj_iald hC hs5 ha6 hb6 dX10_does_25 (fun hr6 => ?_)
  refine jj_istore (lv' := [(4, .int (iI (M b5 (w32 (x1 + 3))))), (3, .int (iI (M b3 (w32 (x1 + 2))))), (2, .int (iI (M b1 (w32 (x1 + 1))))), (0, .ref a0), (1, .int (iI x1))]) hC dX10_does_26 (by decide) rfl ?_
  refine jj_aload_n hC dX10_does_28 rfl 3 rfl ?_
  obtain ⟨b7, hb7, hs7, h⟩ := rf_e h
  refine jg_R hC kfX10 14 rfl hs0 (by decide) wd1723 rfl hb7 dX10_does_29 ?_
  refine jj_iload_n hC dX10_does_32 rfl 4 rfl ?_
  obtain ⟨⟨ha8, hb8⟩, h⟩ := gd_e h
  refine jj_iald hC hs7 ha8 hb8 dX10_does_33 (fun hr8 => ?_)
  by_cases hc10_97 : (M b7 x1) = 97
  · replace h := (if_pos hc10_97).symm.trans h
    refine jj_tblIn (tgt := 150) hC dX10_does_34 hr8 (by omega) (by omega) (by rw [hc10_97]; rfl) rfl ?_
    refine jj_aload_n hC dX10_does_150 rfl 3 rfl ?_
    refine jj_iload_n hC dX10_does_151 rfl 2 rfl ?_
    refine jj_iload_n hC dX10_does_152 rfl 1 rfl ?_
    refine jj_iload hC dX10_does_153 0 rfl ?_
    refine jj_aload_n hC dX10_does_155 rfl 3 rfl ?_
    obtain ⟨b18, hb18, hs18, h⟩ := rf_e h
    refine jg_R hC kfX10 14 rfl hs0 (by decide) wd1723 rfl hb18 dX10_does_156 ?_
    refine jj_iload_n hC dX10_does_159 rfl 4 rfl ?_
    refine jj_iconst hC dX10_does_160 ?_
    refine jg_iadd hC dX10_does_161 ?_
    obtain ⟨⟨ha19, hb19⟩, h⟩ := gd_e h
    refine jj_iald hC hs18 ha19 hb19 dX10_does_162 (fun hr19 => ?_)
    obtain ⟨q20, hq20, h⟩ := bd_e h
    refine jj_invV hC mvX10_areas wd1866 wd37 wd1864 hs0 (by decide) rfl (xX10_areas (OKC.tr hC) hs0 hr2 hr4 hr6 hr19 hq20) rfl rfl (c_le rfl) (c_le rfl) (c_le rfl) (c_le rfl) dX10_does_163 noXk (po_kI (fun hr20 => ?_))
    cases h
    exact jj_iret hC (c_le rfl) (c_le rfl) dX10_does_166 ⟨rfl, hr20, rfl, rfl, rfl, rfl, rfl⟩
  · replace h := (if_neg hc10_97).symm.trans h
    by_cases hc10_98 : (M b7 x1) = 98
    · replace h := (if_pos hc10_98).symm.trans h
      refine jj_tblIn (tgt := 195) hC dX10_does_34 hr8 (by omega) (by omega) (by rw [hc10_98]; rfl) rfl ?_
      refine jj_lv (lv' := [(0, .ref a0)]) [3] rfl ?_
      exact hB195 M a0 hs0 h
    · replace h := (if_neg hc10_98).symm.trans h
      by_cases hc10_99 : (M b7 x1) = 99
      · replace h := (if_pos hc10_99).symm.trans h
        refine jj_tblIn (tgt := 188) hC dX10_does_34 hr8 (by omega) (by omega) (by rw [hc10_99]; rfl) rfl ?_
        refine jj_aload_n hC dX10_does_188 rfl 3 rfl ?_
        refine jj_iload_n hC dX10_does_189 rfl 2 rfl ?_
        refine jj_iload_n hC dX10_does_190 rfl 1 rfl ?_
        obtain ⟨q17, hq17, h⟩ := bd_e h
        refine jj_invV hC mvX10_climbs wd1932 wd48 wd1930 hs0 (by decide) rfl (xX10_climbs (OKC.tr hC) hs0 hr2 hr4 hq17) rfl rfl (c_le rfl) (c_le rfl) (c_le rfl) (c_le rfl) dX10_does_191 noXk (po_kI (fun hr17 => ?_))
        cases h
        exact jj_iret hC (c_le rfl) (c_le rfl) dX10_does_194 ⟨rfl, hr17, rfl, rfl, rfl, rfl, rfl⟩
      · replace h := (if_neg hc10_99).symm.trans h
        by_cases hc10_100 : (M b7 x1) = 100
        · replace h := (if_pos hc10_100).symm.trans h
          refine jj_tblIn (tgt := 195) hC dX10_does_34 hr8 (by omega) (by omega) (by rw [hc10_100]; rfl) rfl ?_
          refine jj_lv (lv' := [(0, .ref a0)]) [3] rfl ?_
          exact hB195 M a0 hs0 h
        · replace h := (if_neg hc10_100).symm.trans h
          by_cases hc10_101 : (M b7 x1) = 101
          · replace h := (if_pos hc10_101).symm.trans h
            refine jj_tblIn (tgt := 195) hC dX10_does_34 hr8 (by omega) (by omega) (by rw [hc10_101]; rfl) rfl ?_
            refine jj_lv (lv' := [(0, .ref a0)]) [3] rfl ?_
            exact hB195 M a0 hs0 h
          · replace h := (if_neg hc10_101).symm.trans h
            by_cases hc10_102 : (M b7 x1) = 102
            · replace h := (if_pos hc10_102).symm.trans h
              refine jj_tblIn (tgt := 179) hC dX10_does_34 hr8 (by omega) (by omega) (by rw [hc10_102]; rfl) rfl ?_
              refine jj_aload_n hC dX10_does_179 rfl 3 rfl ?_
              refine jj_iload_n hC dX10_does_180 rfl 2 rfl ?_
              refine jj_iload_n hC dX10_does_181 rfl 1 rfl ?_
              refine jj_iload hC dX10_does_182 0 rfl ?_
              obtain ⟨q16, hq16, h⟩ := bd_e h
              refine jj_invV hC mvX10_flies wd1902 wd43 wd1900 hs0 (by decide) rfl (xX10_flies (OKC.tr hC) hs0 hr2 hr4 hr6 hq16) rfl rfl (c_le rfl) (c_le rfl) (c_le rfl) (c_le rfl) dX10_does_184 noXk (po_kI (fun hr16 => ?_))
              cases h
              exact jj_iret hC (c_le rfl) (c_le rfl) dX10_does_187 ⟨rfl, hr16, rfl, rfl, rfl, rfl, rfl⟩
            · replace h := (if_neg hc10_102).symm.trans h
              by_cases hc10_103 : (M b7 x1) = 103
              · replace h := (if_pos hc10_103).symm.trans h
                refine jj_tblIn (tgt := 195) hC dX10_does_34 hr8 (by omega) (by omega) (by rw [hc10_103]; rfl) rfl ?_
                refine jj_lv (lv' := [(0, .ref a0)]) [3] rfl ?_
                exact hB195 M a0 hs0 h
              · replace h := (if_neg hc10_103).symm.trans h
                by_cases hc10_104 : (M b7 x1) = 104
                · replace h := (if_pos hc10_104).symm.trans h
                  refine jj_tblIn (tgt := 141) hC dX10_does_34 hr8 (by omega) (by omega) (by rw [hc10_104]; rfl) rfl ?_
                  refine jj_aload_n hC dX10_does_141 rfl 3 rfl ?_
                  refine jj_iload_n hC dX10_does_142 rfl 2 rfl ?_
                  refine jj_iload_n hC dX10_does_143 rfl 1 rfl ?_
                  refine jj_iload hC dX10_does_144 0 rfl ?_
                  obtain ⟨q15, hq15, h⟩ := bd_e h
                  refine jj_invV hC mvX10_thermals wd1850 wd35 wd1848 hs0 (by decide) rfl (xX10_thermals (OKC.tr hC) hs0 hr2 hr4 hr6 hq15) rfl rfl (c_le rfl) (c_le rfl) (c_le rfl) (c_le rfl) dX10_does_146 noXk (po_kI (fun hr15 => ?_))
                  cases h
                  exact jj_iret hC (c_le rfl) (c_le rfl) dX10_does_149 ⟨rfl, hr15, rfl, rfl, rfl, rfl, rfl⟩
                · replace h := (if_neg hc10_104).symm.trans h
                  by_cases hc10_105 : (M b7 x1) = 105
                  · replace h := (if_pos hc10_105).symm.trans h
                    refine jj_tblIn (tgt := 167) hC dX10_does_34 hr8 (by omega) (by omega) (by rw [hc10_105]; rfl) rfl ?_
                    refine jj_aload_n hC dX10_does_167 rfl 3 rfl ?_
                    refine jj_iload_n hC dX10_does_168 rfl 2 rfl ?_
                    obtain ⟨q14, hq14, h⟩ := bd_e h
                    refine jj_invV hC mvX10_pilots wd1874 wd38 wd1872 hs0 (by decide) rfl (xX10_pilots (OKC.tr hC) hs0 hr2 hq14) rfl rfl (c_le rfl) (c_le rfl) (c_le rfl) (c_le rfl) dX10_does_169 noXk (po_kI (fun hr14 => ?_))
                    cases h
                    exact jj_iret hC (c_le rfl) (c_le rfl) dX10_does_172 ⟨rfl, hr14, rfl, rfl, rfl, rfl, rfl⟩
                  · replace h := (if_neg hc10_105).symm.trans h
                    by_cases hc10_106 : (M b7 x1) = 106
                    · replace h := (if_pos hc10_106).symm.trans h
                      refine jj_tblIn (tgt := 195) hC dX10_does_34 hr8 (by omega) (by omega) (by rw [hc10_106]; rfl) rfl ?_
                      refine jj_lv (lv' := [(0, .ref a0)]) [3] rfl ?_
                      exact hB195 M a0 hs0 h
                    · replace h := (if_neg hc10_106).symm.trans h
                      by_cases hc10_107 : (M b7 x1) = 107
                      · replace h := (if_pos hc10_107).symm.trans h
                        refine jj_tblIn (tgt := 195) hC dX10_does_34 hr8 (by omega) (by omega) (by rw [hc10_107]; rfl) rfl ?_
                        refine jj_lv (lv' := [(0, .ref a0)]) [3] rfl ?_
                        exact hB195 M a0 hs0 h
                      · replace h := (if_neg hc10_107).symm.trans h
                        by_cases hc10_108 : (M b7 x1) = 108
                        · replace h := (if_pos hc10_108).symm.trans h
                          refine jj_tblIn (tgt := 173) hC dX10_does_34 hr8 (by omega) (by omega) (by rw [hc10_108]; rfl) rfl ?_
                          refine jj_aload_n hC dX10_does_173 rfl 3 rfl ?_
                          refine jj_iload_n hC dX10_does_174 rfl 2 rfl ?_
                          obtain ⟨q13, hq13, h⟩ := bd_e h
                          refine jj_invV hC mvX10_launches wd1886 wd40 wd1884 hs0 (by decide) rfl (xX10_launches (OKC.tr hC) hs0 hr2 hq13) rfl rfl (c_le rfl) (c_le rfl) (c_le rfl) (c_le rfl) dX10_does_175 noXk (po_kI (fun hr13 => ?_))
                          cases h
                          exact jj_iret hC (c_le rfl) (c_le rfl) dX10_does_178 ⟨rfl, hr13, rfl, rfl, rfl, rfl, rfl⟩
                        · replace h := (if_neg hc10_108).symm.trans h
                          by_cases hc10_109 : (M b7 x1) = 109
                          · replace h := (if_pos hc10_109).symm.trans h
                            refine jj_tblIn (tgt := 195) hC dX10_does_34 hr8 (by omega) (by omega) (by rw [hc10_109]; rfl) rfl ?_
                            refine jj_lv (lv' := [(0, .ref a0)]) [3] rfl ?_
                            exact hB195 M a0 hs0 h
                          · replace h := (if_neg hc10_109).symm.trans h
                            by_cases hc10_110 : (M b7 x1) = 110
                            · replace h := (if_pos hc10_110).symm.trans h
                              refine jj_tblIn (tgt := 195) hC dX10_does_34 hr8 (by omega) (by omega) (by rw [hc10_110]; rfl) rfl ?_
                              refine jj_lv (lv' := [(0, .ref a0)]) [3] rfl ?_
                              exact hB195 M a0 hs0 h
                            · replace h := (if_neg hc10_110).symm.trans h
                              by_cases hc10_111 : (M b7 x1) = 111
                              · replace h := (if_pos hc10_111).symm.trans h
                                refine jj_tblIn (tgt := 195) hC dX10_does_34 hr8 (by omega) (by omega) (by rw [hc10_111]; rfl) rfl ?_
                                refine jj_lv (lv' := [(0, .ref a0)]) [3] rfl ?_
                                exact hB195 M a0 hs0 h
                              · replace h := (if_neg hc10_111).symm.trans h
                                by_cases hc10_112 : (M b7 x1) = 112
                                · replace h := (if_pos hc10_112).symm.trans h
                                  refine jj_tblIn (tgt := 128) hC dX10_does_34 hr8 (by omega) (by omega) (by rw [hc10_112]; rfl) rfl ?_
                                  refine jj_aload_n hC dX10_does_128 rfl 3 rfl ?_
                                  refine jj_iload_n hC dX10_does_129 rfl 2 rfl ?_
                                  refine jj_iload_n hC dX10_does_130 rfl 1 rfl ?_
                                  obtain ⟨q12, hq12, h⟩ := bd_e h
                                  refine jj_invV hC mvX10_points wd1781 wd23 wd1779 hs0 (by decide) rfl (xX10_points (OKC.tr hC) hs0 hr2 hr4 hq12) rfl rfl (c_le rfl) (c_le rfl) (c_le rfl) (c_le rfl) dX10_does_131 noXk (po_kI (fun hr12 => ?_))
                                  cases h
                                  exact jj_iret hC (c_le rfl) (c_le rfl) dX10_does_134 ⟨rfl, hr12, rfl, rfl, rfl, rfl, rfl⟩
                                · replace h := (if_neg hc10_112).symm.trans h
                                  by_cases hc10_113 : (M b7 x1) = 113
                                  · replace h := (if_pos hc10_113).symm.trans h
                                    refine jj_tblIn (tgt := 195) hC dX10_does_34 hr8 (by omega) (by omega) (by rw [hc10_113]; rfl) rfl ?_
                                    refine jj_lv (lv' := [(0, .ref a0)]) [3] rfl ?_
                                    exact hB195 M a0 hs0 h
                                  · replace h := (if_neg hc10_113).symm.trans h
                                    by_cases hc10_114 : (M b7 x1) = 114
                                    · replace h := (if_pos hc10_114).symm.trans h
                                      refine jj_tblIn (tgt := 195) hC dX10_does_34 hr8 (by omega) (by omega) (by rw [hc10_114]; rfl) rfl ?_
                                      refine jj_lv (lv' := [(0, .ref a0)]) [3] rfl ?_
                                      exact hB195 M a0 hs0 h
                                    · replace h := (if_neg hc10_114).symm.trans h
                                      by_cases hc10_115 : (M b7 x1) = 115
                                      · replace h := (if_pos hc10_115).symm.trans h
                                        refine jj_tblIn (tgt := 195) hC dX10_does_34 hr8 (by omega) (by omega) (by rw [hc10_115]; rfl) rfl ?_
                                        refine jj_lv (lv' := [(0, .ref a0)]) [3] rfl ?_
                                        exact hB195 M a0 hs0 h
                                      · replace h := (if_neg hc10_115).symm.trans h
                                        by_cases hc10_116 : (M b7 x1) = 116
                                        · replace h := (if_pos hc10_116).symm.trans h
                                          refine jj_tblIn (tgt := 135) hC dX10_does_34 hr8 (by omega) (by omega) (by rw [hc10_116]; rfl) rfl ?_
                                          refine jj_aload_n hC dX10_does_135 rfl 3 rfl ?_
                                          refine jj_iload_n hC dX10_does_136 rfl 2 rfl ?_
                                          obtain ⟨q11, hq11, h⟩ := bd_e h
                                          refine jj_invV hC mvX10_tasks wd1803 wd26 wd1801 hs0 (by decide) rfl (xX10_tasks (OKC.tr hC) hs0 hr2 hq11) rfl rfl (c_le rfl) (c_le rfl) (c_le rfl) (c_le rfl) dX10_does_137 noXk (po_kI (fun hr11 => ?_))
                                          cases h
                                          exact jj_iret hC (c_le rfl) (c_le rfl) dX10_does_140 ⟨rfl, hr11, rfl, rfl, rfl, rfl, rfl⟩
                                        · replace h := (if_neg hc10_116).symm.trans h
                                          refine jj_tblOut (tgt := 195) hC dX10_does_34 hr8 (by omega) rfl ?_
                                          refine jj_lv (lv' := [(0, .ref a0)]) [3] rfl ?_
                                          exact hB195 M a0 hs0 h
def fX10_run_L43 (ad S Ln : Nat → Nat) (R : gR) (l0_43 : Nat) (s43 : Int × gM) : Option ((Int × gM) ⊕ ((gM) ⊕ (Int × gM))) :=
  if (s43.2 l0_43 17) ≤ s43.1 then (some (.inr (.inl s43.2))) else (nam (wr s43.2 l0_43 5 0) fun M6 => bd (fX10_does ad S Ln R M6 l0_43 (w32 (5 * s43.1))) fun q7 => nam (wr q7.2 l0_43 8 q7.1) fun M8 => if (M8 l0_43 5) = 0 then (some (.inl (w32 (s43.1 + 1), M8))) else (rf S (R l0_43 1) 20 fun b10 => rf S (R l0_43 0) 20 fun b11 => bd (fX10_copies ad S Ln R M8 b10 0 b11 0) fun q12 => nam (wr q12 l0_43 7 s43.1) fun M13 => nam (wr M13 l0_43 5 2) fun M14 => some (.inr (.inr ((0, M14))))))
def fX10_run_B20 (ad S Ln : Nat → Nat) (R : gR) (M20 : gM) (l0_20 : Nat) (s0_20 : Int) (s1_20 : Nat) : Option (Int × gM) :=
  bd (fX10_isThrown ad S Ln R M20 s1_20 s0_20 1) fun q3 => if q3.1 = 0 then (bd (fX10_keeps ad S Ln R q3.2 l0_20) fun q4 => bd (lp (fX10_run_L43 ad S Ln R l0_20) FU (0, q4)) fun q18 => Sum.elim (fun e43_15 => bd (fX10_ends ad S Ln R e43_15 l0_20 (e43_15 l0_20 17)) fun q17 => some ((q17.1, q17.2))) (fun c18 => some c18) q18) else (nam (wr q3.2 l0_20 6 (q3.2 l0_20 16)) fun M20 => some ((0, M20)))
def fX10_run (ad S Ln : Nat → Nat) (R : gR) (M : gM) (a0 : Nat) : Option (Int × gM) :=
  bd (fX10_isProgram ad S Ln R M a0) fun q1 => nam (wr q1.2 a0 15 0) fun M2 => if ¬ q1.1 = 0 then (fX10_run_B20 ad S Ln R M2 a0 0 a0) else (fX10_run_B20 ad S Ln R M2 a0 1 a0)
theorem xX10_run {l : Launch} {G : gE} {sz : Nat} {S Ln : Nat → Nat} {M : gM} {R : gR} (hl : l.stackTraces = false) {a0 : Nat} (hs0 : S a0 = 13) {r : Int × gM} (h : fX10_run G.2.2.2.2 S Ln R M a0 = some r) : Ct l G yX10_run cX10_run 3 (some .int) 17 0 0 [.ref a0] sz S Ln M R (poI r.1 sz S Ln (r.2) R) noX := by
  refine jj_start (own := RX10) (lv0 := [(0, .ref a0)]) hl (by decide +kernel) rfl rfl (c_le rfl) (fun C hCl hC => ?_)
  have hL43 : ∀ (l0_43 : Nat), S l0_43 = 13 → ∀ (n : Nat) (s43 : Int × gM) (q : (gM) ⊕ (Int × gM)), lp (fX10_run_L43 G.2.2.2.2 S Ln R l0_43) n s43 = some q → (-2147483648 ≤ s43.1 ∧ s43.1 < 2147483648) → (∀ e43, q = .inl e43 → True → JJ G C 0 0 sz S Ln e43 R 105 [(0, .ref l0_43)] []) → (∀ c, q = .inr c → c = r) → JJ G C 0 0 sz S Ln s43.2 R 43 [(0, .ref l0_43), (2, .int (iI s43.1))] [] := by
    intro l0_43 hl0_43
    refine lp_ind ?_
    intro s43 r43 hI43 h hJ43 hE43 hR43
    have hs43_0 := hI43
    unfold fX10_run_L43 at h
    refine jj_iload_n hC dX10_run_43 rfl 1 rfl ?_
    refine jj_aload_n hC dX10_run_44 rfl 0 rfl ?_
    refine jg_I hC kfX10 17 rfl hl0_43 (by decide) wd1726 rfl dX10_run_45 (fun hr5 => ?_)
    refine jj_icmp_ge (tgt := 105) hC dX10_run_48 rfl hs43_0 hr5 (fun hc => ?_) (fun hc => ?_)
    · replace h := (if_pos hc).symm.trans h
      refine jj_lv (lv' := [(0, .ref l0_43)]) [0] rfl ?_
      exact hE43 _ (Option.some.inj h).symm trivial
    · replace h := (if_neg (Int.not_le.mpr hc)).symm.trans h
      refine jj_aload_n hC dX10_run_51 rfl 0 rfl ?_
      refine jj_iconst hC dX10_run_52 ?_
      obtain ⟨M6, hM6, h⟩ := nam_e h
      refine jp_I hC kfX10 5 rfl hl0_43 rfl (by decide) wd1714 rfl rfl rfl (show (-2147483648 ≤ (0 : Int) ∧ (0 : Int) < 2147483648) from by decide) dX10_run_53 (jj_M hM6 ?_)
      refine jj_aload_n hC dX10_run_56 rfl 0 rfl ?_
      refine jj_aload_n hC dX10_run_57 rfl 0 rfl ?_
      refine jj_iconst hC dX10_run_58 ?_
      refine jj_iload_n hC dX10_run_59 rfl 1 rfl ?_
      refine jg_imul hC dX10_run_60 ?_
      obtain ⟨q7, hq7, h⟩ := bd_e h
      refine jj_invV hC mvX10_does wd2218 wd76 wd2216 hl0_43 (by decide) rfl (xX10_does (OKC.tr hC) hl0_43 (w32_r _) hq7) rfl rfl (c_le rfl) (c_le rfl) (c_le rfl) (c_le rfl) dX10_run_61 noXk (po_kI (fun hr7 => ?_))
      obtain ⟨M8, hM8, h⟩ := nam_e h
      refine jp_I hC kfX10 8 rfl hl0_43 rfl (by decide) wd1717 rfl rfl rfl hr7 dX10_run_64 (jj_M hM8 ?_)
      refine jj_aload_n hC dX10_run_67 rfl 0 rfl ?_
      refine jg_I hC kfX10 5 rfl hl0_43 (by decide) wd1714 rfl dX10_run_68 (fun hr9 => ?_)
      refine jj_if_eq (tgt := 99) hC dX10_run_71 rfl hr9 (fun hc => ?_) (fun hc => ?_)
      · replace h := (if_pos hc).symm.trans h
        refine jg_iinc (q := 1) (lv' := [(2, .int (iI (w32 (s43.1 + 1)))), (0, .ref l0_43)]) hC dX10_run_99 rfl (by decide) rfl ?_
        refine jj_goto (tgt := 43) hC dX10_run_102 rfl ?_
        refine jj_lv (lv' := [(0, .ref l0_43), (2, .int (iI (w32 (s43.1 + 1))))]) [1, 0] rfl ?_
        exact hJ43 _ (Option.some.inj h).symm (w32_r _)
      · replace h := (if_neg (hc)).symm.trans h
        refine jj_aload_n hC dX10_run_74 rfl 0 rfl ?_
        obtain ⟨b10, hb10, hs10, h⟩ := rf_e h
        refine jg_R hC kfX10 1 rfl hl0_43 (by decide) wd1710 rfl hb10 dX10_run_75 ?_
        refine jj_iconst hC dX10_run_78 ?_
        refine jj_aload_n hC dX10_run_79 rfl 0 rfl ?_
        obtain ⟨b11, hb11, hs11, h⟩ := rf_e h
        refine jg_R hC kfX10 0 rfl hl0_43 (by decide) wd1709 rfl hb11 dX10_run_80 ?_
        refine jj_iconst hC dX10_run_83 ?_
        obtain ⟨q12, hq12, h⟩ := bd_e h
        refine jj_invS hC mvX10_copies wd1777 wd1776 (xX10_copies (OKC.tr hC) hs10 (show (-2147483648 ≤ (0 : Int) ∧ (0 : Int) < 2147483648) from by decide) hs11 (show (-2147483648 ≤ (0 : Int) ∧ (0 : Int) < 2147483648) from by decide) hq12) rfl rfl (c_le rfl) (c_le rfl) (c_le rfl) (c_le rfl) dX10_run_84 noXk (po_kV ?_)
        refine jj_aload_n hC dX10_run_87 rfl 0 rfl ?_
        refine jj_iload_n hC dX10_run_88 rfl 1 rfl ?_
        obtain ⟨M13, hM13, h⟩ := nam_e h
        refine jp_I hC kfX10 7 rfl hl0_43 rfl (by decide) wd1716 rfl rfl rfl hs43_0 dX10_run_89 (jj_M hM13 ?_)
        refine jj_aload_n hC dX10_run_92 rfl 0 rfl ?_
        refine jj_iconst hC dX10_run_93 ?_
        obtain ⟨M14, hM14, h⟩ := nam_e h
        refine jp_I hC kfX10 5 rfl hl0_43 rfl (by decide) wd1714 rfl rfl rfl (show (-2147483648 ≤ (2 : Int) ∧ (2 : Int) < 2147483648) from by decide) dX10_run_94 (jj_M hM14 ?_)
        refine jj_iconst hC dX10_run_97 ?_
        have h := hR43 _ (Option.some.inj h).symm
        subst h
        exact jj_iret hC (c_le rfl) (c_le rfl) dX10_run_98 ⟨rfl, (show (-2147483648 ≤ (0 : Int) ∧ (0 : Int) < 2147483648) from by decide), rfl, rfl, rfl, rfl, rfl⟩
  have hB20 : ∀ (M20 : gM) (l0_20 : Nat) (s0_20 : Int) (s1_20 : Nat), S l0_20 = 13 → (0 ≤ s0_20 ∧ s0_20 ≤ 1) → S s1_20 = 13 → fX10_run_B20 G.2.2.2.2 S Ln R M20 l0_20 s0_20 s1_20 = some r → JJ G C 0 0 sz S Ln M20 R 20 [(0, .ref l0_20)] [.int (iI s0_20), .ref s1_20] := by
    intro M20 l0_20 s0_20 s1_20 hl0_20 hs0_20 hs1_20 h
    unfold fX10_run_B20 at h
    refine jj_iconst hC dX10_run_20 ?_
    obtain ⟨q3, hq3, h⟩ := bd_e h
    refine jj_invV hC mvX10_isThrown wd1791 wd24 wd1789 hs1_20 (by decide) rfl (xX10_isThrown (OKC.tr hC) hs1_20 hs0_20 (show (-2147483648 ≤ (1 : Int) ∧ (1 : Int) < 2147483648) from by decide) hq3) rfl rfl (c_le rfl) (c_le rfl) (c_le rfl) (c_le rfl) dX10_run_21 noXk (po_kZ (fun hr3 => ?_))
    refine jj_if_eq (tgt := 37) hC dX10_run_24 rfl (r_z hr3) (fun hc => ?_) (fun hc => ?_)
    · replace h := (if_pos hc).symm.trans h
      refine jj_aload_n hC dX10_run_37 rfl 0 rfl ?_
      obtain ⟨q4, hq4, h⟩ := bd_e h
      refine jj_invV hC mvX10_keeps wd1774 wd22 wd1772 hl0_20 (by decide) rfl (xX10_keeps (OKC.tr hC) hl0_20 hq4) rfl rfl (c_le rfl) (c_le rfl) (c_le rfl) (c_le rfl) dX10_run_38 noXk (po_kV ?_)
      refine jj_iconst hC dX10_run_41 ?_
      refine jj_istore_n (lv' := [(2, .int (iI 0)), (0, .ref l0_20)]) hC dX10_run_42 rfl (by decide) rfl ?_
      obtain ⟨q18, hq18, h⟩ := bd_e h
      refine jj_lv (lv' := [(0, .ref l0_20), (2, .int (iI 0))]) [1, 0] rfl ?_
      refine hL43 l0_20 hl0_20 FU _ q18 hq18 (show (-2147483648 ≤ (0 : Int) ∧ (0 : Int) < 2147483648) from by decide) (fun e43_15 he18 hIE18 => ?_) (fun c18 hc18 => ?_)
      · subst he18
        replace h := el_l h
        refine jj_aload_n hC dX10_run_105 rfl 0 rfl ?_
        refine jj_aload_n hC dX10_run_106 rfl 0 rfl ?_
        refine jg_I hC kfX10 17 rfl hl0_20 (by decide) wd1726 rfl dX10_run_107 (fun hr16 => ?_)
        obtain ⟨q17, hq17, h⟩ := bd_e h
        refine jj_invV hC mvX10_ends wd1795 wd25 wd1793 hl0_20 (by decide) rfl (xX10_ends (OKC.tr hC) hl0_20 hr16 hq17) rfl rfl (c_le rfl) (c_le rfl) (c_le rfl) (c_le rfl) dX10_run_110 noXk (po_kI (fun hr17 => ?_))
        cases h
        exact jj_iret hC (c_le rfl) (c_le rfl) dX10_run_113 ⟨rfl, hr17, rfl, rfl, rfl, rfl, rfl⟩
      · subst hc18
        replace h := el_r h
        exact Option.some.inj h
    · replace h := (if_neg (hc)).symm.trans h
      refine jj_aload_n hC dX10_run_27 rfl 0 rfl ?_
      refine jj_aload_n hC dX10_run_28 rfl 0 rfl ?_
      refine jg_I hC kfX10 16 rfl hl0_20 (by decide) wd1725 rfl dX10_run_29 (fun hr19 => ?_)
      obtain ⟨M20, hM20, h⟩ := nam_e h
      refine jp_I hC kfX10 6 rfl hl0_20 rfl (by decide) wd1715 rfl rfl rfl hr19 dX10_run_32 (jj_M hM20 ?_)
      refine jj_iconst hC dX10_run_35 ?_
      cases h
      exact jj_iret hC (c_le rfl) (c_le rfl) dX10_run_36 ⟨rfl, (show (-2147483648 ≤ (0 : Int) ∧ (0 : Int) < 2147483648) from by decide), rfl, rfl, rfl, rfl, rfl⟩
  unfold fX10_run at h
  refine jj_aload_n hC dX10_run_0 rfl 0 rfl ?_
  obtain ⟨q1, hq1, h⟩ := bd_e h
  refine jj_invV hC mvX10_isProgram wd2160 wd65 wd2158 hs0 (by decide) rfl (xX10_isProgram (OKC.tr hC) hs0 hq1) rfl rfl (c_le rfl) (c_le rfl) (c_le rfl) (c_le rfl) dX10_run_1 noXk (po_kZ (fun hr1 => ?_))
  refine jj_istore_n (lv' := [(1, .int (iI q1.1)), (0, .ref a0)]) hC dX10_run_4 rfl (by decide) rfl ?_
  refine jj_aload_n hC dX10_run_5 rfl 1 rfl ?_
  refine jj_iconst hC dX10_run_6 ?_
  obtain ⟨M2, hM2, h⟩ := nam_e h
  refine jp_I hC kfX10 15 rfl hs0 rfl (by decide) wd1724 rfl rfl rfl (show (-2147483648 ≤ (0 : Int) ∧ (0 : Int) < 2147483648) from by decide) dX10_run_7 (jj_M hM2 ?_)
  refine jj_aload_n hC dX10_run_10 rfl 1 rfl ?_
  refine jj_iload_n hC dX10_run_11 rfl 0 rfl ?_
  refine jj_if_ne (tgt := 19) hC dX10_run_12 rfl (r_z hr1) (fun hc => ?_) (fun hc => ?_)
  · replace h := (if_pos hc).symm.trans h
    refine jj_iconst hC dX10_run_19 ?_
    refine jj_lv (lv' := [(0, .ref a0)]) [1] rfl ?_
    exact hB20 M2 a0 0 a0 hs0 (show (0 ≤ (0 : Int) ∧ (0 : Int) ≤ 1) from by decide) hs0 h
  · replace h := (if_neg (fun k => k hc)).symm.trans h
    refine jj_iconst hC dX10_run_15 ?_
    refine jj_goto (tgt := 20) hC dX10_run_16 rfl ?_
    refine jj_lv (lv' := [(0, .ref a0)]) [1] rfl ?_
    exact hB20 M2 a0 1 a0 hs0 (show (0 ≤ (1 : Int) ∧ (1 : Int) ≤ 1) from by decide) hs0 h
def fX10_errorPosition_B13 (ad S Ln : Nat → Nat) (R : gR) (M13 : gM) (l0_13 : Nat) (s0_13 : Int) (s1_13 : Nat) : Option (Int × gM) :=
  bd (fX10_isThrown ad S Ln R M13 s1_13 s0_13 1) fun q2 => if q2.1 = 0 then (some ((q2.2 l0_13 6, q2.2))) else (some ((0, q2.2)))
def fX10_errorPosition (ad S Ln : Nat → Nat) (R : gR) (M : gM) (a0 : Nat) : Option (Int × gM) :=
  if 0 ≤ (M a0 6) then (fX10_errorPosition_B13 ad S Ln R M a0 0 a0) else (fX10_errorPosition_B13 ad S Ln R M a0 1 a0)
theorem xX10_errorPosition {l : Launch} {G : gE} {sz : Nat} {S Ln : Nat → Nat} {M : gM} {R : gR} (hl : l.stackTraces = false) {a0 : Nat} (hs0 : S a0 = 13) {r : Int × gM} (h : fX10_errorPosition G.2.2.2.2 S Ln R M a0 = some r) : Ct l G yX10_errorPosition cX10_errorPosition 1 (some .int) 2 0 0 [.ref a0] sz S Ln M R (poI r.1 sz S Ln (r.2) R) noX := by
  refine jj_start (own := RX10) (lv0 := [(0, .ref a0)]) hl (by decide +kernel) rfl rfl (c_le rfl) (fun C hCl hC => ?_)
  have hB13 : ∀ (M13 : gM) (l0_13 : Nat) (s0_13 : Int) (s1_13 : Nat), S l0_13 = 13 → (0 ≤ s0_13 ∧ s0_13 ≤ 1) → S s1_13 = 13 → fX10_errorPosition_B13 G.2.2.2.2 S Ln R M13 l0_13 s0_13 s1_13 = some r → JJ G C 0 0 sz S Ln M13 R 13 [(0, .ref l0_13)] [.int (iI s0_13), .ref s1_13] := by
    intro M13 l0_13 s0_13 s1_13 hl0_13 hs0_13 hs1_13 h
    unfold fX10_errorPosition_B13 at h
    refine jj_iconst hC dX10_errorPosition_13 ?_
    obtain ⟨q2, hq2, h⟩ := bd_e h
    refine jj_invV hC mvX10_isThrown wd1791 wd24 wd1789 hs1_13 (by decide) rfl (xX10_isThrown (OKC.tr hC) hs1_13 hs0_13 (show (-2147483648 ≤ (1 : Int) ∧ (1 : Int) < 2147483648) from by decide) hq2) rfl rfl (c_le rfl) (c_le rfl) (c_le rfl) (c_le rfl) dX10_errorPosition_14 noXk (po_kZ (fun hr2 => ?_))
    refine jj_if_eq (tgt := 24) hC dX10_errorPosition_17 rfl (r_z hr2) (fun hc => ?_) (fun hc => ?_)
    · replace h := (if_pos hc).symm.trans h
      refine jj_aload_n hC dX10_errorPosition_24 rfl 0 rfl ?_
      refine jg_I hC kfX10 6 rfl hl0_13 (by decide) wd1715 rfl dX10_errorPosition_25 (fun hr3 => ?_)
      cases h
      exact jj_iret hC (c_le rfl) (c_le rfl) dX10_errorPosition_28 ⟨rfl, hr3, rfl, rfl, rfl, rfl, rfl⟩
    · replace h := (if_neg (hc)).symm.trans h
      refine jj_iconst hC dX10_errorPosition_20 ?_
      refine jj_goto (tgt := 28) hC dX10_errorPosition_21 rfl ?_
      cases h
      exact jj_iret hC (c_le rfl) (c_le rfl) dX10_errorPosition_28 ⟨rfl, (show (-2147483648 ≤ (0 : Int) ∧ (0 : Int) < 2147483648) from by decide), rfl, rfl, rfl, rfl, rfl⟩
  unfold fX10_errorPosition at h
  refine jj_aload_n hC dX10_errorPosition_0 rfl 0 rfl ?_
  refine jj_aload_n hC dX10_errorPosition_1 rfl 0 rfl ?_
  refine jg_I hC kfX10 6 rfl hs0 (by decide) wd1715 rfl dX10_errorPosition_2 (fun hr1 => ?_)
  refine jj_if_ge (tgt := 12) hC dX10_errorPosition_5 rfl hr1 (fun hc => ?_) (fun hc => ?_)
  · replace h := (if_pos hc).symm.trans h
    refine jj_iconst hC dX10_errorPosition_12 ?_
    refine jj_lv (lv' := [(0, .ref a0)]) [0] rfl ?_
    exact hB13 M a0 0 a0 hs0 (show (0 ≤ (0 : Int) ∧ (0 : Int) ≤ 1) from by decide) hs0 h
  · replace h := (if_neg (Int.not_le.mpr hc)).symm.trans h
    refine jj_iconst hC dX10_errorPosition_8 ?_
    refine jj_goto (tgt := 13) hC dX10_errorPosition_9 rfl ?_
    refine jj_lv (lv' := [(0, .ref a0)]) [0] rfl ?_
    exact hB13 M a0 1 a0 hs0 (show (0 ≤ (1 : Int) ∧ (1 : Int) ≤ 1) from by decide) hs0 h
def fX10_failedCommand_B13 (ad S Ln : Nat → Nat) (R : gR) (M13 : gM) (l0_13 : Nat) (s0_13 : Int) (s1_13 : Nat) : Option (Int × gM) :=
  bd (fX10_isThrown ad S Ln R M13 s1_13 s0_13 1) fun q2 => if q2.1 = 0 then (some ((q2.2 l0_13 7, q2.2))) else (some ((0, q2.2)))
def fX10_failedCommand (ad S Ln : Nat → Nat) (R : gR) (M : gM) (a0 : Nat) : Option (Int × gM) :=
  if 0 ≤ (M a0 7) then (fX10_failedCommand_B13 ad S Ln R M a0 0 a0) else (fX10_failedCommand_B13 ad S Ln R M a0 1 a0)
theorem xX10_failedCommand {l : Launch} {G : gE} {sz : Nat} {S Ln : Nat → Nat} {M : gM} {R : gR} (hl : l.stackTraces = false) {a0 : Nat} (hs0 : S a0 = 13) {r : Int × gM} (h : fX10_failedCommand G.2.2.2.2 S Ln R M a0 = some r) : Ct l G yX10_failedCommand cX10_failedCommand 1 (some .int) 2 0 0 [.ref a0] sz S Ln M R (poI r.1 sz S Ln (r.2) R) noX := by
  refine jj_start (own := RX10) (lv0 := [(0, .ref a0)]) hl (by decide +kernel) rfl rfl (c_le rfl) (fun C hCl hC => ?_)
  have hB13 : ∀ (M13 : gM) (l0_13 : Nat) (s0_13 : Int) (s1_13 : Nat), S l0_13 = 13 → (0 ≤ s0_13 ∧ s0_13 ≤ 1) → S s1_13 = 13 → fX10_failedCommand_B13 G.2.2.2.2 S Ln R M13 l0_13 s0_13 s1_13 = some r → JJ G C 0 0 sz S Ln M13 R 13 [(0, .ref l0_13)] [.int (iI s0_13), .ref s1_13] := by
    intro M13 l0_13 s0_13 s1_13 hl0_13 hs0_13 hs1_13 h
    unfold fX10_failedCommand_B13 at h
    refine jj_iconst hC dX10_failedCommand_13 ?_
    obtain ⟨q2, hq2, h⟩ := bd_e h
    refine jj_invV hC mvX10_isThrown wd1791 wd24 wd1789 hs1_13 (by decide) rfl (xX10_isThrown (OKC.tr hC) hs1_13 hs0_13 (show (-2147483648 ≤ (1 : Int) ∧ (1 : Int) < 2147483648) from by decide) hq2) rfl rfl (c_le rfl) (c_le rfl) (c_le rfl) (c_le rfl) dX10_failedCommand_14 noXk (po_kZ (fun hr2 => ?_))
    refine jj_if_eq (tgt := 24) hC dX10_failedCommand_17 rfl (r_z hr2) (fun hc => ?_) (fun hc => ?_)
    · replace h := (if_pos hc).symm.trans h
      refine jj_aload_n hC dX10_failedCommand_24 rfl 0 rfl ?_
      refine jg_I hC kfX10 7 rfl hl0_13 (by decide) wd1716 rfl dX10_failedCommand_25 (fun hr3 => ?_)
      cases h
      exact jj_iret hC (c_le rfl) (c_le rfl) dX10_failedCommand_28 ⟨rfl, hr3, rfl, rfl, rfl, rfl, rfl⟩
    · replace h := (if_neg (hc)).symm.trans h
      refine jj_iconst hC dX10_failedCommand_20 ?_
      refine jj_goto (tgt := 28) hC dX10_failedCommand_21 rfl ?_
      cases h
      exact jj_iret hC (c_le rfl) (c_le rfl) dX10_failedCommand_28 ⟨rfl, (show (-2147483648 ≤ (0 : Int) ∧ (0 : Int) < 2147483648) from by decide), rfl, rfl, rfl, rfl, rfl⟩
  unfold fX10_failedCommand at h
  refine jj_aload_n hC dX10_failedCommand_0 rfl 0 rfl ?_
  refine jj_aload_n hC dX10_failedCommand_1 rfl 0 rfl ?_
  refine jg_I hC kfX10 7 rfl hs0 (by decide) wd1716 rfl dX10_failedCommand_2 (fun hr1 => ?_)
  refine jj_if_ge (tgt := 12) hC dX10_failedCommand_5 rfl hr1 (fun hc => ?_) (fun hc => ?_)
  · replace h := (if_pos hc).symm.trans h
    refine jj_iconst hC dX10_failedCommand_12 ?_
    refine jj_lv (lv' := [(0, .ref a0)]) [0] rfl ?_
    exact hB13 M a0 0 a0 hs0 (show (0 ≤ (0 : Int) ∧ (0 : Int) ≤ 1) from by decide) hs0 h
  · replace h := (if_neg (Int.not_le.mpr hc)).symm.trans h
    refine jj_iconst hC dX10_failedCommand_8 ?_
    refine jj_goto (tgt := 13) hC dX10_failedCommand_9 rfl ?_
    refine jj_lv (lv' := [(0, .ref a0)]) [0] rfl ?_
    exact hB13 M a0 1 a0 hs0 (show (0 ≤ (1 : Int) ∧ (1 : Int) ≤ 1) from by decide) hs0 h
def fX10_undo_B13 (ad S Ln : Nat → Nat) (R : gR) (M13 : gM) (l0_13 : Nat) (s0_13 : Int) (s1_13 : Nat) : Option (Int × gM) :=
  bd (fX10_isThrown ad S Ln R M13 s1_13 s0_13 1) fun q2 => if q2.1 = 0 then (nam (wr q2.2 l0_13 4 (w32 ((q2.2 l0_13 4) - 1))) fun M4 => rf S (R l0_13 3) 20 fun b5 => rf S (R l0_13 0) 20 fun b7 => bd (fX10_copies ad S Ln R M4 b5 (w32 (113 * (M4 l0_13 4))) b7 0) fun q8 => some ((q8 l0_13 4, q8))) else (some ((0, q2.2)))
def fX10_undo (ad S Ln : Nat → Nat) (R : gR) (M : gM) (a0 : Nat) : Option (Int × gM) :=
  if ¬ (M a0 4) = 0 then (fX10_undo_B13 ad S Ln R M a0 0 a0) else (fX10_undo_B13 ad S Ln R M a0 1 a0)
theorem xX10_undo {l : Launch} {G : gE} {sz : Nat} {S Ln : Nat → Nat} {M : gM} {R : gR} (hl : l.stackTraces = false) {a0 : Nat} (hs0 : S a0 = 13) {r : Int × gM} (h : fX10_undo G.2.2.2.2 S Ln R M a0 = some r) : Ct l G yX10_undo cX10_undo 1 (some .int) 2 0 0 [.ref a0] sz S Ln M R (poI r.1 sz S Ln (r.2) R) noX := by
  refine jj_start (own := RX10) (lv0 := [(0, .ref a0)]) hl (by decide +kernel) rfl rfl (c_le rfl) (fun C hCl hC => ?_)
  have hB13 : ∀ (M13 : gM) (l0_13 : Nat) (s0_13 : Int) (s1_13 : Nat), S l0_13 = 13 → (0 ≤ s0_13 ∧ s0_13 ≤ 1) → S s1_13 = 13 → fX10_undo_B13 G.2.2.2.2 S Ln R M13 l0_13 s0_13 s1_13 = some r → JJ G C 0 0 sz S Ln M13 R 13 [(0, .ref l0_13)] [.int (iI s0_13), .ref s1_13] := by
    intro M13 l0_13 s0_13 s1_13 hl0_13 hs0_13 hs1_13 h
    unfold fX10_undo_B13 at h
    refine jj_iconst hC dX10_undo_13 ?_
    obtain ⟨q2, hq2, h⟩ := bd_e h
    refine jj_invV hC mvX10_isThrown wd1791 wd24 wd1789 hs1_13 (by decide) rfl (xX10_isThrown (OKC.tr hC) hs1_13 hs0_13 (show (-2147483648 ≤ (1 : Int) ∧ (1 : Int) < 2147483648) from by decide) hq2) rfl rfl (c_le rfl) (c_le rfl) (c_le rfl) (c_le rfl) dX10_undo_14 noXk (po_kZ (fun hr2 => ?_))
    refine jj_if_eq (tgt := 22) hC dX10_undo_17 rfl (r_z hr2) (fun hc => ?_) (fun hc => ?_)
    · replace h := (if_pos hc).symm.trans h
      refine jj_aload_n hC dX10_undo_22 rfl 0 rfl ?_
      refine jj_dup hC dX10_undo_23 rfl ?_
      refine jg_I hC kfX10 4 rfl hl0_13 (by decide) wd1713 rfl dX10_undo_24 (fun hr3 => ?_)
      refine jj_iconst hC dX10_undo_27 ?_
      refine jg_isub hC dX10_undo_28 ?_
      obtain ⟨M4, hM4, h⟩ := nam_e h
      refine jp_I hC kfX10 4 rfl hl0_13 rfl (by decide) wd1713 rfl rfl rfl (w32_r _) dX10_undo_29 (jj_M hM4 ?_)
      refine jj_aload_n hC dX10_undo_32 rfl 0 rfl ?_
      obtain ⟨b5, hb5, hs5, h⟩ := rf_e h
      refine jg_R hC kfX10 3 rfl hl0_13 (by decide) wd1712 rfl hb5 dX10_undo_33 ?_
      refine jj_bipush hC dX10_undo_36 (by decide) ?_
      refine jj_aload_n hC dX10_undo_38 rfl 0 rfl ?_
      refine jg_I hC kfX10 4 rfl hl0_13 (by decide) wd1713 rfl dX10_undo_39 (fun hr6 => ?_)
      refine jg_imul hC dX10_undo_42 ?_
      refine jj_aload_n hC dX10_undo_43 rfl 0 rfl ?_
      obtain ⟨b7, hb7, hs7, h⟩ := rf_e h
      refine jg_R hC kfX10 0 rfl hl0_13 (by decide) wd1709 rfl hb7 dX10_undo_44 ?_
      refine jj_iconst hC dX10_undo_47 ?_
      obtain ⟨q8, hq8, h⟩ := bd_e h
      refine jj_invS hC mvX10_copies wd1777 wd1776 (xX10_copies (OKC.tr hC) hs5 (w32_r _) hs7 (show (-2147483648 ≤ (0 : Int) ∧ (0 : Int) < 2147483648) from by decide) hq8) rfl rfl (c_le rfl) (c_le rfl) (c_le rfl) (c_le rfl) dX10_undo_48 noXk (po_kV ?_)
      refine jj_aload_n hC dX10_undo_51 rfl 0 rfl ?_
      refine jg_I hC kfX10 4 rfl hl0_13 (by decide) wd1713 rfl dX10_undo_52 (fun hr9 => ?_)
      cases h
      exact jj_iret hC (c_le rfl) (c_le rfl) dX10_undo_55 ⟨rfl, hr9, rfl, rfl, rfl, rfl, rfl⟩
    · replace h := (if_neg (hc)).symm.trans h
      refine jj_iconst hC dX10_undo_20 ?_
      cases h
      exact jj_iret hC (c_le rfl) (c_le rfl) dX10_undo_21 ⟨rfl, (show (-2147483648 ≤ (0 : Int) ∧ (0 : Int) < 2147483648) from by decide), rfl, rfl, rfl, rfl, rfl⟩
  unfold fX10_undo at h
  refine jj_aload_n hC dX10_undo_0 rfl 0 rfl ?_
  refine jj_aload_n hC dX10_undo_1 rfl 0 rfl ?_
  refine jg_I hC kfX10 4 rfl hs0 (by decide) wd1713 rfl dX10_undo_2 (fun hr1 => ?_)
  refine jj_if_ne (tgt := 12) hC dX10_undo_5 rfl hr1 (fun hc => ?_) (fun hc => ?_)
  · replace h := (if_pos hc).symm.trans h
    refine jj_iconst hC dX10_undo_12 ?_
    refine jj_lv (lv' := [(0, .ref a0)]) [0] rfl ?_
    exact hB13 M a0 0 a0 hs0 (show (0 ≤ (0 : Int) ∧ (0 : Int) ≤ 1) from by decide) hs0 h
  · replace h := (if_neg (fun k => k hc)).symm.trans h
    refine jj_iconst hC dX10_undo_8 ?_
    refine jj_goto (tgt := 13) hC dX10_undo_9 rfl ?_
    refine jj_lv (lv' := [(0, .ref a0)]) [0] rfl ?_
    exact hB13 M a0 1 a0 hs0 (show (0 ≤ (1 : Int) ∧ (1 : Int) ≤ 1) from by decide) hs0 h
def fX10_save (ad S Ln : Nat → Nat) (R : gR) (M : gM) (a0 : Nat) : Option gM :=
  nam (wr M a0 5 0) fun M1 => rf S (R a0 0) 20 fun b2 => rf S (R a0 2) 20 fun b3 => bd (fX10_copies ad S Ln R M1 b2 0 b3 0) fun q4 => nam (wr q4 a0 9 1) fun M5 => some (M5)
theorem xX10_save {l : Launch} {G : gE} {sz : Nat} {S Ln : Nat → Nat} {M : gM} {R : gR} (hl : l.stackTraces = false) {a0 : Nat} (hs0 : S a0 = 13) {r : gM} (h : fX10_save G.2.2.2.2 S Ln R M a0 = some r) : Ct l G yX10_save cX10_save 1 none 2 0 0 [.ref a0] sz S Ln M R (poV sz S Ln (r) R) noX := by
  refine jj_start (own := RX10) (lv0 := [(0, .ref a0)]) hl (by decide +kernel) rfl rfl (c_le rfl) (fun C hCl hC => ?_)
  unfold fX10_save at h
  refine jj_aload_n hC dX10_save_0 rfl 0 rfl ?_
  refine jj_iconst hC dX10_save_1 ?_
  obtain ⟨M1, hM1, h⟩ := nam_e h
  refine jp_I hC kfX10 5 rfl hs0 rfl (by decide) wd1714 rfl rfl rfl (show (-2147483648 ≤ (0 : Int) ∧ (0 : Int) < 2147483648) from by decide) dX10_save_2 (jj_M hM1 ?_)
  refine jj_aload_n hC dX10_save_5 rfl 0 rfl ?_
  obtain ⟨b2, hb2, hs2, h⟩ := rf_e h
  refine jg_R hC kfX10 0 rfl hs0 (by decide) wd1709 rfl hb2 dX10_save_6 ?_
  refine jj_iconst hC dX10_save_9 ?_
  refine jj_aload_n hC dX10_save_10 rfl 0 rfl ?_
  obtain ⟨b3, hb3, hs3, h⟩ := rf_e h
  refine jg_R hC kfX10 2 rfl hs0 (by decide) wd1711 rfl hb3 dX10_save_11 ?_
  refine jj_iconst hC dX10_save_14 ?_
  obtain ⟨q4, hq4, h⟩ := bd_e h
  refine jj_invS hC mvX10_copies wd1777 wd1776 (xX10_copies (OKC.tr hC) hs2 (show (-2147483648 ≤ (0 : Int) ∧ (0 : Int) < 2147483648) from by decide) hs3 (show (-2147483648 ≤ (0 : Int) ∧ (0 : Int) < 2147483648) from by decide) hq4) rfl rfl (c_le rfl) (c_le rfl) (c_le rfl) (c_le rfl) dX10_save_15 noXk (po_kV ?_)
  refine jj_aload_n hC dX10_save_18 rfl 0 rfl ?_
  refine jj_iconst hC dX10_save_19 ?_
  obtain ⟨M5, hM5, h⟩ := nam_e h
  refine jp_Z hC kfX10 9 rfl hs0 rfl (by decide) wd1718 rfl rfl rfl (show (0 ≤ (1 : Int) ∧ (1 : Int) ≤ 1) from by decide) dX10_save_20 (jj_M hM5 ?_)
  cases h
  exact jj_vret hC (c_le rfl) (c_le rfl) dX10_save_23 ⟨rfl, trivial, rfl, rfl, rfl, rfl, rfl⟩
def fX10_restore_B13 (ad S Ln : Nat → Nat) (R : gR) (M13 : gM) (l0_13 : Nat) (s0_13 : Int) (s1_13 : Nat) : Option gM :=
  bd (fX10_isThrown ad S Ln R M13 s1_13 s0_13 1) fun q2 => if q2.1 = 0 then (rf S (R l0_13 2) 20 fun b3 => rf S (R l0_13 0) 20 fun b4 => bd (fX10_copies ad S Ln R q2.2 b3 0 b4 0) fun q5 => nam (wr q5 l0_13 4 0) fun M6 => some (M6)) else (some (q2.2))
def fX10_restore (ad S Ln : Nat → Nat) (R : gR) (M : gM) (a0 : Nat) : Option gM :=
  if ¬ (M a0 9) = 0 then (fX10_restore_B13 ad S Ln R M a0 0 a0) else (fX10_restore_B13 ad S Ln R M a0 1 a0)
theorem xX10_restore {l : Launch} {G : gE} {sz : Nat} {S Ln : Nat → Nat} {M : gM} {R : gR} (hl : l.stackTraces = false) {a0 : Nat} (hs0 : S a0 = 13) {r : gM} (h : fX10_restore G.2.2.2.2 S Ln R M a0 = some r) : Ct l G yX10_restore cX10_restore 1 none 2 0 0 [.ref a0] sz S Ln M R (poV sz S Ln (r) R) noX := by
  refine jj_start (own := RX10) (lv0 := [(0, .ref a0)]) hl (by decide +kernel) rfl rfl (c_le rfl) (fun C hCl hC => ?_)
  have hB13 : ∀ (M13 : gM) (l0_13 : Nat) (s0_13 : Int) (s1_13 : Nat), S l0_13 = 13 → (0 ≤ s0_13 ∧ s0_13 ≤ 1) → S s1_13 = 13 → fX10_restore_B13 G.2.2.2.2 S Ln R M13 l0_13 s0_13 s1_13 = some r → JJ G C 0 0 sz S Ln M13 R 13 [(0, .ref l0_13)] [.int (iI s0_13), .ref s1_13] := by
    intro M13 l0_13 s0_13 s1_13 hl0_13 hs0_13 hs1_13 h
    unfold fX10_restore_B13 at h
    refine jj_iconst hC dX10_restore_13 ?_
    obtain ⟨q2, hq2, h⟩ := bd_e h
    refine jj_invV hC mvX10_isThrown wd1791 wd24 wd1789 hs1_13 (by decide) rfl (xX10_isThrown (OKC.tr hC) hs1_13 hs0_13 (show (-2147483648 ≤ (1 : Int) ∧ (1 : Int) < 2147483648) from by decide) hq2) rfl rfl (c_le rfl) (c_le rfl) (c_le rfl) (c_le rfl) dX10_restore_14 noXk (po_kZ (fun hr2 => ?_))
    refine jj_if_eq (tgt := 21) hC dX10_restore_17 rfl (r_z hr2) (fun hc => ?_) (fun hc => ?_)
    · replace h := (if_pos hc).symm.trans h
      refine jj_aload_n hC dX10_restore_21 rfl 0 rfl ?_
      obtain ⟨b3, hb3, hs3, h⟩ := rf_e h
      refine jg_R hC kfX10 2 rfl hl0_13 (by decide) wd1711 rfl hb3 dX10_restore_22 ?_
      refine jj_iconst hC dX10_restore_25 ?_
      refine jj_aload_n hC dX10_restore_26 rfl 0 rfl ?_
      obtain ⟨b4, hb4, hs4, h⟩ := rf_e h
      refine jg_R hC kfX10 0 rfl hl0_13 (by decide) wd1709 rfl hb4 dX10_restore_27 ?_
      refine jj_iconst hC dX10_restore_30 ?_
      obtain ⟨q5, hq5, h⟩ := bd_e h
      refine jj_invS hC mvX10_copies wd1777 wd1776 (xX10_copies (OKC.tr hC) hs3 (show (-2147483648 ≤ (0 : Int) ∧ (0 : Int) < 2147483648) from by decide) hs4 (show (-2147483648 ≤ (0 : Int) ∧ (0 : Int) < 2147483648) from by decide) hq5) rfl rfl (c_le rfl) (c_le rfl) (c_le rfl) (c_le rfl) dX10_restore_31 noXk (po_kV ?_)
      refine jj_aload_n hC dX10_restore_34 rfl 0 rfl ?_
      refine jj_iconst hC dX10_restore_35 ?_
      obtain ⟨M6, hM6, h⟩ := nam_e h
      refine jp_I hC kfX10 4 rfl hl0_13 rfl (by decide) wd1713 rfl rfl rfl (show (-2147483648 ≤ (0 : Int) ∧ (0 : Int) < 2147483648) from by decide) dX10_restore_36 (jj_M hM6 ?_)
      cases h
      exact jj_vret hC (c_le rfl) (c_le rfl) dX10_restore_39 ⟨rfl, trivial, rfl, rfl, rfl, rfl, rfl⟩
    · replace h := (if_neg (hc)).symm.trans h
      cases h
      exact jj_vret hC (c_le rfl) (c_le rfl) dX10_restore_20 ⟨rfl, trivial, rfl, rfl, rfl, rfl, rfl⟩
  unfold fX10_restore at h
  refine jj_aload_n hC dX10_restore_0 rfl 0 rfl ?_
  refine jj_aload_n hC dX10_restore_1 rfl 0 rfl ?_
  refine jg_Z hC kfX10 9 rfl hs0 (by decide) wd1718 rfl dX10_restore_2 (fun hr1 => ?_)
  refine jj_if_ne (tgt := 12) hC dX10_restore_5 rfl (r_z hr1) (fun hc => ?_) (fun hc => ?_)
  · replace h := (if_pos hc).symm.trans h
    refine jj_iconst hC dX10_restore_12 ?_
    refine jj_lv (lv' := [(0, .ref a0)]) [0] rfl ?_
    exact hB13 M a0 0 a0 hs0 (show (0 ≤ (0 : Int) ∧ (0 : Int) ≤ 1) from by decide) hs0 h
  · replace h := (if_neg (fun k => k hc)).symm.trans h
    refine jj_iconst hC dX10_restore_8 ?_
    refine jj_goto (tgt := 13) hC dX10_restore_9 rfl ?_
    refine jj_lv (lv' := [(0, .ref a0)]) [0] rfl ?_
    exact hB13 M a0 1 a0 hs0 (show (0 ≤ (1 : Int) ∧ (1 : Int) ≤ 1) from by decide) hs0 h
