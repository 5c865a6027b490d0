def fX4_dropOldest_L9 (ad S Ln : Nat → Nat) (l0_9 : Nat) (l1_9 : Nat) (s9 : Int × gM × gR) : Option ((Int × gM × gR) ⊕ ((gM × gR) ⊕ (gM × gR))) :=
  if 8 ≤ s9.1 then (some (.inr (.inl (s9.2.1, s9.2.2)))) else (rf S (s9.2.2 l0_9 0) 27 fun b3 => rf S (s9.2.2 l0_9 0) 27 fun b4 => gd ((0 : Int) ≤ s9.1 ∧ s9.1 < (Ln b4 : Int)) (rf S (s9.2.2 b4 s9.1) 11 fun b5 => gd ((0 : Int) ≤ (w32 (s9.1 - 1)) ∧ (w32 (s9.1 - 1)) < (Ln b3 : Int)) (nam (wrR s9.2.2 b3 (w32 (s9.1 - 1)) (some b5)) fun R6 => some (.inl (w32 (s9.1 + 1), s9.2.1, R6)))))
def fX4_dropOldest (ad S Ln : Nat → Nat) (R : gR) (M : gM) (a0 : Nat) : Option (gM × gR) :=
  rf S (R a0 0) 27 fun b1 => gd ((0 : Int) ≤ 0 ∧ 0 < (Ln b1 : Int)) (rf S (R b1 0) 11 fun b2 => bd (lp (fX4_dropOldest_L9 ad S Ln a0 b2) FU (1, M, R)) fun q11 => Sum.elim (fun e9_7 => rf S (e9_7.2 a0 0) 27 fun b8 => gd ((0 : Int) ≤ 7 ∧ 7 < (Ln b8 : Int)) (nam (wrR e9_7.2 b8 7 (some b2)) fun R9 => nam (wr e9_7.1 a0 1 7) fun M10 => some ((M10, R9)))) (fun c11 => some c11) q11)
theorem xX4_dropOldest {l : Launch} {G : gE} {sz : Nat} {S Ln : Nat → Nat} {M : gM} {R : gR} (hl : l.stackTraces = false) {a0 : Nat} (hs0 : S a0 = 9) {r : gM × gR} (h : fX4_dropOldest G.2.2.2.2 S Ln R M a0 = some r) : Ct l G yX4_dropOldest cX4_dropOldest 3 none 1 0 0 [.ref a0] sz S Ln M R (poV sz S Ln (r.1) (r.2)) noX := by
  refine jj_start (own := RX4) (lv0 := [(0, .ref a0)]) hl (by decide +kernel) rfl rfl (c_le rfl) (fun C hCl hC => ?_)
  have hL9 : ∀ (l0_9 : Nat) (l1_9 : Nat), S l0_9 = 9 → S l1_9 = 11 → ∀ (n : Nat) (s9 : Int × gM × gR) (q : (gM × gR) ⊕ (gM × gR)), lp (fX4_dropOldest_L9 G.2.2.2.2 S Ln l0_9 l1_9) n s9 = some q → (-2147483648 ≤ s9.1 ∧ s9.1 < 2147483648) → (∀ e9, q = .inl e9 → True → JJ G C 0 0 sz S Ln e9.1 e9.2 35 [(0, .ref l0_9), (1, .ref l1_9)] []) → (∀ c, q = .inr c → c = r) → JJ G C 0 0 sz S Ln s9.2.1 s9.2.2 9 [(0, .ref l0_9), (1, .ref l1_9), (2, .int (iI s9.1))] [] := by
    intro l0_9 l1_9 hl0_9 hl1_9
    refine lp_ind ?_
    intro s9 r9 hI9 h hJ9 hE9 hR9
    have hs9_0 := hI9
    unfold fX4_dropOldest_L9 at h
    refine jj_iload_n hC dX4_dropOldest_9 rfl 2 rfl ?_
    refine jj_bipush hC dX4_dropOldest_10 (by decide) ?_
    refine jj_icmp_ge (tgt := 35) hC dX4_dropOldest_12 rfl hs9_0 (show (-2147483648 ≤ (8 : Int) ∧ (8 : Int) < 2147483648) from by decide) (fun hc => ?_) (fun hc => ?_)
    · replace h := (if_pos hc).symm.trans h
      refine jj_lv (lv' := [(0, .ref l0_9), (1, .ref l1_9)]) [0, 1] rfl ?_
      exact hE9 _ (Option.some.inj h).symm trivial
    · replace h := (if_neg (Int.not_le.mpr hc)).symm.trans h
      refine jj_aload_n hC dX4_dropOldest_15 rfl 0 rfl ?_
      obtain ⟨b3, hb3, hs3, h⟩ := rf_e h
      refine jg_R hC kfX4 0 rfl hl0_9 (by decide) wd1075 rfl hb3 dX4_dropOldest_16 ?_
      refine jj_iload_n hC dX4_dropOldest_19 rfl 2 rfl ?_
      refine jj_iconst hC dX4_dropOldest_20 ?_
      refine jg_isub hC dX4_dropOldest_21 ?_
      refine jj_aload_n hC dX4_dropOldest_22 rfl 0 rfl ?_
      obtain ⟨b4, hb4, hs4, h⟩ := rf_e h
      refine jg_R hC kfX4 0 rfl hl0_9 (by decide) wd1075 rfl hb4 dX4_dropOldest_23 ?_
      refine jj_iload_n hC dX4_dropOldest_26 rfl 2 rfl ?_
      obtain ⟨⟨ha5, hb5⟩, h⟩ := gd_e h
      obtain ⟨b5, hd5, hs5, h⟩ := rf_e h
      refine jj_aald hC hs4 (by decide) ha5 hb5 hd5 dX4_dropOldest_27 ?_
      obtain ⟨⟨ha6, hb6⟩, h⟩ := gd_e h
      obtain ⟨R6, hR96, h⟩ := nam_e h
      refine jj_aast (t := 7) hC hs3 (by decide) rfl (fun _ => rfl) rfl hs5 (by decide) (by decide) rfl ha6 hb6 dX4_dropOldest_28 (jj_R hR96 ?_)
      refine jg_iinc (q := 2) (lv' := [(2, .int (iI (w32 (s9.1 + 1)))), (0, .ref l0_9), (1, .ref l1_9)]) hC dX4_dropOldest_29 rfl (by decide) rfl ?_
      refine jj_goto (tgt := 9) hC dX4_dropOldest_32 rfl ?_
      refine jj_lv (lv' := [(0, .ref l0_9), (1, .ref l1_9), (2, .int (iI (w32 (s9.1 + 1))))]) [1, 2, 0] rfl ?_
      exact hJ9 _ (Option.some.inj h).symm (w32_r _)
  unfold fX4_dropOldest at h
  refine jj_aload_n hC dX4_dropOldest_0 rfl 0 rfl ?_
  obtain ⟨b1, hb1, hs1, h⟩ := rf_e h
  refine jg_R hC kfX4 0 rfl hs0 (by decide) wd1075 rfl hb1 dX4_dropOldest_1 ?_
  refine jj_iconst hC dX4_dropOldest_4 ?_
  obtain ⟨⟨ha2, hb2⟩, h⟩ := gd_e h
  obtain ⟨b2, hd2, hs2, h⟩ := rf_e h
  refine jj_aald hC hs1 (by decide) ha2 hb2 hd2 dX4_dropOldest_5 ?_
  refine jj_astore_n (lv' := [(1, .ref b2), (0, .ref a0)]) hC dX4_dropOldest_6 rfl (by decide) rfl ?_
  refine jj_iconst hC dX4_dropOldest_7 ?_
  refine jj_istore_n (lv' := [(2, .int (iI 1)), (1, .ref b2), (0, .ref a0)]) hC dX4_dropOldest_8 rfl (by decide) rfl ?_
  obtain ⟨q11, hq11, h⟩ := bd_e h
  refine jj_lv (lv' := [(0, .ref a0), (1, .ref b2), (2, .int (iI 1))]) [2, 1, 0] rfl ?_
  refine hL9 a0 b2 hs0 hs2 FU _ q11 hq11 (show (-2147483648 ≤ (1 : Int) ∧ (1 : Int) < 2147483648) from by decide) (fun e9_7 he11 hIE11 => ?_) (fun c11 hc11 => ?_)
  · subst he11
    replace h := el_l h
    refine jj_aload_n hC dX4_dropOldest_35 rfl 0 rfl ?_
    obtain ⟨b8, hb8, hs8, h⟩ := rf_e h
    refine jg_R hC kfX4 0 rfl hs0 (by decide) wd1075 rfl hb8 dX4_dropOldest_36 ?_
    refine jj_bipush hC dX4_dropOldest_39 (by decide) ?_
    refine jj_aload_n hC dX4_dropOldest_41 rfl 1 rfl ?_
    obtain ⟨⟨ha9, hb9⟩, h⟩ := gd_e h
    obtain ⟨R9, hR99, h⟩ := nam_e h
    refine jj_aast (t := 7) hC hs8 (by decide) rfl (fun _ => rfl) rfl hs2 (by decide) (by decide) rfl ha9 hb9 dX4_dropOldest_42 (jj_R hR99 ?_)
    refine jj_aload_n hC dX4_dropOldest_43 rfl 0 rfl ?_
    refine jj_bipush hC dX4_dropOldest_44 (by decide) ?_
    obtain ⟨M10, hM10, h⟩ := nam_e h
    refine jp_I hC kfX4 1 rfl hs0 rfl (by decide) wd1076 rfl rfl rfl (show (-2147483648 ≤ (7 : Int) ∧ (7 : Int) < 2147483648) from by decide) dX4_dropOldest_46 (jj_M hM10 ?_)
    cases h
    exact jj_vret hC (c_le rfl) (c_le rfl) dX4_dropOldest_49 ⟨rfl, trivial, rfl, rfl, rfl, rfl, rfl⟩
  · subst hc11
    replace h := el_r h
    exact Option.some.inj h
def fX4_keep_B13 (ad S Ln : Nat → Nat) (R13 : gR) (M13 : gM) (l0_13 : Nat) (l1_13 : Nat) : Option (gM × gR) :=
  rf S (R13 l0_13 0) 27 fun b2 => gd ((0 : Int) ≤ (M13 l0_13 1) ∧ (M13 l0_13 1) < (Ln b2 : Int)) (rf S (R13 b2 (M13 l0_13 1)) 11 fun b4 => bd (fX8_copyFrom ad S Ln R13 M13 b4 l1_13) fun q5 => nam (wr q5 l0_13 1 (w32 ((q5 l0_13 1) + 1))) fun M7 => some ((M7, R13)))
def fX4_keep (ad S Ln : Nat → Nat) (R : gR) (M : gM) (a0 : Nat) (x1 : Nat) : Option (gM × gR) :=
  if (M a0 1) < 8 then (fX4_keep_B13 ad S Ln R M a0 x1) else (bd (fX4_dropOldest ad S Ln R M a0) fun q8 => fX4_keep_B13 ad S Ln q8.2 q8.1 a0 x1)
theorem xX4_keep {l : Launch} {G : gE} {sz : Nat} {S Ln : Nat → Nat} {M : gM} {R : gR} (hl : l.stackTraces = false) {a0 : Nat} (hs0 : S a0 = 9) {x1 : Nat} (hp1 : S x1 = 11) {r : gM × gR} (h : fX4_keep G.2.2.2.2 S Ln R M a0 x1 = some r) : Ct l G yX4_keep cX4_keep 2 none 3 0 0 [.ref a0, .ref x1] sz S Ln M R (poV sz S Ln (r.1) (r.2)) noX := by
  refine jj_start (own := RX4) (lv0 := [(0, .ref a0), (1, .ref x1)]) hl (by decide +kernel) rfl rfl (c_le rfl) (fun C hCl hC => ?_)
  have hB13 : ∀ (M13 : gM) (R13 : gR) (l0_13 : Nat) (l1_13 : Nat), S l0_13 = 9 → S l1_13 = 11 → fX4_keep_B13 G.2.2.2.2 S Ln R13 M13 l0_13 l1_13 = some r → JJ G C 0 0 sz S Ln M13 R13 13 [(0, .ref l0_13), (1, .ref l1_13)] [] := by
    intro M13 R13 l0_13 l1_13 hl0_13 hl1_13 h
    unfold fX4_keep_B13 at h
    refine jj_aload_n hC dX4_keep_13 rfl 0 rfl ?_
    obtain ⟨b2, hb2, hs2, h⟩ := rf_e h
    refine jg_R hC kfX4 0 rfl hl0_13 (by decide) wd1075 rfl hb2 dX4_keep_14 ?_
    refine jj_aload_n hC dX4_keep_17 rfl 0 rfl ?_
    refine jg_I hC kfX4 1 rfl hl0_13 (by decide) wd1076 rfl dX4_keep_18 (fun hr3 => ?_)
    obtain ⟨⟨ha4, hb4⟩, h⟩ := gd_e h
    obtain ⟨b4, hd4, hs4, h⟩ := rf_e h
    refine jj_aald hC hs2 (by decide) ha4 hb4 hd4 dX4_keep_21 ?_
    refine jj_aload_n hC dX4_keep_22 rfl 1 rfl ?_
    obtain ⟨q5, hq5, h⟩ := bd_e h
    refine jj_invV hC mvX8_copyFrom wd511 wd512 wd553 hs4 (by decide) rfl (xX8_copyFrom (OKC.tr hC) hs4 hl1_13 hq5) rfl rfl (c_le rfl) (c_le rfl) (c_le rfl) (c_le rfl) dX4_keep_23 noXk (po_kV ?_)
    refine jj_aload_n hC dX4_keep_26 rfl 0 rfl ?_
    refine jj_dup hC dX4_keep_27 rfl ?_
    refine jg_I hC kfX4 1 rfl hl0_13 (by decide) wd1076 rfl dX4_keep_28 (fun hr6 => ?_)
    refine jj_iconst hC dX4_keep_31 ?_
    refine jg_iadd hC dX4_keep_32 ?_
    obtain ⟨M7, hM7, h⟩ := nam_e h
    refine jp_I hC kfX4 1 rfl hl0_13 rfl (by decide) wd1076 rfl rfl rfl (w32_r _) dX4_keep_33 (jj_M hM7 ?_)
    cases h
    exact jj_vret hC (c_le rfl) (c_le rfl) dX4_keep_36 ⟨rfl, trivial, rfl, rfl, rfl, rfl, rfl⟩
  unfold fX4_keep at h
  refine jj_aload_n hC dX4_keep_0 rfl 0 rfl ?_
  refine jg_I hC kfX4 1 rfl hs0 (by decide) wd1076 rfl dX4_keep_1 (fun hr1 => ?_)
  refine jj_bipush hC dX4_keep_4 (by decide) ?_
  refine jj_icmp_lt (tgt := 13) hC dX4_keep_6 rfl hr1 (show (-2147483648 ≤ (8 : Int) ∧ (8 : Int) < 2147483648) from by decide) (fun hc => ?_) (fun hc => ?_)
  · replace h := (if_pos hc).symm.trans h
    refine jj_lv (lv' := [(0, .ref a0), (1, .ref x1)]) [0, 1] rfl ?_
    exact hB13 M R a0 x1 hs0 hp1 h
  · replace h := (if_neg (Int.not_lt.mpr hc)).symm.trans h
    refine jj_aload_n hC dX4_keep_9 rfl 0 rfl ?_
    obtain ⟨q8, hq8, h⟩ := bd_e h
    refine jj_invV hC mvX4_dropOldest wd550 wd3 wd548 hs0 (by decide) rfl (xX4_dropOldest (OKC.tr hC) hs0 hq8) rfl rfl (c_le rfl) (c_le rfl) (c_le rfl) (c_le rfl) dX4_keep_10 noXk (po_kV ?_)
    refine jj_lv (lv' := [(0, .ref a0), (1, .ref x1)]) [0, 1] rfl ?_
    exact hB13 q8.1 q8.2 a0 x1 hs0 hp1 h
def fX4_takeBack (ad S Ln : Nat → Nat) (R : gR) (M : gM) (a0 : Nat) (x1 : Nat) : Option gM :=
  if (M a0 1) ≤ 0 then (some (M)) else (nam (wr M a0 1 (w32 ((M a0 1) - 1))) fun M3 => rf S (R a0 0) 27 fun b4 => gd ((0 : Int) ≤ (M3 a0 1) ∧ (M3 a0 1) < (Ln b4 : Int)) (rf S (R b4 (M3 a0 1)) 11 fun b6 => bd (fX8_copyFrom ad S Ln R M3 x1 b6) fun q7 => some (q7)))
theorem xX4_takeBack {l : Launch} {G : gE} {sz : Nat} {S Ln : Nat → Nat} {M : gM} {R : gR} (hl : l.stackTraces = false) {a0 : Nat} (hs0 : S a0 = 9) {x1 : Nat} (hp1 : S x1 = 11) {r : gM} (h : fX4_takeBack G.2.2.2.2 S Ln R M a0 x1 = some r) : Ct l G yX4_takeBack cX4_takeBack 2 none 3 0 0 [.ref a0, .ref x1] sz S Ln M R (poV sz S Ln (r) R) noX := by
  refine jj_start (own := RX4) (lv0 := [(0, .ref a0), (1, .ref x1)]) hl (by decide +kernel) rfl rfl (c_le rfl) (fun C hCl hC => ?_)
  unfold fX4_takeBack at h
  refine jj_aload_n hC dX4_takeBack_0 rfl 0 rfl ?_
  refine jg_I hC kfX4 1 rfl hs0 (by decide) wd1076 rfl dX4_takeBack_1 (fun hr1 => ?_)
  refine jj_if_le (tgt := 30) hC dX4_takeBack_4 rfl hr1 (fun hc => ?_) (fun hc => ?_)
  · replace h := (if_pos hc).symm.trans h
    cases h
    exact jj_vret hC (c_le rfl) (c_le rfl) dX4_takeBack_30 ⟨rfl, trivial, rfl, rfl, rfl, rfl, rfl⟩
  · replace h := (if_neg (Int.not_le.mpr hc)).symm.trans h
    refine jj_aload_n hC dX4_takeBack_7 rfl 0 rfl ?_
    refine jj_dup hC dX4_takeBack_8 rfl ?_
    refine jg_I hC kfX4 1 rfl hs0 (by decide) wd1076 rfl dX4_takeBack_9 (fun hr2 => ?_)
    refine jj_iconst hC dX4_takeBack_12 ?_
    refine jg_isub hC dX4_takeBack_13 ?_
    obtain ⟨M3, hM3, h⟩ := nam_e h
    refine jp_I hC kfX4 1 rfl hs0 rfl (by decide) wd1076 rfl rfl rfl (w32_r _) dX4_takeBack_14 (jj_M hM3 ?_)
    refine jj_aload_n hC dX4_takeBack_17 rfl 1 rfl ?_
    refine jj_aload_n hC dX4_takeBack_18 rfl 0 rfl ?_
    obtain ⟨b4, hb4, hs4, h⟩ := rf_e h
    refine jg_R hC kfX4 0 rfl hs0 (by decide) wd1075 rfl hb4 dX4_takeBack_19 ?_
    refine jj_aload_n hC dX4_takeBack_22 rfl 0 rfl ?_
    refine jg_I hC kfX4 1 rfl hs0 (by decide) wd1076 rfl dX4_takeBack_23 (fun hr5 => ?_)
    obtain ⟨⟨ha6, hb6⟩, h⟩ := gd_e h
    obtain ⟨b6, hd6, hs6, h⟩ := rf_e h
    refine jj_aald hC hs4 (by decide) ha6 hb6 hd6 dX4_takeBack_26 ?_
    obtain ⟨q7, hq7, h⟩ := bd_e h
    refine jj_invV hC mvX8_copyFrom wd511 wd512 wd553 hp1 (by decide) rfl (xX8_copyFrom (OKC.tr hC) hp1 hs6 hq7) rfl rfl (c_le rfl) (c_le rfl) (c_le rfl) (c_le rfl) dX4_takeBack_27 noXk (po_kV ?_)
    cases h
    exact jj_vret hC (c_le rfl) (c_le rfl) dX4_takeBack_30 ⟨rfl, trivial, rfl, rfl, rfl, rfl, rfl⟩
