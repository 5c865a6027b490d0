def fX8_copyFrom_L35 (ad S Ln : Nat → Nat) (R : gR) (l0_35 : Nat) (l1_35 : Nat) (s35 : Int × gM) : Option ((Int × gM) ⊕ ((gM) ⊕ (gM))) :=
  if 6 ≤ s35.1 then (some (.inr (.inl s35.2))) else (rf S (R l0_35 3) 26 fun b10 => gd ((0 : Int) ≤ s35.1 ∧ s35.1 < (Ln b10 : Int)) (rf S (R b10 s35.1) 8 fun b11 => rf S (R l1_35 3) 26 fun b12 => gd ((0 : Int) ≤ s35.1 ∧ s35.1 < (Ln b12 : Int)) (rf S (R b12 s35.1) 8 fun b13 => bd (fX3_copyFrom ad S Ln R s35.2 b11 b13) fun q14 => some (.inl (w32 (s35.1 + 1), q14)))))
def fX8_copyFrom (ad S Ln : Nat → Nat) (R : gR) (M : gM) (a0 : Nat) (x1 : Nat) : Option gM :=
  rf S (R a0 0) 7 fun b1 => rf S (R x1 0) 7 fun b2 => bd (fX2_copyFrom ad S Ln R M b1 b2) fun q3 => rf S (R a0 1) 5 fun b4 => rf S (R x1 1) 5 fun b5 => bd (fX0_copyFrom ad S Ln R q3 b4 b5) fun q6 => rf S (R a0 2) 6 fun b7 => rf S (R x1 2) 6 fun b8 => bd (fX1_copyFrom ad S Ln R q6 b7 b8) fun q9 => bd (lp (fX8_copyFrom_L35 ad S Ln R a0 x1) FU (0, q9)) fun q20 => Sum.elim (fun e35_15 => nam (wr e35_15 a0 4 (e35_15 x1 4)) fun M17 => nam (wr M17 a0 5 (M17 x1 5)) fun M19 => some (M19)) (fun c20 => some c20) q20
theorem xX8_copyFrom {l : Launch} {G : gE} {sz : Nat} {S Ln : Nat → Nat} {M : gM} {R : gR} (hl : l.stackTraces = false) {a0 : Nat} (hs0 : S a0 = 11) {x1 : Nat} (hp1 : S x1 = 11) {r : gM} (h : fX8_copyFrom G.2.2.2.2 S Ln R M a0 x1 = some r) : Ct l G yX8_copyFrom cX8_copyFrom 3 none 2 0 0 [.ref a0, .ref x1] sz S Ln M R (poV sz S Ln (r) R) noX := by
  refine jj_start (own := RX8) (lv0 := [(0, .ref a0), (1, .ref x1)]) hl (by decide +kernel) rfl rfl (c_le rfl) (fun C hCl hC => ?_)
  have hL35 : ∀ (l0_35 : Nat) (l1_35 : Nat), S l0_35 = 11 → S l1_35 = 11 → ∀ (n : Nat) (s35 : Int × gM) (q : (gM) ⊕ (gM)), lp (fX8_copyFrom_L35 G.2.2.2.2 S Ln R l0_35 l1_35) n s35 = some q → (-2147483648 ≤ s35.1 ∧ s35.1 < 2147483648) → (∀ e35, q = .inl e35 → True → JJ G C 0 0 sz S Ln e35 R 62 [(0, .ref l0_35), (1, .ref l1_35)] []) → (∀ c, q = .inr c → c = r) → JJ G C 0 0 sz S Ln s35.2 R 35 [(0, .ref l0_35), (1, .ref l1_35), (2, .int (iI s35.1))] [] := by
    intro l0_35 l1_35 hl0_35 hl1_35
    refine lp_ind ?_
    intro s35 r35 hI35 h hJ35 hE35 hR35
    have hs35_0 := hI35
    unfold fX8_copyFrom_L35 at h
    refine jj_iload_n hC dX8_copyFrom_35 rfl 2 rfl ?_
    refine jj_bipush hC dX8_copyFrom_36 (by decide) ?_
    refine jj_icmp_ge (tgt := 62) hC dX8_copyFrom_38 rfl hs35_0 (show (-2147483648 ≤ (6 : Int) ∧ (6 : Int) < 2147483648) from by decide) (fun hc => ?_) (fun hc => ?_)
    · replace h := (if_pos hc).symm.trans h
      refine jj_lv (lv' := [(0, .ref l0_35), (1, .ref l1_35)]) [0, 1] rfl ?_
      exact hE35 _ (Option.some.inj h).symm trivial
    · replace h := (if_neg (Int.not_le.mpr hc)).symm.trans h
      refine jj_aload_n hC dX8_copyFrom_41 rfl 0 rfl ?_
      obtain ⟨b10, hb10, hs10, h⟩ := rf_e h
      refine jg_R hC kfX8 3 rfl hl0_35 (by decide) wd1042 rfl hb10 dX8_copyFrom_42 ?_
      refine jj_iload_n hC dX8_copyFrom_45 rfl 2 rfl ?_
      obtain ⟨⟨ha11, hb11⟩, h⟩ := gd_e h
      obtain ⟨b11, hd11, hs11, h⟩ := rf_e h
      refine jj_aald hC hs10 (by decide) ha11 hb11 hd11 dX8_copyFrom_46 ?_
      refine jj_aload_n hC dX8_copyFrom_47 rfl 1 rfl ?_
      obtain ⟨b12, hb12, hs12, h⟩ := rf_e h
      refine jg_R hC kfX8 3 rfl hl1_35 (by decide) wd1042 rfl hb12 dX8_copyFrom_48 ?_
      refine jj_iload_n hC dX8_copyFrom_51 rfl 2 rfl ?_
      obtain ⟨⟨ha13, hb13⟩, h⟩ := gd_e h
      obtain ⟨b13, hd13, hs13, h⟩ := rf_e h
      refine jj_aald hC hs12 (by decide) ha13 hb13 hd13 dX8_copyFrom_52 ?_
      obtain ⟨q14, hq14, h⟩ := bd_e h
      refine jj_invV hC mvX3_copyFrom wd530 wd531 wd529 hs11 (by decide) rfl (xX3_copyFrom (OKC.tr hC) hs11 hs13 hq14) rfl rfl (c_le rfl) (c_le rfl) (c_le rfl) (c_le rfl) dX8_copyFrom_53 noXk (po_kV ?_)
      refine jg_iinc (q := 2) (lv' := [(2, .int (iI (w32 (s35.1 + 1)))), (0, .ref l0_35), (1, .ref l1_35)]) hC dX8_copyFrom_56 rfl (by decide) rfl ?_
      refine jj_goto (tgt := 35) hC dX8_copyFrom_59 rfl ?_
      refine jj_lv (lv' := [(0, .ref l0_35), (1, .ref l1_35), (2, .int (iI (w32 (s35.1 + 1))))]) [1, 2, 0] rfl ?_
      exact hJ35 _ (Option.some.inj h).symm (w32_r _)
  unfold fX8_copyFrom at h
  refine jj_aload_n hC dX8_copyFrom_0 rfl 0 rfl ?_
  obtain ⟨b1, hb1, hs1, h⟩ := rf_e h
  refine jg_R hC kfX8 0 rfl hs0 (by decide) wd1036 rfl hb1 dX8_copyFrom_1 ?_
  refine jj_aload_n hC dX8_copyFrom_4 rfl 1 rfl ?_
  obtain ⟨b2, hb2, hs2, h⟩ := rf_e h
  refine jg_R hC kfX8 0 rfl hp1 (by decide) wd1036 rfl hb2 dX8_copyFrom_5 ?_
  obtain ⟨q3, hq3, h⟩ := bd_e h
  refine jj_invV hC mvX2_copyFrom wd515 wd516 wd514 hs1 (by decide) rfl (xX2_copyFrom (OKC.tr hC) hs1 hs2 hq3) rfl rfl (c_le rfl) (c_le rfl) (c_le rfl) (c_le rfl) dX8_copyFrom_8 noXk (po_kV ?_)
  refine jj_aload_n hC dX8_copyFrom_11 rfl 0 rfl ?_
  obtain ⟨b4, hb4, hs4, h⟩ := rf_e h
  refine jg_R hC kfX8 1 rfl hs0 (by decide) wd1038 rfl hb4 dX8_copyFrom_12 ?_
  refine jj_aload_n hC dX8_copyFrom_15 rfl 1 rfl ?_
  obtain ⟨b5, hb5, hs5, h⟩ := rf_e h
  refine jg_R hC kfX8 1 rfl hp1 (by decide) wd1038 rfl hb5 dX8_copyFrom_16 ?_
  obtain ⟨q6, hq6, h⟩ := bd_e h
  refine jj_invV hC mvX0_copyFrom wd520 wd521 wd519 hs4 (by decide) rfl (xX0_copyFrom (OKC.tr hC) hs4 hs5 hq6) rfl rfl (c_le rfl) (c_le rfl) (c_le rfl) (c_le rfl) dX8_copyFrom_19 noXk (po_kV ?_)
  refine jj_aload_n hC dX8_copyFrom_22 rfl 0 rfl ?_
  obtain ⟨b7, hb7, hs7, h⟩ := rf_e h
  refine jg_R hC kfX8 2 rfl hs0 (by decide) wd1040 rfl hb7 dX8_copyFrom_23 ?_
  refine jj_aload_n hC dX8_copyFrom_26 rfl 1 rfl ?_
  obtain ⟨b8, hb8, hs8, h⟩ := rf_e h
  refine jg_R hC kfX8 2 rfl hp1 (by decide) wd1040 rfl hb8 dX8_copyFrom_27 ?_
  obtain ⟨q9, hq9, h⟩ := bd_e h
  refine jj_invV hC mvX1_copyFrom wd525 wd526 wd524 hs7 (by decide) rfl (xX1_copyFrom (OKC.tr hC) hs7 hs8 hq9) rfl rfl (c_le rfl) (c_le rfl) (c_le rfl) (c_le rfl) dX8_copyFrom_30 noXk (po_kV ?_)
  refine jj_iconst hC dX8_copyFrom_33 ?_
  refine jj_istore_n (lv' := [(2, .int (iI 0)), (0, .ref a0), (1, .ref x1)]) hC dX8_copyFrom_34 rfl (by decide) rfl ?_
  obtain ⟨q20, hq20, h⟩ := bd_e h
  refine jj_lv (lv' := [(0, .ref a0), (1, .ref x1), (2, .int (iI 0))]) [1, 2, 0] rfl ?_
  refine hL35 a0 x1 hs0 hp1 FU _ q20 hq20 (show (-2147483648 ≤ (0 : Int) ∧ (0 : Int) < 2147483648) from by decide) (fun e35_15 he20 hIE20 => ?_) (fun c20 hc20 => ?_)
  · subst he20
    replace h := el_l h
    refine jj_aload_n hC dX8_copyFrom_62 rfl 0 rfl ?_
    refine jj_aload_n hC dX8_copyFrom_63 rfl 1 rfl ?_
    refine jg_I hC kfX8 4 rfl hp1 (by decide) wd1044 rfl dX8_copyFrom_64 (fun hr16 => ?_)
    obtain ⟨M17, hM17, h⟩ := nam_e h
    refine jp_I hC kfX8 4 rfl hs0 rfl (by decide) wd1044 rfl rfl rfl hr16 dX8_copyFrom_67 (jj_M hM17 ?_)
    refine jj_aload_n hC dX8_copyFrom_70 rfl 0 rfl ?_
    refine jj_aload_n hC dX8_copyFrom_71 rfl 1 rfl ?_
    refine jg_I hC kfX8 5 rfl hp1 (by decide) wd1046 rfl dX8_copyFrom_72 (fun hr18 => ?_)
    obtain ⟨M19, hM19, h⟩ := nam_e h
    refine jp_I hC kfX8 5 rfl hs0 rfl (by decide) wd1046 rfl rfl rfl hr18 dX8_copyFrom_75 (jj_M hM19 ?_)
    cases h
    exact jj_vret hC (c_le rfl) (c_le rfl) dX8_copyFrom_78 ⟨rfl, trivial, rfl, rfl, rfl, rfl, rfl⟩
  · subst hc20
    replace h := el_r h
    exact Option.some.inj h
def fX8_hasPilot (ad S Ln : Nat → Nat) (R : gR) (M : gM) (a0 : Nat) (x1 : Int) : Option Int :=
  if x1 < 0 then (some (0)) else (if (M a0 4) ≤ x1 then (some (0)) else (some (1)))
theorem xX8_hasPilot {l : Launch} {G : gE} {sz : Nat} {S Ln : Nat → Nat} {M : gM} {R : gR} (hl : l.stackTraces = false) {a0 : Nat} (hs0 : S a0 = 11) {x1 : Int} (hp1 : (-2147483648 ≤ x1 ∧ x1 < 2147483648)) {r : Int} (h : fX8_hasPilot G.2.2.2.2 S Ln R M a0 x1 = some r) : Ct l G yX8_hasPilot cX8_hasPilot 2 (some .boolean) 1 0 0 [.ref a0, .int (iI x1)] sz S Ln M R (poZ r sz S Ln (M) R) noX := by
  refine jj_start (own := RX8) (lv0 := [(0, .ref a0), (1, .int (iI x1))]) hl (by decide +kernel) rfl rfl (c_le rfl) (fun C hCl hC => ?_)
  unfold fX8_hasPilot at h
  refine jj_iload_n hC dX8_hasPilot_0 rfl 1 rfl ?_
  refine jj_if_lt (tgt := 16) hC dX8_hasPilot_1 rfl hp1 (fun hc => ?_) (fun hc => ?_)
  · replace h := (if_pos hc).symm.trans h
    refine jj_iconst hC dX8_hasPilot_16 ?_
    cases h
    exact jj_zret hC (show (0 ≤ (0 : Int) ∧ (0 : Int) ≤ 1) from by decide) (c_le rfl) (c_le rfl) dX8_hasPilot_17 ⟨rfl, (show (0 ≤ (0 : Int) ∧ (0 : Int) ≤ 1) from by decide), rfl, rfl, rfl, rfl, rfl⟩
  · replace h := (if_neg (Int.not_lt.mpr hc)).symm.trans h
    refine jj_iload_n hC dX8_hasPilot_4 rfl 1 rfl ?_
    refine jj_aload_n hC dX8_hasPilot_5 rfl 0 rfl ?_
    refine jg_I hC kfX8 4 rfl hs0 (by decide) wd1044 rfl dX8_hasPilot_6 (fun hr1 => ?_)
    refine jj_icmp_ge (tgt := 16) hC dX8_hasPilot_9 rfl hp1 hr1 (fun hc => ?_) (fun hc => ?_)
    · replace h := (if_pos hc).symm.trans h
      refine jj_iconst hC dX8_hasPilot_16 ?_
      cases h
      exact jj_zret hC (show (0 ≤ (0 : Int) ∧ (0 : Int) ≤ 1) from by decide) (c_le rfl) (c_le rfl) dX8_hasPilot_17 ⟨rfl, (show (0 ≤ (0 : Int) ∧ (0 : Int) ≤ 1) from by decide), rfl, rfl, rfl, rfl, rfl⟩
    · replace h := (if_neg (Int.not_le.mpr hc)).symm.trans h
      refine jj_iconst hC dX8_hasPilot_12 ?_
      refine jj_goto (tgt := 17) hC dX8_hasPilot_13 rfl ?_
      cases h
      exact jj_zret hC (show (0 ≤ (1 : Int) ∧ (1 : Int) ≤ 1) from by decide) (c_le rfl) (c_le rfl) dX8_hasPilot_17 ⟨rfl, (show (0 ≤ (1 : Int) ∧ (1 : Int) ≤ 1) from by decide), rfl, rfl, rfl, rfl, rfl⟩
def fX8_countInPhase_B28 (ad S Ln : Nat → Nat) (R : gR) (M : gM) (l0_4 : Nat) (l1_4 : Int) (l2_28 : Int) (l3_28 : Int) : Option ((Int × Int) ⊕ ((Int) ⊕ (Int))) :=
  some (.inl (l2_28, w32 (l3_28 + 1)))
def fX8_countInPhase_L4 (ad S Ln : Nat → Nat) (R : gR) (M : gM) (l0_4 : Nat) (l1_4 : Int) (s4 : Int × Int) : Option ((Int × Int) ⊕ ((Int) ⊕ (Int))) :=
  if (M l0_4 4) ≤ s4.2 then (some (.inr (.inl s4.1))) else (rf S (R l0_4 3) 26 fun b2 => gd ((0 : Int) ≤ s4.2 ∧ s4.2 < (Ln b2 : Int)) (rf S (R b2 s4.2) 8 fun b3 => gd (0 ≤ M b3 1) (if ¬ (M b3 1) = l1_4 then (fX8_countInPhase_B28 ad S Ln R M l0_4 l1_4 s4.1 s4.2) else (fX8_countInPhase_B28 ad S Ln R M l0_4 l1_4 (w32 (s4.1 + 1)) s4.2))))
def fX8_countInPhase (ad S Ln : Nat → Nat) (R : gR) (M : gM) (a0 : Nat) (x1 : Int) : Option Int :=
  bd (lp (fX8_countInPhase_L4 ad S Ln R M a0 x1) FU (0, 0)) fun q6 => Sum.elim (fun e4_5 => some (e4_5)) (fun c6 => some c6) q6
theorem xX8_countInPhase {l : Launch} {G : gE} {sz : Nat} {S Ln : Nat → Nat} {M : gM} {R : gR} (hl : l.stackTraces = false) {a0 : Nat} (hs0 : S a0 = 11) {x1 : Int} (hp1 : (0 ≤ x1 ∧ x1 < 9)) {r : Int} (h : fX8_countInPhase G.2.2.2.2 S Ln R M a0 x1 = some r) : Ct l G yX8_countInPhase cX8_countInPhase 4 (some .int) 1 0 0 [.ref a0, .ref (G.2.2.2.2 x1.toNat)] sz S Ln M R (poI r sz S Ln (M) R) noX := by
  refine jj_start (own := RX8) (lv0 := [(0, .ref a0), (1, .ref (G.2.2.2.2 x1.toNat))]) hl (by decide +kernel) rfl rfl (c_le rfl) (fun C hCl hC => ?_)
  have hL4 : ∀ (l0_4 : Nat) (l1_4 : Int), S l0_4 = 11 → (0 ≤ l1_4 ∧ l1_4 < 9) → ∀ (n : Nat) (s4 : Int × Int) (q : (Int) ⊕ (Int)), lp (fX8_countInPhase_L4 G.2.2.2.2 S Ln R M l0_4 l1_4) n s4 = some q → (-2147483648 ≤ s4.1 ∧ s4.1 < 2147483648) ∧ (-2147483648 ≤ s4.2 ∧ s4.2 < 2147483648) → (∀ e4, q = .inl e4 → (-2147483648 ≤ e4 ∧ e4 < 2147483648) → JJ G C 0 0 sz S Ln M R 34 [(2, .int (iI e4))] []) → (∀ c, q = .inr c → c = r) → JJ G C 0 0 sz S Ln M R 4 [(0, .ref l0_4), (1, .ref (G.2.2.2.2 l1_4.toNat)), (2, .int (iI s4.1)), (3, .int (iI s4.2))] [] := by
    intro l0_4 l1_4 hl0_4 hl1_4
    refine lp_ind ?_
    intro s4 r4 hI4 h hJ4 hE4 hR4
    obtain ⟨hs4_0, hs4_1⟩ := hI4
    have hB28 : ∀ (l2_28 : Int) (l3_28 : Int), (-2147483648 ≤ l2_28 ∧ l2_28 < 2147483648) → (-2147483648 ≤ l3_28 ∧ l3_28 < 2147483648) → fX8_countInPhase_B28 G.2.2.2.2 S Ln R M l0_4 l1_4 l2_28 l3_28 = some r4 → JJ G C 0 0 sz S Ln M R 28 [(0, .ref l0_4), (1, .ref (G.2.2.2.2 l1_4.toNat)), (2, .int (iI l2_28)), (3, .int (iI l3_28))] [] := by
      intro l2_28 l3_28 hl2_28 hl3_28 h
      unfold fX8_countInPhase_B28 at h
      refine jg_iinc (q := 3) (lv' := [(3, .int (iI (w32 (l3_28 + 1)))), (0, .ref l0_4), (1, .ref (G.2.2.2.2 l1_4.toNat)), (2, .int (iI l2_28))]) hC dX8_countInPhase_28 rfl (by decide) rfl ?_
      refine jj_goto (tgt := 4) hC dX8_countInPhase_31 rfl ?_
      refine jj_lv (lv' := [(0, .ref l0_4), (1, .ref (G.2.2.2.2 l1_4.toNat)), (2, .int (iI l2_28)), (3, .int (iI (w32 (l3_28 + 1))))]) [1, 2, 3, 0] rfl ?_
      exact hJ4 _ (Option.some.inj h).symm ⟨hl2_28, (w32_r _)⟩
    unfold fX8_countInPhase_L4 at h
    refine jj_iload_n hC dX8_countInPhase_4 rfl 3 rfl ?_
    refine jj_aload_n hC dX8_countInPhase_5 rfl 0 rfl ?_
    refine jg_I hC kfX8 4 rfl hl0_4 (by decide) wd1044 rfl dX8_countInPhase_6 (fun hr1 => ?_)
    refine jj_icmp_ge (tgt := 34) hC dX8_countInPhase_9 rfl hs4_1 hr1 (fun hc => ?_) (fun hc => ?_)
    · replace h := (if_pos hc).symm.trans h
      refine jj_lv (lv' := [(2, .int (iI s4.1))]) [2] rfl ?_
      exact hE4 _ (Option.some.inj h).symm hs4_0
    · replace h := (if_neg (Int.not_le.mpr hc)).symm.trans h
      refine jj_aload_n hC dX8_countInPhase_12 rfl 0 rfl ?_
      obtain ⟨b2, hb2, hs2, h⟩ := rf_e h
      refine jg_R hC kfX8 3 rfl hl0_4 (by decide) wd1042 rfl hb2 dX8_countInPhase_13 ?_
      refine jj_iload_n hC dX8_countInPhase_16 rfl 3 rfl ?_
      obtain ⟨⟨ha3, hb3⟩, h⟩ := gd_e h
      obtain ⟨b3, hd3, hs3, h⟩ := rf_e h
      refine jj_aald hC hs2 (by decide) ha3 hb3 hd3 dX8_countInPhase_17 ?_
      obtain ⟨hg4, h⟩ := gd_e h
      refine jg_E hC kfX3 1 rfl hs3 (by decide) wd993 rfl hg4 dX8_countInPhase_18 (fun hr4 => ?_)
      refine jj_aload_n hC dX8_countInPhase_21 rfl 1 rfl ?_
      refine jg_acmp_ne (tgt := 28) hC dX8_countInPhase_22 rfl ⟨hg4, hr4⟩ hl1_4 (fun hc => ?_) (fun hc => ?_)
      · replace h := (if_pos hc).symm.trans h
        refine jj_lv (lv' := [(0, .ref l0_4), (1, .ref (G.2.2.2.2 l1_4.toNat)), (2, .int (iI s4.1)), (3, .int (iI s4.2))]) [0, 1, 2, 3] rfl ?_
        exact hB28 s4.1 s4.2 hs4_0 hs4_1 h
      · replace h := (if_neg (fun k => k hc)).symm.trans h
        refine jg_iinc (q := 2) (lv' := [(2, .int (iI (w32 (s4.1 + 1)))), (0, .ref l0_4), (1, .ref (G.2.2.2.2 l1_4.toNat)), (3, .int (iI s4.2))]) hC dX8_countInPhase_25 rfl (by decide) rfl ?_
        refine jj_lv (lv' := [(0, .ref l0_4), (1, .ref (G.2.2.2.2 l1_4.toNat)), (2, .int (iI (w32 (s4.1 + 1)))), (3, .int (iI s4.2))]) [1, 2, 0, 3] rfl ?_
        exact hB28 (w32 (s4.1 + 1)) s4.2 (w32_r _) hs4_1 h
  unfold fX8_countInPhase at h
  refine jj_iconst hC dX8_countInPhase_0 ?_
  refine jj_istore_n (lv' := [(2, .int (iI 0)), (0, .ref a0), (1, .ref (G.2.2.2.2 x1.toNat))]) hC dX8_countInPhase_1 rfl (by decide) rfl ?_
  refine jj_iconst hC dX8_countInPhase_2 ?_
  refine jj_istore_n (lv' := [(3, .int (iI 0)), (2, .int (iI 0)), (0, .ref a0), (1, .ref (G.2.2.2.2 x1.toNat))]) hC dX8_countInPhase_3 rfl (by decide) rfl ?_
  obtain ⟨q6, hq6, h⟩ := bd_e h
  refine jj_lv (lv' := [(0, .ref a0), (1, .ref (G.2.2.2.2 x1.toNat)), (2, .int (iI 0)), (3, .int (iI 0))]) [2, 3, 1, 0] rfl ?_
  refine hL4 a0 x1 hs0 hp1 FU _ q6 hq6 ⟨(show (-2147483648 ≤ (0 : Int) ∧ (0 : Int) < 2147483648) from by decide), (show (-2147483648 ≤ (0 : Int) ∧ (0 : Int) < 2147483648) from by decide)⟩ (fun e4_5 he6 hIE6 => ?_) (fun c6 hc6 => ?_)
  · subst he6
    replace h := el_l h
    have he4_5_0 := hIE6
    refine jj_iload_n hC dX8_countInPhase_34 rfl 0 rfl ?_
    cases h
    exact jj_iret hC (c_le rfl) (c_le rfl) dX8_countInPhase_35 ⟨rfl, he4_5_0, rfl, rfl, rfl, rfl, rfl⟩
  · subst hc6
    replace h := el_r h
    exact Option.some.inj h
def fX8_allWaiting (ad S Ln : Nat → Nat) (R : gR) (M : gM) (a0 : Nat) : Option Int :=
  bd (fX8_countInPhase ad S Ln R M a0 0) fun q1 => if ¬ q1 = (M a0 4) then (some (0)) else (some (1))
theorem xX8_allWaiting {l : Launch} {G : gE} {sz : Nat} {S Ln : Nat → Nat} {M : gM} {R : gR} (hl : l.stackTraces = false) {a0 : Nat} (hs0 : S a0 = 11) {r : Int} (h : fX8_allWaiting G.2.2.2.2 S Ln R M a0 = some r) : Ct l G yX8_allWaiting cX8_allWaiting 1 (some .boolean) 2 0 0 [.ref a0] sz S Ln M R (poZ r sz S Ln (M) R) noX := by
  refine jj_start (own := RX8) (lv0 := [(0, .ref a0)]) hl (by decide +kernel) rfl rfl (c_le rfl) (fun C hCl hC => ?_)
  unfold fX8_allWaiting at h
  refine jj_aload_n hC dX8_allWaiting_0 rfl 0 rfl ?_
  refine jg_s (j := 0) hC 0 rfl rfl wd647 dX8_allWaiting_1 ?_
  obtain ⟨q1, hq1, h⟩ := bd_e h
  refine jj_invV hC mvX8_countInPhase wd667 wd668 wd666 hs0 (by decide) rfl (xX8_countInPhase (OKC.tr hC) hs0 (show (0 ≤ (0 : Int) ∧ (0 : Int) < 9) from by decide) hq1) rfl rfl (c_le rfl) (c_le rfl) (c_le rfl) (c_le rfl) dX8_allWaiting_4 noXk (po_kI (fun hr1 => ?_))
  refine jj_aload_n hC dX8_allWaiting_7 rfl 0 rfl ?_
  refine jg_I hC kfX8 4 rfl hs0 (by decide) wd1044 rfl dX8_allWaiting_8 (fun hr2 => ?_)
  refine jj_icmp_ne (tgt := 18) hC dX8_allWaiting_11 rfl hr1 hr2 (fun hc => ?_) (fun hc => ?_)
  · replace h := (if_pos hc).symm.trans h
    refine jj_iconst hC dX8_allWaiting_18 ?_
    cases h
    exact jj_zret hC (show (0 ≤ (0 : Int) ∧ (0 : Int) ≤ 1) from by decide) (c_le rfl) (c_le rfl) dX8_allWaiting_19 ⟨rfl, (show (0 ≤ (0 : Int) ∧ (0 : Int) ≤ 1) from by decide), rfl, rfl, rfl, rfl, rfl⟩
  · replace h := (if_neg (fun k => k hc)).symm.trans h
    refine jj_iconst hC dX8_allWaiting_14 ?_
    refine jj_goto (tgt := 19) hC dX8_allWaiting_15 rfl ?_
    cases h
    exact jj_zret hC (show (0 ≤ (1 : Int) ∧ (1 : Int) ≤ 1) from by decide) (c_le rfl) (c_le rfl) dX8_allWaiting_19 ⟨rfl, (show (0 ≤ (1 : Int) ∧ (1 : Int) ≤ 1) from by decide), rfl, rfl, rfl, rfl, rfl⟩
def fX8_refusalOfPoint (ad S Ln : Nat → Nat) (R : gR) (M : gM) (a0 : Nat) (x1 : Int) (x2 : Int) : Option Int :=
  bd (fX9_isCoordinate ad S Ln R M x1) fun q1 => if q1 = 0 then (some (6)) else (bd (fX9_isCoordinate ad S Ln R M x2) fun q2 => if ¬ q2 = 0 then (rf S (R a0 0) 7 fun b3 => if (M b3 2) < 8 then (some (4)) else (some (7))) else (some (6)))
theorem xX8_refusalOfPoint {l : Launch} {G : gE} {sz : Nat} {S Ln : Nat → Nat} {M : gM} {R : gR} (hl : l.stackTraces = false) {a0 : Nat} (hs0 : S a0 = 11) {x1 : Int} (hp1 : (-2147483648 ≤ x1 ∧ x1 < 2147483648)) {x2 : Int} (hp2 : (-2147483648 ≤ x2 ∧ x2 < 2147483648)) {r : Int} (h : fX8_refusalOfPoint G.2.2.2.2 S Ln R M a0 x1 x2 = some r) : Ct l G yX8_refusalOfPoint cX8_refusalOfPoint 3 (some (.object "GlidingContest$Refusal")) 2 0 0 [.ref a0, .int (iI x1), .int (iI x2)] sz S Ln M R (poE G r sz S Ln (M) R) noX := by
  refine jj_start (own := RX8) (lv0 := [(0, .ref a0), (1, .int (iI x1)), (2, .int (iI x2))]) hl (by decide +kernel) rfl rfl (c_le rfl) (fun C hCl hC => ?_)
  unfold fX8_refusalOfPoint at h
  refine jj_iload_n hC dX8_refusalOfPoint_0 rfl 1 rfl ?_
  obtain ⟨q1, hq1, h⟩ := bd_e h
  refine jj_invSN hC mvX9_isCoordinate wd689 wd688 (xX9_isCoordinate (OKC.tr hC) hp1 hq1) rfl rfl (c_le rfl) (c_le rfl) (c_le rfl) (c_le rfl) dX8_refusalOfPoint_1 (po_kZ (fun hr1 => ?_))
  refine jj_if_eq (tgt := 14) hC dX8_refusalOfPoint_4 rfl (r_z hr1) (fun hc => ?_) (fun hc => ?_)
  · replace h := (if_pos hc).symm.trans h
    refine jg_s (j := 6) hC 6 rfl rfl wd567 dX8_refusalOfPoint_14 ?_
    cases h
    exact jj_aret hC rfl (Or.inl ⟨_, rfl⟩) (c_le rfl) (c_le rfl) dX8_refusalOfPoint_17 ⟨rfl, (show (0 ≤ (6 : Int) ∧ (6 : Int) < 9) from by decide), rfl, rfl, rfl, rfl, rfl⟩
  · replace h := (if_neg (hc)).symm.trans h
    refine jj_iload_n hC dX8_refusalOfPoint_7 rfl 2 rfl ?_
    obtain ⟨q2, hq2, h⟩ := bd_e h
    refine jj_invSN hC mvX9_isCoordinate wd689 wd688 (xX9_isCoordinate (OKC.tr hC) hp2 hq2) rfl rfl (c_le rfl) (c_le rfl) (c_le rfl) (c_le rfl) dX8_refusalOfPoint_8 (po_kZ (fun hr2 => ?_))
    refine jj_if_ne (tgt := 18) hC dX8_refusalOfPoint_11 rfl (r_z hr2) (fun hc => ?_) (fun hc => ?_)
    · replace h := (if_pos hc).symm.trans h
      refine jj_aload_n hC dX8_refusalOfPoint_18 rfl 0 rfl ?_
      obtain ⟨b3, hb3, hs3, h⟩ := rf_e h
      refine jg_R hC kfX8 0 rfl hs0 (by decide) wd1036 rfl hb3 dX8_refusalOfPoint_19 ?_
      refine jg_I hC kfX2 2 rfl hs3 (by decide) wd906 rfl dX8_refusalOfPoint_22 (fun hr4 => ?_)
      refine jj_bipush hC dX8_refusalOfPoint_25 (by decide) ?_
      refine jj_icmp_lt (tgt := 36) hC dX8_refusalOfPoint_27 rfl hr4 (show (-2147483648 ≤ (8 : Int) ∧ (8 : Int) < 2147483648) from by decide) (fun hc => ?_) (fun hc => ?_)
      · replace h := (if_pos hc).symm.trans h
        refine jg_s (j := 4) hC 4 rfl rfl wd571 dX8_refusalOfPoint_36 ?_
        cases h
        exact jj_aret hC rfl (Or.inl ⟨_, rfl⟩) (c_le rfl) (c_le rfl) dX8_refusalOfPoint_39 ⟨rfl, (show (0 ≤ (4 : Int) ∧ (4 : Int) < 9) from by decide), rfl, rfl, rfl, rfl, rfl⟩
      · replace h := (if_neg (Int.not_lt.mpr hc)).symm.trans h
        refine jg_s (j := 7) hC 7 rfl rfl wd569 dX8_refusalOfPoint_30 ?_
        refine jj_goto (tgt := 39) hC dX8_refusalOfPoint_33 rfl ?_
        cases h
        exact jj_aret hC rfl (Or.inl ⟨_, rfl⟩) (c_le rfl) (c_le rfl) dX8_refusalOfPoint_39 ⟨rfl, (show (0 ≤ (7 : Int) ∧ (7 : Int) < 9) from by decide), rfl, rfl, rfl, rfl, rfl⟩
    · replace h := (if_neg (fun k => k hc)).symm.trans h
      refine jg_s (j := 6) hC 6 rfl rfl wd567 dX8_refusalOfPoint_14 ?_
      cases h
      exact jj_aret hC rfl (Or.inl ⟨_, rfl⟩) (c_le rfl) (c_le rfl) dX8_refusalOfPoint_17 ⟨rfl, (show (0 ≤ (6 : Int) ∧ (6 : Int) < 9) from by decide), rfl, rfl, rfl, rfl, rfl⟩
def fX8_refusalOfStop (ad S Ln : Nat → Nat) (R : gR) (M : gM) (a0 : Nat) (x1 : Int) : Option Int :=
  rf S (R a0 0) 7 fun b1 => bd (fX2_hasPoint ad S Ln R M b1 x1) fun q2 => if ¬ q2 = 0 then (bd (fX8_allWaiting ad S Ln R M a0) fun q3 => if q3 = 0 then (some (7)) else (rf S (R a0 0) 7 fun b4 => if (M b4 5) < 6 then (rf S (R a0 0) 7 fun b6 => bd (fX2_endsAtPositionOf ad S Ln R M b6 x1) fun q7 => if q7 = 0 then (some (4)) else (some (8))) else (some (7)))) else (some (5))
theorem xX8_refusalOfStop {l : Launch} {G : gE} {sz : Nat} {S Ln : Nat → Nat} {M : gM} {R : gR} (hl : l.stackTraces = false) {a0 : Nat} (hs0 : S a0 = 11) {x1 : Int} (hp1 : (-2147483648 ≤ x1 ∧ x1 < 2147483648)) {r : Int} (h : fX8_refusalOfStop G.2.2.2.2 S Ln R M a0 x1 = some r) : Ct l G yX8_refusalOfStop cX8_refusalOfStop 2 (some (.object "GlidingContest$Refusal")) 4 0 0 [.ref a0, .int (iI x1)] sz S Ln M R (poE G r sz S Ln (M) R) noX := by
  refine jj_start (own := RX8) (lv0 := [(0, .ref a0), (1, .int (iI x1))]) hl (by decide +kernel) rfl rfl (c_le rfl) (fun C hCl hC => ?_)
  unfold fX8_refusalOfStop at h
  refine jj_aload_n hC dX8_refusalOfStop_0 rfl 0 rfl ?_
  obtain ⟨b1, hb1, hs1, h⟩ := rf_e h
  refine jg_R hC kfX8 0 rfl hs0 (by decide) wd1036 rfl hb1 dX8_refusalOfStop_1 ?_
  refine jj_iload_n hC dX8_refusalOfStop_4 rfl 1 rfl ?_
  obtain ⟨q2, hq2, h⟩ := bd_e h
  refine jj_invV hC mvX2_hasPoint wd658 wd659 wd657 hs1 (by decide) rfl (xX2_hasPoint (OKC.tr hC) hs1 hp1 hq2) rfl rfl (c_le rfl) (c_le rfl) (c_le rfl) (c_le rfl) dX8_refusalOfStop_5 noXk (po_kZ (fun hr2 => ?_))
  refine jj_if_ne (tgt := 15) hC dX8_refusalOfStop_8 rfl (r_z hr2) (fun hc => ?_) (fun hc => ?_)
  · replace h := (if_pos hc).symm.trans h
    refine jj_aload_n hC dX8_refusalOfStop_15 rfl 0 rfl ?_
    obtain ⟨q3, hq3, h⟩ := bd_e h
    refine jj_invV hC mvX8_allWaiting wd746 wd747 wd745 hs0 (by decide) rfl (xX8_allWaiting (OKC.tr hC) hs0 hq3) rfl rfl (c_le rfl) (c_le rfl) (c_le rfl) (c_le rfl) dX8_refusalOfStop_16 noXk (po_kZ (fun hr3 => ?_))
    refine jj_if_eq (tgt := 34) hC dX8_refusalOfStop_19 rfl (r_z hr3) (fun hc => ?_) (fun hc => ?_)
    · replace h := (if_pos hc).symm.trans h
      refine jg_s (j := 7) hC 7 rfl rfl wd569 dX8_refusalOfStop_34 ?_
      cases h
      exact jj_aret hC rfl (Or.inl ⟨_, rfl⟩) (c_le rfl) (c_le rfl) dX8_refusalOfStop_37 ⟨rfl, (show (0 ≤ (7 : Int) ∧ (7 : Int) < 9) from by decide), rfl, rfl, rfl, rfl, rfl⟩
    · replace h := (if_neg (hc)).symm.trans h
      refine jj_aload_n hC dX8_refusalOfStop_22 rfl 0 rfl ?_
      obtain ⟨b4, hb4, hs4, h⟩ := rf_e h
      refine jg_R hC kfX8 0 rfl hs0 (by decide) wd1036 rfl hb4 dX8_refusalOfStop_23 ?_
      refine jg_I hC kfX2 5 rfl hs4 (by decide) wd914 rfl dX8_refusalOfStop_26 (fun hr5 => ?_)
      refine jj_bipush hC dX8_refusalOfStop_29 (by decide) ?_
      refine jj_icmp_lt (tgt := 38) hC dX8_refusalOfStop_31 rfl hr5 (show (-2147483648 ≤ (6 : Int) ∧ (6 : Int) < 2147483648) from by decide) (fun hc => ?_) (fun hc => ?_)
      · replace h := (if_pos hc).symm.trans h
        refine jj_aload_n hC dX8_refusalOfStop_38 rfl 0 rfl ?_
        obtain ⟨b6, hb6, hs6, h⟩ := rf_e h
        refine jg_R hC kfX8 0 rfl hs0 (by decide) wd1036 rfl hb6 dX8_refusalOfStop_39 ?_
        refine jj_iload_n hC dX8_refusalOfStop_42 rfl 1 rfl ?_
        obtain ⟨q7, hq7, h⟩ := bd_e h
        refine jj_invV hC mvX2_endsAtPositionOf wd1172 wd1173 wd1171 hs6 (by decide) rfl (xX2_endsAtPositionOf (OKC.tr hC) hs6 hp1 hq7) rfl rfl (c_le rfl) (c_le rfl) (c_le rfl) (c_le rfl) dX8_refusalOfStop_43 noXk (po_kZ (fun hr7 => ?_))
        refine jj_if_eq (tgt := 55) hC dX8_refusalOfStop_46 rfl (r_z hr7) (fun hc => ?_) (fun hc => ?_)
        · replace h := (if_pos hc).symm.trans h
          refine jg_s (j := 4) hC 4 rfl rfl wd571 dX8_refusalOfStop_55 ?_
          cases h
          exact jj_aret hC rfl (Or.inl ⟨_, rfl⟩) (c_le rfl) (c_le rfl) dX8_refusalOfStop_58 ⟨rfl, (show (0 ≤ (4 : Int) ∧ (4 : Int) < 9) from by decide), rfl, rfl, rfl, rfl, rfl⟩
        · replace h := (if_neg (hc)).symm.trans h
          refine jg_s (j := 8) hC 8 rfl rfl wd648 dX8_refusalOfStop_49 ?_
          refine jj_goto (tgt := 58) hC dX8_refusalOfStop_52 rfl ?_
          cases h
          exact jj_aret hC rfl (Or.inl ⟨_, rfl⟩) (c_le rfl) (c_le rfl) dX8_refusalOfStop_58 ⟨rfl, (show (0 ≤ (8 : Int) ∧ (8 : Int) < 9) from by decide), rfl, rfl, rfl, rfl, rfl⟩
      · replace h := (if_neg (Int.not_lt.mpr hc)).symm.trans h
        refine jg_s (j := 7) hC 7 rfl rfl wd569 dX8_refusalOfStop_34 ?_
        cases h
        exact jj_aret hC rfl (Or.inl ⟨_, rfl⟩) (c_le rfl) (c_le rfl) dX8_refusalOfStop_37 ⟨rfl, (show (0 ≤ (7 : Int) ∧ (7 : Int) < 9) from by decide), rfl, rfl, rfl, rfl, rfl⟩
  · replace h := (if_neg (fun k => k hc)).symm.trans h
    refine jg_s (j := 5) hC 5 rfl rfl wd646 dX8_refusalOfStop_11 ?_
    cases h
    exact jj_aret hC rfl (Or.inl ⟨_, rfl⟩) (c_le rfl) (c_le rfl) dX8_refusalOfStop_14 ⟨rfl, (show (0 ≤ (5 : Int) ∧ (5 : Int) < 9) from by decide), rfl, rfl, rfl, rfl, rfl⟩
def fX8_refusalOfThermal (ad S Ln : Nat → Nat) (R : gR) (M : gM) (a0 : Nat) (x1 : Int) (x2 : Int) (x3 : Int) : Option Int :=
  bd (fX9_isCoordinate ad S Ln R M x1) fun q1 => if q1 = 0 then (some (6)) else (bd (fX9_isCoordinate ad S Ln R M x2) fun q2 => if q2 = 0 then (some (6)) else (if x3 < 1 then (some (6)) else (if x3 ≤ 5 then (rf S (R a0 1) 5 fun b3 => if (M b3 3) < 6 then (some (4)) else (some (7))) else (some (6)))))
theorem xX8_refusalOfThermal {l : Launch} {G : gE} {sz : Nat} {S Ln : Nat → Nat} {M : gM} {R : gR} (hl : l.stackTraces = false) {a0 : Nat} (hs0 : S a0 = 11) {x1 : Int} (hp1 : (-2147483648 ≤ x1 ∧ x1 < 2147483648)) {x2 : Int} (hp2 : (-2147483648 ≤ x2 ∧ x2 < 2147483648)) {x3 : Int} (hp3 : (-2147483648 ≤ x3 ∧ x3 < 2147483648)) {r : Int} (h : fX8_refusalOfThermal G.2.2.2.2 S Ln R M a0 x1 x2 x3 = some r) : Ct l G yX8_refusalOfThermal cX8_refusalOfThermal 4 (some (.object "GlidingContest$Refusal")) 2 0 0 [.ref a0, .int (iI x1), .int (iI x2), .int (iI x3)] sz S Ln M R (poE G r sz S Ln (M) R) noX := by
  refine jj_start (own := RX8) (lv0 := [(0, .ref a0), (1, .int (iI x1)), (2, .int (iI x2)), (3, .int (iI x3))]) hl (by decide +kernel) rfl rfl (c_le rfl) (fun C hCl hC => ?_)
  unfold fX8_refusalOfThermal at h
  refine jj_iload_n hC dX8_refusalOfThermal_0 rfl 1 rfl ?_
  obtain ⟨q1, hq1, h⟩ := bd_e h
  refine jj_invSN hC mvX9_isCoordinate wd689 wd688 (xX9_isCoordinate (OKC.tr hC) hp1 hq1) rfl rfl (c_le rfl) (c_le rfl) (c_le rfl) (c_le rfl) dX8_refusalOfThermal_1 (po_kZ (fun hr1 => ?_))
  refine jj_if_eq (tgt := 24) hC dX8_refusalOfThermal_4 rfl (r_z hr1) (fun hc => ?_) (fun hc => ?_)
  · replace h := (if_pos hc).symm.trans h
    refine jg_s (j := 6) hC 6 rfl rfl wd567 dX8_refusalOfThermal_24 ?_
    cases h
    exact jj_aret hC rfl (Or.inl ⟨_, rfl⟩) (c_le rfl) (c_le rfl) dX8_refusalOfThermal_27 ⟨rfl, (show (0 ≤ (6 : Int) ∧ (6 : Int) < 9) from by decide), rfl, rfl, rfl, rfl, rfl⟩
  · replace h := (if_neg (hc)).symm.trans h
    refine jj_iload_n hC dX8_refusalOfThermal_7 rfl 2 rfl ?_
    obtain ⟨q2, hq2, h⟩ := bd_e h
    refine jj_invSN hC mvX9_isCoordinate wd689 wd688 (xX9_isCoordinate (OKC.tr hC) hp2 hq2) rfl rfl (c_le rfl) (c_le rfl) (c_le rfl) (c_le rfl) dX8_refusalOfThermal_8 (po_kZ (fun hr2 => ?_))
    refine jj_if_eq (tgt := 24) hC dX8_refusalOfThermal_11 rfl (r_z hr2) (fun hc => ?_) (fun hc => ?_)
    · replace h := (if_pos hc).symm.trans h
      refine jg_s (j := 6) hC 6 rfl rfl wd567 dX8_refusalOfThermal_24 ?_
      cases h
      exact jj_aret hC rfl (Or.inl ⟨_, rfl⟩) (c_le rfl) (c_le rfl) dX8_refusalOfThermal_27 ⟨rfl, (show (0 ≤ (6 : Int) ∧ (6 : Int) < 9) from by decide), rfl, rfl, rfl, rfl, rfl⟩
    · replace h := (if_neg (hc)).symm.trans h
      refine jj_iload_n hC dX8_refusalOfThermal_14 rfl 3 rfl ?_
      refine jj_iconst hC dX8_refusalOfThermal_15 ?_
      refine jj_icmp_lt (tgt := 24) hC dX8_refusalOfThermal_16 rfl hp3 (show (-2147483648 ≤ (1 : Int) ∧ (1 : Int) < 2147483648) from by decide) (fun hc => ?_) (fun hc => ?_)
      · replace h := (if_pos hc).symm.trans h
        refine jg_s (j := 6) hC 6 rfl rfl wd567 dX8_refusalOfThermal_24 ?_
        cases h
        exact jj_aret hC rfl (Or.inl ⟨_, rfl⟩) (c_le rfl) (c_le rfl) dX8_refusalOfThermal_27 ⟨rfl, (show (0 ≤ (6 : Int) ∧ (6 : Int) < 9) from by decide), rfl, rfl, rfl, rfl, rfl⟩
      · replace h := (if_neg (Int.not_lt.mpr hc)).symm.trans h
        refine jj_iload_n hC dX8_refusalOfThermal_19 rfl 3 rfl ?_
        refine jj_iconst hC dX8_refusalOfThermal_20 ?_
        refine jj_icmp_le (tgt := 28) hC dX8_refusalOfThermal_21 rfl hp3 (show (-2147483648 ≤ (5 : Int) ∧ (5 : Int) < 2147483648) from by decide) (fun hc => ?_) (fun hc => ?_)
        · replace h := (if_pos hc).symm.trans h
          refine jj_aload_n hC dX8_refusalOfThermal_28 rfl 0 rfl ?_
          obtain ⟨b3, hb3, hs3, h⟩ := rf_e h
          refine jg_R hC kfX8 1 rfl hs0 (by decide) wd1038 rfl hb3 dX8_refusalOfThermal_29 ?_
          refine jg_I hC kfX0 3 rfl hs3 (by decide) wd940 rfl dX8_refusalOfThermal_32 (fun hr4 => ?_)
          refine jj_bipush hC dX8_refusalOfThermal_35 (by decide) ?_
          refine jj_icmp_lt (tgt := 46) hC dX8_refusalOfThermal_37 rfl hr4 (show (-2147483648 ≤ (6 : Int) ∧ (6 : Int) < 2147483648) from by decide) (fun hc => ?_) (fun hc => ?_)
          · replace h := (if_pos hc).symm.trans h
            refine jg_s (j := 4) hC 4 rfl rfl wd571 dX8_refusalOfThermal_46 ?_
            cases h
            exact jj_aret hC rfl (Or.inl ⟨_, rfl⟩) (c_le rfl) (c_le rfl) dX8_refusalOfThermal_49 ⟨rfl, (show (0 ≤ (4 : Int) ∧ (4 : Int) < 9) from by decide), rfl, rfl, rfl, rfl, rfl⟩
          · replace h := (if_neg (Int.not_lt.mpr hc)).symm.trans h
            refine jg_s (j := 7) hC 7 rfl rfl wd569 dX8_refusalOfThermal_40 ?_
            refine jj_goto (tgt := 49) hC dX8_refusalOfThermal_43 rfl ?_
            cases h
            exact jj_aret hC rfl (Or.inl ⟨_, rfl⟩) (c_le rfl) (c_le rfl) dX8_refusalOfThermal_49 ⟨rfl, (show (0 ≤ (7 : Int) ∧ (7 : Int) < 9) from by decide), rfl, rfl, rfl, rfl, rfl⟩
        · replace h := (if_neg (Int.not_le.mpr hc)).symm.trans h
          refine jg_s (j := 6) hC 6 rfl rfl wd567 dX8_refusalOfThermal_24 ?_
          cases h
          exact jj_aret hC rfl (Or.inl ⟨_, rfl⟩) (c_le rfl) (c_le rfl) dX8_refusalOfThermal_27 ⟨rfl, (show (0 ≤ (6 : Int) ∧ (6 : Int) < 9) from by decide), rfl, rfl, rfl, rfl, rfl⟩
def fX8_refusalOfArea (ad S Ln : Nat → Nat) (R : gR) (M : gM) (a0 : Nat) (x1 : Int) (x2 : Int) (x3 : Int) (x4 : Int) : Option Int :=
  bd (fX9_isCoordinate ad S Ln R M x1) fun q1 => if q1 = 0 then (some (6)) else (bd (fX9_isCoordinate ad S Ln R M x2) fun q2 => if ¬ q2 = 0 then (if x3 < x1 then (some (6)) else (if 60 < x3 then (some (6)) else (if x4 < x2 then (some (6)) else (if x4 ≤ 60 then (rf S (R a0 2) 6 fun b3 => if (M b3 4) < 3 then (some (4)) else (some (7))) else (some (6)))))) else (some (6)))
theorem xX8_refusalOfArea {l : Launch} {G : gE} {sz : Nat} {S Ln : Nat → Nat} {M : gM} {R : gR} (hl : l.stackTraces = false) {a0 : Nat} (hs0 : S a0 = 11) {x1 : Int} (hp1 : (-2147483648 ≤ x1 ∧ x1 < 2147483648)) {x2 : Int} (hp2 : (-2147483648 ≤ x2 ∧ x2 < 2147483648)) {x3 : Int} (hp3 : (-2147483648 ≤ x3 ∧ x3 < 2147483648)) {x4 : Int} (hp4 : (-2147483648 ≤ x4 ∧ x4 < 2147483648)) {r : Int} (h : fX8_refusalOfArea G.2.2.2.2 S Ln R M a0 x1 x2 x3 x4 = some r) : Ct l G yX8_refusalOfArea cX8_refusalOfArea 5 (some (.object "GlidingContest$Refusal")) 2 0 0 [.ref a0, .int (iI x1), .int (iI x2), .int (iI x3), .int (iI x4)] sz S Ln M R (poE G r sz S Ln (M) R) noX := by
  refine jj_start (own := RX8) (lv0 := [(0, .ref a0), (1, .int (iI x1)), (2, .int (iI x2)), (3, .int (iI x3)), (4, .int (iI x4))]) hl (by decide +kernel) rfl rfl (c_le rfl) (fun C hCl hC => ?_)
  unfold fX8_refusalOfArea at h
  refine jj_iload_n hC dX8_refusalOfArea_0 rfl 1 rfl ?_
  obtain ⟨q1, hq1, h⟩ := bd_e h
  refine jj_invSN hC mvX9_isCoordinate wd689 wd688 (xX9_isCoordinate (OKC.tr hC) hp1 hq1) rfl rfl (c_le rfl) (c_le rfl) (c_le rfl) (c_le rfl) dX8_refusalOfArea_1 (po_kZ (fun hr1 => ?_))
  refine jj_if_eq (tgt := 14) hC dX8_refusalOfArea_4 rfl (r_z hr1) (fun hc => ?_) (fun hc => ?_)
  · replace h := (if_pos hc).symm.trans h
    refine jg_s (j := 6) hC 6 rfl rfl wd567 dX8_refusalOfArea_14 ?_
    cases h
    exact jj_aret hC rfl (Or.inl ⟨_, rfl⟩) (c_le rfl) (c_le rfl) dX8_refusalOfArea_17 ⟨rfl, (show (0 ≤ (6 : Int) ∧ (6 : Int) < 9) from by decide), rfl, rfl, rfl, rfl, rfl⟩
  · replace h := (if_neg (hc)).symm.trans h
    refine jj_iload_n hC dX8_refusalOfArea_7 rfl 2 rfl ?_
    obtain ⟨q2, hq2, h⟩ := bd_e h
    refine jj_invSN hC mvX9_isCoordinate wd689 wd688 (xX9_isCoordinate (OKC.tr hC) hp2 hq2) rfl rfl (c_le rfl) (c_le rfl) (c_le rfl) (c_le rfl) dX8_refusalOfArea_8 (po_kZ (fun hr2 => ?_))
    refine jj_if_ne (tgt := 18) hC dX8_refusalOfArea_11 rfl (r_z hr2) (fun hc => ?_) (fun hc => ?_)
    · replace h := (if_pos hc).symm.trans h
      refine jj_iload_n hC dX8_refusalOfArea_18 rfl 3 rfl ?_
      refine jj_iload_n hC dX8_refusalOfArea_19 rfl 1 rfl ?_
      refine jj_icmp_lt (tgt := 42) hC dX8_refusalOfArea_20 rfl hp3 hp1 (fun hc => ?_) (fun hc => ?_)
      · replace h := (if_pos hc).symm.trans h
        refine jg_s (j := 6) hC 6 rfl rfl wd567 dX8_refusalOfArea_42 ?_
        cases h
        exact jj_aret hC rfl (Or.inl ⟨_, rfl⟩) (c_le rfl) (c_le rfl) dX8_refusalOfArea_45 ⟨rfl, (show (0 ≤ (6 : Int) ∧ (6 : Int) < 9) from by decide), rfl, rfl, rfl, rfl, rfl⟩
      · replace h := (if_neg (Int.not_lt.mpr hc)).symm.trans h
        refine jj_iload_n hC dX8_refusalOfArea_23 rfl 3 rfl ?_
        refine jj_bipush hC dX8_refusalOfArea_24 (by decide) ?_
        refine jj_icmp_gt (tgt := 42) hC dX8_refusalOfArea_26 rfl hp3 (show (-2147483648 ≤ (60 : Int) ∧ (60 : Int) < 2147483648) from by decide) (fun hc => ?_) (fun hc => ?_)
        · replace h := (if_pos hc).symm.trans h
          refine jg_s (j := 6) hC 6 rfl rfl wd567 dX8_refusalOfArea_42 ?_
          cases h
          exact jj_aret hC rfl (Or.inl ⟨_, rfl⟩) (c_le rfl) (c_le rfl) dX8_refusalOfArea_45 ⟨rfl, (show (0 ≤ (6 : Int) ∧ (6 : Int) < 9) from by decide), rfl, rfl, rfl, rfl, rfl⟩
        · replace h := (if_neg (Int.not_lt.mpr hc)).symm.trans h
          refine jj_iload hC dX8_refusalOfArea_29 4 rfl ?_
          refine jj_iload_n hC dX8_refusalOfArea_31 rfl 2 rfl ?_
          refine jj_icmp_lt (tgt := 42) hC dX8_refusalOfArea_32 rfl hp4 hp2 (fun hc => ?_) (fun hc => ?_)
          · replace h := (if_pos hc).symm.trans h
            refine jg_s (j := 6) hC 6 rfl rfl wd567 dX8_refusalOfArea_42 ?_
            cases h
            exact jj_aret hC rfl (Or.inl ⟨_, rfl⟩) (c_le rfl) (c_le rfl) dX8_refusalOfArea_45 ⟨rfl, (show (0 ≤ (6 : Int) ∧ (6 : Int) < 9) from by decide), rfl, rfl, rfl, rfl, rfl⟩
          · replace h := (if_neg (Int.not_lt.mpr hc)).symm.trans h
            refine jj_iload hC dX8_refusalOfArea_35 4 rfl ?_
            refine jj_bipush hC dX8_refusalOfArea_37 (by decide) ?_
            refine jj_icmp_le (tgt := 46) hC dX8_refusalOfArea_39 rfl hp4 (show (-2147483648 ≤ (60 : Int) ∧ (60 : Int) < 2147483648) from by decide) (fun hc => ?_) (fun hc => ?_)
            · replace h := (if_pos hc).symm.trans h
              refine jj_aload_n hC dX8_refusalOfArea_46 rfl 0 rfl ?_
              obtain ⟨b3, hb3, hs3, h⟩ := rf_e h
              refine jg_R hC kfX8 2 rfl hs0 (by decide) wd1040 rfl hb3 dX8_refusalOfArea_47 ?_
              refine jg_I hC kfX1 4 rfl hs3 (by decide) wd966 rfl dX8_refusalOfArea_50 (fun hr4 => ?_)
              refine jj_iconst hC dX8_refusalOfArea_53 ?_
              refine jj_icmp_lt (tgt := 63) hC dX8_refusalOfArea_54 rfl hr4 (show (-2147483648 ≤ (3 : Int) ∧ (3 : Int) < 2147483648) from by decide) (fun hc => ?_) (fun hc => ?_)
              · replace h := (if_pos hc).symm.trans h
                refine jg_s (j := 4) hC 4 rfl rfl wd571 dX8_refusalOfArea_63 ?_
                cases h
                exact jj_aret hC rfl (Or.inl ⟨_, rfl⟩) (c_le rfl) (c_le rfl) dX8_refusalOfArea_66 ⟨rfl, (show (0 ≤ (4 : Int) ∧ (4 : Int) < 9) from by decide), rfl, rfl, rfl, rfl, rfl⟩
              · replace h := (if_neg (Int.not_lt.mpr hc)).symm.trans h
                refine jg_s (j := 7) hC 7 rfl rfl wd569 dX8_refusalOfArea_57 ?_
                refine jj_goto (tgt := 66) hC dX8_refusalOfArea_60 rfl ?_
                cases h
                exact jj_aret hC rfl (Or.inl ⟨_, rfl⟩) (c_le rfl) (c_le rfl) dX8_refusalOfArea_66 ⟨rfl, (show (0 ≤ (7 : Int) ∧ (7 : Int) < 9) from by decide), rfl, rfl, rfl, rfl, rfl⟩
            · replace h := (if_neg (Int.not_le.mpr hc)).symm.trans h
              refine jg_s (j := 6) hC 6 rfl rfl wd567 dX8_refusalOfArea_42 ?_
              cases h
              exact jj_aret hC rfl (Or.inl ⟨_, rfl⟩) (c_le rfl) (c_le rfl) dX8_refusalOfArea_45 ⟨rfl, (show (0 ≤ (6 : Int) ∧ (6 : Int) < 9) from by decide), rfl, rfl, rfl, rfl, rfl⟩
    · replace h := (if_neg (fun k => k hc)).symm.trans h
      refine jg_s (j := 6) hC 6 rfl rfl wd567 dX8_refusalOfArea_14 ?_
      cases h
      exact jj_aret hC rfl (Or.inl ⟨_, rfl⟩) (c_le rfl) (c_le rfl) dX8_refusalOfArea_17 ⟨rfl, (show (0 ≤ (6 : Int) ∧ (6 : Int) < 9) from by decide), rfl, rfl, rfl, rfl, rfl⟩
def fX8_refusalOfPilot (ad S Ln : Nat → Nat) (R : gR) (M : gM) (a0 : Nat) (x1 : Int) : Option Int :=
  if x1 < 20 then (some (6)) else (if x1 ≤ 60 then (if (M a0 4) < 6 then (some (4)) else (some (7))) else (some (6)))
theorem xX8_refusalOfPilot {l : Launch} {G : gE} {sz : Nat} {S Ln : Nat → Nat} {M : gM} {R : gR} (hl : l.stackTraces = false) {a0 : Nat} (hs0 : S a0 = 11) {x1 : Int} (hp1 : (-2147483648 ≤ x1 ∧ x1 < 2147483648)) {r : Int} (h : fX8_refusalOfPilot G.2.2.2.2 S Ln R M a0 x1 = some r) : Ct l G yX8_refusalOfPilot cX8_refusalOfPilot 2 (some (.object "GlidingContest$Refusal")) 1 0 0 [.ref a0, .int (iI x1)] sz S Ln M R (poE G r sz S Ln (M) R) noX := by
  refine jj_start (own := RX8) (lv0 := [(0, .ref a0), (1, .int (iI x1))]) hl (by decide +kernel) rfl rfl (c_le rfl) (fun C hCl hC => ?_)
  unfold fX8_refusalOfPilot at h
  refine jj_iload_n hC dX8_refusalOfPilot_0 rfl 1 rfl ?_
  refine jj_bipush hC dX8_refusalOfPilot_1 (by decide) ?_
  refine jj_icmp_lt (tgt := 12) hC dX8_refusalOfPilot_3 rfl hp1 (show (-2147483648 ≤ (20 : Int) ∧ (20 : Int) < 2147483648) from by decide) (fun hc => ?_) (fun hc => ?_)
  · replace h := (if_pos hc).symm.trans h
    refine jg_s (j := 6) hC 6 rfl rfl wd567 dX8_refusalOfPilot_12 ?_
    cases h
    exact jj_aret hC rfl (Or.inl ⟨_, rfl⟩) (c_le rfl) (c_le rfl) dX8_refusalOfPilot_15 ⟨rfl, (show (0 ≤ (6 : Int) ∧ (6 : Int) < 9) from by decide), rfl, rfl, rfl, rfl, rfl⟩
  · replace h := (if_neg (Int.not_lt.mpr hc)).symm.trans h
    refine jj_iload_n hC dX8_refusalOfPilot_6 rfl 1 rfl ?_
    refine jj_bipush hC dX8_refusalOfPilot_7 (by decide) ?_
    refine jj_icmp_le (tgt := 16) hC dX8_refusalOfPilot_9 rfl hp1 (show (-2147483648 ≤ (60 : Int) ∧ (60 : Int) < 2147483648) from by decide) (fun hc => ?_) (fun hc => ?_)
    · replace h := (if_pos hc).symm.trans h
      refine jj_aload_n hC dX8_refusalOfPilot_16 rfl 0 rfl ?_
      refine jg_I hC kfX8 4 rfl hs0 (by decide) wd1044 rfl dX8_refusalOfPilot_17 (fun hr1 => ?_)
      refine jj_bipush hC dX8_refusalOfPilot_20 (by decide) ?_
      refine jj_icmp_lt (tgt := 31) hC dX8_refusalOfPilot_22 rfl hr1 (show (-2147483648 ≤ (6 : Int) ∧ (6 : Int) < 2147483648) from by decide) (fun hc => ?_) (fun hc => ?_)
      · replace h := (if_pos hc).symm.trans h
        refine jg_s (j := 4) hC 4 rfl rfl wd571 dX8_refusalOfPilot_31 ?_
        cases h
        exact jj_aret hC rfl (Or.inl ⟨_, rfl⟩) (c_le rfl) (c_le rfl) dX8_refusalOfPilot_34 ⟨rfl, (show (0 ≤ (4 : Int) ∧ (4 : Int) < 9) from by decide), rfl, rfl, rfl, rfl, rfl⟩
      · replace h := (if_neg (Int.not_lt.mpr hc)).symm.trans h
        refine jg_s (j := 7) hC 7 rfl rfl wd569 dX8_refusalOfPilot_25 ?_
        refine jj_goto (tgt := 34) hC dX8_refusalOfPilot_28 rfl ?_
        cases h
        exact jj_aret hC rfl (Or.inl ⟨_, rfl⟩) (c_le rfl) (c_le rfl) dX8_refusalOfPilot_34 ⟨rfl, (show (0 ≤ (7 : Int) ∧ (7 : Int) < 9) from by decide), rfl, rfl, rfl, rfl, rfl⟩
    · replace h := (if_neg (Int.not_le.mpr hc)).symm.trans h
      refine jg_s (j := 6) hC 6 rfl rfl wd567 dX8_refusalOfPilot_12 ?_
      cases h
      exact jj_aret hC rfl (Or.inl ⟨_, rfl⟩) (c_le rfl) (c_le rfl) dX8_refusalOfPilot_15 ⟨rfl, (show (0 ≤ (6 : Int) ∧ (6 : Int) < 9) from by decide), rfl, rfl, rfl, rfl, rfl⟩
def fX8_refusalOfLaunch (ad S Ln : Nat → Nat) (R : gR) (M : gM) (a0 : Nat) (x1 : Int) : Option Int :=
  bd (fX8_hasPilot ad S Ln R M a0 x1) fun q1 => if ¬ q1 = 0 then (rf S (R a0 3) 26 fun b2 => gd ((0 : Int) ≤ x1 ∧ x1 < (Ln b2 : Int)) (rf S (R b2 x1) 8 fun b3 => gd (0 ≤ M b3 1) (if (M b3 1) = 0 then (rf S (R a0 0) 7 fun b5 => if 2 ≤ (M b5 5) then (some (4)) else (some (8))) else (some (7))))) else (some (5))
theorem xX8_refusalOfLaunch {l : Launch} {G : gE} {sz : Nat} {S Ln : Nat → Nat} {M : gM} {R : gR} (hl : l.stackTraces = false) {a0 : Nat} (hs0 : S a0 = 11) {x1 : Int} (hp1 : (-2147483648 ≤ x1 ∧ x1 < 2147483648)) {r : Int} (h : fX8_refusalOfLaunch G.2.2.2.2 S Ln R M a0 x1 = some r) : Ct l G yX8_refusalOfLaunch cX8_refusalOfLaunch 2 (some (.object "GlidingContest$Refusal")) 2 0 0 [.ref a0, .int (iI x1)] sz S Ln M R (poE G r sz S Ln (M) R) noX := by
  refine jj_start (own := RX8) (lv0 := [(0, .ref a0), (1, .int (iI x1))]) hl (by decide +kernel) rfl rfl (c_le rfl) (fun C hCl hC => ?_)
  unfold fX8_refusalOfLaunch at h
  refine jj_aload_n hC dX8_refusalOfLaunch_0 rfl 0 rfl ?_
  refine jj_iload_n hC dX8_refusalOfLaunch_1 rfl 1 rfl ?_
  obtain ⟨q1, hq1, h⟩ := bd_e h
  refine jj_invV hC mvX8_hasPilot wd66 wd67 wd645 hs0 (by decide) rfl (xX8_hasPilot (OKC.tr hC) hs0 hp1 hq1) rfl rfl (c_le rfl) (c_le rfl) (c_le rfl) (c_le rfl) dX8_refusalOfLaunch_2 noXk (po_kZ (fun hr1 => ?_))
  refine jj_if_ne (tgt := 12) hC dX8_refusalOfLaunch_5 rfl (r_z hr1) (fun hc => ?_) (fun hc => ?_)
  · replace h := (if_pos hc).symm.trans h
    refine jj_aload_n hC dX8_refusalOfLaunch_12 rfl 0 rfl ?_
    obtain ⟨b2, hb2, hs2, h⟩ := rf_e h
    refine jg_R hC kfX8 3 rfl hs0 (by decide) wd1042 rfl hb2 dX8_refusalOfLaunch_13 ?_
    refine jj_iload_n hC dX8_refusalOfLaunch_16 rfl 1 rfl ?_
    obtain ⟨⟨ha3, hb3⟩, h⟩ := gd_e h
    obtain ⟨b3, hd3, hs3, h⟩ := rf_e h
    refine jj_aald hC hs2 (by decide) ha3 hb3 hd3 dX8_refusalOfLaunch_17 ?_
    obtain ⟨hg4, h⟩ := gd_e h
    refine jg_E hC kfX3 1 rfl hs3 (by decide) wd993 rfl hg4 dX8_refusalOfLaunch_18 (fun hr4 => ?_)
    refine jg_s (j := 0) hC 0 rfl rfl wd647 dX8_refusalOfLaunch_21 ?_
    refine jg_acmp_eq (tgt := 31) hC dX8_refusalOfLaunch_24 rfl ⟨hg4, hr4⟩ (show (0 ≤ (0 : Int) ∧ (0 : Int) < 9) from by decide) (fun hc => ?_) (fun hc => ?_)
    · replace h := (if_pos hc).symm.trans h
      refine jj_aload_n hC dX8_refusalOfLaunch_31 rfl 0 rfl ?_
      obtain ⟨b5, hb5, hs5, h⟩ := rf_e h
      refine jg_R hC kfX8 0 rfl hs0 (by decide) wd1036 rfl hb5 dX8_refusalOfLaunch_32 ?_
      refine jg_I hC kfX2 5 rfl hs5 (by decide) wd914 rfl dX8_refusalOfLaunch_35 (fun hr6 => ?_)
      refine jj_iconst hC dX8_refusalOfLaunch_38 ?_
      refine jj_icmp_ge (tgt := 48) hC dX8_refusalOfLaunch_39 rfl hr6 (show (-2147483648 ≤ (2 : Int) ∧ (2 : Int) < 2147483648) from by decide) (fun hc => ?_) (fun hc => ?_)
      · replace h := (if_pos hc).symm.trans h
        refine jg_s (j := 4) hC 4 rfl rfl wd571 dX8_refusalOfLaunch_48 ?_
        cases h
        exact jj_aret hC rfl (Or.inl ⟨_, rfl⟩) (c_le rfl) (c_le rfl) dX8_refusalOfLaunch_51 ⟨rfl, (show (0 ≤ (4 : Int) ∧ (4 : Int) < 9) from by decide), rfl, rfl, rfl, rfl, rfl⟩
      · replace h := (if_neg (Int.not_le.mpr hc)).symm.trans h
        refine jg_s (j := 8) hC 8 rfl rfl wd648 dX8_refusalOfLaunch_42 ?_
        refine jj_goto (tgt := 51) hC dX8_refusalOfLaunch_45 rfl ?_
        cases h
        exact jj_aret hC rfl (Or.inl ⟨_, rfl⟩) (c_le rfl) (c_le rfl) dX8_refusalOfLaunch_51 ⟨rfl, (show (0 ≤ (8 : Int) ∧ (8 : Int) < 9) from by decide), rfl, rfl, rfl, rfl, rfl⟩
    · replace h := (if_neg (hc)).symm.trans h
      refine jg_s (j := 7) hC 7 rfl rfl wd569 dX8_refusalOfLaunch_27 ?_
      cases h
      exact jj_aret hC rfl (Or.inl ⟨_, rfl⟩) (c_le rfl) (c_le rfl) dX8_refusalOfLaunch_30 ⟨rfl, (show (0 ≤ (7 : Int) ∧ (7 : Int) < 9) from by decide), rfl, rfl, rfl, rfl, rfl⟩
  · replace h := (if_neg (fun k => k hc)).symm.trans h
    refine jg_s (j := 5) hC 5 rfl rfl wd646 dX8_refusalOfLaunch_8 ?_
    cases h
    exact jj_aret hC rfl (Or.inl ⟨_, rfl⟩) (c_le rfl) (c_le rfl) dX8_refusalOfLaunch_11 ⟨rfl, (show (0 ≤ (5 : Int) ∧ (5 : Int) < 9) from by decide), rfl, rfl, rfl, rfl, rfl⟩
def fX8_refusalOfFlight (ad S Ln : Nat → Nat) (R : gR) (M : gM) (a0 : Nat) (x1 : Int) (x2 : Int) (x3 : Int) : Option Int :=
  bd (fX8_hasPilot ad S Ln R M a0 x1) fun q1 => if ¬ q1 = 0 then (if x2 < 0 then (some (6)) else (if 3 < x2 then (some (6)) else (if x3 < 1 then (some (6)) else (if x3 ≤ 60 then (rf S (R a0 3) 26 fun b2 => gd ((0 : Int) ≤ x1 ∧ x1 < (Ln b2 : Int)) (rf S (R b2 x1) 8 fun b3 => gd (0 ≤ M b3 1) (if (M b3 1) = 1 then (bd (fX9_eastward ad S Ln R M x2) fun q6 => bd (fX9_northward ad S Ln R M x2) fun q8 => bd (fX9_isCoordinate ad S Ln R M (w32 ((M b3 2) + (w32 (q6 * x3))))) fun q9 => if q9 = 0 then (some (8)) else (bd (fX9_isCoordinate ad S Ln R M (w32 ((M b3 3) + (w32 (q8 * x3))))) fun q10 => if q10 = 0 then (some (8)) else (some (4)))) else (some (7))))) else (some (6)))))) else (some (5))
theorem xX8_refusalOfFlight {l : Launch} {G : gE} {sz : Nat} {S Ln : Nat → Nat} {M : gM} {R : gR} (hl : l.stackTraces = false) {a0 : Nat} (hs0 : S a0 = 11) {x1 : Int} (hp1 : (-2147483648 ≤ x1 ∧ x1 < 2147483648)) {x2 : Int} (hp2 : (-2147483648 ≤ x2 ∧ x2 < 2147483648)) {x3 : Int} (hp3 : (-2147483648 ≤ x3 ∧ x3 < 2147483648)) {r : Int} (h : fX8_refusalOfFlight G.2.2.2.2 S Ln R M a0 x1 x2 x3 = some r) : Ct l G yX8_refusalOfFlight cX8_refusalOfFlight 7 (some (.object "GlidingContest$Refusal")) 2 0 0 [.ref a0, .int (iI x1), .int (iI x2), .int (iI x3)] sz S Ln M R (poE G r sz S Ln (M) R) noX := by
  refine jj_start (own := RX8) (lv0 := [(0, .ref a0), (1, .int (iI x1)), (2, .int (iI x2)), (3, .int (iI x3))]) hl (by decide +kernel) rfl rfl (c_le rfl) (fun C hCl hC => ?_)
  unfold fX8_refusalOfFlight at h
  refine jj_aload_n hC dX8_refusalOfFlight_0 rfl 0 rfl ?_
  refine jj_iload_n hC dX8_refusalOfFlight_1 rfl 1 rfl ?_
  obtain ⟨q1, hq1, h⟩ := bd_e h
  refine jj_invV hC mvX8_hasPilot wd66 wd67 wd645 hs0 (by decide) rfl (xX8_hasPilot (OKC.tr hC) hs0 hp1 hq1) rfl rfl (c_le rfl) (c_le rfl) (c_le rfl) (c_le rfl) dX8_refusalOfFlight_2 noXk (po_kZ (fun hr1 => ?_))
  refine jj_if_ne (tgt := 12) hC dX8_refusalOfFlight_5 rfl (r_z hr1) (fun hc => ?_) (fun hc => ?_)
  · replace h := (if_pos hc).symm.trans h
    refine jj_iload_n hC dX8_refusalOfFlight_12 rfl 2 rfl ?_
    refine jj_if_lt (tgt := 32) hC dX8_refusalOfFlight_13 rfl hp2 (fun hc => ?_) (fun hc => ?_)
    · replace h := (if_pos hc).symm.trans h
      refine jg_s (j := 6) hC 6 rfl rfl wd567 dX8_refusalOfFlight_32 ?_
      cases h
      exact jj_aret hC rfl (Or.inl ⟨_, rfl⟩) (c_le rfl) (c_le rfl) dX8_refusalOfFlight_35 ⟨rfl, (show (0 ≤ (6 : Int) ∧ (6 : Int) < 9) from by decide), rfl, rfl, rfl, rfl, rfl⟩
    · replace h := (if_neg (Int.not_lt.mpr hc)).symm.trans h
      refine jj_iload_n hC dX8_refusalOfFlight_16 rfl 2 rfl ?_
      refine jj_iconst hC dX8_refusalOfFlight_17 ?_
      refine jj_icmp_gt (tgt := 32) hC dX8_refusalOfFlight_18 rfl hp2 (show (-2147483648 ≤ (3 : Int) ∧ (3 : Int) < 2147483648) from by decide) (fun hc => ?_) (fun hc => ?_)
      · replace h := (if_pos hc).symm.trans h
        refine jg_s (j := 6) hC 6 rfl rfl wd567 dX8_refusalOfFlight_32 ?_
        cases h
        exact jj_aret hC rfl (Or.inl ⟨_, rfl⟩) (c_le rfl) (c_le rfl) dX8_refusalOfFlight_35 ⟨rfl, (show (0 ≤ (6 : Int) ∧ (6 : Int) < 9) from by decide), rfl, rfl, rfl, rfl, rfl⟩
      · replace h := (if_neg (Int.not_lt.mpr hc)).symm.trans h
        refine jj_iload_n hC dX8_refusalOfFlight_21 rfl 3 rfl ?_
        refine jj_iconst hC dX8_refusalOfFlight_22 ?_
        refine jj_icmp_lt (tgt := 32) hC dX8_refusalOfFlight_23 rfl hp3 (show (-2147483648 ≤ (1 : Int) ∧ (1 : Int) < 2147483648) from by decide) (fun hc => ?_) (fun hc => ?_)
        · replace h := (if_pos hc).symm.trans h
          refine jg_s (j := 6) hC 6 rfl rfl wd567 dX8_refusalOfFlight_32 ?_
          cases h
          exact jj_aret hC rfl (Or.inl ⟨_, rfl⟩) (c_le rfl) (c_le rfl) dX8_refusalOfFlight_35 ⟨rfl, (show (0 ≤ (6 : Int) ∧ (6 : Int) < 9) from by decide), rfl, rfl, rfl, rfl, rfl⟩
        · replace h := (if_neg (Int.not_lt.mpr hc)).symm.trans h
          refine jj_iload_n hC dX8_refusalOfFlight_26 rfl 3 rfl ?_
          refine jj_bipush hC dX8_refusalOfFlight_27 (by decide) ?_
          refine jj_icmp_le (tgt := 36) hC dX8_refusalOfFlight_29 rfl hp3 (show (-2147483648 ≤ (60 : Int) ∧ (60 : Int) < 2147483648) from by decide) (fun hc => ?_) (fun hc => ?_)
          · replace h := (if_pos hc).symm.trans h
            refine jj_aload_n hC dX8_refusalOfFlight_36 rfl 0 rfl ?_
            obtain ⟨b2, hb2, hs2, h⟩ := rf_e h
            refine jg_R hC kfX8 3 rfl hs0 (by decide) wd1042 rfl hb2 dX8_refusalOfFlight_37 ?_
            refine jj_iload_n hC dX8_refusalOfFlight_40 rfl 1 rfl ?_
            obtain ⟨⟨ha3, hb3⟩, h⟩ := gd_e h
            obtain ⟨b3, hd3, hs3, h⟩ := rf_e h
            refine jj_aald hC hs2 (by decide) ha3 hb3 hd3 dX8_refusalOfFlight_41 ?_
            refine jj_astore (lv' := [(4, .ref b3), (0, .ref a0), (1, .int (iI x1)), (2, .int (iI x2)), (3, .int (iI x3))]) hC dX8_refusalOfFlight_42 (by decide) rfl ?_
            refine jj_aload hC dX8_refusalOfFlight_44 0 rfl ?_
            obtain ⟨hg4, h⟩ := gd_e h
            refine jg_E hC kfX3 1 rfl hs3 (by decide) wd993 rfl hg4 dX8_refusalOfFlight_46 (fun hr4 => ?_)
            refine jg_s (j := 1) hC 1 rfl rfl wd665 dX8_refusalOfFlight_49 ?_
            refine jg_acmp_eq (tgt := 59) hC dX8_refusalOfFlight_52 rfl ⟨hg4, hr4⟩ (show (0 ≤ (1 : Int) ∧ (1 : Int) < 9) from by decide) (fun hc => ?_) (fun hc => ?_)
            · replace h := (if_pos hc).symm.trans h
              refine jj_aload hC dX8_refusalOfFlight_59 0 rfl ?_
              refine jg_I hC kfX3 2 rfl hs3 (by decide) wd996 rfl dX8_refusalOfFlight_61 (fun hr5 => ?_)
              refine jj_iload_n hC dX8_refusalOfFlight_64 rfl 3 rfl ?_
              obtain ⟨q6, hq6, h⟩ := bd_e h
              refine jj_invSN hC mvX9_eastward wd683 wd682 (xX9_eastward (OKC.tr hC) hp2 hq6) rfl rfl (c_le rfl) (c_le rfl) (c_le rfl) (c_le rfl) dX8_refusalOfFlight_65 (po_kI (fun hr6 => ?_))
              refine jj_iload_n hC dX8_refusalOfFlight_68 rfl 4 rfl ?_
              refine jg_imul hC dX8_refusalOfFlight_69 ?_
              refine jg_iadd hC dX8_refusalOfFlight_70 ?_
              refine jj_istore (lv' := [(5, .int (iI (w32 ((M b3 2) + (w32 (q6 * x3)))))), (4, .ref b3), (0, .ref a0), (1, .int (iI x1)), (2, .int (iI x2)), (3, .int (iI x3))]) hC dX8_refusalOfFlight_71 (by decide) rfl ?_
              refine jj_aload hC dX8_refusalOfFlight_73 1 rfl ?_
              refine jg_I hC kfX3 3 rfl hs3 (by decide) wd999 rfl dX8_refusalOfFlight_75 (fun hr7 => ?_)
              refine jj_iload_n hC dX8_refusalOfFlight_78 rfl 4 rfl ?_
              obtain ⟨q8, hq8, h⟩ := bd_e h
              refine jj_invSN hC mvX9_northward wd686 wd685 (xX9_northward (OKC.tr hC) hp2 hq8) rfl rfl (c_le rfl) (c_le rfl) (c_le rfl) (c_le rfl) dX8_refusalOfFlight_79 (po_kI (fun hr8 => ?_))
              refine jj_iload_n hC dX8_refusalOfFlight_82 rfl 5 rfl ?_
              refine jg_imul hC dX8_refusalOfFlight_83 ?_
              refine jg_iadd hC dX8_refusalOfFlight_84 ?_
              refine jj_istore (lv' := [(6, .int (iI (w32 ((M b3 3) + (w32 (q8 * x3)))))), (5, .int (iI (w32 ((M b3 2) + (w32 (q6 * x3)))))), (4, .ref b3), (0, .ref a0), (1, .int (iI x1)), (2, .int (iI x2)), (3, .int (iI x3))]) hC dX8_refusalOfFlight_85 (by decide) rfl ?_
              refine jj_iload hC dX8_refusalOfFlight_87 1 rfl ?_
              obtain ⟨q9, hq9, h⟩ := bd_e h
              refine jj_invSN hC mvX9_isCoordinate wd689 wd688 (xX9_isCoordinate (OKC.tr hC) (w32_r _) hq9) rfl rfl (c_le rfl) (c_le rfl) (c_le rfl) (c_le rfl) dX8_refusalOfFlight_89 (po_kZ (fun hr9 => ?_))
              refine jj_if_eq (tgt := 109) hC dX8_refusalOfFlight_92 rfl (r_z hr9) (fun hc => ?_) (fun hc => ?_)
              · replace h := (if_pos hc).symm.trans h
                refine jg_s (j := 8) hC 8 rfl rfl wd648 dX8_refusalOfFlight_109 ?_
                cases h
                exact jj_aret hC rfl (Or.inl ⟨_, rfl⟩) (c_le rfl) (c_le rfl) dX8_refusalOfFlight_112 ⟨rfl, (show (0 ≤ (8 : Int) ∧ (8 : Int) < 9) from by decide), rfl, rfl, rfl, rfl, rfl⟩
              · replace h := (if_neg (hc)).symm.trans h
                refine jj_iload hC dX8_refusalOfFlight_95 0 rfl ?_
                obtain ⟨q10, hq10, h⟩ := bd_e h
                refine jj_invSN hC mvX9_isCoordinate wd689 wd688 (xX9_isCoordinate (OKC.tr hC) (w32_r _) hq10) rfl rfl (c_le rfl) (c_le rfl) (c_le rfl) (c_le rfl) dX8_refusalOfFlight_97 (po_kZ (fun hr10 => ?_))
                refine jj_if_eq (tgt := 109) hC dX8_refusalOfFlight_100 rfl (r_z hr10) (fun hc => ?_) (fun hc => ?_)
                · replace h := (if_pos hc).symm.trans h
                  refine jg_s (j := 8) hC 8 rfl rfl wd648 dX8_refusalOfFlight_109 ?_
                  cases h
                  exact jj_aret hC rfl (Or.inl ⟨_, rfl⟩) (c_le rfl) (c_le rfl) dX8_refusalOfFlight_112 ⟨rfl, (show (0 ≤ (8 : Int) ∧ (8 : Int) < 9) from by decide), rfl, rfl, rfl, rfl, rfl⟩
                · replace h := (if_neg (hc)).symm.trans h
                  refine jg_s (j := 4) hC 4 rfl rfl wd571 dX8_refusalOfFlight_103 ?_
                  refine jj_goto (tgt := 112) hC dX8_refusalOfFlight_106 rfl ?_
                  cases h
                  exact jj_aret hC rfl (Or.inl ⟨_, rfl⟩) (c_le rfl) (c_le rfl) dX8_refusalOfFlight_112 ⟨rfl, (show (0 ≤ (4 : Int) ∧ (4 : Int) < 9) from by decide), rfl, rfl, rfl, rfl, rfl⟩
            · replace h := (if_neg (hc)).symm.trans h
              refine jg_s (j := 7) hC 7 rfl rfl wd569 dX8_refusalOfFlight_55 ?_
              cases h
              exact jj_aret hC rfl (Or.inl ⟨_, rfl⟩) (c_le rfl) (c_le rfl) dX8_refusalOfFlight_58 ⟨rfl, (show (0 ≤ (7 : Int) ∧ (7 : Int) < 9) from by decide), rfl, rfl, rfl, rfl, rfl⟩
          · replace h := (if_neg (Int.not_le.mpr hc)).symm.trans h
            refine jg_s (j := 6) hC 6 rfl rfl wd567 dX8_refusalOfFlight_32 ?_
            cases h
            exact jj_aret hC rfl (Or.inl ⟨_, rfl⟩) (c_le rfl) (c_le rfl) dX8_refusalOfFlight_35 ⟨rfl, (show (0 ≤ (6 : Int) ∧ (6 : Int) < 9) from by decide), rfl, rfl, rfl, rfl, rfl⟩
  · replace h := (if_neg (fun k => k hc)).symm.trans h
    refine jg_s (j := 5) hC 5 rfl rfl wd646 dX8_refusalOfFlight_8 ?_
    cases h
    exact jj_aret hC rfl (Or.inl ⟨_, rfl⟩) (c_le rfl) (c_le rfl) dX8_refusalOfFlight_11 ⟨rfl, (show (0 ≤ (5 : Int) ∧ (5 : Int) < 9) from by decide), rfl, rfl, rfl, rfl, rfl⟩
def fX8_refusalOfClimb_B71 (ad S Ln : Nat → Nat) (R : gR) (M : gM) (s0_71 : Int) : Option Int :=
  if s0_71 = 0 then (some (8)) else (some (4))
def fX8_refusalOfClimb (ad S Ln : Nat → Nat) (R : gR) (M : gM) (a0 : Nat) (x1 : Int) (x2 : Int) : Option Int :=
  bd (fX8_hasPilot ad S Ln R M a0 x1) fun q1 => if ¬ q1 = 0 then (if x2 < 1 then (some (6)) else (if x2 ≤ 30 then (rf S (R a0 3) 26 fun b2 => gd ((0 : Int) ≤ x1 ∧ x1 < (Ln b2 : Int)) (rf S (R b2 x1) 8 fun b3 => gd (0 ≤ M b3 1) (if (M b3 1) = 1 then (rf S (R a0 1) 5 fun b5 => bd (fX0_strongestAt ad S Ln R M b5 (M b3 2) (M b3 3)) fun q8 => if q8 ≤ 0 then (fX8_refusalOfClimb_B71 ad S Ln R M 0) else (fX8_refusalOfClimb_B71 ad S Ln R M 1)) else (some (7))))) else (some (6)))) else (some (5))
theorem xX8_refusalOfClimb {l : Launch} {G : gE} {sz : Nat} {S Ln : Nat → Nat} {M : gM} {R : gR} (hl : l.stackTraces = false) {a0 : Nat} (hs0 : S a0 = 11) {x1 : Int} (hp1 : (-2147483648 ≤ x1 ∧ x1 < 2147483648)) {x2 : Int} (hp2 : (-2147483648 ≤ x2 ∧ x2 < 2147483648)) {r : Int} (h : fX8_refusalOfClimb G.2.2.2.2 S Ln R M a0 x1 x2 = some r) : Ct l G yX8_refusalOfClimb cX8_refusalOfClimb 5 (some (.object "GlidingContest$Refusal")) 2 0 0 [.ref a0, .int (iI x1), .int (iI x2)] sz S Ln M R (poE G r sz S Ln (M) R) noX := by
  refine jj_start (own := RX8) (lv0 := [(0, .ref a0), (1, .int (iI x1)), (2, .int (iI x2))]) hl (by decide +kernel) rfl rfl (c_le rfl) (fun C hCl hC => ?_)
  have hB71 : ∀ (s0_71 : Int), (0 ≤ s0_71 ∧ s0_71 ≤ 1) → fX8_refusalOfClimb_B71 G.2.2.2.2 S Ln R M s0_71 = some r → JJ G C 0 0 sz S Ln M R 71 [] [.int (iI s0_71)] := by
    intro s0_71 hs0_71 h
    unfold fX8_refusalOfClimb_B71 at h
    refine jj_istore (lv' := [(4, .int (iI s0_71))]) hC dX8_refusalOfClimb_71 (by decide) rfl ?_
    refine jj_iload hC dX8_refusalOfClimb_73 0 rfl ?_
    refine jj_if_eq (tgt := 84) hC dX8_refusalOfClimb_75 rfl (r_z hs0_71) (fun hc => ?_) (fun hc => ?_)
    · replace h := (if_pos hc).symm.trans h
      refine jg_s (j := 8) hC 8 rfl rfl wd648 dX8_refusalOfClimb_84 ?_
      cases h
      exact jj_aret hC rfl (Or.inl ⟨_, rfl⟩) (c_le rfl) (c_le rfl) dX8_refusalOfClimb_87 ⟨rfl, (show (0 ≤ (8 : Int) ∧ (8 : Int) < 9) from by decide), rfl, rfl, rfl, rfl, rfl⟩
    · replace h := (if_neg (hc)).symm.trans h
      refine jg_s (j := 4) hC 4 rfl rfl wd571 dX8_refusalOfClimb_78 ?_
      refine jj_goto (tgt := 87) hC dX8_refusalOfClimb_81 rfl ?_
      cases h
      exact jj_aret hC rfl (Or.inl ⟨_, rfl⟩) (c_le rfl) (c_le rfl) dX8_refusalOfClimb_87 ⟨rfl, (show (0 ≤ (4 : Int) ∧ (4 : Int) < 9) from by decide), rfl, rfl, rfl, rfl, rfl⟩
  unfold fX8_refusalOfClimb at h
  refine jj_aload_n hC dX8_refusalOfClimb_0 rfl 0 rfl ?_
  refine jj_iload_n hC dX8_refusalOfClimb_1 rfl 1 rfl ?_
  obtain ⟨q1, hq1, h⟩ := bd_e h
  refine jj_invV hC mvX8_hasPilot wd66 wd67 wd645 hs0 (by decide) rfl (xX8_hasPilot (OKC.tr hC) hs0 hp1 hq1) rfl rfl (c_le rfl) (c_le rfl) (c_le rfl) (c_le rfl) dX8_refusalOfClimb_2 noXk (po_kZ (fun hr1 => ?_))
  refine jj_if_ne (tgt := 12) hC dX8_refusalOfClimb_5 rfl (r_z hr1) (fun hc => ?_) (fun hc => ?_)
  · replace h := (if_pos hc).symm.trans h
    refine jj_iload_n hC dX8_refusalOfClimb_12 rfl 2 rfl ?_
    refine jj_iconst hC dX8_refusalOfClimb_13 ?_
    refine jj_icmp_lt (tgt := 23) hC dX8_refusalOfClimb_14 rfl hp2 (show (-2147483648 ≤ (1 : Int) ∧ (1 : Int) < 2147483648) from by decide) (fun hc => ?_) (fun hc => ?_)
    · replace h := (if_pos hc).symm.trans h
      refine jg_s (j := 6) hC 6 rfl rfl wd567 dX8_refusalOfClimb_23 ?_
      cases h
      exact jj_aret hC rfl (Or.inl ⟨_, rfl⟩) (c_le rfl) (c_le rfl) dX8_refusalOfClimb_26 ⟨rfl, (show (0 ≤ (6 : Int) ∧ (6 : Int) < 9) from by decide), rfl, rfl, rfl, rfl, rfl⟩
    · replace h := (if_neg (Int.not_lt.mpr hc)).symm.trans h
      refine jj_iload_n hC dX8_refusalOfClimb_17 rfl 2 rfl ?_
      refine jj_bipush hC dX8_refusalOfClimb_18 (by decide) ?_
      refine jj_icmp_le (tgt := 27) hC dX8_refusalOfClimb_20 rfl hp2 (show (-2147483648 ≤ (30 : Int) ∧ (30 : Int) < 2147483648) from by decide) (fun hc => ?_) (fun hc => ?_)
      · replace h := (if_pos hc).symm.trans h
        refine jj_aload_n hC dX8_refusalOfClimb_27 rfl 0 rfl ?_
        obtain ⟨b2, hb2, hs2, h⟩ := rf_e h
        refine jg_R hC kfX8 3 rfl hs0 (by decide) wd1042 rfl hb2 dX8_refusalOfClimb_28 ?_
        refine jj_iload_n hC dX8_refusalOfClimb_31 rfl 1 rfl ?_
        obtain ⟨⟨ha3, hb3⟩, h⟩ := gd_e h
        obtain ⟨b3, hd3, hs3, h⟩ := rf_e h
        refine jj_aald hC hs2 (by decide) ha3 hb3 hd3 dX8_refusalOfClimb_32 ?_
        refine jj_astore_n (lv' := [(3, .ref b3), (0, .ref a0), (1, .int (iI x1)), (2, .int (iI x2))]) hC dX8_refusalOfClimb_33 rfl (by decide) rfl ?_
        refine jj_aload_n hC dX8_refusalOfClimb_34 rfl 0 rfl ?_
        obtain ⟨hg4, h⟩ := gd_e h
        refine jg_E hC kfX3 1 rfl hs3 (by decide) wd993 rfl hg4 dX8_refusalOfClimb_35 (fun hr4 => ?_)
        refine jg_s (j := 1) hC 1 rfl rfl wd665 dX8_refusalOfClimb_38 ?_
        refine jg_acmp_eq (tgt := 48) hC dX8_refusalOfClimb_41 rfl ⟨hg4, hr4⟩ (show (0 ≤ (1 : Int) ∧ (1 : Int) < 9) from by decide) (fun hc => ?_) (fun hc => ?_)
        · replace h := (if_pos hc).symm.trans h
          refine jj_aload_n hC dX8_refusalOfClimb_48 rfl 1 rfl ?_
          obtain ⟨b5, hb5, hs5, h⟩ := rf_e h
          refine jg_R hC kfX8 1 rfl hs0 (by decide) wd1038 rfl hb5 dX8_refusalOfClimb_49 ?_
          refine jj_aload_n hC dX8_refusalOfClimb_52 rfl 0 rfl ?_
          refine jg_I hC kfX3 2 rfl hs3 (by decide) wd996 rfl dX8_refusalOfClimb_53 (fun hr6 => ?_)
          refine jj_aload_n hC dX8_refusalOfClimb_56 rfl 0 rfl ?_
          refine jg_I hC kfX3 3 rfl hs3 (by decide) wd999 rfl dX8_refusalOfClimb_57 (fun hr7 => ?_)
          obtain ⟨q8, hq8, h⟩ := bd_e h
          refine jj_invV hC mvX0_strongestAt wd796 wd797 wd1255 hs5 (by decide) rfl (xX0_strongestAt (OKC.tr hC) hs5 hr6 hr7 hq8) rfl rfl (c_le rfl) (c_le rfl) (c_le rfl) (c_le rfl) dX8_refusalOfClimb_60 noXk (po_kI (fun hr8 => ?_))
          refine jj_if_le (tgt := 70) hC dX8_refusalOfClimb_63 rfl hr8 (fun hc => ?_) (fun hc => ?_)
          · replace h := (if_pos hc).symm.trans h
            refine jj_iconst hC dX8_refusalOfClimb_70 ?_
            refine jj_lv (lv' := []) [] rfl ?_
            exact hB71 0 (show (0 ≤ (0 : Int) ∧ (0 : Int) ≤ 1) from by decide) h
          · replace h := (if_neg (Int.not_le.mpr hc)).symm.trans h
            refine jj_iconst hC dX8_refusalOfClimb_66 ?_
            refine jj_goto (tgt := 71) hC dX8_refusalOfClimb_67 rfl ?_
            refine jj_lv (lv' := []) [] rfl ?_
            exact hB71 1 (show (0 ≤ (1 : Int) ∧ (1 : Int) ≤ 1) from by decide) h
        · replace h := (if_neg (hc)).symm.trans h
          refine jg_s (j := 7) hC 7 rfl rfl wd569 dX8_refusalOfClimb_44 ?_
          cases h
          exact jj_aret hC rfl (Or.inl ⟨_, rfl⟩) (c_le rfl) (c_le rfl) dX8_refusalOfClimb_47 ⟨rfl, (show (0 ≤ (7 : Int) ∧ (7 : Int) < 9) from by decide), rfl, rfl, rfl, rfl, rfl⟩
      · replace h := (if_neg (Int.not_le.mpr hc)).symm.trans h
        refine jg_s (j := 6) hC 6 rfl rfl wd567 dX8_refusalOfClimb_23 ?_
        cases h
        exact jj_aret hC rfl (Or.inl ⟨_, rfl⟩) (c_le rfl) (c_le rfl) dX8_refusalOfClimb_26 ⟨rfl, (show (0 ≤ (6 : Int) ∧ (6 : Int) < 9) from by decide), rfl, rfl, rfl, rfl, rfl⟩
  · replace h := (if_neg (fun k => k hc)).symm.trans h
    refine jg_s (j := 5) hC 5 rfl rfl wd646 dX8_refusalOfClimb_8 ?_
    cases h
    exact jj_aret hC rfl (Or.inl ⟨_, rfl⟩) (c_le rfl) (c_le rfl) dX8_refusalOfClimb_11 ⟨rfl, (show (0 ≤ (5 : Int) ∧ (5 : Int) < 9) from by decide), rfl, rfl, rfl, rfl, rfl⟩
def fX8_refusalOfEnd_B22 (ad S Ln : Nat → Nat) (R : gR) (M : gM) (s0_22 : Int) : Option Int :=
  if s0_22 = 0 then (some (4)) else (some (7))
def fX8_refusalOfEnd_B17 (ad S Ln : Nat → Nat) (R : gR) (M : gM)  : Option Int :=
  fX8_refusalOfEnd_B22 ad S Ln R M 1
def fX8_refusalOfEnd (ad S Ln : Nat → Nat) (R : gR) (M : gM) (a0 : Nat) : Option Int :=
  bd (fX8_allWaiting ad S Ln R M a0) fun q1 => if ¬ q1 = 0 then (fX8_refusalOfEnd_B17 ad S Ln R M ) else (bd (fX8_countInPhase ad S Ln R M a0 1) fun q2 => if q2 ≤ 0 then (fX8_refusalOfEnd_B22 ad S Ln R M 0) else (fX8_refusalOfEnd_B17 ad S Ln R M ))
theorem xX8_refusalOfEnd {l : Launch} {G : gE} {sz : Nat} {S Ln : Nat → Nat} {M : gM} {R : gR} (hl : l.stackTraces = false) {a0 : Nat} (hs0 : S a0 = 11) {r : Int} (h : fX8_refusalOfEnd G.2.2.2.2 S Ln R M a0 = some r) : Ct l G yX8_refusalOfEnd cX8_refusalOfEnd 2 (some (.object "GlidingContest$Refusal")) 3 0 0 [.ref a0] sz S Ln M R (poE G r sz S Ln (M) R) noX := by
  refine jj_start (own := RX8) (lv0 := [(0, .ref a0)]) hl (by decide +kernel) rfl rfl (c_le rfl) (fun C hCl hC => ?_)
  have hB22 : ∀ (s0_22 : Int), (0 ≤ s0_22 ∧ s0_22 ≤ 1) → fX8_refusalOfEnd_B22 G.2.2.2.2 S Ln R M s0_22 = some r → JJ G C 0 0 sz S Ln M R 22 [] [.int (iI s0_22)] := by
    intro s0_22 hs0_22 h
    unfold fX8_refusalOfEnd_B22 at h
    refine jj_istore_n (lv' := [(1, .int (iI s0_22))]) hC dX8_refusalOfEnd_22 rfl (by decide) rfl ?_
    refine jj_iload_n hC dX8_refusalOfEnd_23 rfl 0 rfl ?_
    refine jj_if_eq (tgt := 33) hC dX8_refusalOfEnd_24 rfl (r_z hs0_22) (fun hc => ?_) (fun hc => ?_)
    · replace h := (if_pos hc).symm.trans h
      refine jg_s (j := 4) hC 4 rfl rfl wd571 dX8_refusalOfEnd_33 ?_
      cases h
      exact jj_aret hC rfl (Or.inl ⟨_, rfl⟩) (c_le rfl) (c_le rfl) dX8_refusalOfEnd_36 ⟨rfl, (show (0 ≤ (4 : Int) ∧ (4 : Int) < 9) from by decide), rfl, rfl, rfl, rfl, rfl⟩
    · replace h := (if_neg (hc)).symm.trans h
      refine jg_s (j := 7) hC 7 rfl rfl wd569 dX8_refusalOfEnd_27 ?_
      refine jj_goto (tgt := 36) hC dX8_refusalOfEnd_30 rfl ?_
      cases h
      exact jj_aret hC rfl (Or.inl ⟨_, rfl⟩) (c_le rfl) (c_le rfl) dX8_refusalOfEnd_36 ⟨rfl, (show (0 ≤ (7 : Int) ∧ (7 : Int) < 9) from by decide), rfl, rfl, rfl, rfl, rfl⟩
  have hB17 : fX8_refusalOfEnd_B17 G.2.2.2.2 S Ln R M  = some r → JJ G C 0 0 sz S Ln M R 17 [] [] := by
    intro h
    unfold fX8_refusalOfEnd_B17 at h
    refine jj_iconst hC dX8_refusalOfEnd_17 ?_
    refine jj_goto (tgt := 22) hC dX8_refusalOfEnd_18 rfl ?_
    refine jj_lv (lv' := []) [] rfl ?_
    exact hB22 1 (show (0 ≤ (1 : Int) ∧ (1 : Int) ≤ 1) from by decide) h
  unfold fX8_refusalOfEnd at h
  refine jj_aload_n hC dX8_refusalOfEnd_0 rfl 0 rfl ?_
  obtain ⟨q1, hq1, h⟩ := bd_e h
  refine jj_invV hC mvX8_allWaiting wd746 wd747 wd745 hs0 (by decide) rfl (xX8_allWaiting (OKC.tr hC) hs0 hq1) rfl rfl (c_le rfl) (c_le rfl) (c_le rfl) (c_le rfl) dX8_refusalOfEnd_1 noXk (po_kZ (fun hr1 => ?_))
  refine jj_if_ne (tgt := 17) hC dX8_refusalOfEnd_4 rfl (r_z hr1) (fun hc => ?_) (fun hc => ?_)
  · replace h := (if_pos hc).symm.trans h
    refine jj_lv (lv' := []) [] rfl ?_
    exact hB17   h
  · replace h := (if_neg (fun k => k hc)).symm.trans h
    refine jj_aload_n hC dX8_refusalOfEnd_7 rfl 0 rfl ?_
    refine jg_s (j := 1) hC 1 rfl rfl wd665 dX8_refusalOfEnd_8 ?_
    obtain ⟨q2, hq2, h⟩ := bd_e h
    refine jj_invV hC mvX8_countInPhase wd667 wd668 wd666 hs0 (by decide) rfl (xX8_countInPhase (OKC.tr hC) hs0 (show (0 ≤ (1 : Int) ∧ (1 : Int) < 9) from by decide) hq2) rfl rfl (c_le rfl) (c_le rfl) (c_le rfl) (c_le rfl) dX8_refusalOfEnd_11 noXk (po_kI (fun hr2 => ?_))
    refine jj_if_le (tgt := 21) hC dX8_refusalOfEnd_14 rfl hr2 (fun hc => ?_) (fun hc => ?_)
    · replace h := (if_pos hc).symm.trans h
      refine jj_iconst hC dX8_refusalOfEnd_21 ?_
      refine jj_lv (lv' := []) [] rfl ?_
      exact hB22 0 (show (0 ≤ (0 : Int) ∧ (0 : Int) ≤ 1) from by decide) h
    · replace h := (if_neg (Int.not_le.mpr hc)).symm.trans h
      refine jj_lv (lv' := []) [] rfl ?_
      exact hB17   h
def fX8_putPilot (ad S Ln : Nat → Nat) (R : gR) (M : gM) (a0 : Nat) (x1 : Int) : Option (Int × gM) :=
  if (M a0 4) < 6 then (rf S (R a0 3) 26 fun b2 => gd ((0 : Int) ≤ (M a0 4) ∧ (M a0 4) < (Ln b2 : Int)) (rf S (R b2 (M a0 4)) 8 fun b4 => bd (fX3_enter ad S Ln R M b4 x1) fun q5 => nam (wr q5 a0 4 (w32 ((q5 a0 4) + 1))) fun M7 => some ((w32 ((M7 a0 4) - 1), M7)))) else (some (((-1), M)))
theorem xX8_putPilot {l : Launch} {G : gE} {sz : Nat} {S Ln : Nat → Nat} {M : gM} {R : gR} (hl : l.stackTraces = false) {a0 : Nat} (hs0 : S a0 = 11) {x1 : Int} (hp1 : (-2147483648 ≤ x1 ∧ x1 < 2147483648)) {r : Int × gM} (h : fX8_putPilot G.2.2.2.2 S Ln R M a0 x1 = some r) : Ct l G yX8_putPilot cX8_putPilot 2 (some .int) 3 0 0 [.ref a0, .int (iI x1)] sz S Ln M R (poI r.1 sz S Ln (r.2) R) noX := by
  refine jj_start (own := RX8) (lv0 := [(0, .ref a0), (1, .int (iI x1))]) hl (by decide +kernel) rfl rfl (c_le rfl) (fun C hCl hC => ?_)
  unfold fX8_putPilot at h
  refine jj_aload_n hC dX8_putPilot_0 rfl 0 rfl ?_
  refine jg_I hC kfX8 4 rfl hs0 (by decide) wd1044 rfl dX8_putPilot_1 (fun hr1 => ?_)
  refine jj_bipush hC dX8_putPilot_4 (by decide) ?_
  refine jj_icmp_lt (tgt := 11) hC dX8_putPilot_6 rfl hr1 (show (-2147483648 ≤ (6 : Int) ∧ (6 : Int) < 2147483648) from by decide) (fun hc => ?_) (fun hc => ?_)
  · replace h := (if_pos hc).symm.trans h
    refine jj_aload_n hC dX8_putPilot_11 rfl 0 rfl ?_
    obtain ⟨b2, hb2, hs2, h⟩ := rf_e h
    refine jg_R hC kfX8 3 rfl hs0 (by decide) wd1042 rfl hb2 dX8_putPilot_12 ?_
    refine jj_aload_n hC dX8_putPilot_15 rfl 0 rfl ?_
    refine jg_I hC kfX8 4 rfl hs0 (by decide) wd1044 rfl dX8_putPilot_16 (fun hr3 => ?_)
    obtain ⟨⟨ha4, hb4⟩, h⟩ := gd_e h
    obtain ⟨b4, hd4, hs4, h⟩ := rf_e h
    refine jj_aald hC hs2 (by decide) ha4 hb4 hd4 dX8_putPilot_19 ?_
    refine jj_iload_n hC dX8_putPilot_20 rfl 1 rfl ?_
    obtain ⟨q5, hq5, h⟩ := bd_e h
    refine jj_invV hC mvX3_enter wd621 wd622 wd620 hs4 (by decide) rfl (xX3_enter (OKC.tr hC) hs4 hp1 hq5) rfl rfl (c_le rfl) (c_le rfl) (c_le rfl) (c_le rfl) dX8_putPilot_21 noXk (po_kV ?_)
    refine jj_aload_n hC dX8_putPilot_24 rfl 0 rfl ?_
    refine jj_dup hC dX8_putPilot_25 rfl ?_
    refine jg_I hC kfX8 4 rfl hs0 (by decide) wd1044 rfl dX8_putPilot_26 (fun hr6 => ?_)
    refine jj_iconst hC dX8_putPilot_29 ?_
    refine jg_iadd hC dX8_putPilot_30 ?_
    obtain ⟨M7, hM7, h⟩ := nam_e h
    refine jp_I hC kfX8 4 rfl hs0 rfl (by decide) wd1044 rfl rfl rfl (w32_r _) dX8_putPilot_31 (jj_M hM7 ?_)
    refine jj_aload_n hC dX8_putPilot_34 rfl 0 rfl ?_
    refine jg_I hC kfX8 4 rfl hs0 (by decide) wd1044 rfl dX8_putPilot_35 (fun hr8 => ?_)
    refine jj_iconst hC dX8_putPilot_38 ?_
    refine jg_isub hC dX8_putPilot_39 ?_
    cases h
    exact jj_iret hC (c_le rfl) (c_le rfl) dX8_putPilot_40 ⟨rfl, (w32_r _), rfl, rfl, rfl, rfl, rfl⟩
  · replace h := (if_neg (Int.not_lt.mpr hc)).symm.trans h
    refine jj_iconst hC dX8_putPilot_9 ?_
    cases h
    exact jj_iret hC (c_le rfl) (c_le rfl) dX8_putPilot_10 ⟨rfl, (show (-2147483648 ≤ ((-1) : Int) ∧ ((-1) : Int) < 2147483648) from by decide), rfl, rfl, rfl, rfl, rfl⟩
def fX8_start_B75 (ad S Ln : Nat → Nat) (R : gR) (M75 : gM) (l0_75 : Nat) : Option (Int × gM) :=
  bd (fX8_countInPhase ad S Ln R M75 l0_75 1) fun q2 => some ((q2, M75))
def fX8_start (ad S Ln : Nat → Nat) (R : gR) (M : gM) (a0 : Nat) (x1 : Int) : Option (Int × gM) :=
  bd (fX8_hasPilot ad S Ln R M a0 x1) fun q1 => if q1 = 0 then (fX8_start_B75 ad S Ln R M a0) else (rf S (R a0 0) 7 fun b3 => bd (fX2_hasStop ad S Ln R M b3 0) fun q4 => if q4 = 0 then (fX8_start_B75 ad S Ln R M a0) else (rf S (R a0 0) 7 fun b5 => rf S (R a0 0) 7 fun b6 => rf S (R b6 3) 20 fun b7 => gd ((0 : Int) ≤ 0 ∧ 0 < (Ln b7 : Int)) (bd (fX2_hasPoint ad S Ln R M b5 (M b7 0)) fun q9 => if q9 = 0 then (fX8_start_B75 ad S Ln R M a0) else (rf S (R a0 0) 7 fun b10 => rf S (R b10 3) 20 fun b11 => gd ((0 : Int) ≤ 0 ∧ 0 < (Ln b11 : Int)) (rf S (R a0 3) 26 fun b13 => gd ((0 : Int) ≤ x1 ∧ x1 < (Ln b13 : Int)) (rf S (R b13 x1) 8 fun b14 => rf S (R a0 0) 7 fun b15 => rf S (R b15 0) 20 fun b16 => gd ((0 : Int) ≤ (M b11 0) ∧ (M b11 0) < (Ln b16 : Int)) (rf S (R a0 0) 7 fun b18 => rf S (R b18 1) 20 fun b19 => gd ((0 : Int) ≤ (M b11 0) ∧ (M b11 0) < (Ln b19 : Int)) (bd (fX3_takeOff ad S Ln R M b14 (M b16 (M b11 0)) (M b19 (M b11 0))) fun q21 => fX8_start_B75 ad S Ln R q21 a0))))))))
theorem xX8_start {l : Launch} {G : gE} {sz : Nat} {S Ln : Nat → Nat} {M : gM} {R : gR} (hl : l.stackTraces = false) {a0 : Nat} (hs0 : S a0 = 11) {x1 : Int} (hp1 : (-2147483648 ≤ x1 ∧ x1 < 2147483648)) {r : Int × gM} (h : fX8_start G.2.2.2.2 S Ln R M a0 x1 = some r) : Ct l G yX8_start cX8_start 3 (some .int) 2 0 0 [.ref a0, .int (iI x1)] sz S Ln M R (poI r.1 sz S Ln (r.2) R) noX := by
  refine jj_start (own := RX8) (lv0 := [(0, .ref a0), (1, .int (iI x1))]) hl (by decide +kernel) rfl rfl (c_le rfl) (fun C hCl hC => ?_)
  have hB75 : ∀ (M75 : gM) (l0_75 : Nat), S l0_75 = 11 → fX8_start_B75 G.2.2.2.2 S Ln R M75 l0_75 = some r → JJ G C 0 0 sz S Ln M75 R 75 [(0, .ref l0_75)] [] := by
    intro M75 l0_75 hl0_75 h
    unfold fX8_start_B75 at h
    refine jj_aload_n hC dX8_start_75 rfl 0 rfl ?_
    refine jg_s (j := 1) hC 1 rfl rfl wd665 dX8_start_76 ?_
    obtain ⟨q2, hq2, h⟩ := bd_e h
    refine jj_invV hC mvX8_countInPhase wd667 wd668 wd666 hl0_75 (by decide) rfl (xX8_countInPhase (OKC.tr hC) hl0_75 (show (0 ≤ (1 : Int) ∧ (1 : Int) < 9) from by decide) hq2) rfl rfl (c_le rfl) (c_le rfl) (c_le rfl) (c_le rfl) dX8_start_79 noXk (po_kI (fun hr2 => ?_))
    cases h
    exact jj_iret hC (c_le rfl) (c_le rfl) dX8_start_82 ⟨rfl, hr2, rfl, rfl, rfl, rfl, rfl⟩
  unfold fX8_start at h
  refine jj_aload_n hC dX8_start_0 rfl 0 rfl ?_
  refine jj_iload_n hC dX8_start_1 rfl 1 rfl ?_
  obtain ⟨q1, hq1, h⟩ := bd_e h
  refine jj_invV hC mvX8_hasPilot wd66 wd67 wd645 hs0 (by decide) rfl (xX8_hasPilot (OKC.tr hC) hs0 hp1 hq1) rfl rfl (c_le rfl) (c_le rfl) (c_le rfl) (c_le rfl) dX8_start_2 noXk (po_kZ (fun hr1 => ?_))
  refine jj_if_eq (tgt := 75) hC dX8_start_5 rfl (r_z hr1) (fun hc => ?_) (fun hc => ?_)
  · replace h := (if_pos hc).symm.trans h
    refine jj_lv (lv' := [(0, .ref a0)]) [0] rfl ?_
    exact hB75 M a0 hs0 h
  · replace h := (if_neg (hc)).symm.trans h
    refine jj_aload_n hC dX8_start_8 rfl 0 rfl ?_
    obtain ⟨b3, hb3, hs3, h⟩ := rf_e h
    refine jg_R hC kfX8 0 rfl hs0 (by decide) wd1036 rfl hb3 dX8_start_9 ?_
    refine jj_iconst hC dX8_start_12 ?_
    obtain ⟨q4, hq4, h⟩ := bd_e h
    refine jj_invV hC mvX2_hasStop wd654 wd655 wd653 hs3 (by decide) rfl (xX2_hasStop (OKC.tr hC) hs3 (show (-2147483648 ≤ (0 : Int) ∧ (0 : Int) < 2147483648) from by decide) hq4) rfl rfl (c_le rfl) (c_le rfl) (c_le rfl) (c_le rfl) dX8_start_13 noXk (po_kZ (fun hr4 => ?_))
    refine jj_if_eq (tgt := 75) hC dX8_start_16 rfl (r_z hr4) (fun hc => ?_) (fun hc => ?_)
    · replace h := (if_pos hc).symm.trans h
      refine jj_lv (lv' := [(0, .ref a0)]) [0] rfl ?_
      exact hB75 M a0 hs0 h
    · replace h := (if_neg (hc)).symm.trans h
      refine jj_aload_n hC dX8_start_19 rfl 0 rfl ?_
      obtain ⟨b5, hb5, hs5, h⟩ := rf_e h
      refine jg_R hC kfX8 0 rfl hs0 (by decide) wd1036 rfl hb5 dX8_start_20 ?_
      refine jj_aload_n hC dX8_start_23 rfl 0 rfl ?_
      obtain ⟨b6, hb6, hs6, h⟩ := rf_e h
      refine jg_R hC kfX8 0 rfl hs0 (by decide) wd1036 rfl hb6 dX8_start_24 ?_
      obtain ⟨b7, hb7, hs7, h⟩ := rf_e h
      refine jg_R hC kfX2 3 rfl hs6 (by decide) wd909 rfl hb7 dX8_start_27 ?_
      refine jj_iconst hC dX8_start_30 ?_
      obtain ⟨⟨ha8, hb8⟩, h⟩ := gd_e h
      refine jj_iald hC hs7 ha8 hb8 dX8_start_31 (fun hr8 => ?_)
      obtain ⟨q9, hq9, h⟩ := bd_e h
      refine jj_invV hC mvX2_hasPoint wd658 wd659 wd657 hs5 (by decide) rfl (xX2_hasPoint (OKC.tr hC) hs5 hr8 hq9) rfl rfl (c_le rfl) (c_le rfl) (c_le rfl) (c_le rfl) dX8_start_32 noXk (po_kZ (fun hr9 => ?_))
      refine jj_if_eq (tgt := 75) hC dX8_start_35 rfl (r_z hr9) (fun hc => ?_) (fun hc => ?_)
      · replace h := (if_pos hc).symm.trans h
        refine jj_lv (lv' := [(0, .ref a0)]) [0] rfl ?_
        exact hB75 M a0 hs0 h
      · replace h := (if_neg (hc)).symm.trans h
        refine jj_aload_n hC dX8_start_38 rfl 0 rfl ?_
        obtain ⟨b10, hb10, hs10, h⟩ := rf_e h
        refine jg_R hC kfX8 0 rfl hs0 (by decide) wd1036 rfl hb10 dX8_start_39 ?_
        obtain ⟨b11, hb11, hs11, h⟩ := rf_e h
        refine jg_R hC kfX2 3 rfl hs10 (by decide) wd909 rfl hb11 dX8_start_42 ?_
        refine jj_iconst hC dX8_start_45 ?_
        obtain ⟨⟨ha12, hb12⟩, h⟩ := gd_e h
        refine jj_iald hC hs11 ha12 hb12 dX8_start_46 (fun hr12 => ?_)
        refine jj_istore_n (lv' := [(2, .int (iI (M b11 0))), (0, .ref a0), (1, .int (iI x1))]) hC dX8_start_47 rfl (by decide) rfl ?_
        refine jj_aload_n hC dX8_start_48 rfl 1 rfl ?_
        obtain ⟨b13, hb13, hs13, h⟩ := rf_e h
        refine jg_R hC kfX8 3 rfl hs0 (by decide) wd1042 rfl hb13 dX8_start_49 ?_
        refine jj_iload_n hC dX8_start_52 rfl 2 rfl ?_
        obtain ⟨⟨ha14, hb14⟩, h⟩ := gd_e h
        obtain ⟨b14, hd14, hs14, h⟩ := rf_e h
        refine jj_aald hC hs13 (by decide) ha14 hb14 hd14 dX8_start_53 ?_
        refine jj_aload_n hC dX8_start_54 rfl 1 rfl ?_
        obtain ⟨b15, hb15, hs15, h⟩ := rf_e h
        refine jg_R hC kfX8 0 rfl hs0 (by decide) wd1036 rfl hb15 dX8_start_55 ?_
        obtain ⟨b16, hb16, hs16, h⟩ := rf_e h
        refine jg_R hC kfX2 0 rfl hs15 (by decide) wd902 rfl hb16 dX8_start_58 ?_
        refine jj_iload_n hC dX8_start_61 rfl 0 rfl ?_
        obtain ⟨⟨ha17, hb17⟩, h⟩ := gd_e h
        refine jj_iald hC hs16 ha17 hb17 dX8_start_62 (fun hr17 => ?_)
        refine jj_aload_n hC dX8_start_63 rfl 1 rfl ?_
        obtain ⟨b18, hb18, hs18, h⟩ := rf_e h
        refine jg_R hC kfX8 0 rfl hs0 (by decide) wd1036 rfl hb18 dX8_start_64 ?_
        obtain ⟨b19, hb19, hs19, h⟩ := rf_e h
        refine jg_R hC kfX2 1 rfl hs18 (by decide) wd904 rfl hb19 dX8_start_67 ?_
        refine jj_iload_n hC dX8_start_70 rfl 0 rfl ?_
        obtain ⟨⟨ha20, hb20⟩, h⟩ := gd_e h
        refine jj_iald hC hs19 ha20 hb20 dX8_start_71 (fun hr20 => ?_)
        obtain ⟨q21, hq21, h⟩ := bd_e h
        refine jj_invV hC mvX3_takeOff wd662 wd663 wd661 hs14 (by decide) rfl (xX3_takeOff (OKC.tr hC) hs14 hr17 hr20 hq21) rfl rfl (c_le rfl) (c_le rfl) (c_le rfl) (c_le rfl) dX8_start_72 noXk (po_kV ?_)
        refine jj_lv (lv' := [(0, .ref a0)]) [1] rfl ?_
        exact hB75 q21 a0 hs0 h
def fX8_glideKilometre_B87 (ad S Ln : Nat → Nat) (R : gR) (M87 : gM) (l1_87 : Nat) : Option gM :=
  gd (0 ≤ M87 l1_87 1) (if ¬ (M87 l1_87 1) = 1 then (some (M87)) else (if ¬ (M87 l1_87 4) = 0 then (some (M87)) else (nam (wr M87 l1_87 1 2) fun M13 => some (M13))))
def fX8_glideKilometre_B34 (ad S Ln : Nat → Nat) (R : gR) (M34 : gM) (l0_34 : Nat) (l1_34 : Nat) : Option gM :=
  rf S (R l0_34 0) 7 fun b6 => bd (fX2_isStopAt ad S Ln R M34 b6 (M34 l1_34 7) (M34 l1_34 2) (M34 l1_34 3)) fun q10 => if q10 = 0 then (fX8_glideKilometre_B87 ad S Ln R M34 l1_34) else (nam (wr M34 l1_34 7 (w32 ((M34 l1_34 7) + 1))) fun M15 => rf S (R l0_34 0) 7 fun b17 => if ¬ (M15 l1_34 7) = (M15 b17 5) then (fX8_glideKilometre_B87 ad S Ln R M15 l1_34) else (nam (wr M15 l1_34 1 3) fun M19 => fX8_glideKilometre_B87 ad S Ln R M19 l1_34))
def fX8_glideKilometre (ad S Ln : Nat → Nat) (R : gR) (M : gM) (a0 : Nat) (x1 : Nat) (x2 : Int) : Option gM :=
  bd (fX3_move ad S Ln R M x1 x2) fun q1 => rf S (R a0 2) 6 fun b2 => bd (fX1_covers ad S Ln R q1 b2 (q1 x1 2) (q1 x1 3)) fun q5 => if q5 = 0 then (fX8_glideKilometre_B34 ad S Ln R q1 a0 x1) else (nam (wr q1 x1 6 (w32 ((q1 x1 6) + 10))) fun M21 => fX8_glideKilometre_B34 ad S Ln R M21 a0 x1)
theorem xX8_glideKilometre {l : Launch} {G : gE} {sz : Nat} {S Ln : Nat → Nat} {M : gM} {R : gR} (hl : l.stackTraces = false) {a0 : Nat} (hs0 : S a0 = 11) {x1 : Nat} (hp1 : S x1 = 8) {x2 : Int} (hp2 : (-2147483648 ≤ x2 ∧ x2 < 2147483648)) {r : gM} (h : fX8_glideKilometre G.2.2.2.2 S Ln R M a0 x1 x2 = some r) : Ct l G yX8_glideKilometre cX8_glideKilometre 3 none 4 0 0 [.ref a0, .ref x1, .int (iI x2)] sz S Ln M R (poV sz S Ln (r) R) noX := by
  refine jj_start (own := RX8) (lv0 := [(0, .ref a0), (1, .ref x1), (2, .int (iI x2))]) hl (by decide +kernel) rfl rfl (c_le rfl) (fun C hCl hC => ?_)
  have hB87 : ∀ (M87 : gM) (l1_87 : Nat), S l1_87 = 8 → fX8_glideKilometre_B87 G.2.2.2.2 S Ln R M87 l1_87 = some r → JJ G C 0 0 sz S Ln M87 R 87 [(1, .ref l1_87)] [] := by
    intro M87 l1_87 hl1_87 h
    unfold fX8_glideKilometre_B87 at h
    refine jj_aload_n hC dX8_glideKilometre_87 rfl 0 rfl ?_
    obtain ⟨hg11, h⟩ := gd_e h
    refine jg_E hC kfX3 1 rfl hl1_87 (by decide) wd993 rfl hg11 dX8_glideKilometre_88 (fun hr11 => ?_)
    refine jg_s (j := 1) hC 1 rfl rfl wd665 dX8_glideKilometre_91 ?_
    refine jg_acmp_ne (tgt := 111) hC dX8_glideKilometre_94 rfl ⟨hg11, hr11⟩ (show (0 ≤ (1 : Int) ∧ (1 : Int) < 9) from by decide) (fun hc => ?_) (fun hc => ?_)
    · replace h := (if_pos hc).symm.trans h
      cases h
      exact jj_vret hC (c_le rfl) (c_le rfl) dX8_glideKilometre_111 ⟨rfl, trivial, rfl, rfl, rfl, rfl, rfl⟩
    · replace h := (if_neg (fun k => k hc)).symm.trans h
      refine jj_aload_n hC dX8_glideKilometre_97 rfl 0 rfl ?_
      refine jg_I hC kfX3 4 rfl hl1_87 (by decide) wd1002 rfl dX8_glideKilometre_98 (fun hr12 => ?_)
      refine jj_if_ne (tgt := 111) hC dX8_glideKilometre_101 rfl hr12 (fun hc => ?_) (fun hc => ?_)
      · replace h := (if_pos hc).symm.trans h
        cases h
        exact jj_vret hC (c_le rfl) (c_le rfl) dX8_glideKilometre_111 ⟨rfl, trivial, rfl, rfl, rfl, rfl, rfl⟩
      · replace h := (if_neg (fun k => k hc)).symm.trans h
        refine jj_aload_n hC dX8_glideKilometre_104 rfl 0 rfl ?_
        refine jg_s (j := 2) hC 2 rfl rfl wd732 dX8_glideKilometre_105 ?_
        obtain ⟨M13, hM13, h⟩ := nam_e h
        refine jp_E hC kfX3 1 rfl (show (0 ≤ (2 : Int) ∧ (2 : Int) < 9) from by decide) hl1_87 rfl (by decide) wd993 rfl rfl rfl dX8_glideKilometre_108 (jj_M hM13 ?_)
        cases h
        exact jj_vret hC (c_le rfl) (c_le rfl) dX8_glideKilometre_111 ⟨rfl, trivial, rfl, rfl, rfl, rfl, rfl⟩
  have hB34 : ∀ (M34 : gM) (l0_34 : Nat) (l1_34 : Nat), S l0_34 = 11 → S l1_34 = 8 → fX8_glideKilometre_B34 G.2.2.2.2 S Ln R M34 l0_34 l1_34 = some r → JJ G C 0 0 sz S Ln M34 R 34 [(0, .ref l0_34), (1, .ref l1_34)] [] := by
    intro M34 l0_34 l1_34 hl0_34 hl1_34 h
    unfold fX8_glideKilometre_B34 at h
    refine jj_aload_n hC dX8_glideKilometre_34 rfl 0 rfl ?_
    obtain ⟨b6, hb6, hs6, h⟩ := rf_e h
    refine jg_R hC kfX8 0 rfl hl0_34 (by decide) wd1036 rfl hb6 dX8_glideKilometre_35 ?_
    refine jj_aload_n hC dX8_glideKilometre_38 rfl 1 rfl ?_
    refine jg_I hC kfX3 7 rfl hl1_34 (by decide) wd1011 rfl dX8_glideKilometre_39 (fun hr7 => ?_)
    refine jj_aload_n hC dX8_glideKilometre_42 rfl 1 rfl ?_
    refine jg_I hC kfX3 2 rfl hl1_34 (by decide) wd996 rfl dX8_glideKilometre_43 (fun hr8 => ?_)
    refine jj_aload_n hC dX8_glideKilometre_46 rfl 1 rfl ?_
    refine jg_I hC kfX3 3 rfl hl1_34 (by decide) wd999 rfl dX8_glideKilometre_47 (fun hr9 => ?_)
    obtain ⟨q10, hq10, h⟩ := bd_e h
    refine jj_invV hC mvX2_isStopAt wd719 wd720 wd718 hs6 (by decide) rfl (xX2_isStopAt (OKC.tr hC) hs6 hr7 hr8 hr9 hq10) rfl rfl (c_le rfl) (c_le rfl) (c_le rfl) (c_le rfl) dX8_glideKilometre_50 noXk (po_kZ (fun hr10 => ?_))
    refine jj_if_eq (tgt := 87) hC dX8_glideKilometre_53 rfl (r_z hr10) (fun hc => ?_) (fun hc => ?_)
    · replace h := (if_pos hc).symm.trans h
      refine jj_lv (lv' := [(1, .ref l1_34)]) [1] rfl ?_
      exact hB87 M34 l1_34 hl1_34 h
    · replace h := (if_neg (hc)).symm.trans h
      refine jj_aload_n hC dX8_glideKilometre_56 rfl 1 rfl ?_
      refine jj_dup hC dX8_glideKilometre_57 rfl ?_
      refine jg_I hC kfX3 7 rfl hl1_34 (by decide) wd1011 rfl dX8_glideKilometre_58 (fun hr14 => ?_)
      refine jj_iconst hC dX8_glideKilometre_61 ?_
      refine jg_iadd hC dX8_glideKilometre_62 ?_
      obtain ⟨M15, hM15, h⟩ := nam_e h
      refine jp_I hC kfX3 7 rfl hl1_34 rfl (by decide) wd1011 rfl rfl rfl (w32_r _) dX8_glideKilometre_63 (jj_M hM15 ?_)
      refine jj_aload_n hC dX8_glideKilometre_66 rfl 1 rfl ?_
      refine jg_I hC kfX3 7 rfl hl1_34 (by decide) wd1011 rfl dX8_glideKilometre_67 (fun hr16 => ?_)
      refine jj_aload_n hC dX8_glideKilometre_70 rfl 0 rfl ?_
      obtain ⟨b17, hb17, hs17, h⟩ := rf_e h
      refine jg_R hC kfX8 0 rfl hl0_34 (by decide) wd1036 rfl hb17 dX8_glideKilometre_71 ?_
      refine jg_I hC kfX2 5 rfl hs17 (by decide) wd914 rfl dX8_glideKilometre_74 (fun hr18 => ?_)
      refine jj_icmp_ne (tgt := 87) hC dX8_glideKilometre_77 rfl hr16 hr18 (fun hc => ?_) (fun hc => ?_)
      · replace h := (if_pos hc).symm.trans h
        refine jj_lv (lv' := [(1, .ref l1_34)]) [1] rfl ?_
        exact hB87 M15 l1_34 hl1_34 h
      · replace h := (if_neg (fun k => k hc)).symm.trans h
        refine jj_aload_n hC dX8_glideKilometre_80 rfl 1 rfl ?_
        refine jg_s (j := 3) hC 3 rfl rfl wd730 dX8_glideKilometre_81 ?_
        obtain ⟨M19, hM19, h⟩ := nam_e h
        refine jp_E hC kfX3 1 rfl (show (0 ≤ (3 : Int) ∧ (3 : Int) < 9) from by decide) hl1_34 rfl (by decide) wd993 rfl rfl rfl dX8_glideKilometre_84 (jj_M hM19 ?_)
        refine jj_lv (lv' := [(1, .ref l1_34)]) [1] rfl ?_
        exact hB87 M19 l1_34 hl1_34 h
  unfold fX8_glideKilometre at h
  refine jj_aload_n hC dX8_glideKilometre_0 rfl 1 rfl ?_
  refine jj_iload_n hC dX8_glideKilometre_1 rfl 2 rfl ?_
  obtain ⟨q1, hq1, h⟩ := bd_e h
  refine jj_invV hC mvX3_move wd701 wd702 wd700 hp1 (by decide) rfl (xX3_move (OKC.tr hC) hp1 hp2 hq1) rfl rfl (c_le rfl) (c_le rfl) (c_le rfl) (c_le rfl) dX8_glideKilometre_2 noXk (po_kV ?_)
  refine jj_aload_n hC dX8_glideKilometre_5 rfl 0 rfl ?_
  obtain ⟨b2, hb2, hs2, h⟩ := rf_e h
  refine jg_R hC kfX8 2 rfl hs0 (by decide) wd1040 rfl hb2 dX8_glideKilometre_6 ?_
  refine jj_aload_n hC dX8_glideKilometre_9 rfl 1 rfl ?_
  refine jg_I hC kfX3 2 rfl hp1 (by decide) wd996 rfl dX8_glideKilometre_10 (fun hr3 => ?_)
  refine jj_aload_n hC dX8_glideKilometre_13 rfl 1 rfl ?_
  refine jg_I hC kfX3 3 rfl hp1 (by decide) wd999 rfl dX8_glideKilometre_14 (fun hr4 => ?_)
  obtain ⟨q5, hq5, h⟩ := bd_e h
  refine jj_invV hC mvX1_covers wd715 wd716 wd714 hs2 (by decide) rfl (xX1_covers (OKC.tr hC) hs2 hr3 hr4 hq5) rfl rfl (c_le rfl) (c_le rfl) (c_le rfl) (c_le rfl) dX8_glideKilometre_17 noXk (po_kZ (fun hr5 => ?_))
  refine jj_if_eq (tgt := 34) hC dX8_glideKilometre_20 rfl (r_z hr5) (fun hc => ?_) (fun hc => ?_)
  · replace h := (if_pos hc).symm.trans h
    refine jj_lv (lv' := [(0, .ref a0), (1, .ref x1)]) [0, 1] rfl ?_
    exact hB34 q1 a0 x1 hs0 hp1 h
  · replace h := (if_neg (hc)).symm.trans h
    refine jj_aload_n hC dX8_glideKilometre_23 rfl 1 rfl ?_
    refine jj_dup hC dX8_glideKilometre_24 rfl ?_
    refine jg_I hC kfX3 6 rfl hp1 (by decide) wd1008 rfl dX8_glideKilometre_25 (fun hr20 => ?_)
    refine jj_bipush hC dX8_glideKilometre_28 (by decide) ?_
    refine jg_iadd hC dX8_glideKilometre_30 ?_
    obtain ⟨M21, hM21, h⟩ := nam_e h
    refine jp_I hC kfX3 6 rfl hp1 rfl (by decide) wd1008 rfl rfl rfl (w32_r _) dX8_glideKilometre_31 (jj_M hM21 ?_)
    refine jj_lv (lv' := [(0, .ref a0), (1, .ref x1)]) [0, 1] rfl ?_
    exact hB34 M21 a0 x1 hs0 hp1 h
def fX8_glide_L21 (ad S Ln : Nat → Nat) (R : gR) (l0_21 : Nat) (l2_21 : Int) (l3_21 : Int) (l4_21 : Nat) (s21 : Int × gM) : Option ((Int × gM) ⊕ ((Int × gM) ⊕ (Int × gM))) :=
  if l3_21 ≤ s21.1 then (some (.inr (.inl (s21.1, s21.2)))) else (gd (0 ≤ s21.2 l4_21 1) (if ¬ (s21.2 l4_21 1) = 1 then (some (.inr (.inl (s21.1, s21.2)))) else (bd (fX8_glideKilometre ad S Ln R s21.2 l0_21 l4_21 l2_21) fun q5 => some (.inl (w32 (s21.1 + 1), q5)))))
def fX8_glide (ad S Ln : Nat → Nat) (R : gR) (M : gM) (a0 : Nat) (x1 : Int) (x2 : Int) (x3 : Int) : Option (Int × gM) :=
  bd (fX8_hasPilot ad S Ln R M a0 x1) fun q1 => if ¬ q1 = 0 then (rf S (R a0 3) 26 fun b2 => gd ((0 : Int) ≤ x1 ∧ x1 < (Ln b2 : Int)) (rf S (R b2 x1) 8 fun b3 => bd (lp (fX8_glide_L21 ad S Ln R a0 x2 x3 b3) FU (0, M)) fun q7 => Sum.elim (fun e21_6 => some ((e21_6.1, e21_6.2))) (fun c7 => some c7) q7)) else (some ((0, M)))
theorem xX8_glide {l : Launch} {G : gE} {sz : Nat} {S Ln : Nat → Nat} {M : gM} {R : gR} (hl : l.stackTraces = false) {a0 : Nat} (hs0 : S a0 = 11) {x1 : Int} (hp1 : (-2147483648 ≤ x1 ∧ x1 < 2147483648)) {x2 : Int} (hp2 : (-2147483648 ≤ x2 ∧ x2 < 2147483648)) {x3 : Int} (hp3 : (-2147483648 ≤ x3 ∧ x3 < 2147483648)) {r : Int × gM} (h : fX8_glide G.2.2.2.2 S Ln R M a0 x1 x2 x3 = some r) : Ct l G yX8_glide cX8_glide 6 (some .int) 5 0 0 [.ref a0, .int (iI x1), .int (iI x2), .int (iI x3)] sz S Ln M R (poI r.1 sz S Ln (r.2) R) noX := by
  refine jj_start (own := RX8) (lv0 := [(0, .ref a0), (1, .int (iI x1)), (2, .int (iI x2)), (3, .int (iI x3))]) hl (by decide +kernel) rfl rfl (c_le rfl) (fun C hCl hC => ?_)
  have hL21 : ∀ (l0_21 : Nat) (l2_21 : Int) (l3_21 : Int) (l4_21 : Nat), S l0_21 = 11 → (-2147483648 ≤ l2_21 ∧ l2_21 < 2147483648) → (-2147483648 ≤ l3_21 ∧ l3_21 < 2147483648) → S l4_21 = 8 → ∀ (n : Nat) (s21 : Int × gM) (q : (Int × gM) ⊕ (Int × gM)), lp (fX8_glide_L21 G.2.2.2.2 S Ln R l0_21 l2_21 l3_21 l4_21) n s21 = some q → (-2147483648 ≤ s21.1 ∧ s21.1 < 2147483648) → (∀ e21, q = .inl e21 → (-2147483648 ≤ e21.1 ∧ e21.1 < 2147483648) → JJ G C 0 0 sz S Ln e21.2 R 51 [(5, .int (iI e21.1))] []) → (∀ c, q = .inr c → c = r) → JJ G C 0 0 sz S Ln s21.2 R 21 [(0, .ref l0_21), (2, .int (iI l2_21)), (3, .int (iI l3_21)), (4, .ref l4_21), (5, .int (iI s21.1))] [] := by
    intro l0_21 l2_21 l3_21 l4_21 hl0_21 hl2_21 hl3_21 hl4_21
    refine lp_ind ?_
    intro s21 r21 hI21 h hJ21 hE21 hR21
    have hs21_0 := hI21
    unfold fX8_glide_L21 at h
    refine jj_iload hC dX8_glide_21 4 rfl ?_
    refine jj_iload_n hC dX8_glide_23 rfl 2 rfl ?_
    refine jj_icmp_ge (tgt := 51) hC dX8_glide_24 rfl hs21_0 hl3_21 (fun hc => ?_) (fun hc => ?_)
    · replace h := (if_pos hc).symm.trans h
      refine jj_lv (lv' := [(5, .int (iI s21.1))]) [4] rfl ?_
      exact hE21 _ (Option.some.inj h).symm hs21_0
    · replace h := (if_neg (Int.not_le.mpr hc)).symm.trans h
      refine jj_aload hC dX8_glide_27 3 rfl ?_
      obtain ⟨hg4, h⟩ := gd_e h
      refine jg_E hC kfX3 1 rfl hl4_21 (by decide) wd993 rfl hg4 dX8_glide_29 (fun hr4 => ?_)
      refine jg_s (j := 1) hC 1 rfl rfl wd665 dX8_glide_32 ?_
      refine jg_acmp_ne (tgt := 51) hC dX8_glide_35 rfl ⟨hg4, hr4⟩ (show (0 ≤ (1 : Int) ∧ (1 : Int) < 9) from by decide) (fun hc => ?_) (fun hc => ?_)
      · replace h := (if_pos hc).symm.trans h
        refine jj_lv (lv' := [(5, .int (iI s21.1))]) [4] rfl ?_
        exact hE21 _ (Option.some.inj h).symm hs21_0
      · replace h := (if_neg (fun k => k hc)).symm.trans h
        refine jj_aload_n hC dX8_glide_38 rfl 0 rfl ?_
        refine jj_aload hC dX8_glide_39 3 rfl ?_
        refine jj_iload_n hC dX8_glide_41 rfl 1 rfl ?_
        obtain ⟨q5, hq5, h⟩ := bd_e h
        refine jj_invV hC mvX8_glideKilometre wd697 wd4 wd695 hl0_21 (by decide) rfl (xX8_glideKilometre (OKC.tr hC) hl0_21 hl4_21 hl2_21 hq5) rfl rfl (c_le rfl) (c_le rfl) (c_le rfl) (c_le rfl) dX8_glide_42 noXk (po_kV ?_)
        refine jg_iinc (q := 4) (lv' := [(5, .int (iI (w32 (s21.1 + 1)))), (0, .ref l0_21), (2, .int (iI l2_21)), (3, .int (iI l3_21)), (4, .ref l4_21)]) hC dX8_glide_45 rfl (by decide) rfl ?_
        refine jj_goto (tgt := 21) hC dX8_glide_48 rfl ?_
        refine jj_lv (lv' := [(0, .ref l0_21), (2, .int (iI l2_21)), (3, .int (iI l3_21)), (4, .ref l4_21), (5, .int (iI (w32 (s21.1 + 1))))]) [1, 2, 3, 4, 0] rfl ?_
        exact hJ21 _ (Option.some.inj h).symm (w32_r _)
  unfold fX8_glide at h
  refine jj_aload_n hC dX8_glide_0 rfl 0 rfl ?_
  refine jj_iload_n hC dX8_glide_1 rfl 1 rfl ?_
  obtain ⟨q1, hq1, h⟩ := bd_e h
  refine jj_invV hC mvX8_hasPilot wd66 wd67 wd645 hs0 (by decide) rfl (xX8_hasPilot (OKC.tr hC) hs0 hp1 hq1) rfl rfl (c_le rfl) (c_le rfl) (c_le rfl) (c_le rfl) dX8_glide_2 noXk (po_kZ (fun hr1 => ?_))
  refine jj_if_ne (tgt := 10) hC dX8_glide_5 rfl (r_z hr1) (fun hc => ?_) (fun hc => ?_)
  · replace h := (if_pos hc).symm.trans h
    refine jj_aload_n hC dX8_glide_10 rfl 0 rfl ?_
    obtain ⟨b2, hb2, hs2, h⟩ := rf_e h
    refine jg_R hC kfX8 3 rfl hs0 (by decide) wd1042 rfl hb2 dX8_glide_11 ?_
    refine jj_iload_n hC dX8_glide_14 rfl 1 rfl ?_
    obtain ⟨⟨ha3, hb3⟩, h⟩ := gd_e h
    obtain ⟨b3, hd3, hs3, h⟩ := rf_e h
    refine jj_aald hC hs2 (by decide) ha3 hb3 hd3 dX8_glide_15 ?_
    refine jj_astore (lv' := [(4, .ref b3), (0, .ref a0), (1, .int (iI x1)), (2, .int (iI x2)), (3, .int (iI x3))]) hC dX8_glide_16 (by decide) rfl ?_
    refine jj_iconst hC dX8_glide_18 ?_
    refine jj_istore (lv' := [(5, .int (iI 0)), (4, .ref b3), (0, .ref a0), (1, .int (iI x1)), (2, .int (iI x2)), (3, .int (iI x3))]) hC dX8_glide_19 (by decide) rfl ?_
    obtain ⟨q7, hq7, h⟩ := bd_e h
    refine jj_lv (lv' := [(0, .ref a0), (2, .int (iI x2)), (3, .int (iI x3)), (4, .ref b3), (5, .int (iI 0))]) [2, 4, 5, 1, 0] rfl ?_
    refine hL21 a0 x2 x3 b3 hs0 hp2 hp3 hs3 FU _ q7 hq7 (show (-2147483648 ≤ (0 : Int) ∧ (0 : Int) < 2147483648) from by decide) (fun e21_6 he7 hIE7 => ?_) (fun c7 hc7 => ?_)
    · subst he7
      replace h := el_l h
      have he21_6_0 := hIE7
      refine jj_iload hC dX8_glide_51 0 rfl ?_
      cases h
      exact jj_iret hC (c_le rfl) (c_le rfl) dX8_glide_53 ⟨rfl, he21_6_0, rfl, rfl, rfl, rfl, rfl⟩
    · subst hc7
      replace h := el_r h
      exact Option.some.inj h
  · replace h := (if_neg (fun k => k hc)).symm.trans h
    refine jj_iconst hC dX8_glide_8 ?_
    cases h
    exact jj_iret hC (c_le rfl) (c_le rfl) dX8_glide_9 ⟨rfl, (show (-2147483648 ≤ (0 : Int) ∧ (0 : Int) < 2147483648) from by decide), rfl, rfl, rfl, rfl, rfl⟩
def fX8_soar (ad S Ln : Nat → Nat) (R : gR) (M : gM) (a0 : Nat) (x1 : Int) (x2 : Int) : Option (Int × gM) :=
  bd (fX8_hasPilot ad S Ln R M a0 x1) fun q1 => if ¬ q1 = 0 then (rf S (R a0 3) 26 fun b2 => gd ((0 : Int) ≤ x1 ∧ x1 < (Ln b2 : Int)) (rf S (R b2 x1) 8 fun b3 => rf S (R a0 1) 5 fun b4 => bd (fX0_strongestAt ad S Ln R M b4 (M b3 2) (M b3 3)) fun q7 => rf S (R a0 1) 5 fun b8 => bd (fX3_rise ad S Ln R M b3 q7 x2 (M b8 4)) fun q10 => some ((q10 b3 4, q10)))) else (some ((0, M)))
theorem xX8_soar {l : Launch} {G : gE} {sz : Nat} {S Ln : Nat → Nat} {M : gM} {R : gR} (hl : l.stackTraces = false) {a0 : Nat} (hs0 : S a0 = 11) {x1 : Int} (hp1 : (-2147483648 ≤ x1 ∧ x1 < 2147483648)) {x2 : Int} (hp2 : (-2147483648 ≤ x2 ∧ x2 < 2147483648)) {r : Int × gM} (h : fX8_soar G.2.2.2.2 S Ln R M a0 x1 x2 = some r) : Ct l G yX8_soar cX8_soar 4 (some .int) 2 0 0 [.ref a0, .int (iI x1), .int (iI x2)] sz S Ln M R (poI r.1 sz S Ln (r.2) R) noX := by
  refine jj_start (own := RX8) (lv0 := [(0, .ref a0), (1, .int (iI x1)), (2, .int (iI x2))]) hl (by decide +kernel) rfl rfl (c_le rfl) (fun C hCl hC => ?_)
  unfold fX8_soar at h
  refine jj_aload_n hC dX8_soar_0 rfl 0 rfl ?_
  refine jj_iload_n hC dX8_soar_1 rfl 1 rfl ?_
  obtain ⟨q1, hq1, h⟩ := bd_e h
  refine jj_invV hC mvX8_hasPilot wd66 wd67 wd645 hs0 (by decide) rfl (xX8_hasPilot (OKC.tr hC) hs0 hp1 hq1) rfl rfl (c_le rfl) (c_le rfl) (c_le rfl) (c_le rfl) dX8_soar_2 noXk (po_kZ (fun hr1 => ?_))
  refine jj_if_ne (tgt := 10) hC dX8_soar_5 rfl (r_z hr1) (fun hc => ?_) (fun hc => ?_)
  · replace h := (if_pos hc).symm.trans h
    refine jj_aload_n hC dX8_soar_10 rfl 0 rfl ?_
    obtain ⟨b2, hb2, hs2, h⟩ := rf_e h
    refine jg_R hC kfX8 3 rfl hs0 (by decide) wd1042 rfl hb2 dX8_soar_11 ?_
    refine jj_iload_n hC dX8_soar_14 rfl 1 rfl ?_
    obtain ⟨⟨ha3, hb3⟩, h⟩ := gd_e h
    obtain ⟨b3, hd3, hs3, h⟩ := rf_e h
    refine jj_aald hC hs2 (by decide) ha3 hb3 hd3 dX8_soar_15 ?_
    refine jj_astore_n (lv' := [(3, .ref b3), (0, .ref a0), (1, .int (iI x1)), (2, .int (iI x2))]) hC dX8_soar_16 rfl (by decide) rfl ?_
    refine jj_aload_n hC dX8_soar_17 rfl 0 rfl ?_
    refine jj_aload_n hC dX8_soar_18 rfl 1 rfl ?_
    obtain ⟨b4, hb4, hs4, h⟩ := rf_e h
    refine jg_R hC kfX8 1 rfl hs0 (by decide) wd1038 rfl hb4 dX8_soar_19 ?_
    refine jj_aload_n hC dX8_soar_22 rfl 0 rfl ?_
    refine jg_I hC kfX3 2 rfl hs3 (by decide) wd996 rfl dX8_soar_23 (fun hr5 => ?_)
    refine jj_aload_n hC dX8_soar_26 rfl 0 rfl ?_
    refine jg_I hC kfX3 3 rfl hs3 (by decide) wd999 rfl dX8_soar_27 (fun hr6 => ?_)
    obtain ⟨q7, hq7, h⟩ := bd_e h
    refine jj_invV hC mvX0_strongestAt wd796 wd797 wd1255 hs4 (by decide) rfl (xX0_strongestAt (OKC.tr hC) hs4 hr5 hr6 hq7) rfl rfl (c_le rfl) (c_le rfl) (c_le rfl) (c_le rfl) dX8_soar_30 noXk (po_kI (fun hr7 => ?_))
    refine jj_iload_n hC dX8_soar_33 rfl 3 rfl ?_
    refine jj_aload_n hC dX8_soar_34 rfl 1 rfl ?_
    obtain ⟨b8, hb8, hs8, h⟩ := rf_e h
    refine jg_R hC kfX8 1 rfl hs0 (by decide) wd1038 rfl hb8 dX8_soar_35 ?_
    refine jg_I hC kfX0 4 rfl hs8 (by decide) wd943 rfl dX8_soar_38 (fun hr9 => ?_)
    obtain ⟨q10, hq10, h⟩ := bd_e h
    refine jj_invV hC mvX3_rise wd1261 wd1262 wd1260 hs3 (by decide) rfl (xX3_rise (OKC.tr hC) hs3 hr7 hp2 hr9 hq10) rfl rfl (c_le rfl) (c_le rfl) (c_le rfl) (c_le rfl) dX8_soar_41 noXk (po_kV ?_)
    refine jj_aload_n hC dX8_soar_44 rfl 0 rfl ?_
    refine jg_I hC kfX3 4 rfl hs3 (by decide) wd1002 rfl dX8_soar_45 (fun hr11 => ?_)
    cases h
    exact jj_iret hC (c_le rfl) (c_le rfl) dX8_soar_48 ⟨rfl, hr11, rfl, rfl, rfl, rfl, rfl⟩
  · replace h := (if_neg (fun k => k hc)).symm.trans h
    refine jj_iconst hC dX8_soar_8 ?_
    cases h
    exact jj_iret hC (c_le rfl) (c_le rfl) dX8_soar_9 ⟨rfl, (show (-2147483648 ≤ (0 : Int) ∧ (0 : Int) < 2147483648) from by decide), rfl, rfl, rfl, rfl, rfl⟩
def fX8_distanceDone (ad S Ln : Nat → Nat) (R : gR) (M : gM) (a0 : Nat) (x1 : Nat) : Option Int :=
  gd (0 ≤ M x1 1) (if ¬ (M x1 1) = 0 then (rf S (R a0 0) 7 fun b2 => bd (fX2_sumOfLegs ad S Ln R M b2 0 (w32 ((M x1 7) - 1))) fun q4 => gd (0 ≤ M x1 1) (if ¬ (M x1 1) = 3 then (rf S (R a0 0) 7 fun b6 => bd (fX2_sumOfLegs ad S Ln R M b6 (w32 ((M x1 7) - 1)) (M x1 7)) fun q9 => rf S (R a0 0) 7 fun b10 => bd (fX2_spanToStop ad S Ln R M b10 (M x1 7) (M x1 2) (M x1 3)) fun q14 => some (w32 (q4 + (i_max 0 (w32 (q9 - q14)))))) else (some (q4)))) else (some (0)))
theorem xX8_distanceDone {l : Launch} {G : gE} {sz : Nat} {S Ln : Nat → Nat} {M : gM} {R : gR} (hl : l.stackTraces = false) {a0 : Nat} (hs0 : S a0 = 11) {x1 : Nat} (hp1 : S x1 = 8) {r : Int} (h : fX8_distanceDone G.2.2.2.2 S Ln R M a0 x1 = some r) : Ct l G yX8_distanceDone cX8_distanceDone 5 (some .int) 3 0 0 [.ref a0, .ref x1] sz S Ln M R (poI r sz S Ln (M) R) noX := by
  refine jj_start (own := RX8) (lv0 := [(0, .ref a0), (1, .ref x1)]) hl (by decide +kernel) rfl rfl (c_le rfl) (fun C hCl hC => ?_)
  unfold fX8_distanceDone at h
  refine jj_aload_n hC dX8_distanceDone_0 rfl 1 rfl ?_
  obtain ⟨hg1, h⟩ := gd_e h
  refine jg_E hC kfX3 1 rfl hp1 (by decide) wd993 rfl hg1 dX8_distanceDone_1 (fun hr1 => ?_)
  refine jg_s (j := 0) hC 0 rfl rfl wd647 dX8_distanceDone_4 ?_
  refine jg_acmp_ne (tgt := 12) hC dX8_distanceDone_7 rfl ⟨hg1, hr1⟩ (show (0 ≤ (0 : Int) ∧ (0 : Int) < 9) from by decide) (fun hc => ?_) (fun hc => ?_)
  · replace h := (if_pos hc).symm.trans h
    refine jj_aload_n hC dX8_distanceDone_12 rfl 0 rfl ?_
    obtain ⟨b2, hb2, hs2, h⟩ := rf_e h
    refine jg_R hC kfX8 0 rfl hs0 (by decide) wd1036 rfl hb2 dX8_distanceDone_13 ?_
    refine jj_iconst hC dX8_distanceDone_16 ?_
    refine jj_aload_n hC dX8_distanceDone_17 rfl 1 rfl ?_
    refine jg_I hC kfX3 7 rfl hp1 (by decide) wd1011 rfl dX8_distanceDone_18 (fun hr3 => ?_)
    refine jj_iconst hC dX8_distanceDone_21 ?_
    refine jg_isub hC dX8_distanceDone_22 ?_
    obtain ⟨q4, hq4, h⟩ := bd_e h
    refine jj_invV hC mvX2_sumOfLegs wd762 wd763 wd761 hs2 (by decide) rfl (xX2_sumOfLegs (OKC.tr hC) hs2 (show (-2147483648 ≤ (0 : Int) ∧ (0 : Int) < 2147483648) from by decide) (w32_r _) hq4) rfl rfl (c_le rfl) (c_le rfl) (c_le rfl) (c_le rfl) dX8_distanceDone_23 noXk (po_kI (fun hr4 => ?_))
    refine jj_istore_n (lv' := [(2, .int (iI q4)), (0, .ref a0), (1, .ref x1)]) hC dX8_distanceDone_26 rfl (by decide) rfl ?_
    refine jj_aload_n hC dX8_distanceDone_27 rfl 2 rfl ?_
    obtain ⟨hg5, h⟩ := gd_e h
    refine jg_E hC kfX3 1 rfl hp1 (by decide) wd993 rfl hg5 dX8_distanceDone_28 (fun hr5 => ?_)
    refine jg_s (j := 3) hC 3 rfl rfl wd730 dX8_distanceDone_31 ?_
    refine jg_acmp_ne (tgt := 39) hC dX8_distanceDone_34 rfl ⟨hg5, hr5⟩ (show (0 ≤ (3 : Int) ∧ (3 : Int) < 9) from by decide) (fun hc => ?_) (fun hc => ?_)
    · replace h := (if_pos hc).symm.trans h
      refine jj_aload_n hC dX8_distanceDone_39 rfl 1 rfl ?_
      obtain ⟨b6, hb6, hs6, h⟩ := rf_e h
      refine jg_R hC kfX8 0 rfl hs0 (by decide) wd1036 rfl hb6 dX8_distanceDone_40 ?_
      refine jj_aload_n hC dX8_distanceDone_43 rfl 2 rfl ?_
      refine jg_I hC kfX3 7 rfl hp1 (by decide) wd1011 rfl dX8_distanceDone_44 (fun hr7 => ?_)
      refine jj_iconst hC dX8_distanceDone_47 ?_
      refine jg_isub hC dX8_distanceDone_48 ?_
      refine jj_aload_n hC dX8_distanceDone_49 rfl 2 rfl ?_
      refine jg_I hC kfX3 7 rfl hp1 (by decide) wd1011 rfl dX8_distanceDone_50 (fun hr8 => ?_)
      obtain ⟨q9, hq9, h⟩ := bd_e h
      refine jj_invV hC mvX2_sumOfLegs wd762 wd763 wd761 hs6 (by decide) rfl (xX2_sumOfLegs (OKC.tr hC) hs6 (w32_r _) hr8 hq9) rfl rfl (c_le rfl) (c_le rfl) (c_le rfl) (c_le rfl) dX8_distanceDone_53 noXk (po_kI (fun hr9 => ?_))
      refine jj_istore_n (lv' := [(3, .int (iI q9)), (2, .int (iI q4)), (0, .ref a0), (1, .ref x1)]) hC dX8_distanceDone_56 rfl (by decide) rfl ?_
      refine jj_iload_n hC dX8_distanceDone_57 rfl 0 rfl ?_
      refine jj_aload_n hC dX8_distanceDone_58 rfl 2 rfl ?_
      obtain ⟨b10, hb10, hs10, h⟩ := rf_e h
      refine jg_R hC kfX8 0 rfl hs0 (by decide) wd1036 rfl hb10 dX8_distanceDone_59 ?_
      refine jj_aload_n hC dX8_distanceDone_62 rfl 3 rfl ?_
      refine jg_I hC kfX3 7 rfl hp1 (by decide) wd1011 rfl dX8_distanceDone_63 (fun hr11 => ?_)
      refine jj_aload_n hC dX8_distanceDone_66 rfl 3 rfl ?_
      refine jg_I hC kfX3 2 rfl hp1 (by decide) wd996 rfl dX8_distanceDone_67 (fun hr12 => ?_)
      refine jj_aload_n hC dX8_distanceDone_70 rfl 3 rfl ?_
      refine jg_I hC kfX3 3 rfl hp1 (by decide) wd999 rfl dX8_distanceDone_71 (fun hr13 => ?_)
      obtain ⟨q14, hq14, h⟩ := bd_e h
      refine jj_invV hC mvX2_spanToStop wd766 wd767 wd765 hs10 (by decide) rfl (xX2_spanToStop (OKC.tr hC) hs10 hr11 hr12 hr13 hq14) rfl rfl (c_le rfl) (c_le rfl) (c_le rfl) (c_le rfl) dX8_distanceDone_74 noXk (po_kI (fun hr14 => ?_))
      refine jg_isub hC dX8_distanceDone_77 ?_
      refine jj_istore (lv' := [(4, .int (iI (w32 (q9 - q14)))), (3, .int (iI q9)), (2, .int (iI q4)), (0, .ref a0), (1, .ref x1)]) hC dX8_distanceDone_78 (by decide) rfl ?_
      refine jj_iload_n hC dX8_distanceDone_80 rfl 2 rfl ?_
      refine jj_iconst hC dX8_distanceDone_81 ?_
      refine jj_iload hC dX8_distanceDone_82 0 rfl ?_
      refine jj_mmax hC (show (-2147483648 ≤ (0 : Int) ∧ (0 : Int) < 2147483648) from by decide) (w32_r _) wd769 wd211 wd47 wd212 (c_le rfl) (c_le rfl) (c_le rfl) (c_le rfl) dX8_distanceDone_84 ?_
      refine jg_iadd hC dX8_distanceDone_87 ?_
      cases h
      exact jj_iret hC (c_le rfl) (c_le rfl) dX8_distanceDone_88 ⟨rfl, (w32_r _), rfl, rfl, rfl, rfl, rfl⟩
    · replace h := (if_neg (fun k => k hc)).symm.trans h
      refine jj_iload_n hC dX8_distanceDone_37 rfl 0 rfl ?_
      cases h
      exact jj_iret hC (c_le rfl) (c_le rfl) dX8_distanceDone_38 ⟨rfl, hr4, rfl, rfl, rfl, rfl, rfl⟩
  · replace h := (if_neg (fun k => k hc)).symm.trans h
    refine jj_iconst hC dX8_distanceDone_10 ?_
    cases h
    exact jj_iret hC (c_le rfl) (c_le rfl) dX8_distanceDone_11 ⟨rfl, (show (-2147483648 ≤ (0 : Int) ∧ (0 : Int) < 2147483648) from by decide), rfl, rfl, rfl, rfl, rfl⟩
def fX8_leastMinutes_B41 (ad S Ln : Nat → Nat) (R : gR) (M : gM) (l0_4 : Nat) (l2_41 : Int) (l3_41 : Int) : Option ((Int × Int) ⊕ ((Int) ⊕ (Int))) :=
  some (.inl (l2_41, w32 (l3_41 + 1)))
def fX8_leastMinutes_L4 (ad S Ln : Nat → Nat) (R : gR) (M : gM) (l0_4 : Nat) (s4 : Int × Int) : Option ((Int × Int) ⊕ ((Int) ⊕ (Int))) :=
  if (M l0_4 4) ≤ s4.2 then (some (.inr (.inl s4.1))) else (rf S (R l0_4 3) 26 fun b2 => gd ((0 : Int) ≤ s4.2 ∧ s4.2 < (Ln b2 : Int)) (rf S (R b2 s4.2) 8 fun b3 => gd (0 ≤ M b3 1) (if ¬ (M b3 1) = 3 then (fX8_leastMinutes_B41 ad S Ln R M l0_4 s4.1 s4.2) else (rf S (R l0_4 3) 26 fun b5 => gd ((0 : Int) ≤ s4.2 ∧ s4.2 < (Ln b5 : Int)) (rf S (R b5 s4.2) 8 fun b6 => fX8_leastMinutes_B41 ad S Ln R M l0_4 (i_min s4.1 (M b6 5)) s4.2)))))
def fX8_leastMinutes (ad S Ln : Nat → Nat) (R : gR) (M : gM) (a0 : Nat) (x1 : Int) : Option Int :=
  bd (lp (fX8_leastMinutes_L4 ad S Ln R M a0) FU (x1, 0)) fun q9 => Sum.elim (fun e4_8 => some (e4_8)) (fun c9 => some c9) q9
theorem xX8_leastMinutes {l : Launch} {G : gE} {sz : Nat} {S Ln : Nat → Nat} {M : gM} {R : gR} (hl : l.stackTraces = false) {a0 : Nat} (hs0 : S a0 = 11) {x1 : Int} (hp1 : (-2147483648 ≤ x1 ∧ x1 < 2147483648)) {r : Int} (h : fX8_leastMinutes G.2.2.2.2 S Ln R M a0 x1 = some r) : Ct l G yX8_leastMinutes cX8_leastMinutes 4 (some .int) 1 0 0 [.ref a0, .int (iI x1)] sz S Ln M R (poI r sz S Ln (M) R) noX := by
  refine jj_start (own := RX8) (lv0 := [(0, .ref a0), (1, .int (iI x1))]) hl (by decide +kernel) rfl rfl (c_le rfl) (fun C hCl hC => ?_)
  have hL4 : ∀ (l0_4 : Nat), S l0_4 = 11 → ∀ (n : Nat) (s4 : Int × Int) (q : (Int) ⊕ (Int)), lp (fX8_leastMinutes_L4 G.2.2.2.2 S Ln R M l0_4) n s4 = some q → (-2147483648 ≤ s4.1 ∧ s4.1 < 2147483648) ∧ (-2147483648 ≤ s4.2 ∧ s4.2 < 2147483648) → (∀ e4, q = .inl e4 → (-2147483648 ≤ e4 ∧ e4 < 2147483648) → JJ G C 0 0 sz S Ln M R 47 [(2, .int (iI e4))] []) → (∀ c, q = .inr c → c = r) → JJ G C 0 0 sz S Ln M R 4 [(0, .ref l0_4), (2, .int (iI s4.1)), (3, .int (iI s4.2))] [] := by
    intro l0_4 hl0_4
    refine lp_ind ?_
    intro s4 r4 hI4 h hJ4 hE4 hR4
    obtain ⟨hs4_0, hs4_1⟩ := hI4
    have hB41 : ∀ (l2_41 : Int) (l3_41 : Int), (-2147483648 ≤ l2_41 ∧ l2_41 < 2147483648) → (-2147483648 ≤ l3_41 ∧ l3_41 < 2147483648) → fX8_leastMinutes_B41 G.2.2.2.2 S Ln R M l0_4 l2_41 l3_41 = some r4 → JJ G C 0 0 sz S Ln M R 41 [(0, .ref l0_4), (2, .int (iI l2_41)), (3, .int (iI l3_41))] [] := by
      intro l2_41 l3_41 hl2_41 hl3_41 h
      unfold fX8_leastMinutes_B41 at h
      refine jg_iinc (q := 2) (lv' := [(3, .int (iI (w32 (l3_41 + 1)))), (0, .ref l0_4), (2, .int (iI l2_41))]) hC dX8_leastMinutes_41 rfl (by decide) rfl ?_
      refine jj_goto (tgt := 4) hC dX8_leastMinutes_44 rfl ?_
      refine jj_lv (lv' := [(0, .ref l0_4), (2, .int (iI l2_41)), (3, .int (iI (w32 (l3_41 + 1))))]) [1, 2, 0] rfl ?_
      exact hJ4 _ (Option.some.inj h).symm ⟨hl2_41, (w32_r _)⟩
    unfold fX8_leastMinutes_L4 at h
    refine jj_iload_n hC dX8_leastMinutes_4 rfl 2 rfl ?_
    refine jj_aload_n hC dX8_leastMinutes_5 rfl 0 rfl ?_
    refine jg_I hC kfX8 4 rfl hl0_4 (by decide) wd1044 rfl dX8_leastMinutes_6 (fun hr1 => ?_)
    refine jj_icmp_ge (tgt := 47) hC dX8_leastMinutes_9 rfl hs4_1 hr1 (fun hc => ?_) (fun hc => ?_)
    · replace h := (if_pos hc).symm.trans h
      refine jj_lv (lv' := [(2, .int (iI s4.1))]) [1] rfl ?_
      exact hE4 _ (Option.some.inj h).symm hs4_0
    · replace h := (if_neg (Int.not_le.mpr hc)).symm.trans h
      refine jj_aload_n hC dX8_leastMinutes_12 rfl 0 rfl ?_
      obtain ⟨b2, hb2, hs2, h⟩ := rf_e h
      refine jg_R hC kfX8 3 rfl hl0_4 (by decide) wd1042 rfl hb2 dX8_leastMinutes_13 ?_
      refine jj_iload_n hC dX8_leastMinutes_16 rfl 2 rfl ?_
      obtain ⟨⟨ha3, hb3⟩, h⟩ := gd_e h
      obtain ⟨b3, hd3, hs3, h⟩ := rf_e h
      refine jj_aald hC hs2 (by decide) ha3 hb3 hd3 dX8_leastMinutes_17 ?_
      obtain ⟨hg4, h⟩ := gd_e h
      refine jg_E hC kfX3 1 rfl hs3 (by decide) wd993 rfl hg4 dX8_leastMinutes_18 (fun hr4 => ?_)
      refine jg_s (j := 3) hC 3 rfl rfl wd730 dX8_leastMinutes_21 ?_
      refine jg_acmp_ne (tgt := 41) hC dX8_leastMinutes_24 rfl ⟨hg4, hr4⟩ (show (0 ≤ (3 : Int) ∧ (3 : Int) < 9) from by decide) (fun hc => ?_) (fun hc => ?_)
      · replace h := (if_pos hc).symm.trans h
        refine jj_lv (lv' := [(0, .ref l0_4), (2, .int (iI s4.1)), (3, .int (iI s4.2))]) [0, 1, 2] rfl ?_
        exact hB41 s4.1 s4.2 hs4_0 hs4_1 h
      · replace h := (if_neg (fun k => k hc)).symm.trans h
        refine jj_iload_n hC dX8_leastMinutes_27 rfl 1 rfl ?_
        refine jj_aload_n hC dX8_leastMinutes_28 rfl 0 rfl ?_
        obtain ⟨b5, hb5, hs5, h⟩ := rf_e h
        refine jg_R hC kfX8 3 rfl hl0_4 (by decide) wd1042 rfl hb5 dX8_leastMinutes_29 ?_
        refine jj_iload_n hC dX8_leastMinutes_32 rfl 2 rfl ?_
        obtain ⟨⟨ha6, hb6⟩, h⟩ := gd_e h
        obtain ⟨b6, hd6, hs6, h⟩ := rf_e h
        refine jj_aald hC hs5 (by decide) ha6 hb6 hd6 dX8_leastMinutes_33 ?_
        refine jg_I hC kfX3 5 rfl hs6 (by decide) wd1005 rfl dX8_leastMinutes_34 (fun hr7 => ?_)
        refine jj_mmin hC hs4_0 hr7 wd780 wd229 wd47 wd230 (c_le rfl) (c_le rfl) (c_le rfl) (c_le rfl) dX8_leastMinutes_37 ?_
        refine jj_istore_n (lv' := [(2, .int (iI (i_min s4.1 (M b6 5)))), (0, .ref l0_4), (3, .int (iI s4.2))]) hC dX8_leastMinutes_40 rfl (by decide) rfl ?_
        refine jj_lv (lv' := [(0, .ref l0_4), (2, .int (iI (i_min s4.1 (M b6 5)))), (3, .int (iI s4.2))]) [1, 0, 2] rfl ?_
        exact hB41 (i_min s4.1 (M b6 5)) s4.2 (i_min_r hs4_0 hr7) hs4_1 h
  unfold fX8_leastMinutes at h
  refine jj_iload_n hC dX8_leastMinutes_0 rfl 1 rfl ?_
  refine jj_istore_n (lv' := [(2, .int (iI x1)), (0, .ref a0), (1, .int (iI x1))]) hC dX8_leastMinutes_1 rfl (by decide) rfl ?_
  refine jj_iconst hC dX8_leastMinutes_2 ?_
  refine jj_istore_n (lv' := [(3, .int (iI 0)), (2, .int (iI x1)), (0, .ref a0), (1, .int (iI x1))]) hC dX8_leastMinutes_3 rfl (by decide) rfl ?_
  obtain ⟨q9, hq9, h⟩ := bd_e h
  refine jj_lv (lv' := [(0, .ref a0), (2, .int (iI x1)), (3, .int (iI 0))]) [2, 1, 0] rfl ?_
  refine hL4 a0 hs0 FU _ q9 hq9 ⟨hp1, (show (-2147483648 ≤ (0 : Int) ∧ (0 : Int) < 2147483648) from by decide)⟩ (fun e4_8 he9 hIE9 => ?_) (fun c9 hc9 => ?_)
  · subst he9
    replace h := el_l h
    have he4_8_0 := hIE9
    refine jj_iload_n hC dX8_leastMinutes_47 rfl 0 rfl ?_
    cases h
    exact jj_iret hC (c_le rfl) (c_le rfl) dX8_leastMinutes_48 ⟨rfl, he4_8_0, rfl, rfl, rfl, rfl, rfl⟩
  · subst hc9
    replace h := el_r h
    exact Option.some.inj h
def fX8_scoreOf_B64 (ad S Ln : Nat → Nat) (R : gR) (M : gM) (l1_64 : Nat) (l2_64 : Int) : Option Int :=
  some (i_max 0 (w32 (l2_64 - (M l1_64 6))))
def fX8_scoreOf (ad S Ln : Nat → Nat) (R : gR) (M : gM) (a0 : Nat) (x1 : Nat) : Option Int :=
  gd (0 ≤ M x1 1) (if ¬ (M x1 1) = 0 then (bd (fX8_distanceDone ad S Ln R M a0 x1) fun q2 => rf S (R a0 0) 7 fun b3 => bd (fX2_wholeDistance ad S Ln R M b3) fun q4 => bd (fX9_quotient ad S Ln R M (w32 (1000 * q2)) q4) fun q5 => gd (0 ≤ M x1 1) (if ¬ (M x1 1) = 3 then (fX8_scoreOf_B64 ad S Ln R M x1 q5) else (bd (fX8_leastMinutes ad S Ln R M a0 (M x1 5)) fun q9 => bd (fX9_quotient ad S Ln R M (w32 (500 * q9)) (M x1 5)) fun q11 => fX8_scoreOf_B64 ad S Ln R M x1 (w32 (q5 + q11))))) else (some (0)))
theorem xX8_scoreOf {l : Launch} {G : gE} {sz : Nat} {S Ln : Nat → Nat} {M : gM} {R : gR} (hl : l.stackTraces = false) {a0 : Nat} (hs0 : S a0 = 11) {x1 : Nat} (hp1 : S x1 = 8) {r : Int} (h : fX8_scoreOf G.2.2.2.2 S Ln R M a0 x1 = some r) : Ct l G yX8_scoreOf cX8_scoreOf 3 (some .int) 4 0 0 [.ref a0, .ref x1] sz S Ln M R (poI r sz S Ln (M) R) noX := by
  refine jj_start (own := RX8) (lv0 := [(0, .ref a0), (1, .ref x1)]) hl (by decide +kernel) rfl rfl (c_le rfl) (fun C hCl hC => ?_)
  have hB64 : ∀ (l1_64 : Nat) (l2_64 : Int), S l1_64 = 8 → (-2147483648 ≤ l2_64 ∧ l2_64 < 2147483648) → fX8_scoreOf_B64 G.2.2.2.2 S Ln R M l1_64 l2_64 = some r → JJ G C 0 0 sz S Ln M R 64 [(1, .ref l1_64), (2, .int (iI l2_64))] [] := by
    intro l1_64 l2_64 hl1_64 hl2_64 h
    unfold fX8_scoreOf_B64 at h
    refine jj_iconst hC dX8_scoreOf_64 ?_
    refine jj_iload_n hC dX8_scoreOf_65 rfl 1 rfl ?_
    refine jj_aload_n hC dX8_scoreOf_66 rfl 0 rfl ?_
    refine jg_I hC kfX3 6 rfl hl1_64 (by decide) wd1008 rfl dX8_scoreOf_67 (fun hr7 => ?_)
    refine jg_isub hC dX8_scoreOf_70 ?_
    refine jj_mmax hC (show (-2147483648 ≤ (0 : Int) ∧ (0 : Int) < 2147483648) from by decide) (w32_r _) wd769 wd211 wd47 wd212 (c_le rfl) (c_le rfl) (c_le rfl) (c_le rfl) dX8_scoreOf_71 ?_
    cases h
    exact jj_iret hC (c_le rfl) (c_le rfl) dX8_scoreOf_74 ⟨rfl, (i_max_r (show (-2147483648 ≤ (0 : Int) ∧ (0 : Int) < 2147483648) from by decide) (w32_r _)), rfl, rfl, rfl, rfl, rfl⟩
  unfold fX8_scoreOf at h
  refine jj_aload_n hC dX8_scoreOf_0 rfl 1 rfl ?_
  obtain ⟨hg1, h⟩ := gd_e h
  refine jg_E hC kfX3 1 rfl hp1 (by decide) wd993 rfl hg1 dX8_scoreOf_1 (fun hr1 => ?_)
  refine jg_s (j := 0) hC 0 rfl rfl wd647 dX8_scoreOf_4 ?_
  refine jg_acmp_ne (tgt := 12) hC dX8_scoreOf_7 rfl ⟨hg1, hr1⟩ (show (0 ≤ (0 : Int) ∧ (0 : Int) < 9) from by decide) (fun hc => ?_) (fun hc => ?_)
  · replace h := (if_pos hc).symm.trans h
    refine jj_sipush hC dX8_scoreOf_12 (by decide) ?_
    refine jj_aload_n hC dX8_scoreOf_15 rfl 0 rfl ?_
    refine jj_aload_n hC dX8_scoreOf_16 rfl 1 rfl ?_
    obtain ⟨q2, hq2, h⟩ := bd_e h
    refine jj_invV hC mvX8_distanceDone wd758 wd759 wd757 hs0 (by decide) rfl (xX8_distanceDone (OKC.tr hC) hs0 hp1 hq2) rfl rfl (c_le rfl) (c_le rfl) (c_le rfl) (c_le rfl) dX8_scoreOf_17 noXk (po_kI (fun hr2 => ?_))
    refine jg_imul hC dX8_scoreOf_20 ?_
    refine jj_aload_n hC dX8_scoreOf_21 rfl 0 rfl ?_
    obtain ⟨b3, hb3, hs3, h⟩ := rf_e h
    refine jg_R hC kfX8 0 rfl hs0 (by decide) wd1036 rfl hb3 dX8_scoreOf_22 ?_
    obtain ⟨q4, hq4, h⟩ := bd_e h
    refine jj_invV hC mvX2_wholeDistance wd771 wd772 wd770 hs3 (by decide) rfl (xX2_wholeDistance (OKC.tr hC) hs3 hq4) rfl rfl (c_le rfl) (c_le rfl) (c_le rfl) (c_le rfl) dX8_scoreOf_25 noXk (po_kI (fun hr4 => ?_))
    obtain ⟨q5, hq5, h⟩ := bd_e h
    refine jj_invSN hC mvX9_quotient wd711 wd775 (xX9_quotient (OKC.tr hC) (w32_r _) hr4 hq5) rfl rfl (c_le rfl) (c_le rfl) (c_le rfl) (c_le rfl) dX8_scoreOf_28 (po_kI (fun hr5 => ?_))
    refine jj_istore_n (lv' := [(2, .int (iI q5)), (0, .ref a0), (1, .ref x1)]) hC dX8_scoreOf_31 rfl (by decide) rfl ?_
    refine jj_aload_n hC dX8_scoreOf_32 rfl 2 rfl ?_
    obtain ⟨hg6, h⟩ := gd_e h
    refine jg_E hC kfX3 1 rfl hp1 (by decide) wd993 rfl hg6 dX8_scoreOf_33 (fun hr6 => ?_)
    refine jg_s (j := 3) hC 3 rfl rfl wd730 dX8_scoreOf_36 ?_
    refine jg_acmp_ne (tgt := 64) hC dX8_scoreOf_39 rfl ⟨hg6, hr6⟩ (show (0 ≤ (3 : Int) ∧ (3 : Int) < 9) from by decide) (fun hc => ?_) (fun hc => ?_)
    · replace h := (if_pos hc).symm.trans h
      refine jj_lv (lv' := [(1, .ref x1), (2, .int (iI q5))]) [2, 0] rfl ?_
      exact hB64 x1 q5 hp1 hr5 h
    · replace h := (if_neg (fun k => k hc)).symm.trans h
      refine jj_iload_n hC dX8_scoreOf_42 rfl 0 rfl ?_
      refine jj_sipush hC dX8_scoreOf_43 (by decide) ?_
      refine jj_aload_n hC dX8_scoreOf_46 rfl 1 rfl ?_
      refine jj_aload_n hC dX8_scoreOf_47 rfl 2 rfl ?_
      refine jg_I hC kfX3 5 rfl hp1 (by decide) wd1005 rfl dX8_scoreOf_48 (fun hr8 => ?_)
      obtain ⟨q9, hq9, h⟩ := bd_e h
      refine jj_invV hC mvX8_leastMinutes wd778 wd5 wd776 hs0 (by decide) rfl (xX8_leastMinutes (OKC.tr hC) hs0 hr8 hq9) rfl rfl (c_le rfl) (c_le rfl) (c_le rfl) (c_le rfl) dX8_scoreOf_51 noXk (po_kI (fun hr9 => ?_))
      refine jg_imul hC dX8_scoreOf_54 ?_
      refine jj_aload_n hC dX8_scoreOf_55 rfl 2 rfl ?_
      refine jg_I hC kfX3 5 rfl hp1 (by decide) wd1005 rfl dX8_scoreOf_56 (fun hr10 => ?_)
      obtain ⟨q11, hq11, h⟩ := bd_e h
      refine jj_invSN hC mvX9_quotient wd711 wd775 (xX9_quotient (OKC.tr hC) (w32_r _) hr10 hq11) rfl rfl (c_le rfl) (c_le rfl) (c_le rfl) (c_le rfl) dX8_scoreOf_59 (po_kI (fun hr11 => ?_))
      refine jg_iadd hC dX8_scoreOf_62 ?_
      refine jj_istore_n (lv' := [(2, .int (iI (w32 (q5 + q11)))), (0, .ref a0), (1, .ref x1)]) hC dX8_scoreOf_63 rfl (by decide) rfl ?_
      refine jj_lv (lv' := [(1, .ref x1), (2, .int (iI (w32 (q5 + q11))))]) [2, 0] rfl ?_
      exact hB64 x1 (w32 (q5 + q11)) hp1 (w32_r _) h
  · replace h := (if_neg (fun k => k hc)).symm.trans h
    refine jj_iconst hC dX8_scoreOf_10 ?_
    cases h
    exact jj_iret hC (c_le rfl) (c_le rfl) dX8_scoreOf_11 ⟨rfl, (show (-2147483648 ≤ (0 : Int) ∧ (0 : Int) < 2147483648) from by decide), rfl, rfl, rfl, rfl, rfl⟩
def fX8_closeDay_L10 (ad S Ln : Nat → Nat) (R : gR) (l0_10 : Nat) (l1_10 : Int) (s10 : Int × gM) : Option ((Int × gM) ⊕ ((gM) ⊕ (Int × gM))) :=
  if (s10.2 l0_10 4) ≤ s10.1 then (some (.inr (.inl s10.2))) else (rf S (R l0_10 3) 26 fun b3 => gd ((0 : Int) ≤ s10.1 ∧ s10.1 < (Ln b3 : Int)) (rf S (R b3 s10.1) 8 fun b4 => rf S (R l0_10 3) 26 fun b6 => gd ((0 : Int) ≤ s10.1 ∧ s10.1 < (Ln b6 : Int)) (rf S (R b6 s10.1) 8 fun b7 => bd (fX8_scoreOf ad S Ln R s10.2 l0_10 b7) fun q8 => nam (wr s10.2 b4 8 (w64 ((s10.2 b4 8) + q8))) fun M9 => some (.inl (w32 (s10.1 + 1), M9)))))
def fX8_closeDay_L51 (ad S Ln : Nat → Nat) (R : gR) (l0_51 : Nat) (l1_51 : Int) (s51 : Int × gM) : Option ((Int × gM) ⊕ ((gM) ⊕ (Int × gM))) :=
  if (s51.2 l0_51 4) ≤ s51.1 then (some (.inr (.inl s51.2))) else (rf S (R l0_51 3) 26 fun b12 => gd ((0 : Int) ≤ s51.1 ∧ s51.1 < (Ln b12 : Int)) (rf S (R b12 s51.1) 8 fun b13 => bd (fX3_rest ad S Ln R s51.2 b13) fun q14 => some (.inl (w32 (s51.1 + 1), q14))))
def fX8_closeDay (ad S Ln : Nat → Nat) (R : gR) (M : gM) (a0 : Nat) : Option (Int × gM) :=
  bd (fX8_countInPhase ad S Ln R M a0 3) fun q1 => bd (lp (fX8_closeDay_L10 ad S Ln R a0 q1) FU (0, M)) fun q19 => Sum.elim (fun e10_10 => bd (lp (fX8_closeDay_L51 ad S Ln R a0 q1) FU (0, e10_10)) fun q18 => Sum.elim (fun e51_15 => nam (wr e51_15 a0 5 (w32 ((e51_15 a0 5) + 1))) fun M17 => some ((q1, M17))) (fun c18 => some c18) q18) (fun c19 => some c19) q19
theorem xX8_closeDay {l : Launch} {G : gE} {sz : Nat} {S Ln : Nat → Nat} {M : gM} {R : gR} (hl : l.stackTraces = false) {a0 : Nat} (hs0 : S a0 = 11) {r : Int × gM} (h : fX8_closeDay G.2.2.2.2 S Ln R M a0 = some r) : Ct l G yX8_closeDay cX8_closeDay 3 (some .int) 5 0 0 [.ref a0] sz S Ln M R (poI r.1 sz S Ln (r.2) R) noX := by
  refine jj_start (own := RX8) (lv0 := [(0, .ref a0)]) hl (by decide +kernel) rfl rfl (c_le rfl) (fun C hCl hC => ?_)
  have hL10 : ∀ (l0_10 : Nat) (l1_10 : Int), S l0_10 = 11 → (-2147483648 ≤ l1_10 ∧ l1_10 < 2147483648) → ∀ (n : Nat) (s10 : Int × gM) (q : (gM) ⊕ (Int × gM)), lp (fX8_closeDay_L10 G.2.2.2.2 S Ln R l0_10 l1_10) n s10 = some q → (-2147483648 ≤ s10.1 ∧ s10.1 < 2147483648) → (∀ e10, q = .inl e10 → True → JJ G C 0 0 sz S Ln e10 R 49 [(0, .ref l0_10), (1, .int (iI l1_10))] []) → (∀ c, q = .inr c → c = r) → JJ G C 0 0 sz S Ln s10.2 R 10 [(0, .ref l0_10), (1, .int (iI l1_10)), (2, .int (iI s10.1))] [] := by
    intro l0_10 l1_10 hl0_10 hl1_10
    refine lp_ind ?_
    intro s10 r10 hI10 h hJ10 hE10 hR10
    have hs10_0 := hI10
    unfold fX8_closeDay_L10 at h
    refine jj_iload_n hC dX8_closeDay_10 rfl 2 rfl ?_
    refine jj_aload_n hC dX8_closeDay_11 rfl 0 rfl ?_
    refine jg_I hC kfX8 4 rfl hl0_10 (by decide) wd1044 rfl dX8_closeDay_12 (fun hr2 => ?_)
    refine jj_icmp_ge (tgt := 49) hC dX8_closeDay_15 rfl hs10_0 hr2 (fun hc => ?_) (fun hc => ?_)
    · replace h := (if_pos hc).symm.trans h
      refine jj_lv (lv' := [(0, .ref l0_10), (1, .int (iI l1_10))]) [0, 1] rfl ?_
      exact hE10 _ (Option.some.inj h).symm trivial
    · replace h := (if_neg (Int.not_le.mpr hc)).symm.trans h
      refine jj_aload_n hC dX8_closeDay_18 rfl 0 rfl ?_
      obtain ⟨b3, hb3, hs3, h⟩ := rf_e h
      refine jg_R hC kfX8 3 rfl hl0_10 (by decide) wd1042 rfl hb3 dX8_closeDay_19 ?_
      refine jj_iload_n hC dX8_closeDay_22 rfl 2 rfl ?_
      obtain ⟨⟨ha4, hb4⟩, h⟩ := gd_e h
      obtain ⟨b4, hd4, hs4, h⟩ := rf_e h
      refine jj_aald hC hs3 (by decide) ha4 hb4 hd4 dX8_closeDay_23 ?_
      refine jj_dup hC dX8_closeDay_24 rfl ?_
      refine jg_L hC kfX3 8 rfl hs4 (by decide) wd1014 rfl dX8_closeDay_25 (fun hr5 => ?_)
      refine jj_aload_n hC dX8_closeDay_28 rfl 0 rfl ?_
      refine jj_aload_n hC dX8_closeDay_29 rfl 0 rfl ?_
      obtain ⟨b6, hb6, hs6, h⟩ := rf_e h
      refine jg_R hC kfX8 3 rfl hl0_10 (by decide) wd1042 rfl hb6 dX8_closeDay_30 ?_
      refine jj_iload_n hC dX8_closeDay_33 rfl 2 rfl ?_
      obtain ⟨⟨ha7, hb7⟩, h⟩ := gd_e h
      obtain ⟨b7, hd7, hs7, h⟩ := rf_e h
      refine jj_aald hC hs6 (by decide) ha7 hb7 hd7 dX8_closeDay_34 ?_
      obtain ⟨q8, hq8, h⟩ := bd_e h
      refine jj_invV hC mvX8_scoreOf wd754 wd755 wd753 hl0_10 (by decide) rfl (xX8_scoreOf (OKC.tr hC) hl0_10 hs7 hq8) rfl rfl (c_le rfl) (c_le rfl) (c_le rfl) (c_le rfl) dX8_closeDay_35 noXk (po_kI (fun hr8 => ?_))
      refine jj_i2l hC dX8_closeDay_38 hr8 ?_
      refine jg_ladd hC dX8_closeDay_39 ?_
      obtain ⟨M9, hM9, h⟩ := nam_e h
      refine jp_L hC kfX3 8 rfl hs4 rfl (by decide) wd1014 rfl rfl rfl (w64_r _) dX8_closeDay_40 (jj_M hM9 ?_)
      refine jg_iinc (q := 2) (lv' := [(2, .int (iI (w32 (s10.1 + 1)))), (0, .ref l0_10), (1, .int (iI l1_10))]) hC dX8_closeDay_43 rfl (by decide) rfl ?_
      refine jj_goto (tgt := 10) hC dX8_closeDay_46 rfl ?_
      refine jj_lv (lv' := [(0, .ref l0_10), (1, .int (iI l1_10)), (2, .int (iI (w32 (s10.1 + 1))))]) [1, 2, 0] rfl ?_
      exact hJ10 _ (Option.some.inj h).symm (w32_r _)
  have hL51 : ∀ (l0_51 : Nat) (l1_51 : Int), S l0_51 = 11 → (-2147483648 ≤ l1_51 ∧ l1_51 < 2147483648) → ∀ (n : Nat) (s51 : Int × gM) (q : (gM) ⊕ (Int × gM)), lp (fX8_closeDay_L51 G.2.2.2.2 S Ln R l0_51 l1_51) n s51 = some q → (-2147483648 ≤ s51.1 ∧ s51.1 < 2147483648) → (∀ e51, q = .inl e51 → True → JJ G C 0 0 sz S Ln e51 R 74 [(0, .ref l0_51), (1, .int (iI l1_51))] []) → (∀ c, q = .inr c → c = r) → JJ G C 0 0 sz S Ln s51.2 R 51 [(0, .ref l0_51), (1, .int (iI l1_51)), (2, .int (iI s51.1))] [] := by
    intro l0_51 l1_51 hl0_51 hl1_51
    refine lp_ind ?_
    intro s51 r51 hI51 h hJ51 hE51 hR51
    have hs51_0 := hI51
    unfold fX8_closeDay_L51 at h
    refine jj_iload_n hC dX8_closeDay_51 rfl 2 rfl ?_
    refine jj_aload_n hC dX8_closeDay_52 rfl 0 rfl ?_
    refine jg_I hC kfX8 4 rfl hl0_51 (by decide) wd1044 rfl dX8_closeDay_53 (fun hr11 => ?_)
    refine jj_icmp_ge (tgt := 74) hC dX8_closeDay_56 rfl hs51_0 hr11 (fun hc => ?_) (fun hc => ?_)
    · replace h := (if_pos hc).symm.trans h
      refine jj_lv (lv' := [(0, .ref l0_51), (1, .int (iI l1_51))]) [0, 1] rfl ?_
      exact hE51 _ (Option.some.inj h).symm trivial
    · replace h := (if_neg (Int.not_le.mpr hc)).symm.trans h
      refine jj_aload_n hC dX8_closeDay_59 rfl 0 rfl ?_
      obtain ⟨b12, hb12, hs12, h⟩ := rf_e h
      refine jg_R hC kfX8 3 rfl hl0_51 (by decide) wd1042 rfl hb12 dX8_closeDay_60 ?_
      refine jj_iload_n hC dX8_closeDay_63 rfl 2 rfl ?_
      obtain ⟨⟨ha13, hb13⟩, h⟩ := gd_e h
      obtain ⟨b13, hd13, hs13, h⟩ := rf_e h
      refine jj_aald hC hs12 (by decide) ha13 hb13 hd13 dX8_closeDay_64 ?_
      obtain ⟨q14, hq14, h⟩ := bd_e h
      refine jj_invV hC mvX3_rest wd625 wd626 wd781 hs13 (by decide) rfl (xX3_rest (OKC.tr hC) hs13 hq14) rfl rfl (c_le rfl) (c_le rfl) (c_le rfl) (c_le rfl) dX8_closeDay_65 noXk (po_kV ?_)
      refine jg_iinc (q := 2) (lv' := [(2, .int (iI (w32 (s51.1 + 1)))), (0, .ref l0_51), (1, .int (iI l1_51))]) hC dX8_closeDay_68 rfl (by decide) rfl ?_
      refine jj_goto (tgt := 51) hC dX8_closeDay_71 rfl ?_
      refine jj_lv (lv' := [(0, .ref l0_51), (1, .int (iI l1_51)), (2, .int (iI (w32 (s51.1 + 1))))]) [1, 2, 0] rfl ?_
      exact hJ51 _ (Option.some.inj h).symm (w32_r _)
  unfold fX8_closeDay at h
  refine jj_aload_n hC dX8_closeDay_0 rfl 0 rfl ?_
  refine jg_s (j := 3) hC 3 rfl rfl wd730 dX8_closeDay_1 ?_
  obtain ⟨q1, hq1, h⟩ := bd_e h
  refine jj_invV hC mvX8_countInPhase wd667 wd668 wd666 hs0 (by decide) rfl (xX8_countInPhase (OKC.tr hC) hs0 (show (0 ≤ (3 : Int) ∧ (3 : Int) < 9) from by decide) hq1) rfl rfl (c_le rfl) (c_le rfl) (c_le rfl) (c_le rfl) dX8_closeDay_4 noXk (po_kI (fun hr1 => ?_))
  refine jj_istore_n (lv' := [(1, .int (iI q1)), (0, .ref a0)]) hC dX8_closeDay_7 rfl (by decide) rfl ?_
  refine jj_iconst hC dX8_closeDay_8 ?_
  refine jj_istore_n (lv' := [(2, .int (iI 0)), (1, .int (iI q1)), (0, .ref a0)]) hC dX8_closeDay_9 rfl (by decide) rfl ?_
  obtain ⟨q19, hq19, h⟩ := bd_e h
  refine jj_lv (lv' := [(0, .ref a0), (1, .int (iI q1)), (2, .int (iI 0))]) [2, 1, 0] rfl ?_
  refine hL10 a0 q1 hs0 hr1 FU _ q19 hq19 (show (-2147483648 ≤ (0 : Int) ∧ (0 : Int) < 2147483648) from by decide) (fun e10_10 he19 hIE19 => ?_) (fun c19 hc19 => ?_)
  · subst he19
    replace h := el_l h
    refine jj_iconst hC dX8_closeDay_49 ?_
    refine jj_istore_n (lv' := [(2, .int (iI 0)), (0, .ref a0), (1, .int (iI q1))]) hC dX8_closeDay_50 rfl (by decide) rfl ?_
    obtain ⟨q18, hq18, h⟩ := bd_e h
    refine jj_lv (lv' := [(0, .ref a0), (1, .int (iI q1)), (2, .int (iI 0))]) [1, 2, 0] rfl ?_
    refine hL51 a0 q1 hs0 hr1 FU _ q18 hq18 (show (-2147483648 ≤ (0 : Int) ∧ (0 : Int) < 2147483648) from by decide) (fun e51_15 he18 hIE18 => ?_) (fun c18 hc18 => ?_)
    · subst he18
      replace h := el_l h
      refine jj_aload_n hC dX8_closeDay_74 rfl 0 rfl ?_
      refine jj_dup hC dX8_closeDay_75 rfl ?_
      refine jg_I hC kfX8 5 rfl hs0 (by decide) wd1046 rfl dX8_closeDay_76 (fun hr16 => ?_)
      refine jj_iconst hC dX8_closeDay_79 ?_
      refine jg_iadd hC dX8_closeDay_80 ?_
      obtain ⟨M17, hM17, h⟩ := nam_e h
      refine jp_I hC kfX8 5 rfl hs0 rfl (by decide) wd1046 rfl rfl rfl (w32_r _) dX8_closeDay_81 (jj_M hM17 ?_)
      refine jj_iload_n hC dX8_closeDay_84 rfl 1 rfl ?_
      cases h
      exact jj_iret hC (c_le rfl) (c_le rfl) dX8_closeDay_85 ⟨rfl, hr1, rfl, rfl, rfl, rfl, rfl⟩
    · subst hc18
      replace h := el_r h
      exact Option.some.inj h
  · subst hc19
    replace h := el_r h
    exact Option.some.inj h
def fX8_distanceLeft (ad S Ln : Nat → Nat) (R : gR) (M : gM) (a0 : Nat) (x1 : Nat) : Option Int :=
  rf S (R a0 0) 7 fun b1 => bd (fX2_spanToStop ad S Ln R M b1 (M x1 7) (M x1 2) (M x1 3)) fun q5 => rf S (R a0 0) 7 fun b6 => rf S (R a0 0) 7 fun b8 => bd (fX2_sumOfLegs ad S Ln R M b6 (M x1 7) (w32 ((M b8 5) - 1))) fun q10 => some (w32 (q5 + q10))
theorem xX8_distanceLeft {l : Launch} {G : gE} {sz : Nat} {S Ln : Nat → Nat} {M : gM} {R : gR} (hl : l.stackTraces = false) {a0 : Nat} (hs0 : S a0 = 11) {x1 : Nat} (hp1 : S x1 = 8) {r : Int} (h : fX8_distanceLeft G.2.2.2.2 S Ln R M a0 x1 = some r) : Ct l G yX8_distanceLeft cX8_distanceLeft 3 (some .int) 3 0 0 [.ref a0, .ref x1] sz S Ln M R (poI r sz S Ln (M) R) noX := by
  refine jj_start (own := RX8) (lv0 := [(0, .ref a0), (1, .ref x1)]) hl (by decide +kernel) rfl rfl (c_le rfl) (fun C hCl hC => ?_)
  unfold fX8_distanceLeft at h
  refine jj_aload_n hC dX8_distanceLeft_0 rfl 0 rfl ?_
  obtain ⟨b1, hb1, hs1, h⟩ := rf_e h
  refine jg_R hC kfX8 0 rfl hs0 (by decide) wd1036 rfl hb1 dX8_distanceLeft_1 ?_
  refine jj_aload_n hC dX8_distanceLeft_4 rfl 1 rfl ?_
  refine jg_I hC kfX3 7 rfl hp1 (by decide) wd1011 rfl dX8_distanceLeft_5 (fun hr2 => ?_)
  refine jj_aload_n hC dX8_distanceLeft_8 rfl 1 rfl ?_
  refine jg_I hC kfX3 2 rfl hp1 (by decide) wd996 rfl dX8_distanceLeft_9 (fun hr3 => ?_)
  refine jj_aload_n hC dX8_distanceLeft_12 rfl 1 rfl ?_
  refine jg_I hC kfX3 3 rfl hp1 (by decide) wd999 rfl dX8_distanceLeft_13 (fun hr4 => ?_)
  obtain ⟨q5, hq5, h⟩ := bd_e h
  refine jj_invV hC mvX2_spanToStop wd766 wd767 wd765 hs1 (by decide) rfl (xX2_spanToStop (OKC.tr hC) hs1 hr2 hr3 hr4 hq5) rfl rfl (c_le rfl) (c_le rfl) (c_le rfl) (c_le rfl) dX8_distanceLeft_16 noXk (po_kI (fun hr5 => ?_))
  refine jj_istore_n (lv' := [(2, .int (iI q5)), (0, .ref a0), (1, .ref x1)]) hC dX8_distanceLeft_19 rfl (by decide) rfl ?_
  refine jj_iload_n hC dX8_distanceLeft_20 rfl 0 rfl ?_
  refine jj_aload_n hC dX8_distanceLeft_21 rfl 1 rfl ?_
  obtain ⟨b6, hb6, hs6, h⟩ := rf_e h
  refine jg_R hC kfX8 0 rfl hs0 (by decide) wd1036 rfl hb6 dX8_distanceLeft_22 ?_
  refine jj_aload_n hC dX8_distanceLeft_25 rfl 2 rfl ?_
  refine jg_I hC kfX3 7 rfl hp1 (by decide) wd1011 rfl dX8_distanceLeft_26 (fun hr7 => ?_)
  refine jj_aload_n hC dX8_distanceLeft_29 rfl 1 rfl ?_
  obtain ⟨b8, hb8, hs8, h⟩ := rf_e h
  refine jg_R hC kfX8 0 rfl hs0 (by decide) wd1036 rfl hb8 dX8_distanceLeft_30 ?_
  refine jg_I hC kfX2 5 rfl hs8 (by decide) wd914 rfl dX8_distanceLeft_33 (fun hr9 => ?_)
  refine jj_iconst hC dX8_distanceLeft_36 ?_
  refine jg_isub hC dX8_distanceLeft_37 ?_
  obtain ⟨q10, hq10, h⟩ := bd_e h
  refine jj_invV hC mvX2_sumOfLegs wd762 wd763 wd761 hs6 (by decide) rfl (xX2_sumOfLegs (OKC.tr hC) hs6 hr7 (w32_r _) hq10) rfl rfl (c_le rfl) (c_le rfl) (c_le rfl) (c_le rfl) dX8_distanceLeft_38 noXk (po_kI (fun hr10 => ?_))
  refine jg_iadd hC dX8_distanceLeft_41 ?_
  cases h
  exact jj_iret hC (c_le rfl) (c_le rfl) dX8_distanceLeft_42 ⟨rfl, (w32_r _), rfl, rfl, rfl, rfl, rfl⟩
def fX8_finishesByHeight (ad S Ln : Nat → Nat) (R : gR) (M : gM) (a0 : Nat) (x1 : Nat) : Option Int :=
  bd (fX8_distanceLeft ad S Ln R M a0 x1) fun q2 => bd (fX3_sinkRate ad S Ln R M x1) fun q3 => if (M x1 4) ≤ (w32 ((w32 (q2 - 1)) * q3)) then (some (0)) else (some (1))
theorem xX8_finishesByHeight {l : Launch} {G : gE} {sz : Nat} {S Ln : Nat → Nat} {M : gM} {R : gR} (hl : l.stackTraces = false) {a0 : Nat} (hs0 : S a0 = 11) {x1 : Nat} (hp1 : S x1 = 8) {r : Int} (h : fX8_finishesByHeight G.2.2.2.2 S Ln R M a0 x1 = some r) : Ct l G yX8_finishesByHeight cX8_finishesByHeight 2 (some .boolean) 4 0 0 [.ref a0, .ref x1] sz S Ln M R (poZ r sz S Ln (M) R) noX := by
  refine jj_start (own := RX8) (lv0 := [(0, .ref a0), (1, .ref x1)]) hl (by decide +kernel) rfl rfl (c_le rfl) (fun C hCl hC => ?_)
  unfold fX8_finishesByHeight at h
  refine jj_aload_n hC dX8_finishesByHeight_0 rfl 1 rfl ?_
  refine jg_I hC kfX3 4 rfl hp1 (by decide) wd1002 rfl dX8_finishesByHeight_1 (fun hr1 => ?_)
  refine jj_aload_n hC dX8_finishesByHeight_4 rfl 0 rfl ?_
  refine jj_aload_n hC dX8_finishesByHeight_5 rfl 1 rfl ?_
  obtain ⟨q2, hq2, h⟩ := bd_e h
  refine jj_invV hC mvX8_distanceLeft wd830 wd831 wd1506 hs0 (by decide) rfl (xX8_distanceLeft (OKC.tr hC) hs0 hp1 hq2) rfl rfl (c_le rfl) (c_le rfl) (c_le rfl) (c_le rfl) dX8_finishesByHeight_6 noXk (po_kI (fun hr2 => ?_))
  refine jj_iconst hC dX8_finishesByHeight_9 ?_
  refine jg_isub hC dX8_finishesByHeight_10 ?_
  refine jj_aload_n hC dX8_finishesByHeight_11 rfl 1 rfl ?_
  obtain ⟨q3, hq3, h⟩ := bd_e h
  refine jj_invV hC mvX3_sinkRate wd707 wd708 wd1507 hp1 (by decide) rfl (xX3_sinkRate (OKC.tr hC) hp1 hq3) rfl rfl (c_le rfl) (c_le rfl) (c_le rfl) (c_le rfl) dX8_finishesByHeight_12 noXk (po_kI (fun hr3 => ?_))
  refine jg_imul hC dX8_finishesByHeight_15 ?_
  refine jj_icmp_le (tgt := 23) hC dX8_finishesByHeight_16 rfl hr1 (w32_r _) (fun hc => ?_) (fun hc => ?_)
  · replace h := (if_pos hc).symm.trans h
    refine jj_iconst hC dX8_finishesByHeight_23 ?_
    cases h
    exact jj_zret hC (show (0 ≤ (0 : Int) ∧ (0 : Int) ≤ 1) from by decide) (c_le rfl) (c_le rfl) dX8_finishesByHeight_24 ⟨rfl, (show (0 ≤ (0 : Int) ∧ (0 : Int) ≤ 1) from by decide), rfl, rfl, rfl, rfl, rfl⟩
  · replace h := (if_neg (Int.not_le.mpr hc)).symm.trans h
    refine jj_iconst hC dX8_finishesByHeight_19 ?_
    refine jj_goto (tgt := 24) hC dX8_finishesByHeight_20 rfl ?_
    cases h
    exact jj_zret hC (show (0 ≤ (1 : Int) ∧ (1 : Int) ≤ 1) from by decide) (c_le rfl) (c_le rfl) dX8_finishesByHeight_24 ⟨rfl, (show (0 ≤ (1 : Int) ∧ (1 : Int) ≤ 1) from by decide), rfl, rfl, rfl, rfl, rfl⟩
def fX8_finishesInFlight_L10 (ad S Ln : Nat → Nat) (R : gR) (l0_10 : Nat) (s10 : Int × gM) : Option ((Int × gM) ⊕ ((gM) ⊕ (Int × gM))) :=
  if 10000 ≤ s10.1 then (some (.inr (.inl s10.2))) else (rf S (R l0_10 7) 8 fun b3 => gd (0 ≤ s10.2 b3 1) (if (s10.2 b3 1) = 1 then (rf S (R l0_10 7) 8 fun b5 => rf S (R l0_10 0) 7 fun b6 => rf S (R l0_10 7) 8 fun b7 => rf S (R l0_10 7) 8 fun b9 => rf S (R l0_10 7) 8 fun b11 => bd (fX2_directionTo ad S Ln R s10.2 b6 (s10.2 b7 7) (s10.2 b9 2) (s10.2 b11 3)) fun q13 => bd (fX8_glideKilometre ad S Ln R s10.2 l0_10 b5 q13) fun q14 => some (.inl (w32 (s10.1 + 1), q14))) else (some (.inr (.inl s10.2)))))
def fX8_finishesInFlight_B75 (ad S Ln : Nat → Nat) (R : gR) (M75 : gM) (l0_75 : Nat) : Option (Int × gM) :=
  rf S (R l0_75 7) 8 fun b16 => gd (0 ≤ M75 b16 1) (if ¬ (M75 b16 1) = 3 then (some ((0, M75))) else (some ((1, M75))))
def fX8_finishesInFlight (ad S Ln : Nat → Nat) (R : gR) (M : gM) (a0 : Nat) (x1 : Nat) : Option (Int × gM) :=
  rf S (R a0 7) 8 fun b1 => bd (fX3_copyFrom ad S Ln R M b1 x1) fun q2 => bd (lp (fX8_finishesInFlight_L10 ad S Ln R a0) FU (0, q2)) fun q18 => Sum.elim (fun e10_15 => fX8_finishesInFlight_B75 ad S Ln R e10_15 a0) (fun c18 => some c18) q18
theorem xX8_finishesInFlight {l : Launch} {G : gE} {sz : Nat} {S Ln : Nat → Nat} {M : gM} {R : gR} (hl : l.stackTraces = false) {a0 : Nat} (hs0 : S a0 = 11) {x1 : Nat} (hp1 : S x1 = 8) {r : Int × gM} (h : fX8_finishesInFlight G.2.2.2.2 S Ln R M a0 x1 = some r) : Ct l G yX8_finishesInFlight cX8_finishesInFlight 3 (some .boolean) 5 0 0 [.ref a0, .ref x1] sz S Ln M R (poZ r.1 sz S Ln (r.2) R) noX := by
  refine jj_start (own := RX8) (lv0 := [(0, .ref a0), (1, .ref x1)]) hl (by decide +kernel) rfl rfl (c_le rfl) (fun C hCl hC => ?_)
  have hL10 : ∀ (l0_10 : Nat), S l0_10 = 11 → ∀ (n : Nat) (s10 : Int × gM) (q : (gM) ⊕ (Int × gM)), lp (fX8_finishesInFlight_L10 G.2.2.2.2 S Ln R l0_10) n s10 = some q → (-2147483648 ≤ s10.1 ∧ s10.1 < 2147483648) → (∀ e10, q = .inl e10 → True → JJ G C 0 0 sz S Ln e10 R 75 [(0, .ref l0_10)] []) → (∀ c, q = .inr c → c = r) → JJ G C 0 0 sz S Ln s10.2 R 10 [(0, .ref l0_10), (2, .int (iI s10.1))] [] := by
    intro l0_10 hl0_10
    refine lp_ind ?_
    intro s10 r10 hI10 h hJ10 hE10 hR10
    have hs10_0 := hI10
    unfold fX8_finishesInFlight_L10 at h
    refine jj_iload_n hC dX8_finishesInFlight_10 rfl 1 rfl ?_
    refine jj_sipush hC dX8_finishesInFlight_11 (by decide) ?_
    refine jj_icmp_ge (tgt := 75) hC dX8_finishesInFlight_14 rfl hs10_0 (show (-2147483648 ≤ (10000 : Int) ∧ (10000 : Int) < 2147483648) from by decide) (fun hc => ?_) (fun hc => ?_)
    · replace h := (if_pos hc).symm.trans h
      refine jj_lv (lv' := [(0, .ref l0_10)]) [0] rfl ?_
      exact hE10 _ (Option.some.inj h).symm trivial
    · replace h := (if_neg (Int.not_le.mpr hc)).symm.trans h
      refine jj_aload_n hC dX8_finishesInFlight_17 rfl 0 rfl ?_
      obtain ⟨b3, hb3, hs3, h⟩ := rf_e h
      refine jg_R hC kfX8 7 rfl hl0_10 (by decide) wd1049 rfl hb3 dX8_finishesInFlight_18 ?_
      obtain ⟨hg4, h⟩ := gd_e h
      refine jg_E hC kfX3 1 rfl hs3 (by decide) wd993 rfl hg4 dX8_finishesInFlight_21 (fun hr4 => ?_)
      refine jg_s (j := 1) hC 1 rfl rfl wd665 dX8_finishesInFlight_24 ?_
      refine jg_acmp_eq (tgt := 33) hC dX8_finishesInFlight_27 rfl ⟨hg4, hr4⟩ (show (0 ≤ (1 : Int) ∧ (1 : Int) < 9) from by decide) (fun hc => ?_) (fun hc => ?_)
      · replace h := (if_pos hc).symm.trans h
        refine jj_aload_n hC dX8_finishesInFlight_33 rfl 0 rfl ?_
        refine jj_aload_n hC dX8_finishesInFlight_34 rfl 0 rfl ?_
        obtain ⟨b5, hb5, hs5, h⟩ := rf_e h
        refine jg_R hC kfX8 7 rfl hl0_10 (by decide) wd1049 rfl hb5 dX8_finishesInFlight_35 ?_
        refine jj_aload_n hC dX8_finishesInFlight_38 rfl 0 rfl ?_
        obtain ⟨b6, hb6, hs6, h⟩ := rf_e h
        refine jg_R hC kfX8 0 rfl hl0_10 (by decide) wd1036 rfl hb6 dX8_finishesInFlight_39 ?_
        refine jj_aload_n hC dX8_finishesInFlight_42 rfl 0 rfl ?_
        obtain ⟨b7, hb7, hs7, h⟩ := rf_e h
        refine jg_R hC kfX8 7 rfl hl0_10 (by decide) wd1049 rfl hb7 dX8_finishesInFlight_43 ?_
        refine jg_I hC kfX3 7 rfl hs7 (by decide) wd1011 rfl dX8_finishesInFlight_46 (fun hr8 => ?_)
        refine jj_aload_n hC dX8_finishesInFlight_49 rfl 0 rfl ?_
        obtain ⟨b9, hb9, hs9, h⟩ := rf_e h
        refine jg_R hC kfX8 7 rfl hl0_10 (by decide) wd1049 rfl hb9 dX8_finishesInFlight_50 ?_
        refine jg_I hC kfX3 2 rfl hs9 (by decide) wd996 rfl dX8_finishesInFlight_53 (fun hr10 => ?_)
        refine jj_aload_n hC dX8_finishesInFlight_56 rfl 0 rfl ?_
        obtain ⟨b11, hb11, hs11, h⟩ := rf_e h
        refine jg_R hC kfX8 7 rfl hl0_10 (by decide) wd1049 rfl hb11 dX8_finishesInFlight_57 ?_
        refine jg_I hC kfX3 3 rfl hs11 (by decide) wd999 rfl dX8_finishesInFlight_60 (fun hr12 => ?_)
        obtain ⟨q13, hq13, h⟩ := bd_e h
        refine jj_invV hC mvX2_directionTo wd1517 wd1518 wd1516 hs6 (by decide) rfl (xX2_directionTo (OKC.tr hC) hs6 hr8 hr10 hr12 hq13) rfl rfl (c_le rfl) (c_le rfl) (c_le rfl) (c_le rfl) dX8_finishesInFlight_63 noXk (po_kI (fun hr13 => ?_))
        obtain ⟨q14, hq14, h⟩ := bd_e h
        refine jj_invV hC mvX8_glideKilometre wd697 wd4 wd695 hl0_10 (by decide) rfl (xX8_glideKilometre (OKC.tr hC) hl0_10 hs5 hr13 hq14) rfl rfl (c_le rfl) (c_le rfl) (c_le rfl) (c_le rfl) dX8_finishesInFlight_66 noXk (po_kV ?_)
        refine jg_iinc (q := 1) (lv' := [(2, .int (iI (w32 (s10.1 + 1)))), (0, .ref l0_10)]) hC dX8_finishesInFlight_69 rfl (by decide) rfl ?_
        refine jj_goto (tgt := 10) hC dX8_finishesInFlight_72 rfl ?_
        refine jj_lv (lv' := [(0, .ref l0_10), (2, .int (iI (w32 (s10.1 + 1))))]) [1, 0] rfl ?_
        exact hJ10 _ (Option.some.inj h).symm (w32_r _)
      · replace h := (if_neg (hc)).symm.trans h
        refine jj_goto (tgt := 75) hC dX8_finishesInFlight_30 rfl ?_
        refine jj_lv (lv' := [(0, .ref l0_10)]) [0] rfl ?_
        exact hE10 _ (Option.some.inj h).symm trivial
  have hB75 : ∀ (M75 : gM) (l0_75 : Nat), S l0_75 = 11 → fX8_finishesInFlight_B75 G.2.2.2.2 S Ln R M75 l0_75 = some r → JJ G C 0 0 sz S Ln M75 R 75 [(0, .ref l0_75)] [] := by
    intro M75 l0_75 hl0_75 h
    unfold fX8_finishesInFlight_B75 at h
    refine jj_aload_n hC dX8_finishesInFlight_75 rfl 0 rfl ?_
    obtain ⟨b16, hb16, hs16, h⟩ := rf_e h
    refine jg_R hC kfX8 7 rfl hl0_75 (by decide) wd1049 rfl hb16 dX8_finishesInFlight_76 ?_
    obtain ⟨hg17, h⟩ := gd_e h
    refine jg_E hC kfX3 1 rfl hs16 (by decide) wd993 rfl hg17 dX8_finishesInFlight_79 (fun hr17 => ?_)
    refine jg_s (j := 3) hC 3 rfl rfl wd730 dX8_finishesInFlight_82 ?_
    refine jg_acmp_ne (tgt := 92) hC dX8_finishesInFlight_85 rfl ⟨hg17, hr17⟩ (show (0 ≤ (3 : Int) ∧ (3 : Int) < 9) from by decide) (fun hc => ?_) (fun hc => ?_)
    · replace h := (if_pos hc).symm.trans h
      refine jj_iconst hC dX8_finishesInFlight_92 ?_
      cases h
      exact jj_zret hC (show (0 ≤ (0 : Int) ∧ (0 : Int) ≤ 1) from by decide) (c_le rfl) (c_le rfl) dX8_finishesInFlight_93 ⟨rfl, (show (0 ≤ (0 : Int) ∧ (0 : Int) ≤ 1) from by decide), rfl, rfl, rfl, rfl, rfl⟩
    · replace h := (if_neg (fun k => k hc)).symm.trans h
      refine jj_iconst hC dX8_finishesInFlight_88 ?_
      refine jj_goto (tgt := 93) hC dX8_finishesInFlight_89 rfl ?_
      cases h
      exact jj_zret hC (show (0 ≤ (1 : Int) ∧ (1 : Int) ≤ 1) from by decide) (c_le rfl) (c_le rfl) dX8_finishesInFlight_93 ⟨rfl, (show (0 ≤ (1 : Int) ∧ (1 : Int) ≤ 1) from by decide), rfl, rfl, rfl, rfl, rfl⟩
  unfold fX8_finishesInFlight at h
  refine jj_aload_n hC dX8_finishesInFlight_0 rfl 0 rfl ?_
  obtain ⟨b1, hb1, hs1, h⟩ := rf_e h
  refine jg_R hC kfX8 7 rfl hs0 (by decide) wd1049 rfl hb1 dX8_finishesInFlight_1 ?_
  refine jj_aload_n hC dX8_finishesInFlight_4 rfl 1 rfl ?_
  obtain ⟨q2, hq2, h⟩ := bd_e h
  refine jj_invV hC mvX3_copyFrom wd530 wd531 wd529 hs1 (by decide) rfl (xX3_copyFrom (OKC.tr hC) hs1 hp1 hq2) rfl rfl (c_le rfl) (c_le rfl) (c_le rfl) (c_le rfl) dX8_finishesInFlight_5 noXk (po_kV ?_)
  refine jj_iconst hC dX8_finishesInFlight_8 ?_
  refine jj_istore_n (lv' := [(2, .int (iI 0)), (0, .ref a0), (1, .ref x1)]) hC dX8_finishesInFlight_9 rfl (by decide) rfl ?_
  obtain ⟨q18, hq18, h⟩ := bd_e h
  refine jj_lv (lv' := [(0, .ref a0), (2, .int (iI 0))]) [1, 0] rfl ?_
  refine hL10 a0 hs0 FU _ q18 hq18 (show (-2147483648 ≤ (0 : Int) ∧ (0 : Int) < 2147483648) from by decide) (fun e10_15 he18 hIE18 => ?_) (fun c18 hc18 => ?_)
  · subst he18
    replace h := el_l h
    refine jj_lv (lv' := [(0, .ref a0)]) [0] rfl ?_
    exact hB75 e10_15 a0 hs0 h
  · subst hc18
    replace h := el_r h
    exact Option.some.inj h
def fX8_isAhead (ad S Ln : Nat → Nat) (R : gR) (M : gM) (a0 : Nat) (x1 : Int) (x2 : Int) : Option Int :=
  bd (fX8_hasPilot ad S Ln R M a0 x1) fun q1 => if q1 = 0 then (some (0)) else (bd (fX8_hasPilot ad S Ln R M a0 x2) fun q2 => if ¬ q2 = 0 then (rf S (R a0 6) 21 fun b3 => gd ((0 : Int) ≤ x1 ∧ x1 < (Ln b3 : Int)) (rf S (R a0 6) 21 fun b5 => gd ((0 : Int) ≤ x2 ∧ x2 < (Ln b5 : Int)) (if (i_lcmp (M b3 x1) (M b5 x2)) = 0 then (rf S (R a0 3) 26 fun b7 => gd ((0 : Int) ≤ x1 ∧ x1 < (Ln b7 : Int)) (rf S (R b7 x1) 8 fun b8 => rf S (R a0 3) 26 fun b10 => gd ((0 : Int) ≤ x2 ∧ x2 < (Ln b10 : Int)) (rf S (R b10 x2) 8 fun b11 => if (M b8 6) = (M b11 6) then (if x2 ≤ x1 then (some (0)) else (some (1))) else (rf S (R a0 3) 26 fun b13 => gd ((0 : Int) ≤ x1 ∧ x1 < (Ln b13 : Int)) (rf S (R b13 x1) 8 fun b14 => rf S (R a0 3) 26 fun b16 => gd ((0 : Int) ≤ x2 ∧ x2 < (Ln b16 : Int)) (rf S (R b16 x2) 8 fun b17 => if (M b17 6) ≤ (M b14 6) then (some (0)) else (some (1)))))))) else (rf S (R a0 6) 21 fun b19 => gd ((0 : Int) ≤ x1 ∧ x1 < (Ln b19 : Int)) (rf S (R a0 6) 21 fun b21 => gd ((0 : Int) ≤ x2 ∧ x2 < (Ln b21 : Int)) (if (i_lcmp (M b19 x1) (M b21 x2)) ≤ 0 then (some (0)) else (some (1)))))))) else (some (0)))
theorem xX8_isAhead {l : Launch} {G : gE} {sz : Nat} {S Ln : Nat → Nat} {M : gM} {R : gR} (hl : l.stackTraces = false) {a0 : Nat} (hs0 : S a0 = 11) {x1 : Int} (hp1 : (-2147483648 ≤ x1 ∧ x1 < 2147483648)) {x2 : Int} (hp2 : (-2147483648 ≤ x2 ∧ x2 < 2147483648)) {r : Int} (h : fX8_isAhead G.2.2.2.2 S Ln R M a0 x1 x2 = some r) : Ct l G yX8_isAhead cX8_isAhead 3 (some .boolean) 2 0 0 [.ref a0, .int (iI x1), .int (iI x2)] sz S Ln M R (poZ r sz S Ln (M) R) noX := by
  refine jj_start (own := RX8) (lv0 := [(0, .ref a0), (1, .int (iI x1)), (2, .int (iI x2))]) hl (by decide +kernel) rfl rfl (c_le rfl) (fun C hCl hC => ?_)
  unfold fX8_isAhead at h
  refine jj_aload_n hC dX8_isAhead_0 rfl 0 rfl ?_
  refine jj_iload_n hC dX8_isAhead_1 rfl 1 rfl ?_
  obtain ⟨q1, hq1, h⟩ := bd_e h
  refine jj_invV hC mvX8_hasPilot wd66 wd67 wd645 hs0 (by decide) rfl (xX8_hasPilot (OKC.tr hC) hs0 hp1 hq1) rfl rfl (c_le rfl) (c_le rfl) (c_le rfl) (c_le rfl) dX8_isAhead_2 noXk (po_kZ (fun hr1 => ?_))
  refine jj_if_eq (tgt := 16) hC dX8_isAhead_5 rfl (r_z hr1) (fun hc => ?_) (fun hc => ?_)
  · replace h := (if_pos hc).symm.trans h
    refine jj_iconst hC dX8_isAhead_16 ?_
    cases h
    exact jj_zret hC (show (0 ≤ (0 : Int) ∧ (0 : Int) ≤ 1) from by decide) (c_le rfl) (c_le rfl) dX8_isAhead_17 ⟨rfl, (show (0 ≤ (0 : Int) ∧ (0 : Int) ≤ 1) from by decide), rfl, rfl, rfl, rfl, rfl⟩
  · replace h := (if_neg (hc)).symm.trans h
    refine jj_aload_n hC dX8_isAhead_8 rfl 0 rfl ?_
    refine jj_iload_n hC dX8_isAhead_9 rfl 2 rfl ?_
    obtain ⟨q2, hq2, h⟩ := bd_e h
    refine jj_invV hC mvX8_hasPilot wd66 wd67 wd645 hs0 (by decide) rfl (xX8_hasPilot (OKC.tr hC) hs0 hp2 hq2) rfl rfl (c_le rfl) (c_le rfl) (c_le rfl) (c_le rfl) dX8_isAhead_10 noXk (po_kZ (fun hr2 => ?_))
    refine jj_if_ne (tgt := 18) hC dX8_isAhead_13 rfl (r_z hr2) (fun hc => ?_) (fun hc => ?_)
    · replace h := (if_pos hc).symm.trans h
      refine jj_aload_n hC dX8_isAhead_18 rfl 0 rfl ?_
      obtain ⟨b3, hb3, hs3, h⟩ := rf_e h
      refine jg_R hC kfX8 6 rfl hs0 (by decide) wd1048 rfl hb3 dX8_isAhead_19 ?_
      refine jj_iload_n hC dX8_isAhead_22 rfl 1 rfl ?_
      obtain ⟨⟨ha4, hb4⟩, h⟩ := gd_e h
      refine jj_lald hC hs3 ha4 hb4 dX8_isAhead_23 (fun hr4 => ?_)
      refine jj_aload_n hC dX8_isAhead_24 rfl 0 rfl ?_
      obtain ⟨b5, hb5, hs5, h⟩ := rf_e h
      refine jg_R hC kfX8 6 rfl hs0 (by decide) wd1048 rfl hb5 dX8_isAhead_25 ?_
      refine jj_iload_n hC dX8_isAhead_28 rfl 2 rfl ?_
      obtain ⟨⟨ha6, hb6⟩, h⟩ := gd_e h
      refine jj_lald hC hs5 ha6 hb6 dX8_isAhead_29 (fun hr6 => ?_)
      refine jg_lcmp hC hr4 hr6 dX8_isAhead_30 ?_
      refine jj_if_eq (tgt := 56) hC dX8_isAhead_31 rfl i_lcmp_r (fun hc => ?_) (fun hc => ?_)
      · replace h := (if_pos hc).symm.trans h
        refine jj_aload_n hC dX8_isAhead_56 rfl 0 rfl ?_
        obtain ⟨b7, hb7, hs7, h⟩ := rf_e h
        refine jg_R hC kfX8 3 rfl hs0 (by decide) wd1042 rfl hb7 dX8_isAhead_57 ?_
        refine jj_iload_n hC dX8_isAhead_60 rfl 1 rfl ?_
        obtain ⟨⟨ha8, hb8⟩, h⟩ := gd_e h
        obtain ⟨b8, hd8, hs8, h⟩ := rf_e h
        refine jj_aald hC hs7 (by decide) ha8 hb8 hd8 dX8_isAhead_61 ?_
        refine jg_I hC kfX3 6 rfl hs8 (by decide) wd1008 rfl dX8_isAhead_62 (fun hr9 => ?_)
        refine jj_aload_n hC dX8_isAhead_65 rfl 0 rfl ?_
        obtain ⟨b10, hb10, hs10, h⟩ := rf_e h
        refine jg_R hC kfX8 3 rfl hs0 (by decide) wd1042 rfl hb10 dX8_isAhead_66 ?_
        refine jj_iload_n hC dX8_isAhead_69 rfl 2 rfl ?_
        obtain ⟨⟨ha11, hb11⟩, h⟩ := gd_e h
        obtain ⟨b11, hd11, hs11, h⟩ := rf_e h
        refine jj_aald hC hs10 (by decide) ha11 hb11 hd11 dX8_isAhead_70 ?_
        refine jg_I hC kfX3 6 rfl hs11 (by decide) wd1008 rfl dX8_isAhead_71 (fun hr12 => ?_)
        refine jj_icmp_eq (tgt := 104) hC dX8_isAhead_74 rfl hr9 hr12 (fun hc => ?_) (fun hc => ?_)
        · replace h := (if_pos hc).symm.trans h
          refine jj_iload_n hC dX8_isAhead_104 rfl 1 rfl ?_
          refine jj_iload_n hC dX8_isAhead_105 rfl 2 rfl ?_
          refine jj_icmp_ge (tgt := 113) hC dX8_isAhead_106 rfl hp1 hp2 (fun hc => ?_) (fun hc => ?_)
          · replace h := (if_pos hc).symm.trans h
            refine jj_iconst hC dX8_isAhead_113 ?_
            cases h
            exact jj_zret hC (show (0 ≤ (0 : Int) ∧ (0 : Int) ≤ 1) from by decide) (c_le rfl) (c_le rfl) dX8_isAhead_114 ⟨rfl, (show (0 ≤ (0 : Int) ∧ (0 : Int) ≤ 1) from by decide), rfl, rfl, rfl, rfl, rfl⟩
          · replace h := (if_neg (Int.not_le.mpr hc)).symm.trans h
            refine jj_iconst hC dX8_isAhead_109 ?_
            refine jj_goto (tgt := 114) hC dX8_isAhead_110 rfl ?_
            cases h
            exact jj_zret hC (show (0 ≤ (1 : Int) ∧ (1 : Int) ≤ 1) from by decide) (c_le rfl) (c_le rfl) dX8_isAhead_114 ⟨rfl, (show (0 ≤ (1 : Int) ∧ (1 : Int) ≤ 1) from by decide), rfl, rfl, rfl, rfl, rfl⟩
        · replace h := (if_neg (hc)).symm.trans h
          refine jj_aload_n hC dX8_isAhead_77 rfl 0 rfl ?_
          obtain ⟨b13, hb13, hs13, h⟩ := rf_e h
          refine jg_R hC kfX8 3 rfl hs0 (by decide) wd1042 rfl hb13 dX8_isAhead_78 ?_
          refine jj_iload_n hC dX8_isAhead_81 rfl 1 rfl ?_
          obtain ⟨⟨ha14, hb14⟩, h⟩ := gd_e h
          obtain ⟨b14, hd14, hs14, h⟩ := rf_e h
          refine jj_aald hC hs13 (by decide) ha14 hb14 hd14 dX8_isAhead_82 ?_
          refine jg_I hC kfX3 6 rfl hs14 (by decide) wd1008 rfl dX8_isAhead_83 (fun hr15 => ?_)
          refine jj_aload_n hC dX8_isAhead_86 rfl 0 rfl ?_
          obtain ⟨b16, hb16, hs16, h⟩ := rf_e h
          refine jg_R hC kfX8 3 rfl hs0 (by decide) wd1042 rfl hb16 dX8_isAhead_87 ?_
          refine jj_iload_n hC dX8_isAhead_90 rfl 2 rfl ?_
          obtain ⟨⟨ha17, hb17⟩, h⟩ := gd_e h
          obtain ⟨b17, hd17, hs17, h⟩ := rf_e h
          refine jj_aald hC hs16 (by decide) ha17 hb17 hd17 dX8_isAhead_91 ?_
          refine jg_I hC kfX3 6 rfl hs17 (by decide) wd1008 rfl dX8_isAhead_92 (fun hr18 => ?_)
          refine jj_icmp_ge (tgt := 102) hC dX8_isAhead_95 rfl hr15 hr18 (fun hc => ?_) (fun hc => ?_)
          · replace h := (if_pos hc).symm.trans h
            refine jj_iconst hC dX8_isAhead_102 ?_
            cases h
            exact jj_zret hC (show (0 ≤ (0 : Int) ∧ (0 : Int) ≤ 1) from by decide) (c_le rfl) (c_le rfl) dX8_isAhead_103 ⟨rfl, (show (0 ≤ (0 : Int) ∧ (0 : Int) ≤ 1) from by decide), rfl, rfl, rfl, rfl, rfl⟩
          · replace h := (if_neg (Int.not_le.mpr hc)).symm.trans h
            refine jj_iconst hC dX8_isAhead_98 ?_
            refine jj_goto (tgt := 103) hC dX8_isAhead_99 rfl ?_
            cases h
            exact jj_zret hC (show (0 ≤ (1 : Int) ∧ (1 : Int) ≤ 1) from by decide) (c_le rfl) (c_le rfl) dX8_isAhead_103 ⟨rfl, (show (0 ≤ (1 : Int) ∧ (1 : Int) ≤ 1) from by decide), rfl, rfl, rfl, rfl, rfl⟩
      · replace h := (if_neg (hc)).symm.trans h
        refine jj_aload_n hC dX8_isAhead_34 rfl 0 rfl ?_
        obtain ⟨b19, hb19, hs19, h⟩ := rf_e h
        refine jg_R hC kfX8 6 rfl hs0 (by decide) wd1048 rfl hb19 dX8_isAhead_35 ?_
        refine jj_iload_n hC dX8_isAhead_38 rfl 1 rfl ?_
        obtain ⟨⟨ha20, hb20⟩, h⟩ := gd_e h
        refine jj_lald hC hs19 ha20 hb20 dX8_isAhead_39 (fun hr20 => ?_)
        refine jj_aload_n hC dX8_isAhead_40 rfl 0 rfl ?_
        obtain ⟨b21, hb21, hs21, h⟩ := rf_e h
        refine jg_R hC kfX8 6 rfl hs0 (by decide) wd1048 rfl hb21 dX8_isAhead_41 ?_
        refine jj_iload_n hC dX8_isAhead_44 rfl 2 rfl ?_
        obtain ⟨⟨ha22, hb22⟩, h⟩ := gd_e h
        refine jj_lald hC hs21 ha22 hb22 dX8_isAhead_45 (fun hr22 => ?_)
        refine jg_lcmp hC hr20 hr22 dX8_isAhead_46 ?_
        refine jj_if_le (tgt := 54) hC dX8_isAhead_47 rfl i_lcmp_r (fun hc => ?_) (fun hc => ?_)
        · replace h := (if_pos hc).symm.trans h
          refine jj_iconst hC dX8_isAhead_54 ?_
          cases h
          exact jj_zret hC (show (0 ≤ (0 : Int) ∧ (0 : Int) ≤ 1) from by decide) (c_le rfl) (c_le rfl) dX8_isAhead_55 ⟨rfl, (show (0 ≤ (0 : Int) ∧ (0 : Int) ≤ 1) from by decide), rfl, rfl, rfl, rfl, rfl⟩
        · replace h := (if_neg (Int.not_le.mpr hc)).symm.trans h
          refine jj_iconst hC dX8_isAhead_50 ?_
          refine jj_goto (tgt := 55) hC dX8_isAhead_51 rfl ?_
          cases h
          exact jj_zret hC (show (0 ≤ (1 : Int) ∧ (1 : Int) ≤ 1) from by decide) (c_le rfl) (c_le rfl) dX8_isAhead_55 ⟨rfl, (show (0 ≤ (1 : Int) ∧ (1 : Int) ≤ 1) from by decide), rfl, rfl, rfl, rfl, rfl⟩
    · replace h := (if_neg (fun k => k hc)).symm.trans h
      refine jj_iconst hC dX8_isAhead_16 ?_
      cases h
      exact jj_zret hC (show (0 ≤ (0 : Int) ∧ (0 : Int) ≤ 1) from by decide) (c_le rfl) (c_le rfl) dX8_isAhead_17 ⟨rfl, (show (0 ≤ (0 : Int) ∧ (0 : Int) ≤ 1) from by decide), rfl, rfl, rfl, rfl, rfl⟩
def fX8_countAhead_B29 (ad S Ln : Nat → Nat) (R : gR) (M : gM) (l0_4 : Nat) (l1_4 : Int) (l2_29 : Int) (l3_29 : Int) : Option ((Int × Int) ⊕ ((Int) ⊕ (Int))) :=
  some (.inl (l2_29, w32 (l3_29 + 1)))
def fX8_countAhead_L4 (ad S Ln : Nat → Nat) (R : gR) (M : gM) (l0_4 : Nat) (l1_4 : Int) (s4 : Int × Int) : Option ((Int × Int) ⊕ ((Int) ⊕ (Int))) :=
  if (M l0_4 4) ≤ s4.2 then (some (.inr (.inl s4.1))) else (if s4.2 = l1_4 then (fX8_countAhead_B29 ad S Ln R M l0_4 l1_4 s4.1 s4.2) else (bd (fX8_isAhead ad S Ln R M l0_4 s4.2 l1_4) fun q2 => if q2 = 0 then (fX8_countAhead_B29 ad S Ln R M l0_4 l1_4 s4.1 s4.2) else (fX8_countAhead_B29 ad S Ln R M l0_4 l1_4 (w32 (s4.1 + 1)) s4.2)))
def fX8_countAhead (ad S Ln : Nat → Nat) (R : gR) (M : gM) (a0 : Nat) (x1 : Int) : Option Int :=
  bd (lp (fX8_countAhead_L4 ad S Ln R M a0 x1) FU (0, 0)) fun q4 => Sum.elim (fun e4_3 => some (e4_3)) (fun c4 => some c4) q4
theorem xX8_countAhead {l : Launch} {G : gE} {sz : Nat} {S Ln : Nat → Nat} {M : gM} {R : gR} (hl : l.stackTraces = false) {a0 : Nat} (hs0 : S a0 = 11) {x1 : Int} (hp1 : (-2147483648 ≤ x1 ∧ x1 < 2147483648)) {r : Int} (h : fX8_countAhead G.2.2.2.2 S Ln R M a0 x1 = some r) : Ct l G yX8_countAhead cX8_countAhead 4 (some .int) 3 0 0 [.ref a0, .int (iI x1)] sz S Ln M R (poI r sz S Ln (M) R) noX := by
  refine jj_start (own := RX8) (lv0 := [(0, .ref a0), (1, .int (iI x1))]) hl (by decide +kernel) rfl rfl (c_le rfl) (fun C hCl hC => ?_)
  have hL4 : ∀ (l0_4 : Nat) (l1_4 : Int), S l0_4 = 11 → (-2147483648 ≤ l1_4 ∧ l1_4 < 2147483648) → ∀ (n : Nat) (s4 : Int × Int) (q : (Int) ⊕ (Int)), lp (fX8_countAhead_L4 G.2.2.2.2 S Ln R M l0_4 l1_4) n s4 = some q → (-2147483648 ≤ s4.1 ∧ s4.1 < 2147483648) ∧ (-2147483648 ≤ s4.2 ∧ s4.2 < 2147483648) → (∀ e4, q = .inl e4 → (-2147483648 ≤ e4 ∧ e4 < 2147483648) → JJ G C 0 0 sz S Ln M R 35 [(2, .int (iI e4))] []) → (∀ c, q = .inr c → c = r) → JJ G C 0 0 sz S Ln M R 4 [(0, .ref l0_4), (1, .int (iI l1_4)), (2, .int (iI s4.1)), (3, .int (iI s4.2))] [] := by
    intro l0_4 l1_4 hl0_4 hl1_4
    refine lp_ind ?_
    intro s4 r4 hI4 h hJ4 hE4 hR4
    obtain ⟨hs4_0, hs4_1⟩ := hI4
    have hB29 : ∀ (l2_29 : Int) (l3_29 : Int), (-2147483648 ≤ l2_29 ∧ l2_29 < 2147483648) → (-2147483648 ≤ l3_29 ∧ l3_29 < 2147483648) → fX8_countAhead_B29 G.2.2.2.2 S Ln R M l0_4 l1_4 l2_29 l3_29 = some r4 → JJ G C 0 0 sz S Ln M R 29 [(0, .ref l0_4), (1, .int (iI l1_4)), (2, .int (iI l2_29)), (3, .int (iI l3_29))] [] := by
      intro l2_29 l3_29 hl2_29 hl3_29 h
      unfold fX8_countAhead_B29 at h
      refine jg_iinc (q := 3) (lv' := [(3, .int (iI (w32 (l3_29 + 1)))), (0, .ref l0_4), (1, .int (iI l1_4)), (2, .int (iI l2_29))]) hC dX8_countAhead_29 rfl (by decide) rfl ?_
      refine jj_goto (tgt := 4) hC dX8_countAhead_32 rfl ?_
      refine jj_lv (lv' := [(0, .ref l0_4), (1, .int (iI l1_4)), (2, .int (iI l2_29)), (3, .int (iI (w32 (l3_29 + 1))))]) [1, 2, 3, 0] rfl ?_
      exact hJ4 _ (Option.some.inj h).symm ⟨hl2_29, (w32_r _)⟩
    unfold fX8_countAhead_L4 at h
    refine jj_iload_n hC dX8_countAhead_4 rfl 3 rfl ?_
    refine jj_aload_n hC dX8_countAhead_5 rfl 0 rfl ?_
    refine jg_I hC kfX8 4 rfl hl0_4 (by decide) wd1044 rfl dX8_countAhead_6 (fun hr1 => ?_)
    refine jj_icmp_ge (tgt := 35) hC dX8_countAhead_9 rfl hs4_1 hr1 (fun hc => ?_) (fun hc => ?_)
    · replace h := (if_pos hc).symm.trans h
      refine jj_lv (lv' := [(2, .int (iI s4.1))]) [2] rfl ?_
      exact hE4 _ (Option.some.inj h).symm hs4_0
    · replace h := (if_neg (Int.not_le.mpr hc)).symm.trans h
      refine jj_iload_n hC dX8_countAhead_12 rfl 3 rfl ?_
      refine jj_iload_n hC dX8_countAhead_13 rfl 1 rfl ?_
      refine jj_icmp_eq (tgt := 29) hC dX8_countAhead_14 rfl hs4_1 hl1_4 (fun hc => ?_) (fun hc => ?_)
      · replace h := (if_pos hc).symm.trans h
        refine jj_lv (lv' := [(0, .ref l0_4), (1, .int (iI l1_4)), (2, .int (iI s4.1)), (3, .int (iI s4.2))]) [0, 1, 2, 3] rfl ?_
        exact hB29 s4.1 s4.2 hs4_0 hs4_1 h
      · replace h := (if_neg (hc)).symm.trans h
        refine jj_aload_n hC dX8_countAhead_17 rfl 0 rfl ?_
        refine jj_iload_n hC dX8_countAhead_18 rfl 3 rfl ?_
        refine jj_iload_n hC dX8_countAhead_19 rfl 1 rfl ?_
        obtain ⟨q2, hq2, h⟩ := bd_e h
        refine jj_invV hC mvX8_isAhead wd851 wd8 wd849 hl0_4 (by decide) rfl (xX8_isAhead (OKC.tr hC) hl0_4 hs4_1 hl1_4 hq2) rfl rfl (c_le rfl) (c_le rfl) (c_le rfl) (c_le rfl) dX8_countAhead_20 noXk (po_kZ (fun hr2 => ?_))
        refine jj_if_eq (tgt := 29) hC dX8_countAhead_23 rfl (r_z hr2) (fun hc => ?_) (fun hc => ?_)
        · replace h := (if_pos hc).symm.trans h
          refine jj_lv (lv' := [(0, .ref l0_4), (1, .int (iI l1_4)), (2, .int (iI s4.1)), (3, .int (iI s4.2))]) [0, 1, 2, 3] rfl ?_
          exact hB29 s4.1 s4.2 hs4_0 hs4_1 h
        · replace h := (if_neg (hc)).symm.trans h
          refine jg_iinc (q := 2) (lv' := [(2, .int (iI (w32 (s4.1 + 1)))), (0, .ref l0_4), (1, .int (iI l1_4)), (3, .int (iI s4.2))]) hC dX8_countAhead_26 rfl (by decide) rfl ?_
          refine jj_lv (lv' := [(0, .ref l0_4), (1, .int (iI l1_4)), (2, .int (iI (w32 (s4.1 + 1)))), (3, .int (iI s4.2))]) [1, 2, 0, 3] rfl ?_
          exact hB29 (w32 (s4.1 + 1)) s4.2 (w32_r _) hs4_1 h
  unfold fX8_countAhead at h
  refine jj_iconst hC dX8_countAhead_0 ?_
  refine jj_istore_n (lv' := [(2, .int (iI 0)), (0, .ref a0), (1, .int (iI x1))]) hC dX8_countAhead_1 rfl (by decide) rfl ?_
  refine jj_iconst hC dX8_countAhead_2 ?_
  refine jj_istore_n (lv' := [(3, .int (iI 0)), (2, .int (iI 0)), (0, .ref a0), (1, .int (iI x1))]) hC dX8_countAhead_3 rfl (by decide) rfl ?_
  obtain ⟨q4, hq4, h⟩ := bd_e h
  refine jj_lv (lv' := [(0, .ref a0), (1, .int (iI x1)), (2, .int (iI 0)), (3, .int (iI 0))]) [2, 3, 1, 0] rfl ?_
  refine hL4 a0 x1 hs0 hp1 FU _ q4 hq4 ⟨(show (-2147483648 ≤ (0 : Int) ∧ (0 : Int) < 2147483648) from by decide), (show (-2147483648 ≤ (0 : Int) ∧ (0 : Int) < 2147483648) from by decide)⟩ (fun e4_3 he4 hIE4 => ?_) (fun c4 hc4 => ?_)
  · subst he4
    replace h := el_l h
    have he4_3_0 := hIE4
    refine jj_iload_n hC dX8_countAhead_35 rfl 0 rfl ?_
    cases h
    exact jj_iret hC (c_le rfl) (c_le rfl) dX8_countAhead_36 ⟨rfl, he4_3_0, rfl, rfl, rfl, rfl, rfl⟩
  · subst hc4
    replace h := el_r h
    exact Option.some.inj h
def fX8_rankedAt_L2 (ad S Ln : Nat → Nat) (R : gR) (l0_2 : Nat) (l1_2 : Int) (s2 : Int × gM) : Option ((Int × gM) ⊕ ((gM) ⊕ (Int × gM))) :=
  if (s2.2 l0_2 4) ≤ s2.1 then (some (.inr (.inl s2.2))) else (rf S (R l0_2 6) 21 fun b2 => rf S (R l0_2 3) 26 fun b3 => gd ((0 : Int) ≤ s2.1 ∧ s2.1 < (Ln b3 : Int)) (rf S (R b3 s2.1) 8 fun b4 => rf S (R l0_2 3) 26 fun b6 => gd ((0 : Int) ≤ s2.1 ∧ s2.1 < (Ln b6 : Int)) (rf S (R b6 s2.1) 8 fun b7 => bd (fX8_scoreOf ad S Ln R s2.2 l0_2 b7) fun q8 => gd ((0 : Int) ≤ s2.1 ∧ s2.1 < (Ln b2 : Int)) (nam (wr s2.2 b2 s2.1 (w64 ((s2.2 b4 8) + q8))) fun M9 => some (.inl (w32 (s2.1 + 1), M9))))))
def fX8_rankedAt_L45 (ad S Ln : Nat → Nat) (R : gR) (M45 : gM) (l0_45 : Nat) (l1_45 : Int) (s45 : Int) : Option ((Int) ⊕ ((Unit) ⊕ (Int × gM))) :=
  if (M45 l0_45 4) ≤ s45 then (some (.inr (.inl ()))) else (bd (fX8_countAhead ad S Ln R M45 l0_45 s45) fun q12 => if ¬ q12 = l1_45 then (some (.inl (w32 (s45 + 1)))) else (some (.inr (.inr ((s45, M45))))))
def fX8_rankedAt (ad S Ln : Nat → Nat) (R : gR) (M : gM) (a0 : Nat) (x1 : Int) : Option (Int × gM) :=
  bd (lp (fX8_rankedAt_L2 ad S Ln R a0 x1) FU (0, M)) fun q15 => Sum.elim (fun e2_10 => bd (lp (fX8_rankedAt_L45 ad S Ln R e2_10 a0 x1) FU 0) fun q14 => Sum.elim (fun e45_13 => some (((-1), e2_10))) (fun c14 => some c14) q14) (fun c15 => some c15) q15
theorem xX8_rankedAt {l : Launch} {G : gE} {sz : Nat} {S Ln : Nat → Nat} {M : gM} {R : gR} (hl : l.stackTraces = false) {a0 : Nat} (hs0 : S a0 = 11) {x1 : Int} (hp1 : (-2147483648 ≤ x1 ∧ x1 < 2147483648)) {r : Int × gM} (h : fX8_rankedAt G.2.2.2.2 S Ln R M a0 x1 = some r) : Ct l G yX8_rankedAt cX8_rankedAt 3 (some .int) 5 0 0 [.ref a0, .int (iI x1)] sz S Ln M R (poI r.1 sz S Ln (r.2) R) noX := by
  refine jj_start (own := RX8) (lv0 := [(0, .ref a0), (1, .int (iI x1))]) hl (by decide +kernel) rfl rfl (c_le rfl) (fun C hCl hC => ?_)
  have hL2 : ∀ (l0_2 : Nat) (l1_2 : Int), S l0_2 = 11 → (-2147483648 ≤ l1_2 ∧ l1_2 < 2147483648) → ∀ (n : Nat) (s2 : Int × gM) (q : (gM) ⊕ (Int × gM)), lp (fX8_rankedAt_L2 G.2.2.2.2 S Ln R l0_2 l1_2) n s2 = some q → (-2147483648 ≤ s2.1 ∧ s2.1 < 2147483648) → (∀ e2, q = .inl e2 → True → JJ G C 0 0 sz S Ln e2 R 43 [(0, .ref l0_2), (1, .int (iI l1_2))] []) → (∀ c, q = .inr c → c = r) → JJ G C 0 0 sz S Ln s2.2 R 2 [(0, .ref l0_2), (1, .int (iI l1_2)), (2, .int (iI s2.1))] [] := by
    intro l0_2 l1_2 hl0_2 hl1_2
    refine lp_ind ?_
    intro s2 r2 hI2 h hJ2 hE2 hR2
    have hs2_0 := hI2
    unfold fX8_rankedAt_L2 at h
    refine jj_iload_n hC dX8_rankedAt_2 rfl 2 rfl ?_
    refine jj_aload_n hC dX8_rankedAt_3 rfl 0 rfl ?_
    refine jg_I hC kfX8 4 rfl hl0_2 (by decide) wd1044 rfl dX8_rankedAt_4 (fun hr1 => ?_)
    refine jj_icmp_ge (tgt := 43) hC dX8_rankedAt_7 rfl hs2_0 hr1 (fun hc => ?_) (fun hc => ?_)
    · replace h := (if_pos hc).symm.trans h
      refine jj_lv (lv' := [(0, .ref l0_2), (1, .int (iI l1_2))]) [0, 1] rfl ?_
      exact hE2 _ (Option.some.inj h).symm trivial
    · replace h := (if_neg (Int.not_le.mpr hc)).symm.trans h
      refine jj_aload_n hC dX8_rankedAt_10 rfl 0 rfl ?_
      obtain ⟨b2, hb2, hs2, h⟩ := rf_e h
      refine jg_R hC kfX8 6 rfl hl0_2 (by decide) wd1048 rfl hb2 dX8_rankedAt_11 ?_
      refine jj_iload_n hC dX8_rankedAt_14 rfl 2 rfl ?_
      refine jj_aload_n hC dX8_rankedAt_15 rfl 0 rfl ?_
      obtain ⟨b3, hb3, hs3, h⟩ := rf_e h
      refine jg_R hC kfX8 3 rfl hl0_2 (by decide) wd1042 rfl hb3 dX8_rankedAt_16 ?_
      refine jj_iload_n hC dX8_rankedAt_19 rfl 2 rfl ?_
      obtain ⟨⟨ha4, hb4⟩, h⟩ := gd_e h
      obtain ⟨b4, hd4, hs4, h⟩ := rf_e h
      refine jj_aald hC hs3 (by decide) ha4 hb4 hd4 dX8_rankedAt_20 ?_
      refine jg_L hC kfX3 8 rfl hs4 (by decide) wd1014 rfl dX8_rankedAt_21 (fun hr5 => ?_)
      refine jj_aload_n hC dX8_rankedAt_24 rfl 0 rfl ?_
      refine jj_aload_n hC dX8_rankedAt_25 rfl 0 rfl ?_
      obtain ⟨b6, hb6, hs6, h⟩ := rf_e h
      refine jg_R hC kfX8 3 rfl hl0_2 (by decide) wd1042 rfl hb6 dX8_rankedAt_26 ?_
      refine jj_iload_n hC dX8_rankedAt_29 rfl 2 rfl ?_
      obtain ⟨⟨ha7, hb7⟩, h⟩ := gd_e h
      obtain ⟨b7, hd7, hs7, h⟩ := rf_e h
      refine jj_aald hC hs6 (by decide) ha7 hb7 hd7 dX8_rankedAt_30 ?_
      obtain ⟨q8, hq8, h⟩ := bd_e h
      refine jj_invV hC mvX8_scoreOf wd754 wd755 wd753 hl0_2 (by decide) rfl (xX8_scoreOf (OKC.tr hC) hl0_2 hs7 hq8) rfl rfl (c_le rfl) (c_le rfl) (c_le rfl) (c_le rfl) dX8_rankedAt_31 noXk (po_kI (fun hr8 => ?_))
      refine jj_i2l hC dX8_rankedAt_34 hr8 ?_
      refine jg_ladd hC dX8_rankedAt_35 ?_
      obtain ⟨⟨ha9, hb9⟩, h⟩ := gd_e h
      obtain ⟨M9, hM9, h⟩ := nam_e h
      refine jj_last hC hs2 ha9 hb9 (w64_r _) dX8_rankedAt_36 (jj_M hM9 ?_)
      refine jg_iinc (q := 2) (lv' := [(2, .int (iI (w32 (s2.1 + 1)))), (0, .ref l0_2), (1, .int (iI l1_2))]) hC dX8_rankedAt_37 rfl (by decide) rfl ?_
      refine jj_goto (tgt := 2) hC dX8_rankedAt_40 rfl ?_
      refine jj_lv (lv' := [(0, .ref l0_2), (1, .int (iI l1_2)), (2, .int (iI (w32 (s2.1 + 1))))]) [1, 2, 0] rfl ?_
      exact hJ2 _ (Option.some.inj h).symm (w32_r _)
  have hL45 : ∀ (M45 : gM) (l0_45 : Nat) (l1_45 : Int), S l0_45 = 11 → (-2147483648 ≤ l1_45 ∧ l1_45 < 2147483648) → ∀ (n : Nat) (s45 : Int) (q : (Unit) ⊕ (Int × gM)), lp (fX8_rankedAt_L45 G.2.2.2.2 S Ln R M45 l0_45 l1_45) n s45 = some q → (-2147483648 ≤ s45 ∧ s45 < 2147483648) → (∀ e45, q = .inl e45 → True → JJ G C 0 0 sz S Ln M45 R 70 [] []) → (∀ c, q = .inr c → c = r) → JJ G C 0 0 sz S Ln M45 R 45 [(0, .ref l0_45), (1, .int (iI l1_45)), (2, .int (iI s45))] [] := by
    intro M45 l0_45 l1_45 hl0_45 hl1_45
    refine lp_ind ?_
    intro s45 r45 hI45 h hJ45 hE45 hR45
    have hs45_0 := hI45
    unfold fX8_rankedAt_L45 at h
    refine jj_iload_n hC dX8_rankedAt_45 rfl 2 rfl ?_
    refine jj_aload_n hC dX8_rankedAt_46 rfl 0 rfl ?_
    refine jg_I hC kfX8 4 rfl hl0_45 (by decide) wd1044 rfl dX8_rankedAt_47 (fun hr11 => ?_)
    refine jj_icmp_ge (tgt := 70) hC dX8_rankedAt_50 rfl hs45_0 hr11 (fun hc => ?_) (fun hc => ?_)
    · replace h := (if_pos hc).symm.trans h
      refine jj_lv (lv' := []) [] rfl ?_
      exact hE45 _ (Option.some.inj h).symm trivial
    · replace h := (if_neg (Int.not_le.mpr hc)).symm.trans h
      refine jj_aload_n hC dX8_rankedAt_53 rfl 0 rfl ?_
      refine jj_iload_n hC dX8_rankedAt_54 rfl 2 rfl ?_
      obtain ⟨q12, hq12, h⟩ := bd_e h
      refine jj_invV hC mvX8_countAhead wd847 wd7 wd845 hl0_45 (by decide) rfl (xX8_countAhead (OKC.tr hC) hl0_45 hs45_0 hq12) rfl rfl (c_le rfl) (c_le rfl) (c_le rfl) (c_le rfl) dX8_rankedAt_55 noXk (po_kI (fun hr12 => ?_))
      refine jj_iload_n hC dX8_rankedAt_58 rfl 1 rfl ?_
      refine jj_icmp_ne (tgt := 64) hC dX8_rankedAt_59 rfl hr12 hl1_45 (fun hc => ?_) (fun hc => ?_)
      · replace h := (if_pos hc).symm.trans h
        refine jg_iinc (q := 2) (lv' := [(2, .int (iI (w32 (s45 + 1)))), (0, .ref l0_45), (1, .int (iI l1_45))]) hC dX8_rankedAt_64 rfl (by decide) rfl ?_
        refine jj_goto (tgt := 45) hC dX8_rankedAt_67 rfl ?_
        refine jj_lv (lv' := [(0, .ref l0_45), (1, .int (iI l1_45)), (2, .int (iI (w32 (s45 + 1))))]) [1, 2, 0] rfl ?_
        exact hJ45 _ (Option.some.inj h).symm (w32_r _)
      · replace h := (if_neg (fun k => k hc)).symm.trans h
        refine jj_iload_n hC dX8_rankedAt_62 rfl 2 rfl ?_
        have h := hR45 _ (Option.some.inj h).symm
        subst h
        exact jj_iret hC (c_le rfl) (c_le rfl) dX8_rankedAt_63 ⟨rfl, hs45_0, rfl, rfl, rfl, rfl, rfl⟩
  unfold fX8_rankedAt at h
  refine jj_iconst hC dX8_rankedAt_0 ?_
  refine jj_istore_n (lv' := [(2, .int (iI 0)), (0, .ref a0), (1, .int (iI x1))]) hC dX8_rankedAt_1 rfl (by decide) rfl ?_
  obtain ⟨q15, hq15, h⟩ := bd_e h
  refine jj_lv (lv' := [(0, .ref a0), (1, .int (iI x1)), (2, .int (iI 0))]) [1, 2, 0] rfl ?_
  refine hL2 a0 x1 hs0 hp1 FU _ q15 hq15 (show (-2147483648 ≤ (0 : Int) ∧ (0 : Int) < 2147483648) from by decide) (fun e2_10 he15 hIE15 => ?_) (fun c15 hc15 => ?_)
  · subst he15
    replace h := el_l h
    refine jj_iconst hC dX8_rankedAt_43 ?_
    refine jj_istore_n (lv' := [(2, .int (iI 0)), (0, .ref a0), (1, .int (iI x1))]) hC dX8_rankedAt_44 rfl (by decide) rfl ?_
    obtain ⟨q14, hq14, h⟩ := bd_e h
    refine jj_lv (lv' := [(0, .ref a0), (1, .int (iI x1)), (2, .int (iI 0))]) [1, 2, 0] rfl ?_
    refine hL45 e2_10 a0 x1 hs0 hp1 FU _ q14 hq14 (show (-2147483648 ≤ (0 : Int) ∧ (0 : Int) < 2147483648) from by decide) (fun e45_13 he14 hIE14 => ?_) (fun c14 hc14 => ?_)
    · subst he14
      replace h := el_l h
      refine jj_iconst hC dX8_rankedAt_70 ?_
      cases h
      exact jj_iret hC (c_le rfl) (c_le rfl) dX8_rankedAt_71 ⟨rfl, (show (-2147483648 ≤ ((-1) : Int) ∧ ((-1) : Int) < 2147483648) from by decide), rfl, rfl, rfl, rfl, rfl⟩
    · subst hc14
      replace h := el_r h
      exact Option.some.inj h
  · subst hc15
    replace h := el_r h
    exact Option.some.inj h
def fX8_rowCountsAgree_L2 (ad S Ln : Nat → Nat) (R : gR) (l0_2 : Nat) (s2 : Int × gM) : Option ((Int × gM) ⊕ ((gM) ⊕ (Int × gM))) :=
  if 60 < s2.1 then (some (.inr (.inl s2.2))) else (rf S (R l0_2 2) 6 fun b1 => bd (fX1_countByPositions ad S Ln R s2.2 b1 s2.1) fun q2 => rf S (R l0_2 2) 6 fun b3 => bd (fX1_countByRanges ad S Ln R s2.2 b3 s2.1) fun q4 => if q2 = q4.1 then (some (.inl (w32 (s2.1 + 1), q4.2))) else (some (.inr (.inr ((0, q4.2))))))
def fX8_rowCountsAgree (ad S Ln : Nat → Nat) (R : gR) (M : gM) (a0 : Nat) : Option (Int × gM) :=
  bd (lp (fX8_rowCountsAgree_L2 ad S Ln R a0) FU (0, M)) fun q6 => Sum.elim (fun e2_5 => some ((1, e2_5))) (fun c6 => some c6) q6
theorem xX8_rowCountsAgree {l : Launch} {G : gE} {sz : Nat} {S Ln : Nat → Nat} {M : gM} {R : gR} (hl : l.stackTraces = false) {a0 : Nat} (hs0 : S a0 = 11) {r : Int × gM} (h : fX8_rowCountsAgree G.2.2.2.2 S Ln R M a0 = some r) : Ct l G yX8_rowCountsAgree cX8_rowCountsAgree 2 (some .boolean) 4 0 0 [.ref a0] sz S Ln M R (poZ r.1 sz S Ln (r.2) R) noX := by
  refine jj_start (own := RX8) (lv0 := [(0, .ref a0)]) hl (by decide +kernel) rfl rfl (c_le rfl) (fun C hCl hC => ?_)
  have hL2 : ∀ (l0_2 : Nat), S l0_2 = 11 → ∀ (n : Nat) (s2 : Int × gM) (q : (gM) ⊕ (Int × gM)), lp (fX8_rowCountsAgree_L2 G.2.2.2.2 S Ln R l0_2) n s2 = some q → (-2147483648 ≤ s2.1 ∧ s2.1 < 2147483648) → (∀ e2, q = .inl e2 → True → JJ G C 0 0 sz S Ln e2 R 35 [] []) → (∀ c, q = .inr c → c = r) → JJ G C 0 0 sz S Ln s2.2 R 2 [(0, .ref l0_2), (1, .int (iI s2.1))] [] := by
    intro l0_2 hl0_2
    refine lp_ind ?_
    intro s2 r2 hI2 h hJ2 hE2 hR2
    have hs2_0 := hI2
    unfold fX8_rowCountsAgree_L2 at h
    refine jj_iload_n hC dX8_rowCountsAgree_2 rfl 1 rfl ?_
    refine jj_bipush hC dX8_rowCountsAgree_3 (by decide) ?_
    refine jj_icmp_gt (tgt := 35) hC dX8_rowCountsAgree_5 rfl hs2_0 (show (-2147483648 ≤ (60 : Int) ∧ (60 : Int) < 2147483648) from by decide) (fun hc => ?_) (fun hc => ?_)
    · replace h := (if_pos hc).symm.trans h
      refine jj_lv (lv' := []) [] rfl ?_
      exact hE2 _ (Option.some.inj h).symm trivial
    · replace h := (if_neg (Int.not_lt.mpr hc)).symm.trans h
      refine jj_aload_n hC dX8_rowCountsAgree_8 rfl 0 rfl ?_
      obtain ⟨b1, hb1, hs1, h⟩ := rf_e h
      refine jg_R hC kfX8 2 rfl hl0_2 (by decide) wd1040 rfl hb1 dX8_rowCountsAgree_9 ?_
      refine jj_iload_n hC dX8_rowCountsAgree_12 rfl 1 rfl ?_
      obtain ⟨q2, hq2, h⟩ := bd_e h
      refine jj_invV hC mvX1_countByPositions wd1468 wd1469 wd1554 hs1 (by decide) rfl (xX1_countByPositions (OKC.tr hC) hs1 hs2_0 hq2) rfl rfl (c_le rfl) (c_le rfl) (c_le rfl) (c_le rfl) dX8_rowCountsAgree_13 noXk (po_kI (fun hr2 => ?_))
      refine jj_aload_n hC dX8_rowCountsAgree_16 rfl 0 rfl ?_
      obtain ⟨b3, hb3, hs3, h⟩ := rf_e h
      refine jg_R hC kfX8 2 rfl hl0_2 (by decide) wd1040 rfl hb3 dX8_rowCountsAgree_17 ?_
      refine jj_iload_n hC dX8_rowCountsAgree_20 rfl 1 rfl ?_
      obtain ⟨q4, hq4, h⟩ := bd_e h
      refine jj_invV hC mvX1_countByRanges wd1530 wd1531 wd1555 hs3 (by decide) rfl (xX1_countByRanges (OKC.tr hC) hs3 hs2_0 hq4) rfl rfl (c_le rfl) (c_le rfl) (c_le rfl) (c_le rfl) dX8_rowCountsAgree_21 noXk (po_kI (fun hr4 => ?_))
      refine jj_icmp_eq (tgt := 29) hC dX8_rowCountsAgree_24 rfl hr2 hr4 (fun hc => ?_) (fun hc => ?_)
      · replace h := (if_pos hc).symm.trans h
        refine jg_iinc (q := 1) (lv' := [(1, .int (iI (w32 (s2.1 + 1)))), (0, .ref l0_2)]) hC dX8_rowCountsAgree_29 rfl (by decide) rfl ?_
        refine jj_goto (tgt := 2) hC dX8_rowCountsAgree_32 rfl ?_
        refine jj_lv (lv' := [(0, .ref l0_2), (1, .int (iI (w32 (s2.1 + 1))))]) [1, 0] rfl ?_
        exact hJ2 _ (Option.some.inj h).symm (w32_r _)
      · replace h := (if_neg (hc)).symm.trans h
        refine jj_iconst hC dX8_rowCountsAgree_27 ?_
        have h := hR2 _ (Option.some.inj h).symm
        subst h
        exact jj_zret hC (show (0 ≤ (0 : Int) ∧ (0 : Int) ≤ 1) from by decide) (c_le rfl) (c_le rfl) dX8_rowCountsAgree_28 ⟨rfl, (show (0 ≤ (0 : Int) ∧ (0 : Int) ≤ 1) from by decide), rfl, rfl, rfl, rfl, rfl⟩
  unfold fX8_rowCountsAgree at h
  refine jj_iconst hC dX8_rowCountsAgree_0 ?_
  refine jj_istore_n (lv' := [(1, .int (iI 0)), (0, .ref a0)]) hC dX8_rowCountsAgree_1 rfl (by decide) rfl ?_
  obtain ⟨q6, hq6, h⟩ := bd_e h
  refine jj_lv (lv' := [(0, .ref a0), (1, .int (iI 0))]) [1, 0] rfl ?_
  refine hL2 a0 hs0 FU _ q6 hq6 (show (-2147483648 ≤ (0 : Int) ∧ (0 : Int) < 2147483648) from by decide) (fun e2_5 he6 hIE6 => ?_) (fun c6 hc6 => ?_)
  · subst he6
    replace h := el_l h
    refine jj_iconst hC dX8_rowCountsAgree_35 ?_
    cases h
    exact jj_zret hC (show (0 ≤ (1 : Int) ∧ (1 : Int) ≤ 1) from by decide) (c_le rfl) (c_le rfl) dX8_rowCountsAgree_36 ⟨rfl, (show (0 ≤ (1 : Int) ∧ (1 : Int) ≤ 1) from by decide), rfl, rfl, rfl, rfl, rfl⟩
  · subst hc6
    replace h := el_r h
    exact Option.some.inj h
def fX8_finishForecastsAgree_B42 (ad S Ln : Nat → Nat) (R : gR) (M42 : gM) (l0_2 : Nat) (l1_42 : Int) : Option ((Int × gM) ⊕ ((gM) ⊕ (Int × gM))) :=
  some (.inl (w32 (l1_42 + 1), M42))
def fX8_finishForecastsAgree_L2 (ad S Ln : Nat → Nat) (R : gR) (l0_2 : Nat) (s2 : Int × gM) : Option ((Int × gM) ⊕ ((gM) ⊕ (Int × gM))) :=
  if (s2.2 l0_2 4) ≤ s2.1 then (some (.inr (.inl s2.2))) else (rf S (R l0_2 3) 26 fun b2 => gd ((0 : Int) ≤ s2.1 ∧ s2.1 < (Ln b2 : Int)) (rf S (R b2 s2.1) 8 fun b3 => gd (0 ≤ s2.2 b3 1) (if ¬ (s2.2 b3 1) = 1 then (fX8_finishForecastsAgree_B42 ad S Ln R s2.2 l0_2 s2.1) else (bd (fX8_finishesByHeight ad S Ln R s2.2 l0_2 b3) fun q5 => bd (fX8_finishesInFlight ad S Ln R s2.2 l0_2 b3) fun q6 => if q5 = q6.1 then (fX8_finishForecastsAgree_B42 ad S Ln R q6.2 l0_2 s2.1) else (some (.inr (.inr ((0, q6.2)))))))))
def fX8_finishForecastsAgree (ad S Ln : Nat → Nat) (R : gR) (M : gM) (a0 : Nat) : Option (Int × gM) :=
  bd (lp (fX8_finishForecastsAgree_L2 ad S Ln R a0) FU (0, M)) fun q8 => Sum.elim (fun e2_7 => some ((1, e2_7))) (fun c8 => some c8) q8
theorem xX8_finishForecastsAgree {l : Launch} {G : gE} {sz : Nat} {S Ln : Nat → Nat} {M : gM} {R : gR} (hl : l.stackTraces = false) {a0 : Nat} (hs0 : S a0 = 11) {r : Int × gM} (h : fX8_finishForecastsAgree G.2.2.2.2 S Ln R M a0 = some r) : Ct l G yX8_finishForecastsAgree cX8_finishForecastsAgree 3 (some .boolean) 6 0 0 [.ref a0] sz S Ln M R (poZ r.1 sz S Ln (r.2) R) noX := by
  refine jj_start (own := RX8) (lv0 := [(0, .ref a0)]) hl (by decide +kernel) rfl rfl (c_le rfl) (fun C hCl hC => ?_)
  have hL2 : ∀ (l0_2 : Nat), S l0_2 = 11 → ∀ (n : Nat) (s2 : Int × gM) (q : (gM) ⊕ (Int × gM)), lp (fX8_finishForecastsAgree_L2 G.2.2.2.2 S Ln R l0_2) n s2 = some q → (-2147483648 ≤ s2.1 ∧ s2.1 < 2147483648) → (∀ e2, q = .inl e2 → True → JJ G C 0 0 sz S Ln e2 R 48 [] []) → (∀ c, q = .inr c → c = r) → JJ G C 0 0 sz S Ln s2.2 R 2 [(0, .ref l0_2), (1, .int (iI s2.1))] [] := by
    intro l0_2 hl0_2
    refine lp_ind ?_
    intro s2 r2 hI2 h hJ2 hE2 hR2
    have hs2_0 := hI2
    have hB42 : ∀ (M42 : gM) (l1_42 : Int), (-2147483648 ≤ l1_42 ∧ l1_42 < 2147483648) → fX8_finishForecastsAgree_B42 G.2.2.2.2 S Ln R M42 l0_2 l1_42 = some r2 → JJ G C 0 0 sz S Ln M42 R 42 [(0, .ref l0_2), (1, .int (iI l1_42))] [] := by
      intro M42 l1_42 hl1_42 h
      unfold fX8_finishForecastsAgree_B42 at h
      refine jg_iinc (q := 1) (lv' := [(1, .int (iI (w32 (l1_42 + 1)))), (0, .ref l0_2)]) hC dX8_finishForecastsAgree_42 rfl (by decide) rfl ?_
      refine jj_goto (tgt := 2) hC dX8_finishForecastsAgree_45 rfl ?_
      refine jj_lv (lv' := [(0, .ref l0_2), (1, .int (iI (w32 (l1_42 + 1))))]) [1, 0] rfl ?_
      exact hJ2 _ (Option.some.inj h).symm (w32_r _)
    unfold fX8_finishForecastsAgree_L2 at h
    refine jj_iload_n hC dX8_finishForecastsAgree_2 rfl 1 rfl ?_
    refine jj_aload_n hC dX8_finishForecastsAgree_3 rfl 0 rfl ?_
    refine jg_I hC kfX8 4 rfl hl0_2 (by decide) wd1044 rfl dX8_finishForecastsAgree_4 (fun hr1 => ?_)
    refine jj_icmp_ge (tgt := 48) hC dX8_finishForecastsAgree_7 rfl hs2_0 hr1 (fun hc => ?_) (fun hc => ?_)
    · replace h := (if_pos hc).symm.trans h
      refine jj_lv (lv' := []) [] rfl ?_
      exact hE2 _ (Option.some.inj h).symm trivial
    · replace h := (if_neg (Int.not_le.mpr hc)).symm.trans h
      refine jj_aload_n hC dX8_finishForecastsAgree_10 rfl 0 rfl ?_
      obtain ⟨b2, hb2, hs2, h⟩ := rf_e h
      refine jg_R hC kfX8 3 rfl hl0_2 (by decide) wd1042 rfl hb2 dX8_finishForecastsAgree_11 ?_
      refine jj_iload_n hC dX8_finishForecastsAgree_14 rfl 1 rfl ?_
      obtain ⟨⟨ha3, hb3⟩, h⟩ := gd_e h
      obtain ⟨b3, hd3, hs3, h⟩ := rf_e h
      refine jj_aald hC hs2 (by decide) ha3 hb3 hd3 dX8_finishForecastsAgree_15 ?_
      refine jj_astore_n (lv' := [(2, .ref b3), (0, .ref l0_2), (1, .int (iI s2.1))]) hC dX8_finishForecastsAgree_16 rfl (by decide) rfl ?_
      refine jj_aload_n hC dX8_finishForecastsAgree_17 rfl 0 rfl ?_
      obtain ⟨hg4, h⟩ := gd_e h
      refine jg_E hC kfX3 1 rfl hs3 (by decide) wd993 rfl hg4 dX8_finishForecastsAgree_18 (fun hr4 => ?_)
      refine jg_s (j := 1) hC 1 rfl rfl wd665 dX8_finishForecastsAgree_21 ?_
      refine jg_acmp_ne (tgt := 42) hC dX8_finishForecastsAgree_24 rfl ⟨hg4, hr4⟩ (show (0 ≤ (1 : Int) ∧ (1 : Int) < 9) from by decide) (fun hc => ?_) (fun hc => ?_)
      · replace h := (if_pos hc).symm.trans h
        refine jj_lv (lv' := [(0, .ref l0_2), (1, .int (iI s2.1))]) [1, 2] rfl ?_
        exact hB42 s2.2 s2.1 hs2_0 h
      · replace h := (if_neg (fun k => k hc)).symm.trans h
        refine jj_aload_n hC dX8_finishForecastsAgree_27 rfl 1 rfl ?_
        refine jj_aload_n hC dX8_finishForecastsAgree_28 rfl 0 rfl ?_
        obtain ⟨q5, hq5, h⟩ := bd_e h
        refine jj_invV hC mvX8_finishesByHeight wd1503 wd1504 wd1560 hl0_2 (by decide) rfl (xX8_finishesByHeight (OKC.tr hC) hl0_2 hs3 hq5) rfl rfl (c_le rfl) (c_le rfl) (c_le rfl) (c_le rfl) dX8_finishForecastsAgree_29 noXk (po_kZ (fun hr5 => ?_))
        refine jj_aload_n hC dX8_finishForecastsAgree_32 rfl 1 rfl ?_
        refine jj_aload_n hC dX8_finishForecastsAgree_33 rfl 0 rfl ?_
        obtain ⟨q6, hq6, h⟩ := bd_e h
        refine jj_invV hC mvX8_finishesInFlight wd1513 wd1514 wd1561 hl0_2 (by decide) rfl (xX8_finishesInFlight (OKC.tr hC) hl0_2 hs3 hq6) rfl rfl (c_le rfl) (c_le rfl) (c_le rfl) (c_le rfl) dX8_finishForecastsAgree_34 noXk (po_kZ (fun hr6 => ?_))
        refine jj_icmp_eq (tgt := 42) hC dX8_finishForecastsAgree_37 rfl (r_z hr5) (r_z hr6) (fun hc => ?_) (fun hc => ?_)
        · replace h := (if_pos hc).symm.trans h
          refine jj_lv (lv' := [(0, .ref l0_2), (1, .int (iI s2.1))]) [1, 2] rfl ?_
          exact hB42 q6.2 s2.1 hs2_0 h
        · replace h := (if_neg (hc)).symm.trans h
          refine jj_iconst hC dX8_finishForecastsAgree_40 ?_
          have h := hR2 _ (Option.some.inj h).symm
          subst h
          exact jj_zret hC (show (0 ≤ (0 : Int) ∧ (0 : Int) ≤ 1) from by decide) (c_le rfl) (c_le rfl) dX8_finishForecastsAgree_41 ⟨rfl, (show (0 ≤ (0 : Int) ∧ (0 : Int) ≤ 1) from by decide), rfl, rfl, rfl, rfl, rfl⟩
  unfold fX8_finishForecastsAgree at h
  refine jj_iconst hC dX8_finishForecastsAgree_0 ?_
  refine jj_istore_n (lv' := [(1, .int (iI 0)), (0, .ref a0)]) hC dX8_finishForecastsAgree_1 rfl (by decide) rfl ?_
  obtain ⟨q8, hq8, h⟩ := bd_e h
  refine jj_lv (lv' := [(0, .ref a0), (1, .int (iI 0))]) [1, 0] rfl ?_
  refine hL2 a0 hs0 FU _ q8 hq8 (show (-2147483648 ≤ (0 : Int) ∧ (0 : Int) < 2147483648) from by decide) (fun e2_7 he8 hIE8 => ?_) (fun c8 hc8 => ?_)
  · subst he8
    replace h := el_l h
    refine jj_iconst hC dX8_finishForecastsAgree_48 ?_
    cases h
    exact jj_zret hC (show (0 ≤ (1 : Int) ∧ (1 : Int) ≤ 1) from by decide) (c_le rfl) (c_le rfl) dX8_finishForecastsAgree_49 ⟨rfl, (show (0 ≤ (1 : Int) ∧ (1 : Int) ≤ 1) from by decide), rfl, rfl, rfl, rfl, rfl⟩
  · subst hc8
    replace h := el_r h
    exact Option.some.inj h
def fX8_distancesAreBounded_L2 (ad S Ln : Nat → Nat) (R : gR) (M : gM) (l0_2 : Nat) (s2 : Int) : Option ((Int) ⊕ ((Unit) ⊕ (Int))) :=
  if (M l0_2 4) ≤ s2 then (some (.inr (.inl ()))) else (rf S (R l0_2 3) 26 fun b2 => gd ((0 : Int) ≤ s2 ∧ s2 < (Ln b2 : Int)) (rf S (R b2 s2) 8 fun b3 => bd (fX8_distanceDone ad S Ln R M l0_2 b3) fun q4 => rf S (R l0_2 0) 7 fun b5 => bd (fX2_wholeDistance ad S Ln R M b5) fun q6 => if q4 ≤ q6 then (some (.inl (w32 (s2 + 1)))) else (some (.inr (.inr (0))))))
def fX8_distancesAreBounded (ad S Ln : Nat → Nat) (R : gR) (M : gM) (a0 : Nat) : Option Int :=
  bd (lp (fX8_distancesAreBounded_L2 ad S Ln R M a0) FU 0) fun q8 => Sum.elim (fun e2_7 => some (1)) (fun c8 => some c8) q8
theorem xX8_distancesAreBounded {l : Launch} {G : gE} {sz : Nat} {S Ln : Nat → Nat} {M : gM} {R : gR} (hl : l.stackTraces = false) {a0 : Nat} (hs0 : S a0 = 11) {r : Int} (h : fX8_distancesAreBounded G.2.2.2.2 S Ln R M a0 = some r) : Ct l G yX8_distancesAreBounded cX8_distancesAreBounded 2 (some .boolean) 4 0 0 [.ref a0] sz S Ln M R (poZ r sz S Ln (M) R) noX := by
  refine jj_start (own := RX8) (lv0 := [(0, .ref a0)]) hl (by decide +kernel) rfl rfl (c_le rfl) (fun C hCl hC => ?_)
  have hL2 : ∀ (l0_2 : Nat), S l0_2 = 11 → ∀ (n : Nat) (s2 : Int) (q : (Unit) ⊕ (Int)), lp (fX8_distancesAreBounded_L2 G.2.2.2.2 S Ln R M l0_2) n s2 = some q → (-2147483648 ≤ s2 ∧ s2 < 2147483648) → (∀ e2, q = .inl e2 → True → JJ G C 0 0 sz S Ln M R 38 [] []) → (∀ c, q = .inr c → c = r) → JJ G C 0 0 sz S Ln M R 2 [(0, .ref l0_2), (1, .int (iI s2))] [] := by
    intro l0_2 hl0_2
    refine lp_ind ?_
    intro s2 r2 hI2 h hJ2 hE2 hR2
    have hs2_0 := hI2
    unfold fX8_distancesAreBounded_L2 at h
    refine jj_iload_n hC dX8_distancesAreBounded_2 rfl 1 rfl ?_
    refine jj_aload_n hC dX8_distancesAreBounded_3 rfl 0 rfl ?_
    refine jg_I hC kfX8 4 rfl hl0_2 (by decide) wd1044 rfl dX8_distancesAreBounded_4 (fun hr1 => ?_)
    refine jj_icmp_ge (tgt := 38) hC dX8_distancesAreBounded_7 rfl hs2_0 hr1 (fun hc => ?_) (fun hc => ?_)
    · replace h := (if_pos hc).symm.trans h
      refine jj_lv (lv' := []) [] rfl ?_
      exact hE2 _ (Option.some.inj h).symm trivial
    · replace h := (if_neg (Int.not_le.mpr hc)).symm.trans h
      refine jj_aload_n hC dX8_distancesAreBounded_10 rfl 0 rfl ?_
      refine jj_aload_n hC dX8_distancesAreBounded_11 rfl 0 rfl ?_
      obtain ⟨b2, hb2, hs2, h⟩ := rf_e h
      refine jg_R hC kfX8 3 rfl hl0_2 (by decide) wd1042 rfl hb2 dX8_distancesAreBounded_12 ?_
      refine jj_iload_n hC dX8_distancesAreBounded_15 rfl 1 rfl ?_
      obtain ⟨⟨ha3, hb3⟩, h⟩ := gd_e h
      obtain ⟨b3, hd3, hs3, h⟩ := rf_e h
      refine jj_aald hC hs2 (by decide) ha3 hb3 hd3 dX8_distancesAreBounded_16 ?_
      obtain ⟨q4, hq4, h⟩ := bd_e h
      refine jj_invV hC mvX8_distanceDone wd758 wd759 wd757 hl0_2 (by decide) rfl (xX8_distanceDone (OKC.tr hC) hl0_2 hs3 hq4) rfl rfl (c_le rfl) (c_le rfl) (c_le rfl) (c_le rfl) dX8_distancesAreBounded_17 noXk (po_kI (fun hr4 => ?_))
      refine jj_aload_n hC dX8_distancesAreBounded_20 rfl 0 rfl ?_
      obtain ⟨b5, hb5, hs5, h⟩ := rf_e h
      refine jg_R hC kfX8 0 rfl hl0_2 (by decide) wd1036 rfl hb5 dX8_distancesAreBounded_21 ?_
      obtain ⟨q6, hq6, h⟩ := bd_e h
      refine jj_invV hC mvX2_wholeDistance wd771 wd772 wd770 hs5 (by decide) rfl (xX2_wholeDistance (OKC.tr hC) hs5 hq6) rfl rfl (c_le rfl) (c_le rfl) (c_le rfl) (c_le rfl) dX8_distancesAreBounded_24 noXk (po_kI (fun hr6 => ?_))
      refine jj_icmp_le (tgt := 32) hC dX8_distancesAreBounded_27 rfl hr4 hr6 (fun hc => ?_) (fun hc => ?_)
      · replace h := (if_pos hc).symm.trans h
        refine jg_iinc (q := 1) (lv' := [(1, .int (iI (w32 (s2 + 1)))), (0, .ref l0_2)]) hC dX8_distancesAreBounded_32 rfl (by decide) rfl ?_
        refine jj_goto (tgt := 2) hC dX8_distancesAreBounded_35 rfl ?_
        refine jj_lv (lv' := [(0, .ref l0_2), (1, .int (iI (w32 (s2 + 1))))]) [1, 0] rfl ?_
        exact hJ2 _ (Option.some.inj h).symm (w32_r _)
      · replace h := (if_neg (Int.not_le.mpr hc)).symm.trans h
        refine jj_iconst hC dX8_distancesAreBounded_30 ?_
        have h := hR2 _ (Option.some.inj h).symm
        subst h
        exact jj_zret hC (show (0 ≤ (0 : Int) ∧ (0 : Int) ≤ 1) from by decide) (c_le rfl) (c_le rfl) dX8_distancesAreBounded_31 ⟨rfl, (show (0 ≤ (0 : Int) ∧ (0 : Int) ≤ 1) from by decide), rfl, rfl, rfl, rfl, rfl⟩
  unfold fX8_distancesAreBounded at h
  refine jj_iconst hC dX8_distancesAreBounded_0 ?_
  refine jj_istore_n (lv' := [(1, .int (iI 0)), (0, .ref a0)]) hC dX8_distancesAreBounded_1 rfl (by decide) rfl ?_
  obtain ⟨q8, hq8, h⟩ := bd_e h
  refine jj_lv (lv' := [(0, .ref a0), (1, .int (iI 0))]) [1, 0] rfl ?_
  refine hL2 a0 hs0 FU _ q8 hq8 (show (-2147483648 ≤ (0 : Int) ∧ (0 : Int) < 2147483648) from by decide) (fun e2_7 he8 hIE8 => ?_) (fun c8 hc8 => ?_)
  · subst he8
    replace h := el_l h
    refine jj_iconst hC dX8_distancesAreBounded_38 ?_
    cases h
    exact jj_zret hC (show (0 ≤ (1 : Int) ∧ (1 : Int) ≤ 1) from by decide) (c_le rfl) (c_le rfl) dX8_distancesAreBounded_39 ⟨rfl, (show (0 ≤ (1 : Int) ∧ (1 : Int) ≤ 1) from by decide), rfl, rfl, rfl, rfl, rfl⟩
  · subst hc8
    replace h := el_r h
    exact Option.some.inj h
