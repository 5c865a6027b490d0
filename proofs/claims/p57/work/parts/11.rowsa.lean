def fX0_copyFrom (ad S Ln : Nat → Nat) (R : gR) (M : gM) (a0 : Nat) (x1 : Nat) : Option gM :=
  rf S (R x1 0) 20 fun b1 => rf S (R a0 0) 20 fun b2 => gd ((0 : Int) ≤ 0 ∧ (0 : Int) ≤ 0 ∧ (0 : Int) ≤ 6 ∧ 0 + 6 ≤ (Ln b1 : Int) ∧ 0 + 6 ≤ (Ln b2 : Int)) (nam (i_cpy M b1 b2 0 0 6) fun M3 => rf S (R x1 1) 20 fun b4 => rf S (R a0 1) 20 fun b5 => gd ((0 : Int) ≤ 0 ∧ (0 : Int) ≤ 0 ∧ (0 : Int) ≤ 6 ∧ 0 + 6 ≤ (Ln b4 : Int) ∧ 0 + 6 ≤ (Ln b5 : Int)) (nam (i_cpy M3 b4 b5 0 0 6) fun M6 => rf S (R x1 2) 20 fun b7 => rf S (R a0 2) 20 fun b8 => gd ((0 : Int) ≤ 0 ∧ (0 : Int) ≤ 0 ∧ (0 : Int) ≤ 6 ∧ 0 + 6 ≤ (Ln b7 : Int) ∧ 0 + 6 ≤ (Ln b8 : Int)) (nam (i_cpy M6 b7 b8 0 0 6) fun M9 => nam (wr M9 a0 3 (M9 x1 3)) fun M11 => nam (wr M11 a0 4 (M11 x1 4)) fun M13 => some (M13))))
theorem xX0_copyFrom {l : Launch} {G : gE} {sz : Nat} {S Ln : Nat → Nat} {M : gM} {R : gR} (hl : l.stackTraces = false) {a0 : Nat} (hs0 : S a0 = 5) {x1 : Nat} (hp1 : S x1 = 5) {r : gM} (h : fX0_copyFrom G.2.2.2.2 S Ln R M a0 x1 = some r) : Ct l G yX0_copyFrom cX0_copyFrom 2 none 1 0 0 [.ref a0, .ref x1] sz S Ln M R (poV sz S Ln (r) R) noX := by
  refine jj_start (own := RX0) (lv0 := [(0, .ref a0), (1, .ref x1)]) hl (by decide +kernel) rfl rfl (c_le rfl) (fun C hCl hC => ?_)
  unfold fX0_copyFrom at h
  refine jj_aload_n hC dX0_copyFrom_0 rfl 1 rfl ?_
  obtain ⟨b1, hb1, hs1, h⟩ := rf_e h
  refine jg_R hC kfX0 0 rfl hp1 (by decide) wd936 rfl hb1 dX0_copyFrom_1 ?_
  refine jj_iconst hC dX0_copyFrom_4 ?_
  refine jj_aload_n hC dX0_copyFrom_5 rfl 0 rfl ?_
  obtain ⟨b2, hb2, hs2, h⟩ := rf_e h
  refine jg_R hC kfX0 0 rfl hs0 (by decide) wd936 rfl hb2 dX0_copyFrom_6 ?_
  refine jj_iconst hC dX0_copyFrom_9 ?_
  refine jj_bipush hC dX0_copyFrom_10 (by decide) ?_
  obtain ⟨⟨ha3, hb3, hc3, hd3, he3⟩, h⟩ := gd_e h
  obtain ⟨M3, hM3, h⟩ := nam_e h
  refine jj_copyI hC hs1 hs2 ha3 hb3 hc3 hd3 he3 wd523 wd233 wd232 wd45 (c_le rfl) (c_le rfl) dX0_copyFrom_12 (jj_M hM3 ?_)
  refine jj_aload_n hC dX0_copyFrom_15 rfl 1 rfl ?_
  obtain ⟨b4, hb4, hs4, h⟩ := rf_e h
  refine jg_R hC kfX0 1 rfl hp1 (by decide) wd937 rfl hb4 dX0_copyFrom_16 ?_
  refine jj_iconst hC dX0_copyFrom_19 ?_
  refine jj_aload_n hC dX0_copyFrom_20 rfl 0 rfl ?_
  obtain ⟨b5, hb5, hs5, h⟩ := rf_e h
  refine jg_R hC kfX0 1 rfl hs0 (by decide) wd937 rfl hb5 dX0_copyFrom_21 ?_
  refine jj_iconst hC dX0_copyFrom_24 ?_
  refine jj_bipush hC dX0_copyFrom_25 (by decide) ?_
  obtain ⟨⟨ha6, hb6, hc6, hd6, he6⟩, h⟩ := gd_e h
  obtain ⟨M6, hM6, h⟩ := nam_e h
  refine jj_copyI hC hs4 hs5 ha6 hb6 hc6 hd6 he6 wd523 wd233 wd232 wd45 (c_le rfl) (c_le rfl) dX0_copyFrom_27 (jj_M hM6 ?_)
  refine jj_aload_n hC dX0_copyFrom_30 rfl 1 rfl ?_
  obtain ⟨b7, hb7, hs7, h⟩ := rf_e h
  refine jg_R hC kfX0 2 rfl hp1 (by decide) wd938 rfl hb7 dX0_copyFrom_31 ?_
  refine jj_iconst hC dX0_copyFrom_34 ?_
  refine jj_aload_n hC dX0_copyFrom_35 rfl 0 rfl ?_
  obtain ⟨b8, hb8, hs8, h⟩ := rf_e h
  refine jg_R hC kfX0 2 rfl hs0 (by decide) wd938 rfl hb8 dX0_copyFrom_36 ?_
  refine jj_iconst hC dX0_copyFrom_39 ?_
  refine jj_bipush hC dX0_copyFrom_40 (by decide) ?_
  obtain ⟨⟨ha9, hb9, hc9, hd9, he9⟩, h⟩ := gd_e h
  obtain ⟨M9, hM9, h⟩ := nam_e h
  refine jj_copyI hC hs7 hs8 ha9 hb9 hc9 hd9 he9 wd523 wd233 wd232 wd45 (c_le rfl) (c_le rfl) dX0_copyFrom_42 (jj_M hM9 ?_)
  refine jj_aload_n hC dX0_copyFrom_45 rfl 0 rfl ?_
  refine jj_aload_n hC dX0_copyFrom_46 rfl 1 rfl ?_
  refine jg_I hC kfX0 3 rfl hp1 (by decide) wd939 rfl dX0_copyFrom_47 (fun hr10 => ?_)
  obtain ⟨M11, hM11, h⟩ := nam_e h
  refine jp_I hC kfX0 3 rfl hs0 rfl (by decide) wd939 rfl rfl rfl hr10 dX0_copyFrom_50 (jj_M hM11 ?_)
  refine jj_aload_n hC dX0_copyFrom_53 rfl 0 rfl ?_
  refine jj_aload_n hC dX0_copyFrom_54 rfl 1 rfl ?_
  refine jg_I hC kfX0 4 rfl hp1 (by decide) wd941 rfl dX0_copyFrom_55 (fun hr12 => ?_)
  obtain ⟨M13, hM13, h⟩ := nam_e h
  refine jp_I hC kfX0 4 rfl hs0 rfl (by decide) wd941 rfl rfl rfl hr12 dX0_copyFrom_58 (jj_M hM13 ?_)
  cases h
  exact jj_vret hC (c_le rfl) (c_le rfl) dX0_copyFrom_61 ⟨rfl, trivial, rfl, rfl, rfl, rfl, rfl⟩
def fX0_putThermal (ad S Ln : Nat → Nat) (R : gR) (M : gM) (a0 : Nat) (x1 : Int) (x2 : Int) (x3 : Int) : Option (Int × gM) :=
  if (M a0 3) < 6 then (rf S (R a0 0) 20 fun b2 => gd ((0 : Int) ≤ (M a0 3) ∧ (M a0 3) < (Ln b2 : Int)) (nam (wr M b2 (M a0 3) x1) fun M4 => rf S (R a0 1) 20 fun b5 => gd ((0 : Int) ≤ (M4 a0 3) ∧ (M4 a0 3) < (Ln b5 : Int)) (nam (wr M4 b5 (M4 a0 3) x2) fun M7 => rf S (R a0 2) 20 fun b8 => gd ((0 : Int) ≤ (M7 a0 3) ∧ (M7 a0 3) < (Ln b8 : Int)) (nam (wr M7 b8 (M7 a0 3) x3) fun M10 => nam (wr M10 a0 3 (w32 ((M10 a0 3) + 1))) fun M12 => some ((M12 a0 3, M12)))))) else (some ((M a0 3, M)))
theorem xX0_putThermal {l : Launch} {G : gE} {sz : Nat} {S Ln : Nat → Nat} {M : gM} {R : gR} (hl : l.stackTraces = false) {a0 : Nat} (hs0 : S a0 = 5) {x1 : Int} (hp1 : (-2147483648 ≤ x1 ∧ x1 < 2147483648)) {x2 : Int} (hp2 : (-2147483648 ≤ x2 ∧ x2 < 2147483648)) {x3 : Int} (hp3 : (-2147483648 ≤ x3 ∧ x3 < 2147483648)) {r : Int × gM} (h : fX0_putThermal G.2.2.2.2 S Ln R M a0 x1 x2 x3 = some r) : Ct l G yX0_putThermal cX0_putThermal 4 (some .int) 1 0 0 [.ref a0, .int (iI x1), .int (iI x2), .int (iI x3)] sz S Ln M R (poI r.1 sz S Ln (r.2) R) noX := by
  refine jj_start (own := RX0) (lv0 := [(0, .ref a0), (1, .int (iI x1)), (2, .int (iI x2)), (3, .int (iI x3))]) hl (by decide +kernel) rfl rfl (c_le rfl) (fun C hCl hC => ?_)
  unfold fX0_putThermal at h
  refine jj_aload_n hC dX0_putThermal_0 rfl 0 rfl ?_
  refine jg_I hC kfX0 3 rfl hs0 (by decide) wd939 rfl dX0_putThermal_1 (fun hr1 => ?_)
  refine jj_bipush hC dX0_putThermal_4 (by decide) ?_
  refine jj_icmp_lt (tgt := 14) hC dX0_putThermal_6 rfl hr1 (show (-2147483648 ≤ (6 : Int) ∧ (6 : Int) < 2147483648) from by decide) (fun hc => ?_) (fun hc => ?_)
  · replace h := (if_pos hc).symm.trans h
    refine jj_aload_n hC dX0_putThermal_14 rfl 0 rfl ?_
    obtain ⟨b2, hb2, hs2, h⟩ := rf_e h
    refine jg_R hC kfX0 0 rfl hs0 (by decide) wd936 rfl hb2 dX0_putThermal_15 ?_
    refine jj_aload_n hC dX0_putThermal_18 rfl 0 rfl ?_
    refine jg_I hC kfX0 3 rfl hs0 (by decide) wd939 rfl dX0_putThermal_19 (fun hr3 => ?_)
    refine jj_iload_n hC dX0_putThermal_22 rfl 1 rfl ?_
    obtain ⟨⟨ha4, hb4⟩, h⟩ := gd_e h
    obtain ⟨M4, hM4, h⟩ := nam_e h
    refine jj_iast hC hs2 ha4 hb4 hp1 dX0_putThermal_23 (jj_M hM4 ?_)
    refine jj_aload_n hC dX0_putThermal_24 rfl 0 rfl ?_
    obtain ⟨b5, hb5, hs5, h⟩ := rf_e h
    refine jg_R hC kfX0 1 rfl hs0 (by decide) wd937 rfl hb5 dX0_putThermal_25 ?_
    refine jj_aload_n hC dX0_putThermal_28 rfl 0 rfl ?_
    refine jg_I hC kfX0 3 rfl hs0 (by decide) wd939 rfl dX0_putThermal_29 (fun hr6 => ?_)
    refine jj_iload_n hC dX0_putThermal_32 rfl 2 rfl ?_
    obtain ⟨⟨ha7, hb7⟩, h⟩ := gd_e h
    obtain ⟨M7, hM7, h⟩ := nam_e h
    refine jj_iast hC hs5 ha7 hb7 hp2 dX0_putThermal_33 (jj_M hM7 ?_)
    refine jj_aload_n hC dX0_putThermal_34 rfl 0 rfl ?_
    obtain ⟨b8, hb8, hs8, h⟩ := rf_e h
    refine jg_R hC kfX0 2 rfl hs0 (by decide) wd938 rfl hb8 dX0_putThermal_35 ?_
    refine jj_aload_n hC dX0_putThermal_38 rfl 0 rfl ?_
    refine jg_I hC kfX0 3 rfl hs0 (by decide) wd939 rfl dX0_putThermal_39 (fun hr9 => ?_)
    refine jj_iload_n hC dX0_putThermal_42 rfl 3 rfl ?_
    obtain ⟨⟨ha10, hb10⟩, h⟩ := gd_e h
    obtain ⟨M10, hM10, h⟩ := nam_e h
    refine jj_iast hC hs8 ha10 hb10 hp3 dX0_putThermal_43 (jj_M hM10 ?_)
    refine jj_aload_n hC dX0_putThermal_44 rfl 0 rfl ?_
    refine jj_dup hC dX0_putThermal_45 rfl ?_
    refine jg_I hC kfX0 3 rfl hs0 (by decide) wd939 rfl dX0_putThermal_46 (fun hr11 => ?_)
    refine jj_iconst hC dX0_putThermal_49 ?_
    refine jg_iadd hC dX0_putThermal_50 ?_
    obtain ⟨M12, hM12, h⟩ := nam_e h
    refine jp_I hC kfX0 3 rfl hs0 rfl (by decide) wd939 rfl rfl rfl (w32_r _) dX0_putThermal_51 (jj_M hM12 ?_)
    refine jj_aload_n hC dX0_putThermal_54 rfl 0 rfl ?_
    refine jg_I hC kfX0 3 rfl hs0 (by decide) wd939 rfl dX0_putThermal_55 (fun hr13 => ?_)
    cases h
    exact jj_iret hC (c_le rfl) (c_le rfl) dX0_putThermal_58 ⟨rfl, hr13, rfl, rfl, rfl, rfl, rfl⟩
  · replace h := (if_neg (Int.not_lt.mpr hc)).symm.trans h
    refine jj_aload_n hC dX0_putThermal_9 rfl 0 rfl ?_
    refine jg_I hC kfX0 3 rfl hs0 (by decide) wd939 rfl dX0_putThermal_10 (fun hr14 => ?_)
    cases h
    exact jj_iret hC (c_le rfl) (c_le rfl) dX0_putThermal_13 ⟨rfl, hr14, rfl, rfl, rfl, rfl, rfl⟩
def fX0_strongestAt_B66 (ad S Ln : Nat → Nat) (R : gR) (M : gM) (l0_5 : Nat) (l1_5 : Int) (l2_5 : Int) (l3_66 : Int) (l4_66 : Int) : Option ((Int × Int) ⊕ ((Int) ⊕ (Int))) :=
  some (.inl (l3_66, w32 (l4_66 + 1)))
def fX0_strongestAt_L5 (ad S Ln : Nat → Nat) (R : gR) (M : gM) (l0_5 : Nat) (l1_5 : Int) (l2_5 : Int) (s5 : Int × Int) : Option ((Int × Int) ⊕ ((Int) ⊕ (Int))) :=
  if (M l0_5 3) ≤ s5.2 then (some (.inr (.inl s5.1))) else (rf S (R l0_5 0) 20 fun b2 => gd ((0 : Int) ≤ s5.2 ∧ s5.2 < (Ln b2 : Int)) (rf S (R l0_5 1) 20 fun b4 => gd ((0 : Int) ≤ s5.2 ∧ s5.2 < (Ln b4 : Int)) (if 2 < (w32 ((i_abs (w32 ((M b2 s5.2) - l1_5))) + (i_abs (w32 ((M b4 s5.2) - l2_5))))) then (fX0_strongestAt_B66 ad S Ln R M l0_5 l1_5 l2_5 s5.1 s5.2) else (rf S (R l0_5 2) 20 fun b6 => gd ((0 : Int) ≤ s5.2 ∧ s5.2 < (Ln b6 : Int)) (if (M b6 s5.2) ≤ s5.1 then (fX0_strongestAt_B66 ad S Ln R M l0_5 l1_5 l2_5 s5.1 s5.2) else (rf S (R l0_5 2) 20 fun b8 => gd ((0 : Int) ≤ s5.2 ∧ s5.2 < (Ln b8 : Int)) (fX0_strongestAt_B66 ad S Ln R M l0_5 l1_5 l2_5 (M b8 s5.2) s5.2)))))))
def fX0_strongestAt (ad S Ln : Nat → Nat) (R : gR) (M : gM) (a0 : Nat) (x1 : Int) (x2 : Int) : Option Int :=
  bd (lp (fX0_strongestAt_L5 ad S Ln R M a0 x1 x2) FU (0, 0)) fun q11 => Sum.elim (fun e5_10 => some (e5_10)) (fun c11 => some c11) q11
theorem xX0_strongestAt {l : Launch} {G : gE} {sz : Nat} {S Ln : Nat → Nat} {M : gM} {R : gR} (hl : l.stackTraces = false) {a0 : Nat} (hs0 : S a0 = 5) {x1 : Int} (hp1 : (-2147483648 ≤ x1 ∧ x1 < 2147483648)) {x2 : Int} (hp2 : (-2147483648 ≤ x2 ∧ x2 < 2147483648)) {r : Int} (h : fX0_strongestAt G.2.2.2.2 S Ln R M a0 x1 x2 = some r) : Ct l G yX0_strongestAt cX0_strongestAt 6 (some .int) 1 0 0 [.ref a0, .int (iI x1), .int (iI x2)] sz S Ln M R (poI r sz S Ln (M) R) noX := by
  refine jj_start (own := RX0) (lv0 := [(0, .ref a0), (1, .int (iI x1)), (2, .int (iI x2))]) hl (by decide +kernel) rfl rfl (c_le rfl) (fun C hCl hC => ?_)
  have hL5 : ∀ (l0_5 : Nat) (l1_5 : Int) (l2_5 : Int), S l0_5 = 5 → (-2147483648 ≤ l1_5 ∧ l1_5 < 2147483648) → (-2147483648 ≤ l2_5 ∧ l2_5 < 2147483648) → ∀ (n : Nat) (s5 : Int × Int) (q : (Int) ⊕ (Int)), lp (fX0_strongestAt_L5 G.2.2.2.2 S Ln R M l0_5 l1_5 l2_5) n s5 = some q → (-2147483648 ≤ s5.1 ∧ s5.1 < 2147483648) ∧ (-2147483648 ≤ s5.2 ∧ s5.2 < 2147483648) → (∀ e5, q = .inl e5 → (-2147483648 ≤ e5 ∧ e5 < 2147483648) → JJ G C 0 0 sz S Ln M R 72 [(3, .int (iI e5))] []) → (∀ c, q = .inr c → c = r) → JJ G C 0 0 sz S Ln M R 5 [(0, .ref l0_5), (1, .int (iI l1_5)), (2, .int (iI l2_5)), (3, .int (iI s5.1)), (4, .int (iI s5.2))] [] := by
    intro l0_5 l1_5 l2_5 hl0_5 hl1_5 hl2_5
    refine lp_ind ?_
    intro s5 r5 hI5 h hJ5 hE5 hR5
    obtain ⟨hs5_0, hs5_1⟩ := hI5
    have hB66 : ∀ (l3_66 : Int) (l4_66 : Int), (-2147483648 ≤ l3_66 ∧ l3_66 < 2147483648) → (-2147483648 ≤ l4_66 ∧ l4_66 < 2147483648) → fX0_strongestAt_B66 G.2.2.2.2 S Ln R M l0_5 l1_5 l2_5 l3_66 l4_66 = some r5 → JJ G C 0 0 sz S Ln M R 66 [(0, .ref l0_5), (1, .int (iI l1_5)), (2, .int (iI l2_5)), (3, .int (iI l3_66)), (4, .int (iI l4_66))] [] := by
      intro l3_66 l4_66 hl3_66 hl4_66 h
      unfold fX0_strongestAt_B66 at h
      refine jg_iinc (q := 4) (lv' := [(4, .int (iI (w32 (l4_66 + 1)))), (0, .ref l0_5), (1, .int (iI l1_5)), (2, .int (iI l2_5)), (3, .int (iI l3_66))]) hC dX0_strongestAt_66 rfl (by decide) rfl ?_
      refine jj_goto (tgt := 5) hC dX0_strongestAt_69 rfl ?_
      refine jj_lv (lv' := [(0, .ref l0_5), (1, .int (iI l1_5)), (2, .int (iI l2_5)), (3, .int (iI l3_66)), (4, .int (iI (w32 (l4_66 + 1))))]) [1, 2, 3, 4, 0] rfl ?_
      exact hJ5 _ (Option.some.inj h).symm ⟨hl3_66, (w32_r _)⟩
    unfold fX0_strongestAt_L5 at h
    refine jj_iload hC dX0_strongestAt_5 4 rfl ?_
    refine jj_aload_n hC dX0_strongestAt_7 rfl 0 rfl ?_
    refine jg_I hC kfX0 3 rfl hl0_5 (by decide) wd939 rfl dX0_strongestAt_8 (fun hr1 => ?_)
    refine jj_icmp_ge (tgt := 72) hC dX0_strongestAt_11 rfl hs5_1 hr1 (fun hc => ?_) (fun hc => ?_)
    · replace h := (if_pos hc).symm.trans h
      refine jj_lv (lv' := [(3, .int (iI s5.1))]) [3] rfl ?_
      exact hE5 _ (Option.some.inj h).symm hs5_0
    · replace h := (if_neg (Int.not_le.mpr hc)).symm.trans h
      refine jj_aload_n hC dX0_strongestAt_14 rfl 0 rfl ?_
      obtain ⟨b2, hb2, hs2, h⟩ := rf_e h
      refine jg_R hC kfX0 0 rfl hl0_5 (by decide) wd936 rfl hb2 dX0_strongestAt_15 ?_
      refine jj_iload hC dX0_strongestAt_18 4 rfl ?_
      obtain ⟨⟨ha3, hb3⟩, h⟩ := gd_e h
      refine jj_iald hC hs2 ha3 hb3 dX0_strongestAt_20 (fun hr3 => ?_)
      refine jj_iload_n hC dX0_strongestAt_21 rfl 1 rfl ?_
      refine jg_isub hC dX0_strongestAt_22 ?_
      refine jg_mabs hC (w32_r _) wd799 wd728 wd47 wd729 (c_le rfl) (c_le rfl) (c_le rfl) (c_le rfl) dX0_strongestAt_23 ?_
      refine jj_aload_n hC dX0_strongestAt_26 rfl 0 rfl ?_
      obtain ⟨b4, hb4, hs4, h⟩ := rf_e h
      refine jg_R hC kfX0 1 rfl hl0_5 (by decide) wd937 rfl hb4 dX0_strongestAt_27 ?_
      refine jj_iload hC dX0_strongestAt_30 4 rfl ?_
      obtain ⟨⟨ha5, hb5⟩, h⟩ := gd_e h
      refine jj_iald hC hs4 ha5 hb5 dX0_strongestAt_32 (fun hr5 => ?_)
      refine jj_iload_n hC dX0_strongestAt_33 rfl 2 rfl ?_
      refine jg_isub hC dX0_strongestAt_34 ?_
      refine jg_mabs hC (w32_r _) wd799 wd728 wd47 wd729 (c_le rfl) (c_le rfl) (c_le rfl) (c_le rfl) dX0_strongestAt_35 ?_
      refine jg_iadd hC dX0_strongestAt_38 ?_
      refine jj_istore (lv' := [(5, .int (iI (w32 ((i_abs (w32 ((M b2 s5.2) - l1_5))) + (i_abs (w32 ((M b4 s5.2) - l2_5))))))), (0, .ref l0_5), (1, .int (iI l1_5)), (2, .int (iI l2_5)), (3, .int (iI s5.1)), (4, .int (iI s5.2))]) hC dX0_strongestAt_39 (by decide) rfl ?_
      refine jj_iload hC dX0_strongestAt_41 0 rfl ?_
      refine jj_iconst hC dX0_strongestAt_43 ?_
      refine jj_icmp_gt (tgt := 66) hC dX0_strongestAt_44 rfl (w32_r _) (show (-2147483648 ≤ (2 : Int) ∧ (2 : Int) < 2147483648) from by decide) (fun hc => ?_) (fun hc => ?_)
      · replace h := (if_pos hc).symm.trans h
        refine jj_lv (lv' := [(0, .ref l0_5), (1, .int (iI l1_5)), (2, .int (iI l2_5)), (3, .int (iI s5.1)), (4, .int (iI s5.2))]) [1, 2, 3, 4, 5] rfl ?_
        exact hB66 s5.1 s5.2 hs5_0 hs5_1 h
      · replace h := (if_neg (Int.not_lt.mpr hc)).symm.trans h
        refine jj_aload_n hC dX0_strongestAt_47 rfl 1 rfl ?_
        obtain ⟨b6, hb6, hs6, h⟩ := rf_e h
        refine jg_R hC kfX0 2 rfl hl0_5 (by decide) wd938 rfl hb6 dX0_strongestAt_48 ?_
        refine jj_iload hC dX0_strongestAt_51 5 rfl ?_
        obtain ⟨⟨ha7, hb7⟩, h⟩ := gd_e h
        refine jj_iald hC hs6 ha7 hb7 dX0_strongestAt_53 (fun hr7 => ?_)
        refine jj_iload_n hC dX0_strongestAt_54 rfl 4 rfl ?_
        refine jj_icmp_le (tgt := 66) hC dX0_strongestAt_55 rfl hr7 hs5_0 (fun hc => ?_) (fun hc => ?_)
        · replace h := (if_pos hc).symm.trans h
          refine jj_lv (lv' := [(0, .ref l0_5), (1, .int (iI l1_5)), (2, .int (iI l2_5)), (3, .int (iI s5.1)), (4, .int (iI s5.2))]) [1, 2, 3, 4, 5] rfl ?_
          exact hB66 s5.1 s5.2 hs5_0 hs5_1 h
        · replace h := (if_neg (Int.not_le.mpr hc)).symm.trans h
          refine jj_aload_n hC dX0_strongestAt_58 rfl 1 rfl ?_
          obtain ⟨b8, hb8, hs8, h⟩ := rf_e h
          refine jg_R hC kfX0 2 rfl hl0_5 (by decide) wd938 rfl hb8 dX0_strongestAt_59 ?_
          refine jj_iload hC dX0_strongestAt_62 5 rfl ?_
          obtain ⟨⟨ha9, hb9⟩, h⟩ := gd_e h
          refine jj_iald hC hs8 ha9 hb9 dX0_strongestAt_64 (fun hr9 => ?_)
          refine jj_istore_n (lv' := [(3, .int (iI (M b8 s5.2))), (5, .int (iI (w32 ((i_abs (w32 ((M b2 s5.2) - l1_5))) + (i_abs (w32 ((M b4 s5.2) - l2_5))))))), (0, .ref l0_5), (1, .int (iI l1_5)), (2, .int (iI l2_5)), (4, .int (iI s5.2))]) hC dX0_strongestAt_65 rfl (by decide) rfl ?_
          refine jj_lv (lv' := [(0, .ref l0_5), (1, .int (iI l1_5)), (2, .int (iI l2_5)), (3, .int (iI (M b8 s5.2))), (4, .int (iI s5.2))]) [2, 3, 4, 0, 5] rfl ?_
          exact hB66 (M b8 s5.2) s5.2 hr9 hs5_1 h
  unfold fX0_strongestAt at h
  refine jj_iconst hC dX0_strongestAt_0 ?_
  refine jj_istore_n (lv' := [(3, .int (iI 0)), (0, .ref a0), (1, .int (iI x1)), (2, .int (iI x2))]) hC dX0_strongestAt_1 rfl (by decide) rfl ?_
  refine jj_iconst hC dX0_strongestAt_2 ?_
  refine jj_istore (lv' := [(4, .int (iI 0)), (3, .int (iI 0)), (0, .ref a0), (1, .int (iI x1)), (2, .int (iI x2))]) hC dX0_strongestAt_3 (by decide) rfl ?_
  obtain ⟨q11, hq11, h⟩ := bd_e h
  refine jj_lv (lv' := [(0, .ref a0), (1, .int (iI x1)), (2, .int (iI x2)), (3, .int (iI 0)), (4, .int (iI 0))]) [2, 3, 4, 1, 0] rfl ?_
  refine hL5 a0 x1 x2 hs0 hp1 hp2 FU _ q11 hq11 ⟨(show (-2147483648 ≤ (0 : Int) ∧ (0 : Int) < 2147483648) from by decide), (show (-2147483648 ≤ (0 : Int) ∧ (0 : Int) < 2147483648) from by decide)⟩ (fun e5_10 he11 hIE11 => ?_) (fun c11 hc11 => ?_)
  · subst he11
    replace h := el_l h
    have he5_10_0 := hIE11
    refine jj_iload_n hC dX0_strongestAt_72 rfl 0 rfl ?_
    cases h
    exact jj_iret hC (c_le rfl) (c_le rfl) dX0_strongestAt_73 ⟨rfl, he5_10_0, rfl, rfl, rfl, rfl, rfl⟩
  · subst hc11
    replace h := el_r h
    exact Option.some.inj h
def fX1_copyFrom (ad S Ln : Nat → Nat) (R : gR) (M : gM) (a0 : Nat) (x1 : Nat) : Option gM :=
  rf S (R x1 0) 20 fun b1 => rf S (R a0 0) 20 fun b2 => gd ((0 : Int) ≤ 0 ∧ (0 : Int) ≤ 0 ∧ (0 : Int) ≤ 3 ∧ 0 + 3 ≤ (Ln b1 : Int) ∧ 0 + 3 ≤ (Ln b2 : Int)) (nam (i_cpy M b1 b2 0 0 3) fun M3 => rf S (R x1 1) 20 fun b4 => rf S (R a0 1) 20 fun b5 => gd ((0 : Int) ≤ 0 ∧ (0 : Int) ≤ 0 ∧ (0 : Int) ≤ 3 ∧ 0 + 3 ≤ (Ln b4 : Int) ∧ 0 + 3 ≤ (Ln b5 : Int)) (nam (i_cpy M3 b4 b5 0 0 3) fun M6 => rf S (R x1 2) 20 fun b7 => rf S (R a0 2) 20 fun b8 => gd ((0 : Int) ≤ 0 ∧ (0 : Int) ≤ 0 ∧ (0 : Int) ≤ 3 ∧ 0 + 3 ≤ (Ln b7 : Int) ∧ 0 + 3 ≤ (Ln b8 : Int)) (nam (i_cpy M6 b7 b8 0 0 3) fun M9 => rf S (R x1 3) 20 fun b10 => rf S (R a0 3) 20 fun b11 => gd ((0 : Int) ≤ 0 ∧ (0 : Int) ≤ 0 ∧ (0 : Int) ≤ 3 ∧ 0 + 3 ≤ (Ln b10 : Int) ∧ 0 + 3 ≤ (Ln b11 : Int)) (nam (i_cpy M9 b10 b11 0 0 3) fun M12 => nam (wr M12 a0 4 (M12 x1 4)) fun M14 => some (M14)))))
theorem xX1_copyFrom {l : Launch} {G : gE} {sz : Nat} {S Ln : Nat → Nat} {M : gM} {R : gR} (hl : l.stackTraces = false) {a0 : Nat} (hs0 : S a0 = 6) {x1 : Nat} (hp1 : S x1 = 6) {r : gM} (h : fX1_copyFrom G.2.2.2.2 S Ln R M a0 x1 = some r) : Ct l G yX1_copyFrom cX1_copyFrom 2 none 1 0 0 [.ref a0, .ref x1] sz S Ln M R (poV sz S Ln (r) R) noX := by
  refine jj_start (own := RX1) (lv0 := [(0, .ref a0), (1, .ref x1)]) hl (by decide +kernel) rfl rfl (c_le rfl) (fun C hCl hC => ?_)
  unfold fX1_copyFrom at h
  refine jj_aload_n hC dX1_copyFrom_0 rfl 1 rfl ?_
  obtain ⟨b1, hb1, hs1, h⟩ := rf_e h
  refine jg_R hC kfX1 0 rfl hp1 (by decide) wd961 rfl hb1 dX1_copyFrom_1 ?_
  refine jj_iconst hC dX1_copyFrom_4 ?_
  refine jj_aload_n hC dX1_copyFrom_5 rfl 0 rfl ?_
  obtain ⟨b2, hb2, hs2, h⟩ := rf_e h
  refine jg_R hC kfX1 0 rfl hs0 (by decide) wd961 rfl hb2 dX1_copyFrom_6 ?_
  refine jj_iconst hC dX1_copyFrom_9 ?_
  refine jj_iconst hC dX1_copyFrom_10 ?_
  obtain ⟨⟨ha3, hb3, hc3, hd3, he3⟩, h⟩ := gd_e h
  obtain ⟨M3, hM3, h⟩ := nam_e h
  refine jj_copyI hC hs1 hs2 ha3 hb3 hc3 hd3 he3 wd528 wd233 wd232 wd45 (c_le rfl) (c_le rfl) dX1_copyFrom_11 (jj_M hM3 ?_)
  refine jj_aload_n hC dX1_copyFrom_14 rfl 1 rfl ?_
  obtain ⟨b4, hb4, hs4, h⟩ := rf_e h
  refine jg_R hC kfX1 1 rfl hp1 (by decide) wd962 rfl hb4 dX1_copyFrom_15 ?_
  refine jj_iconst hC dX1_copyFrom_18 ?_
  refine jj_aload_n hC dX1_copyFrom_19 rfl 0 rfl ?_
  obtain ⟨b5, hb5, hs5, h⟩ := rf_e h
  refine jg_R hC kfX1 1 rfl hs0 (by decide) wd962 rfl hb5 dX1_copyFrom_20 ?_
  refine jj_iconst hC dX1_copyFrom_23 ?_
  refine jj_iconst hC dX1_copyFrom_24 ?_
  obtain ⟨⟨ha6, hb6, hc6, hd6, he6⟩, h⟩ := gd_e h
  obtain ⟨M6, hM6, h⟩ := nam_e h
  refine jj_copyI hC hs4 hs5 ha6 hb6 hc6 hd6 he6 wd528 wd233 wd232 wd45 (c_le rfl) (c_le rfl) dX1_copyFrom_25 (jj_M hM6 ?_)
  refine jj_aload_n hC dX1_copyFrom_28 rfl 1 rfl ?_
  obtain ⟨b7, hb7, hs7, h⟩ := rf_e h
  refine jg_R hC kfX1 2 rfl hp1 (by decide) wd963 rfl hb7 dX1_copyFrom_29 ?_
  refine jj_iconst hC dX1_copyFrom_32 ?_
  refine jj_aload_n hC dX1_copyFrom_33 rfl 0 rfl ?_
  obtain ⟨b8, hb8, hs8, h⟩ := rf_e h
  refine jg_R hC kfX1 2 rfl hs0 (by decide) wd963 rfl hb8 dX1_copyFrom_34 ?_
  refine jj_iconst hC dX1_copyFrom_37 ?_
  refine jj_iconst hC dX1_copyFrom_38 ?_
  obtain ⟨⟨ha9, hb9, hc9, hd9, he9⟩, h⟩ := gd_e h
  obtain ⟨M9, hM9, h⟩ := nam_e h
  refine jj_copyI hC hs7 hs8 ha9 hb9 hc9 hd9 he9 wd528 wd233 wd232 wd45 (c_le rfl) (c_le rfl) dX1_copyFrom_39 (jj_M hM9 ?_)
  refine jj_aload_n hC dX1_copyFrom_42 rfl 1 rfl ?_
  obtain ⟨b10, hb10, hs10, h⟩ := rf_e h
  refine jg_R hC kfX1 3 rfl hp1 (by decide) wd964 rfl hb10 dX1_copyFrom_43 ?_
  refine jj_iconst hC dX1_copyFrom_46 ?_
  refine jj_aload_n hC dX1_copyFrom_47 rfl 0 rfl ?_
  obtain ⟨b11, hb11, hs11, h⟩ := rf_e h
  refine jg_R hC kfX1 3 rfl hs0 (by decide) wd964 rfl hb11 dX1_copyFrom_48 ?_
  refine jj_iconst hC dX1_copyFrom_51 ?_
  refine jj_iconst hC dX1_copyFrom_52 ?_
  obtain ⟨⟨ha12, hb12, hc12, hd12, he12⟩, h⟩ := gd_e h
  obtain ⟨M12, hM12, h⟩ := nam_e h
  refine jj_copyI hC hs10 hs11 ha12 hb12 hc12 hd12 he12 wd528 wd233 wd232 wd45 (c_le rfl) (c_le rfl) dX1_copyFrom_53 (jj_M hM12 ?_)
  refine jj_aload_n hC dX1_copyFrom_56 rfl 0 rfl ?_
  refine jj_aload_n hC dX1_copyFrom_57 rfl 1 rfl ?_
  refine jg_I hC kfX1 4 rfl hp1 (by decide) wd965 rfl dX1_copyFrom_58 (fun hr13 => ?_)
  obtain ⟨M14, hM14, h⟩ := nam_e h
  refine jp_I hC kfX1 4 rfl hs0 rfl (by decide) wd965 rfl rfl rfl hr13 dX1_copyFrom_61 (jj_M hM14 ?_)
  cases h
  exact jj_vret hC (c_le rfl) (c_le rfl) dX1_copyFrom_64 ⟨rfl, trivial, rfl, rfl, rfl, rfl, rfl⟩
def fX1_putArea (ad S Ln : Nat → Nat) (R : gR) (M : gM) (a0 : Nat) (x1 : Int) (x2 : Int) (x3 : Int) (x4 : Int) : Option (Int × gM) :=
  if (M a0 4) < 3 then (rf S (R a0 0) 20 fun b2 => gd ((0 : Int) ≤ (M a0 4) ∧ (M a0 4) < (Ln b2 : Int)) (nam (wr M b2 (M a0 4) x1) fun M4 => rf S (R a0 1) 20 fun b5 => gd ((0 : Int) ≤ (M4 a0 4) ∧ (M4 a0 4) < (Ln b5 : Int)) (nam (wr M4 b5 (M4 a0 4) x2) fun M7 => rf S (R a0 2) 20 fun b8 => gd ((0 : Int) ≤ (M7 a0 4) ∧ (M7 a0 4) < (Ln b8 : Int)) (nam (wr M7 b8 (M7 a0 4) x3) fun M10 => rf S (R a0 3) 20 fun b11 => gd ((0 : Int) ≤ (M10 a0 4) ∧ (M10 a0 4) < (Ln b11 : Int)) (nam (wr M10 b11 (M10 a0 4) x4) fun M13 => nam (wr M13 a0 4 (w32 ((M13 a0 4) + 1))) fun M15 => some ((M15 a0 4, M15))))))) else (some ((M a0 4, M)))
theorem xX1_putArea {l : Launch} {G : gE} {sz : Nat} {S Ln : Nat → Nat} {M : gM} {R : gR} (hl : l.stackTraces = false) {a0 : Nat} (hs0 : S a0 = 6) {x1 : Int} (hp1 : (-2147483648 ≤ x1 ∧ x1 < 2147483648)) {x2 : Int} (hp2 : (-2147483648 ≤ x2 ∧ x2 < 2147483648)) {x3 : Int} (hp3 : (-2147483648 ≤ x3 ∧ x3 < 2147483648)) {x4 : Int} (hp4 : (-2147483648 ≤ x4 ∧ x4 < 2147483648)) {r : Int × gM} (h : fX1_putArea G.2.2.2.2 S Ln R M a0 x1 x2 x3 x4 = some r) : Ct l G yX1_putArea cX1_putArea 5 (some .int) 1 0 0 [.ref a0, .int (iI x1), .int (iI x2), .int (iI x3), .int (iI x4)] sz S Ln M R (poI r.1 sz S Ln (r.2) R) noX := by
  refine jj_start (own := RX1) (lv0 := [(0, .ref a0), (1, .int (iI x1)), (2, .int (iI x2)), (3, .int (iI x3)), (4, .int (iI x4))]) hl (by decide +kernel) rfl rfl (c_le rfl) (fun C hCl hC => ?_)
  unfold fX1_putArea at h
  refine jj_aload_n hC dX1_putArea_0 rfl 0 rfl ?_
  refine jg_I hC kfX1 4 rfl hs0 (by decide) wd965 rfl dX1_putArea_1 (fun hr1 => ?_)
  refine jj_iconst hC dX1_putArea_4 ?_
  refine jj_icmp_lt (tgt := 13) hC dX1_putArea_5 rfl hr1 (show (-2147483648 ≤ (3 : Int) ∧ (3 : Int) < 2147483648) from by decide) (fun hc => ?_) (fun hc => ?_)
  · replace h := (if_pos hc).symm.trans h
    refine jj_aload_n hC dX1_putArea_13 rfl 0 rfl ?_
    obtain ⟨b2, hb2, hs2, h⟩ := rf_e h
    refine jg_R hC kfX1 0 rfl hs0 (by decide) wd961 rfl hb2 dX1_putArea_14 ?_
    refine jj_aload_n hC dX1_putArea_17 rfl 0 rfl ?_
    refine jg_I hC kfX1 4 rfl hs0 (by decide) wd965 rfl dX1_putArea_18 (fun hr3 => ?_)
    refine jj_iload_n hC dX1_putArea_21 rfl 1 rfl ?_
    obtain ⟨⟨ha4, hb4⟩, h⟩ := gd_e h
    obtain ⟨M4, hM4, h⟩ := nam_e h
    refine jj_iast hC hs2 ha4 hb4 hp1 dX1_putArea_22 (jj_M hM4 ?_)
    refine jj_aload_n hC dX1_putArea_23 rfl 0 rfl ?_
    obtain ⟨b5, hb5, hs5, h⟩ := rf_e h
    refine jg_R hC kfX1 1 rfl hs0 (by decide) wd962 rfl hb5 dX1_putArea_24 ?_
    refine jj_aload_n hC dX1_putArea_27 rfl 0 rfl ?_
    refine jg_I hC kfX1 4 rfl hs0 (by decide) wd965 rfl dX1_putArea_28 (fun hr6 => ?_)
    refine jj_iload_n hC dX1_putArea_31 rfl 2 rfl ?_
    obtain ⟨⟨ha7, hb7⟩, h⟩ := gd_e h
    obtain ⟨M7, hM7, h⟩ := nam_e h
    refine jj_iast hC hs5 ha7 hb7 hp2 dX1_putArea_32 (jj_M hM7 ?_)
    refine jj_aload_n hC dX1_putArea_33 rfl 0 rfl ?_
    obtain ⟨b8, hb8, hs8, h⟩ := rf_e h
    refine jg_R hC kfX1 2 rfl hs0 (by decide) wd963 rfl hb8 dX1_putArea_34 ?_
    refine jj_aload_n hC dX1_putArea_37 rfl 0 rfl ?_
    refine jg_I hC kfX1 4 rfl hs0 (by decide) wd965 rfl dX1_putArea_38 (fun hr9 => ?_)
    refine jj_iload_n hC dX1_putArea_41 rfl 3 rfl ?_
    obtain ⟨⟨ha10, hb10⟩, h⟩ := gd_e h
    obtain ⟨M10, hM10, h⟩ := nam_e h
    refine jj_iast hC hs8 ha10 hb10 hp3 dX1_putArea_42 (jj_M hM10 ?_)
    refine jj_aload_n hC dX1_putArea_43 rfl 0 rfl ?_
    obtain ⟨b11, hb11, hs11, h⟩ := rf_e h
    refine jg_R hC kfX1 3 rfl hs0 (by decide) wd964 rfl hb11 dX1_putArea_44 ?_
    refine jj_aload_n hC dX1_putArea_47 rfl 0 rfl ?_
    refine jg_I hC kfX1 4 rfl hs0 (by decide) wd965 rfl dX1_putArea_48 (fun hr12 => ?_)
    refine jj_iload hC dX1_putArea_51 4 rfl ?_
    obtain ⟨⟨ha13, hb13⟩, h⟩ := gd_e h
    obtain ⟨M13, hM13, h⟩ := nam_e h
    refine jj_iast hC hs11 ha13 hb13 hp4 dX1_putArea_53 (jj_M hM13 ?_)
    refine jj_aload_n hC dX1_putArea_54 rfl 0 rfl ?_
    refine jj_dup hC dX1_putArea_55 rfl ?_
    refine jg_I hC kfX1 4 rfl hs0 (by decide) wd965 rfl dX1_putArea_56 (fun hr14 => ?_)
    refine jj_iconst hC dX1_putArea_59 ?_
    refine jg_iadd hC dX1_putArea_60 ?_
    obtain ⟨M15, hM15, h⟩ := nam_e h
    refine jp_I hC kfX1 4 rfl hs0 rfl (by decide) wd965 rfl rfl rfl (w32_r _) dX1_putArea_61 (jj_M hM15 ?_)
    refine jj_aload_n hC dX1_putArea_64 rfl 0 rfl ?_
    refine jg_I hC kfX1 4 rfl hs0 (by decide) wd965 rfl dX1_putArea_65 (fun hr16 => ?_)
    cases h
    exact jj_iret hC (c_le rfl) (c_le rfl) dX1_putArea_68 ⟨rfl, hr16, rfl, rfl, rfl, rfl, rfl⟩
  · replace h := (if_neg (Int.not_lt.mpr hc)).symm.trans h
    refine jj_aload_n hC dX1_putArea_8 rfl 0 rfl ?_
    refine jg_I hC kfX1 4 rfl hs0 (by decide) wd965 rfl dX1_putArea_9 (fun hr17 => ?_)
    cases h
    exact jj_iret hC (c_le rfl) (c_le rfl) dX1_putArea_12 ⟨rfl, hr17, rfl, rfl, rfl, rfl, rfl⟩
def fX1_covers_B52 (ad S Ln : Nat → Nat) (R : gR) (M : gM) (l0_2 : Nat) (l1_2 : Int) (l2_2 : Int) (l3_52 : Int) : Option ((Int) ⊕ ((Unit) ⊕ (Int))) :=
  some (.inl (w32 (l3_52 + 1)))
def fX1_covers_L2 (ad S Ln : Nat → Nat) (R : gR) (M : gM) (l0_2 : Nat) (l1_2 : Int) (l2_2 : Int) (s2 : Int) : Option ((Int) ⊕ ((Unit) ⊕ (Int))) :=
  if (M l0_2 4) ≤ s2 then (some (.inr (.inl ()))) else (rf S (R l0_2 0) 20 fun b2 => gd ((0 : Int) ≤ s2 ∧ s2 < (Ln b2 : Int)) (if l1_2 < (M b2 s2) then (fX1_covers_B52 ad S Ln R M l0_2 l1_2 l2_2 s2) else (rf S (R l0_2 2) 20 fun b4 => gd ((0 : Int) ≤ s2 ∧ s2 < (Ln b4 : Int)) (if (M b4 s2) < l1_2 then (fX1_covers_B52 ad S Ln R M l0_2 l1_2 l2_2 s2) else (rf S (R l0_2 1) 20 fun b6 => gd ((0 : Int) ≤ s2 ∧ s2 < (Ln b6 : Int)) (if l2_2 < (M b6 s2) then (fX1_covers_B52 ad S Ln R M l0_2 l1_2 l2_2 s2) else (rf S (R l0_2 3) 20 fun b8 => gd ((0 : Int) ≤ s2 ∧ s2 < (Ln b8 : Int)) (if (M b8 s2) < l2_2 then (fX1_covers_B52 ad S Ln R M l0_2 l1_2 l2_2 s2) else (some (.inr (.inr (1))))))))))))
def fX1_covers (ad S Ln : Nat → Nat) (R : gR) (M : gM) (a0 : Nat) (x1 : Int) (x2 : Int) : Option Int :=
  bd (lp (fX1_covers_L2 ad S Ln R M a0 x1 x2) FU 0) fun q11 => Sum.elim (fun e2_10 => some (0)) (fun c11 => some c11) q11
theorem xX1_covers {l : Launch} {G : gE} {sz : Nat} {S Ln : Nat → Nat} {M : gM} {R : gR} (hl : l.stackTraces = false) {a0 : Nat} (hs0 : S a0 = 6) {x1 : Int} (hp1 : (-2147483648 ≤ x1 ∧ x1 < 2147483648)) {x2 : Int} (hp2 : (-2147483648 ≤ x2 ∧ x2 < 2147483648)) {r : Int} (h : fX1_covers G.2.2.2.2 S Ln R M a0 x1 x2 = some r) : Ct l G yX1_covers cX1_covers 4 (some .boolean) 1 0 0 [.ref a0, .int (iI x1), .int (iI x2)] sz S Ln M R (poZ r sz S Ln (M) R) noX := by
  refine jj_start (own := RX1) (lv0 := [(0, .ref a0), (1, .int (iI x1)), (2, .int (iI x2))]) hl (by decide +kernel) rfl rfl (c_le rfl) (fun C hCl hC => ?_)
  have hL2 : ∀ (l0_2 : Nat) (l1_2 : Int) (l2_2 : Int), S l0_2 = 6 → (-2147483648 ≤ l1_2 ∧ l1_2 < 2147483648) → (-2147483648 ≤ l2_2 ∧ l2_2 < 2147483648) → ∀ (n : Nat) (s2 : Int) (q : (Unit) ⊕ (Int)), lp (fX1_covers_L2 G.2.2.2.2 S Ln R M l0_2 l1_2 l2_2) n s2 = some q → (-2147483648 ≤ s2 ∧ s2 < 2147483648) → (∀ e2, q = .inl e2 → True → JJ G C 0 0 sz S Ln M R 58 [] []) → (∀ c, q = .inr c → c = r) → JJ G C 0 0 sz S Ln M R 2 [(0, .ref l0_2), (1, .int (iI l1_2)), (2, .int (iI l2_2)), (3, .int (iI s2))] [] := by
    intro l0_2 l1_2 l2_2 hl0_2 hl1_2 hl2_2
    refine lp_ind ?_
    intro s2 r2 hI2 h hJ2 hE2 hR2
    have hs2_0 := hI2
    have hB52 : ∀ (l3_52 : Int), (-2147483648 ≤ l3_52 ∧ l3_52 < 2147483648) → fX1_covers_B52 G.2.2.2.2 S Ln R M l0_2 l1_2 l2_2 l3_52 = some r2 → JJ G C 0 0 sz S Ln M R 52 [(0, .ref l0_2), (1, .int (iI l1_2)), (2, .int (iI l2_2)), (3, .int (iI l3_52))] [] := by
      intro l3_52 hl3_52 h
      unfold fX1_covers_B52 at h
      refine jg_iinc (q := 3) (lv' := [(3, .int (iI (w32 (l3_52 + 1)))), (0, .ref l0_2), (1, .int (iI l1_2)), (2, .int (iI l2_2))]) hC dX1_covers_52 rfl (by decide) rfl ?_
      refine jj_goto (tgt := 2) hC dX1_covers_55 rfl ?_
      refine jj_lv (lv' := [(0, .ref l0_2), (1, .int (iI l1_2)), (2, .int (iI l2_2)), (3, .int (iI (w32 (l3_52 + 1))))]) [1, 2, 3, 0] rfl ?_
      exact hJ2 _ (Option.some.inj h).symm (w32_r _)
    unfold fX1_covers_L2 at h
    refine jj_iload_n hC dX1_covers_2 rfl 3 rfl ?_
    refine jj_aload_n hC dX1_covers_3 rfl 0 rfl ?_
    refine jg_I hC kfX1 4 rfl hl0_2 (by decide) wd965 rfl dX1_covers_4 (fun hr1 => ?_)
    refine jj_icmp_ge (tgt := 58) hC dX1_covers_7 rfl hs2_0 hr1 (fun hc => ?_) (fun hc => ?_)
    · replace h := (if_pos hc).symm.trans h
      refine jj_lv (lv' := []) [] rfl ?_
      exact hE2 _ (Option.some.inj h).symm trivial
    · replace h := (if_neg (Int.not_le.mpr hc)).symm.trans h
      refine jj_aload_n hC dX1_covers_10 rfl 0 rfl ?_
      obtain ⟨b2, hb2, hs2, h⟩ := rf_e h
      refine jg_R hC kfX1 0 rfl hl0_2 (by decide) wd961 rfl hb2 dX1_covers_11 ?_
      refine jj_iload_n hC dX1_covers_14 rfl 3 rfl ?_
      obtain ⟨⟨ha3, hb3⟩, h⟩ := gd_e h
      refine jj_iald hC hs2 ha3 hb3 dX1_covers_15 (fun hr3 => ?_)
      refine jj_iload_n hC dX1_covers_16 rfl 1 rfl ?_
      refine jj_icmp_gt (tgt := 52) hC dX1_covers_17 rfl hr3 hl1_2 (fun hc => ?_) (fun hc => ?_)
      · replace h := (if_pos hc).symm.trans h
        refine jj_lv (lv' := [(0, .ref l0_2), (1, .int (iI l1_2)), (2, .int (iI l2_2)), (3, .int (iI s2))]) [0, 1, 2, 3] rfl ?_
        exact hB52 s2 hs2_0 h
      · replace h := (if_neg (Int.not_lt.mpr hc)).symm.trans h
        refine jj_iload_n hC dX1_covers_20 rfl 1 rfl ?_
        refine jj_aload_n hC dX1_covers_21 rfl 0 rfl ?_
        obtain ⟨b4, hb4, hs4, h⟩ := rf_e h
        refine jg_R hC kfX1 2 rfl hl0_2 (by decide) wd963 rfl hb4 dX1_covers_22 ?_
        refine jj_iload_n hC dX1_covers_25 rfl 3 rfl ?_
        obtain ⟨⟨ha5, hb5⟩, h⟩ := gd_e h
        refine jj_iald hC hs4 ha5 hb5 dX1_covers_26 (fun hr5 => ?_)
        refine jj_icmp_gt (tgt := 52) hC dX1_covers_27 rfl hl1_2 hr5 (fun hc => ?_) (fun hc => ?_)
        · replace h := (if_pos hc).symm.trans h
          refine jj_lv (lv' := [(0, .ref l0_2), (1, .int (iI l1_2)), (2, .int (iI l2_2)), (3, .int (iI s2))]) [0, 1, 2, 3] rfl ?_
          exact hB52 s2 hs2_0 h
        · replace h := (if_neg (Int.not_lt.mpr hc)).symm.trans h
          refine jj_aload_n hC dX1_covers_30 rfl 0 rfl ?_
          obtain ⟨b6, hb6, hs6, h⟩ := rf_e h
          refine jg_R hC kfX1 1 rfl hl0_2 (by decide) wd962 rfl hb6 dX1_covers_31 ?_
          refine jj_iload_n hC dX1_covers_34 rfl 3 rfl ?_
          obtain ⟨⟨ha7, hb7⟩, h⟩ := gd_e h
          refine jj_iald hC hs6 ha7 hb7 dX1_covers_35 (fun hr7 => ?_)
          refine jj_iload_n hC dX1_covers_36 rfl 2 rfl ?_
          refine jj_icmp_gt (tgt := 52) hC dX1_covers_37 rfl hr7 hl2_2 (fun hc => ?_) (fun hc => ?_)
          · replace h := (if_pos hc).symm.trans h
            refine jj_lv (lv' := [(0, .ref l0_2), (1, .int (iI l1_2)), (2, .int (iI l2_2)), (3, .int (iI s2))]) [0, 1, 2, 3] rfl ?_
            exact hB52 s2 hs2_0 h
          · replace h := (if_neg (Int.not_lt.mpr hc)).symm.trans h
            refine jj_iload_n hC dX1_covers_40 rfl 2 rfl ?_
            refine jj_aload_n hC dX1_covers_41 rfl 0 rfl ?_
            obtain ⟨b8, hb8, hs8, h⟩ := rf_e h
            refine jg_R hC kfX1 3 rfl hl0_2 (by decide) wd964 rfl hb8 dX1_covers_42 ?_
            refine jj_iload_n hC dX1_covers_45 rfl 3 rfl ?_
            obtain ⟨⟨ha9, hb9⟩, h⟩ := gd_e h
            refine jj_iald hC hs8 ha9 hb9 dX1_covers_46 (fun hr9 => ?_)
            refine jj_icmp_gt (tgt := 52) hC dX1_covers_47 rfl hl2_2 hr9 (fun hc => ?_) (fun hc => ?_)
            · replace h := (if_pos hc).symm.trans h
              refine jj_lv (lv' := [(0, .ref l0_2), (1, .int (iI l1_2)), (2, .int (iI l2_2)), (3, .int (iI s2))]) [0, 1, 2, 3] rfl ?_
              exact hB52 s2 hs2_0 h
            · replace h := (if_neg (Int.not_lt.mpr hc)).symm.trans h
              refine jj_iconst hC dX1_covers_50 ?_
              have h := hR2 _ (Option.some.inj h).symm
              subst h
              exact jj_zret hC (show (0 ≤ (1 : Int) ∧ (1 : Int) ≤ 1) from by decide) (c_le rfl) (c_le rfl) dX1_covers_51 ⟨rfl, (show (0 ≤ (1 : Int) ∧ (1 : Int) ≤ 1) from by decide), rfl, rfl, rfl, rfl, rfl⟩
  unfold fX1_covers at h
  refine jj_iconst hC dX1_covers_0 ?_
  refine jj_istore_n (lv' := [(3, .int (iI 0)), (0, .ref a0), (1, .int (iI x1)), (2, .int (iI x2))]) hC dX1_covers_1 rfl (by decide) rfl ?_
  obtain ⟨q11, hq11, h⟩ := bd_e h
  refine jj_lv (lv' := [(0, .ref a0), (1, .int (iI x1)), (2, .int (iI x2)), (3, .int (iI 0))]) [1, 2, 3, 0] rfl ?_
  refine hL2 a0 x1 x2 hs0 hp1 hp2 FU _ q11 hq11 (show (-2147483648 ≤ (0 : Int) ∧ (0 : Int) < 2147483648) from by decide) (fun e2_10 he11 hIE11 => ?_) (fun c11 hc11 => ?_)
  · subst he11
    replace h := el_l h
    refine jj_iconst hC dX1_covers_58 ?_
    cases h
    exact jj_zret hC (show (0 ≤ (0 : Int) ∧ (0 : Int) ≤ 1) from by decide) (c_le rfl) (c_le rfl) dX1_covers_59 ⟨rfl, (show (0 ≤ (0 : Int) ∧ (0 : Int) ≤ 1) from by decide), rfl, rfl, rfl, rfl, rfl⟩
  · subst hc11
    replace h := el_r h
    exact Option.some.inj h
def fX1_countByPositions_B22 (ad S Ln : Nat → Nat) (R : gR) (M : gM) (l0_4 : Nat) (l1_4 : Int) (l2_22 : Int) (l3_22 : Int) : Option ((Int × Int) ⊕ ((Int) ⊕ (Int))) :=
  some (.inl (l2_22, w32 (l3_22 + 1)))
def fX1_countByPositions_L4 (ad S Ln : Nat → Nat) (R : gR) (M : gM) (l0_4 : Nat) (l1_4 : Int) (s4 : Int × Int) : Option ((Int × Int) ⊕ ((Int) ⊕ (Int))) :=
  if 60 < s4.2 then (some (.inr (.inl s4.1))) else (bd (fX1_covers ad S Ln R M l0_4 s4.2 l1_4) fun q1 => if q1 = 0 then (fX1_countByPositions_B22 ad S Ln R M l0_4 l1_4 s4.1 s4.2) else (fX1_countByPositions_B22 ad S Ln R M l0_4 l1_4 (w32 (s4.1 + 1)) s4.2))
def fX1_countByPositions (ad S Ln : Nat → Nat) (R : gR) (M : gM) (a0 : Nat) (x1 : Int) : Option Int :=
  bd (lp (fX1_countByPositions_L4 ad S Ln R M a0 x1) FU (0, 0)) fun q3 => Sum.elim (fun e4_2 => some (e4_2)) (fun c3 => some c3) q3
theorem xX1_countByPositions {l : Launch} {G : gE} {sz : Nat} {S Ln : Nat → Nat} {M : gM} {R : gR} (hl : l.stackTraces = false) {a0 : Nat} (hs0 : S a0 = 6) {x1 : Int} (hp1 : (-2147483648 ≤ x1 ∧ x1 < 2147483648)) {r : Int} (h : fX1_countByPositions G.2.2.2.2 S Ln R M a0 x1 = some r) : Ct l G yX1_countByPositions cX1_countByPositions 4 (some .int) 2 0 0 [.ref a0, .int (iI x1)] sz S Ln M R (poI r sz S Ln (M) R) noX := by
  refine jj_start (own := RX1) (lv0 := [(0, .ref a0), (1, .int (iI x1))]) hl (by decide +kernel) rfl rfl (c_le rfl) (fun C hCl hC => ?_)
  have hL4 : ∀ (l0_4 : Nat) (l1_4 : Int), S l0_4 = 6 → (-2147483648 ≤ l1_4 ∧ l1_4 < 2147483648) → ∀ (n : Nat) (s4 : Int × Int) (q : (Int) ⊕ (Int)), lp (fX1_countByPositions_L4 G.2.2.2.2 S Ln R M l0_4 l1_4) n s4 = some q → (-2147483648 ≤ s4.1 ∧ s4.1 < 2147483648) ∧ (-2147483648 ≤ s4.2 ∧ s4.2 < 2147483648) → (∀ e4, q = .inl e4 → (-2147483648 ≤ e4 ∧ e4 < 2147483648) → JJ G C 0 0 sz S Ln M R 28 [(2, .int (iI e4))] []) → (∀ c, q = .inr c → c = r) → JJ G C 0 0 sz S Ln M R 4 [(0, .ref l0_4), (1, .int (iI l1_4)), (2, .int (iI s4.1)), (3, .int (iI s4.2))] [] := by
    intro l0_4 l1_4 hl0_4 hl1_4
    refine lp_ind ?_
    intro s4 r4 hI4 h hJ4 hE4 hR4
    obtain ⟨hs4_0, hs4_1⟩ := hI4
    have hB22 : ∀ (l2_22 : Int) (l3_22 : Int), (-2147483648 ≤ l2_22 ∧ l2_22 < 2147483648) → (-2147483648 ≤ l3_22 ∧ l3_22 < 2147483648) → fX1_countByPositions_B22 G.2.2.2.2 S Ln R M l0_4 l1_4 l2_22 l3_22 = some r4 → JJ G C 0 0 sz S Ln M R 22 [(0, .ref l0_4), (1, .int (iI l1_4)), (2, .int (iI l2_22)), (3, .int (iI l3_22))] [] := by
      intro l2_22 l3_22 hl2_22 hl3_22 h
      unfold fX1_countByPositions_B22 at h
      refine jg_iinc (q := 3) (lv' := [(3, .int (iI (w32 (l3_22 + 1)))), (0, .ref l0_4), (1, .int (iI l1_4)), (2, .int (iI l2_22))]) hC dX1_countByPositions_22 rfl (by decide) rfl ?_
      refine jj_goto (tgt := 4) hC dX1_countByPositions_25 rfl ?_
      refine jj_lv (lv' := [(0, .ref l0_4), (1, .int (iI l1_4)), (2, .int (iI l2_22)), (3, .int (iI (w32 (l3_22 + 1))))]) [1, 2, 3, 0] rfl ?_
      exact hJ4 _ (Option.some.inj h).symm ⟨hl2_22, (w32_r _)⟩
    unfold fX1_countByPositions_L4 at h
    refine jj_iload_n hC dX1_countByPositions_4 rfl 3 rfl ?_
    refine jj_bipush hC dX1_countByPositions_5 (by decide) ?_
    refine jj_icmp_gt (tgt := 28) hC dX1_countByPositions_7 rfl hs4_1 (show (-2147483648 ≤ (60 : Int) ∧ (60 : Int) < 2147483648) from by decide) (fun hc => ?_) (fun hc => ?_)
    · replace h := (if_pos hc).symm.trans h
      refine jj_lv (lv' := [(2, .int (iI s4.1))]) [2] rfl ?_
      exact hE4 _ (Option.some.inj h).symm hs4_0
    · replace h := (if_neg (Int.not_lt.mpr hc)).symm.trans h
      refine jj_aload_n hC dX1_countByPositions_10 rfl 0 rfl ?_
      refine jj_iload_n hC dX1_countByPositions_11 rfl 3 rfl ?_
      refine jj_iload_n hC dX1_countByPositions_12 rfl 1 rfl ?_
      obtain ⟨q1, hq1, h⟩ := bd_e h
      refine jj_invV hC mvX1_covers wd715 wd716 wd1471 hl0_4 (by decide) rfl (xX1_covers (OKC.tr hC) hl0_4 hs4_1 hl1_4 hq1) rfl rfl (c_le rfl) (c_le rfl) (c_le rfl) (c_le rfl) dX1_countByPositions_13 noXk (po_kZ (fun hr1 => ?_))
      refine jj_if_eq (tgt := 22) hC dX1_countByPositions_16 rfl (r_z hr1) (fun hc => ?_) (fun hc => ?_)
      · replace h := (if_pos hc).symm.trans h
        refine jj_lv (lv' := [(0, .ref l0_4), (1, .int (iI l1_4)), (2, .int (iI s4.1)), (3, .int (iI s4.2))]) [0, 1, 2, 3] rfl ?_
        exact hB22 s4.1 s4.2 hs4_0 hs4_1 h
      · replace h := (if_neg (hc)).symm.trans h
        refine jg_iinc (q := 2) (lv' := [(2, .int (iI (w32 (s4.1 + 1)))), (0, .ref l0_4), (1, .int (iI l1_4)), (3, .int (iI s4.2))]) hC dX1_countByPositions_19 rfl (by decide) rfl ?_
        refine jj_lv (lv' := [(0, .ref l0_4), (1, .int (iI l1_4)), (2, .int (iI (w32 (s4.1 + 1)))), (3, .int (iI s4.2))]) [1, 2, 0, 3] rfl ?_
        exact hB22 (w32 (s4.1 + 1)) s4.2 (w32_r _) hs4_1 h
  unfold fX1_countByPositions at h
  refine jj_iconst hC dX1_countByPositions_0 ?_
  refine jj_istore_n (lv' := [(2, .int (iI 0)), (0, .ref a0), (1, .int (iI x1))]) hC dX1_countByPositions_1 rfl (by decide) rfl ?_
  refine jj_iconst hC dX1_countByPositions_2 ?_
  refine jj_istore_n (lv' := [(3, .int (iI 0)), (2, .int (iI 0)), (0, .ref a0), (1, .int (iI x1))]) hC dX1_countByPositions_3 rfl (by decide) rfl ?_
  obtain ⟨q3, hq3, h⟩ := bd_e h
  refine jj_lv (lv' := [(0, .ref a0), (1, .int (iI x1)), (2, .int (iI 0)), (3, .int (iI 0))]) [2, 3, 1, 0] rfl ?_
  refine hL4 a0 x1 hs0 hp1 FU _ q3 hq3 ⟨(show (-2147483648 ≤ (0 : Int) ∧ (0 : Int) < 2147483648) from by decide), (show (-2147483648 ≤ (0 : Int) ∧ (0 : Int) < 2147483648) from by decide)⟩ (fun e4_2 he3 hIE3 => ?_) (fun c3 hc3 => ?_)
  · subst he3
    replace h := el_l h
    have he4_2_0 := hIE3
    refine jj_iload_n hC dX1_countByPositions_28 rfl 0 rfl ?_
    cases h
    exact jj_iret hC (c_le rfl) (c_le rfl) dX1_countByPositions_29 ⟨rfl, he4_2_0, rfl, rfl, rfl, rfl, rfl⟩
  · subst hc3
    replace h := el_r h
    exact Option.some.inj h
def fX1_insertRange_L13 (ad S Ln : Nat → Nat) (R : gR) (l0_13 : Nat) (l2_13 : Int) (l3_13 : Int) (s13 : Int × gM) : Option ((Int × gM) ⊕ ((Int × gM) ⊕ (gM))) :=
  if s13.1 ≤ 0 then (some (.inr (.inl (s13.1, s13.2)))) else (rf S (R l0_13 5) 20 fun b1 => gd ((0 : Int) ≤ (w32 (s13.1 - 1)) ∧ (w32 (s13.1 - 1)) < (Ln b1 : Int)) (if (s13.2 b1 (w32 (s13.1 - 1))) ≤ l2_13 then (some (.inr (.inl (s13.1, s13.2)))) else (rf S (R l0_13 5) 20 fun b3 => rf S (R l0_13 5) 20 fun b4 => gd ((0 : Int) ≤ (w32 (s13.1 - 1)) ∧ (w32 (s13.1 - 1)) < (Ln b4 : Int)) (gd ((0 : Int) ≤ s13.1 ∧ s13.1 < (Ln b3 : Int)) (nam (wr s13.2 b3 s13.1 (s13.2 b4 (w32 (s13.1 - 1)))) fun M6 => rf S (R l0_13 6) 20 fun b7 => rf S (R l0_13 6) 20 fun b8 => gd ((0 : Int) ≤ (w32 (s13.1 - 1)) ∧ (w32 (s13.1 - 1)) < (Ln b8 : Int)) (gd ((0 : Int) ≤ s13.1 ∧ s13.1 < (Ln b7 : Int)) (nam (wr M6 b7 s13.1 (M6 b8 (w32 (s13.1 - 1)))) fun M10 => some (.inl (w32 (s13.1 + (-1)), M10)))))))))
def fX1_insertRange_B69 (ad S Ln : Nat → Nat) (R : gR) (M69 : gM) (l0_69 : Nat) (l2_69 : Int) (l3_69 : Int) (l4_69 : Int) : Option gM :=
  rf S (R l0_69 5) 20 fun b12 => gd ((0 : Int) ≤ l4_69 ∧ l4_69 < (Ln b12 : Int)) (nam (wr M69 b12 l4_69 l2_69) fun M13 => rf S (R l0_69 6) 20 fun b14 => gd ((0 : Int) ≤ l4_69 ∧ l4_69 < (Ln b14 : Int)) (nam (wr M13 b14 l4_69 l3_69) fun M15 => some (M15)))
def fX1_insertRange (ad S Ln : Nat → Nat) (R : gR) (M : gM) (a0 : Nat) (x1 : Int) (x2 : Int) (x3 : Int) : Option gM :=
  if x1 < 0 then (some (M)) else (if x1 < 3 then (bd (lp (fX1_insertRange_L13 ad S Ln R a0 x2 x3) FU (x1, M)) fun q16 => Sum.elim (fun e13_11 => fX1_insertRange_B69 ad S Ln R e13_11.2 a0 x2 x3 e13_11.1) (fun c16 => some c16) q16) else (some (M)))
theorem xX1_insertRange {l : Launch} {G : gE} {sz : Nat} {S Ln : Nat → Nat} {M : gM} {R : gR} (hl : l.stackTraces = false) {a0 : Nat} (hs0 : S a0 = 6) {x1 : Int} (hp1 : (-2147483648 ≤ x1 ∧ x1 < 2147483648)) {x2 : Int} (hp2 : (-2147483648 ≤ x2 ∧ x2 < 2147483648)) {x3 : Int} (hp3 : (-2147483648 ≤ x3 ∧ x3 < 2147483648)) {r : gM} (h : fX1_insertRange G.2.2.2.2 S Ln R M a0 x1 x2 x3 = some r) : Ct l G yX1_insertRange cX1_insertRange 5 none 1 0 0 [.ref a0, .int (iI x1), .int (iI x2), .int (iI x3)] sz S Ln M R (poV sz S Ln (r) R) noX := by
  refine jj_start (own := RX1) (lv0 := [(0, .ref a0), (1, .int (iI x1)), (2, .int (iI x2)), (3, .int (iI x3))]) hl (by decide +kernel) rfl rfl (c_le rfl) (fun C hCl hC => ?_)
  have hL13 : ∀ (l0_13 : Nat) (l2_13 : Int) (l3_13 : Int), S l0_13 = 6 → (-2147483648 ≤ l2_13 ∧ l2_13 < 2147483648) → (-2147483648 ≤ l3_13 ∧ l3_13 < 2147483648) → ∀ (n : Nat) (s13 : Int × gM) (q : (Int × gM) ⊕ (gM)), lp (fX1_insertRange_L13 G.2.2.2.2 S Ln R l0_13 l2_13 l3_13) n s13 = some q → (-2147483648 ≤ s13.1 ∧ s13.1 < 2147483648) → (∀ e13, q = .inl e13 → (-2147483648 ≤ e13.1 ∧ e13.1 < 2147483648) → JJ G C 0 0 sz S Ln e13.2 R 69 [(0, .ref l0_13), (2, .int (iI l2_13)), (3, .int (iI l3_13)), (4, .int (iI e13.1))] []) → (∀ c, q = .inr c → c = r) → JJ G C 0 0 sz S Ln s13.2 R 13 [(0, .ref l0_13), (2, .int (iI l2_13)), (3, .int (iI l3_13)), (4, .int (iI s13.1))] [] := by
    intro l0_13 l2_13 l3_13 hl0_13 hl2_13 hl3_13
    refine lp_ind ?_
    intro s13 r13 hI13 h hJ13 hE13 hR13
    have hs13_0 := hI13
    unfold fX1_insertRange_L13 at h
    refine jj_iload hC dX1_insertRange_13 3 rfl ?_
    refine jj_if_le (tgt := 69) hC dX1_insertRange_15 rfl hs13_0 (fun hc => ?_) (fun hc => ?_)
    · replace h := (if_pos hc).symm.trans h
      refine jj_lv (lv' := [(0, .ref l0_13), (2, .int (iI l2_13)), (3, .int (iI l3_13)), (4, .int (iI s13.1))]) [0, 1, 2, 3] rfl ?_
      exact hE13 _ (Option.some.inj h).symm hs13_0
    · replace h := (if_neg (Int.not_le.mpr hc)).symm.trans h
      refine jj_aload_n hC dX1_insertRange_18 rfl 0 rfl ?_
      obtain ⟨b1, hb1, hs1, h⟩ := rf_e h
      refine jg_R hC kfX1 5 rfl hl0_13 (by decide) wd967 rfl hb1 dX1_insertRange_19 ?_
      refine jj_iload hC dX1_insertRange_22 3 rfl ?_
      refine jj_iconst hC dX1_insertRange_24 ?_
      refine jg_isub hC dX1_insertRange_25 ?_
      obtain ⟨⟨ha2, hb2⟩, h⟩ := gd_e h
      refine jj_iald hC hs1 ha2 hb2 dX1_insertRange_26 (fun hr2 => ?_)
      refine jj_iload_n hC dX1_insertRange_27 rfl 1 rfl ?_
      refine jj_icmp_le (tgt := 69) hC dX1_insertRange_28 rfl hr2 hl2_13 (fun hc => ?_) (fun hc => ?_)
      · replace h := (if_pos hc).symm.trans h
        refine jj_lv (lv' := [(0, .ref l0_13), (2, .int (iI l2_13)), (3, .int (iI l3_13)), (4, .int (iI s13.1))]) [0, 1, 2, 3] rfl ?_
        exact hE13 _ (Option.some.inj h).symm hs13_0
      · replace h := (if_neg (Int.not_le.mpr hc)).symm.trans h
        refine jj_aload_n hC dX1_insertRange_31 rfl 0 rfl ?_
        obtain ⟨b3, hb3, hs3, h⟩ := rf_e h
        refine jg_R hC kfX1 5 rfl hl0_13 (by decide) wd967 rfl hb3 dX1_insertRange_32 ?_
        refine jj_iload hC dX1_insertRange_35 3 rfl ?_
        refine jj_aload_n hC dX1_insertRange_37 rfl 0 rfl ?_
        obtain ⟨b4, hb4, hs4, h⟩ := rf_e h
        refine jg_R hC kfX1 5 rfl hl0_13 (by decide) wd967 rfl hb4 dX1_insertRange_38 ?_
        refine jj_iload hC dX1_insertRange_41 3 rfl ?_
        refine jj_iconst hC dX1_insertRange_43 ?_
        refine jg_isub hC dX1_insertRange_44 ?_
        obtain ⟨⟨ha5, hb5⟩, h⟩ := gd_e h
        refine jj_iald hC hs4 ha5 hb5 dX1_insertRange_45 (fun hr5 => ?_)
        obtain ⟨⟨ha6, hb6⟩, h⟩ := gd_e h
        obtain ⟨M6, hM6, h⟩ := nam_e h
        refine jj_iast hC hs3 ha6 hb6 hr5 dX1_insertRange_46 (jj_M hM6 ?_)
        refine jj_aload_n hC dX1_insertRange_47 rfl 0 rfl ?_
        obtain ⟨b7, hb7, hs7, h⟩ := rf_e h
        refine jg_R hC kfX1 6 rfl hl0_13 (by decide) wd968 rfl hb7 dX1_insertRange_48 ?_
        refine jj_iload hC dX1_insertRange_51 3 rfl ?_
        refine jj_aload_n hC dX1_insertRange_53 rfl 0 rfl ?_
        obtain ⟨b8, hb8, hs8, h⟩ := rf_e h
        refine jg_R hC kfX1 6 rfl hl0_13 (by decide) wd968 rfl hb8 dX1_insertRange_54 ?_
        refine jj_iload hC dX1_insertRange_57 3 rfl ?_
        refine jj_iconst hC dX1_insertRange_59 ?_
        refine jg_isub hC dX1_insertRange_60 ?_
        obtain ⟨⟨ha9, hb9⟩, h⟩ := gd_e h
        refine jj_iald hC hs8 ha9 hb9 dX1_insertRange_61 (fun hr9 => ?_)
        obtain ⟨⟨ha10, hb10⟩, h⟩ := gd_e h
        obtain ⟨M10, hM10, h⟩ := nam_e h
        refine jj_iast hC hs7 ha10 hb10 hr9 dX1_insertRange_62 (jj_M hM10 ?_)
        refine jg_iinc (q := 3) (lv' := [(4, .int (iI (w32 (s13.1 + (-1))))), (0, .ref l0_13), (2, .int (iI l2_13)), (3, .int (iI l3_13))]) hC dX1_insertRange_63 rfl (by decide) rfl ?_
        refine jj_goto (tgt := 13) hC dX1_insertRange_66 rfl ?_
        refine jj_lv (lv' := [(0, .ref l0_13), (2, .int (iI l2_13)), (3, .int (iI l3_13)), (4, .int (iI (w32 (s13.1 + (-1)))))]) [1, 2, 3, 0] rfl ?_
        exact hJ13 _ (Option.some.inj h).symm (w32_r _)
  have hB69 : ∀ (M69 : gM) (l0_69 : Nat) (l2_69 : Int) (l3_69 : Int) (l4_69 : Int), S l0_69 = 6 → (-2147483648 ≤ l2_69 ∧ l2_69 < 2147483648) → (-2147483648 ≤ l3_69 ∧ l3_69 < 2147483648) → (-2147483648 ≤ l4_69 ∧ l4_69 < 2147483648) → fX1_insertRange_B69 G.2.2.2.2 S Ln R M69 l0_69 l2_69 l3_69 l4_69 = some r → JJ G C 0 0 sz S Ln M69 R 69 [(0, .ref l0_69), (2, .int (iI l2_69)), (3, .int (iI l3_69)), (4, .int (iI l4_69))] [] := by
    intro M69 l0_69 l2_69 l3_69 l4_69 hl0_69 hl2_69 hl3_69 hl4_69 h
    unfold fX1_insertRange_B69 at h
    refine jj_aload_n hC dX1_insertRange_69 rfl 0 rfl ?_
    obtain ⟨b12, hb12, hs12, h⟩ := rf_e h
    refine jg_R hC kfX1 5 rfl hl0_69 (by decide) wd967 rfl hb12 dX1_insertRange_70 ?_
    refine jj_iload hC dX1_insertRange_73 3 rfl ?_
    refine jj_iload_n hC dX1_insertRange_75 rfl 1 rfl ?_
    obtain ⟨⟨ha13, hb13⟩, h⟩ := gd_e h
    obtain ⟨M13, hM13, h⟩ := nam_e h
    refine jj_iast hC hs12 ha13 hb13 hl2_69 dX1_insertRange_76 (jj_M hM13 ?_)
    refine jj_aload_n hC dX1_insertRange_77 rfl 0 rfl ?_
    obtain ⟨b14, hb14, hs14, h⟩ := rf_e h
    refine jg_R hC kfX1 6 rfl hl0_69 (by decide) wd968 rfl hb14 dX1_insertRange_78 ?_
    refine jj_iload hC dX1_insertRange_81 3 rfl ?_
    refine jj_iload_n hC dX1_insertRange_83 rfl 2 rfl ?_
    obtain ⟨⟨ha15, hb15⟩, h⟩ := gd_e h
    obtain ⟨M15, hM15, h⟩ := nam_e h
    refine jj_iast hC hs14 ha15 hb15 hl3_69 dX1_insertRange_84 (jj_M hM15 ?_)
    cases h
    exact jj_vret hC (c_le rfl) (c_le rfl) dX1_insertRange_85 ⟨rfl, trivial, rfl, rfl, rfl, rfl, rfl⟩
  unfold fX1_insertRange at h
  refine jj_iload_n hC dX1_insertRange_0 rfl 1 rfl ?_
  refine jj_if_lt (tgt := 9) hC dX1_insertRange_1 rfl hp1 (fun hc => ?_) (fun hc => ?_)
  · replace h := (if_pos hc).symm.trans h
    cases h
    exact jj_vret hC (c_le rfl) (c_le rfl) dX1_insertRange_9 ⟨rfl, trivial, rfl, rfl, rfl, rfl, rfl⟩
  · replace h := (if_neg (Int.not_lt.mpr hc)).symm.trans h
    refine jj_iload_n hC dX1_insertRange_4 rfl 1 rfl ?_
    refine jj_iconst hC dX1_insertRange_5 ?_
    refine jj_icmp_lt (tgt := 10) hC dX1_insertRange_6 rfl hp1 (show (-2147483648 ≤ (3 : Int) ∧ (3 : Int) < 2147483648) from by decide) (fun hc => ?_) (fun hc => ?_)
    · replace h := (if_pos hc).symm.trans h
      refine jj_iload_n hC dX1_insertRange_10 rfl 1 rfl ?_
      refine jj_istore (lv' := [(4, .int (iI x1)), (0, .ref a0), (1, .int (iI x1)), (2, .int (iI x2)), (3, .int (iI x3))]) hC dX1_insertRange_11 (by decide) rfl ?_
      obtain ⟨q16, hq16, h⟩ := bd_e h
      refine jj_lv (lv' := [(0, .ref a0), (2, .int (iI x2)), (3, .int (iI x3)), (4, .int (iI x1))]) [1, 3, 4, 0] rfl ?_
      refine hL13 a0 x2 x3 hs0 hp2 hp3 FU _ q16 hq16 hp1 (fun e13_11 he16 hIE16 => ?_) (fun c16 hc16 => ?_)
      · subst he16
        replace h := el_l h
        have he13_11_0 := hIE16
        refine jj_lv (lv' := [(0, .ref a0), (2, .int (iI x2)), (3, .int (iI x3)), (4, .int (iI e13_11.1))]) [0, 1, 2, 3] rfl ?_
        exact hB69 e13_11.2 a0 x2 x3 e13_11.1 hs0 hp2 hp3 he13_11_0 h
      · subst hc16
        replace h := el_r h
        exact Option.some.inj h
    · replace h := (if_neg (Int.not_lt.mpr hc)).symm.trans h
      cases h
      exact jj_vret hC (c_le rfl) (c_le rfl) dX1_insertRange_9 ⟨rfl, trivial, rfl, rfl, rfl, rfl, rfl⟩
def fX1_sortRanges_B52 (ad S Ln : Nat → Nat) (R : gR) (M52 : gM) (l0_4 : Nat) (l1_4 : Int) (l2_52 : Int) (l3_52 : Int) : Option ((Int × Int × gM) ⊕ ((Int × gM) ⊕ (Int × gM))) :=
  some (.inl (l2_52, w32 (l3_52 + 1), M52))
def fX1_sortRanges_L4 (ad S Ln : Nat → Nat) (R : gR) (l0_4 : Nat) (l1_4 : Int) (s4 : Int × Int × gM) : Option ((Int × Int × gM) ⊕ ((Int × gM) ⊕ (Int × gM))) :=
  if (s4.2.2 l0_4 4) ≤ s4.2.1 then (some (.inr (.inl (s4.1, s4.2.2)))) else (rf S (R l0_4 1) 20 fun b2 => gd ((0 : Int) ≤ s4.2.1 ∧ s4.2.1 < (Ln b2 : Int)) (if l1_4 < (s4.2.2 b2 s4.2.1) then (fX1_sortRanges_B52 ad S Ln R s4.2.2 l0_4 l1_4 s4.1 s4.2.1) else (rf S (R l0_4 3) 20 fun b4 => gd ((0 : Int) ≤ s4.2.1 ∧ s4.2.1 < (Ln b4 : Int)) (if (s4.2.2 b4 s4.2.1) < l1_4 then (fX1_sortRanges_B52 ad S Ln R s4.2.2 l0_4 l1_4 s4.1 s4.2.1) else (rf S (R l0_4 0) 20 fun b6 => gd ((0 : Int) ≤ s4.2.1 ∧ s4.2.1 < (Ln b6 : Int)) (rf S (R l0_4 2) 20 fun b8 => gd ((0 : Int) ≤ s4.2.1 ∧ s4.2.1 < (Ln b8 : Int)) (bd (fX1_insertRange ad S Ln R s4.2.2 l0_4 s4.1 (s4.2.2 b6 s4.2.1) (s4.2.2 b8 s4.2.1)) fun q10 => fX1_sortRanges_B52 ad S Ln R q10 l0_4 l1_4 (w32 (s4.1 + 1)) s4.2.1)))))))
def fX1_sortRanges (ad S Ln : Nat → Nat) (R : gR) (M : gM) (a0 : Nat) (x1 : Int) : Option (Int × gM) :=
  bd (lp (fX1_sortRanges_L4 ad S Ln R a0 x1) FU (0, 0, M)) fun q12 => Sum.elim (fun e4_11 => some ((e4_11.1, e4_11.2))) (fun c12 => some c12) q12
theorem xX1_sortRanges {l : Launch} {G : gE} {sz : Nat} {S Ln : Nat → Nat} {M : gM} {R : gR} (hl : l.stackTraces = false) {a0 : Nat} (hs0 : S a0 = 6) {x1 : Int} (hp1 : (-2147483648 ≤ x1 ∧ x1 < 2147483648)) {r : Int × gM} (h : fX1_sortRanges G.2.2.2.2 S Ln R M a0 x1 = some r) : Ct l G yX1_sortRanges cX1_sortRanges 4 (some .int) 2 0 0 [.ref a0, .int (iI x1)] sz S Ln M R (poI r.1 sz S Ln (r.2) R) noX := by
  refine jj_start (own := RX1) (lv0 := [(0, .ref a0), (1, .int (iI x1))]) hl (by decide +kernel) rfl rfl (c_le rfl) (fun C hCl hC => ?_)
  have hL4 : ∀ (l0_4 : Nat) (l1_4 : Int), S l0_4 = 6 → (-2147483648 ≤ l1_4 ∧ l1_4 < 2147483648) → ∀ (n : Nat) (s4 : Int × Int × gM) (q : (Int × gM) ⊕ (Int × gM)), lp (fX1_sortRanges_L4 G.2.2.2.2 S Ln R l0_4 l1_4) n s4 = some q → (-2147483648 ≤ s4.1 ∧ s4.1 < 2147483648) ∧ (-2147483648 ≤ s4.2.1 ∧ s4.2.1 < 2147483648) → (∀ e4, q = .inl e4 → (-2147483648 ≤ e4.1 ∧ e4.1 < 2147483648) → JJ G C 0 0 sz S Ln e4.2 R 58 [(2, .int (iI e4.1))] []) → (∀ c, q = .inr c → c = r) → JJ G C 0 0 sz S Ln s4.2.2 R 4 [(0, .ref l0_4), (1, .int (iI l1_4)), (2, .int (iI s4.1)), (3, .int (iI s4.2.1))] [] := by
    intro l0_4 l1_4 hl0_4 hl1_4
    refine lp_ind ?_
    intro s4 r4 hI4 h hJ4 hE4 hR4
    obtain ⟨hs4_0, hs4_1⟩ := hI4
    have hB52 : ∀ (M52 : gM) (l2_52 : Int) (l3_52 : Int), (-2147483648 ≤ l2_52 ∧ l2_52 < 2147483648) → (-2147483648 ≤ l3_52 ∧ l3_52 < 2147483648) → fX1_sortRanges_B52 G.2.2.2.2 S Ln R M52 l0_4 l1_4 l2_52 l3_52 = some r4 → JJ G C 0 0 sz S Ln M52 R 52 [(0, .ref l0_4), (1, .int (iI l1_4)), (2, .int (iI l2_52)), (3, .int (iI l3_52))] [] := by
      intro M52 l2_52 l3_52 hl2_52 hl3_52 h
      unfold fX1_sortRanges_B52 at h
      refine jg_iinc (q := 3) (lv' := [(3, .int (iI (w32 (l3_52 + 1)))), (0, .ref l0_4), (1, .int (iI l1_4)), (2, .int (iI l2_52))]) hC dX1_sortRanges_52 rfl (by decide) rfl ?_
      refine jj_goto (tgt := 4) hC dX1_sortRanges_55 rfl ?_
      refine jj_lv (lv' := [(0, .ref l0_4), (1, .int (iI l1_4)), (2, .int (iI l2_52)), (3, .int (iI (w32 (l3_52 + 1))))]) [1, 2, 3, 0] rfl ?_
      exact hJ4 _ (Option.some.inj h).symm ⟨hl2_52, (w32_r _)⟩
    unfold fX1_sortRanges_L4 at h
    refine jj_iload_n hC dX1_sortRanges_4 rfl 3 rfl ?_
    refine jj_aload_n hC dX1_sortRanges_5 rfl 0 rfl ?_
    refine jg_I hC kfX1 4 rfl hl0_4 (by decide) wd965 rfl dX1_sortRanges_6 (fun hr1 => ?_)
    refine jj_icmp_ge (tgt := 58) hC dX1_sortRanges_9 rfl hs4_1 hr1 (fun hc => ?_) (fun hc => ?_)
    · replace h := (if_pos hc).symm.trans h
      refine jj_lv (lv' := [(2, .int (iI s4.1))]) [2] rfl ?_
      exact hE4 _ (Option.some.inj h).symm hs4_0
    · replace h := (if_neg (Int.not_le.mpr hc)).symm.trans h
      refine jj_aload_n hC dX1_sortRanges_12 rfl 0 rfl ?_
      obtain ⟨b2, hb2, hs2, h⟩ := rf_e h
      refine jg_R hC kfX1 1 rfl hl0_4 (by decide) wd962 rfl hb2 dX1_sortRanges_13 ?_
      refine jj_iload_n hC dX1_sortRanges_16 rfl 3 rfl ?_
      obtain ⟨⟨ha3, hb3⟩, h⟩ := gd_e h
      refine jj_iald hC hs2 ha3 hb3 dX1_sortRanges_17 (fun hr3 => ?_)
      refine jj_iload_n hC dX1_sortRanges_18 rfl 1 rfl ?_
      refine jj_icmp_gt (tgt := 52) hC dX1_sortRanges_19 rfl hr3 hl1_4 (fun hc => ?_) (fun hc => ?_)
      · replace h := (if_pos hc).symm.trans h
        refine jj_lv (lv' := [(0, .ref l0_4), (1, .int (iI l1_4)), (2, .int (iI s4.1)), (3, .int (iI s4.2.1))]) [0, 1, 2, 3] rfl ?_
        exact hB52 s4.2.2 s4.1 s4.2.1 hs4_0 hs4_1 h
      · replace h := (if_neg (Int.not_lt.mpr hc)).symm.trans h
        refine jj_iload_n hC dX1_sortRanges_22 rfl 1 rfl ?_
        refine jj_aload_n hC dX1_sortRanges_23 rfl 0 rfl ?_
        obtain ⟨b4, hb4, hs4, h⟩ := rf_e h
        refine jg_R hC kfX1 3 rfl hl0_4 (by decide) wd964 rfl hb4 dX1_sortRanges_24 ?_
        refine jj_iload_n hC dX1_sortRanges_27 rfl 3 rfl ?_
        obtain ⟨⟨ha5, hb5⟩, h⟩ := gd_e h
        refine jj_iald hC hs4 ha5 hb5 dX1_sortRanges_28 (fun hr5 => ?_)
        refine jj_icmp_gt (tgt := 52) hC dX1_sortRanges_29 rfl hl1_4 hr5 (fun hc => ?_) (fun hc => ?_)
        · replace h := (if_pos hc).symm.trans h
          refine jj_lv (lv' := [(0, .ref l0_4), (1, .int (iI l1_4)), (2, .int (iI s4.1)), (3, .int (iI s4.2.1))]) [0, 1, 2, 3] rfl ?_
          exact hB52 s4.2.2 s4.1 s4.2.1 hs4_0 hs4_1 h
        · replace h := (if_neg (Int.not_lt.mpr hc)).symm.trans h
          refine jj_aload_n hC dX1_sortRanges_32 rfl 0 rfl ?_
          refine jj_iload_n hC dX1_sortRanges_33 rfl 2 rfl ?_
          refine jj_aload_n hC dX1_sortRanges_34 rfl 0 rfl ?_
          obtain ⟨b6, hb6, hs6, h⟩ := rf_e h
          refine jg_R hC kfX1 0 rfl hl0_4 (by decide) wd961 rfl hb6 dX1_sortRanges_35 ?_
          refine jj_iload_n hC dX1_sortRanges_38 rfl 3 rfl ?_
          obtain ⟨⟨ha7, hb7⟩, h⟩ := gd_e h
          refine jj_iald hC hs6 ha7 hb7 dX1_sortRanges_39 (fun hr7 => ?_)
          refine jj_aload_n hC dX1_sortRanges_40 rfl 0 rfl ?_
          obtain ⟨b8, hb8, hs8, h⟩ := rf_e h
          refine jg_R hC kfX1 2 rfl hl0_4 (by decide) wd963 rfl hb8 dX1_sortRanges_41 ?_
          refine jj_iload_n hC dX1_sortRanges_44 rfl 3 rfl ?_
          obtain ⟨⟨ha9, hb9⟩, h⟩ := gd_e h
          refine jj_iald hC hs8 ha9 hb9 dX1_sortRanges_45 (fun hr9 => ?_)
          obtain ⟨q10, hq10, h⟩ := bd_e h
          refine jj_invV hC mvX1_insertRange wd1539 wd21 wd1537 hl0_4 (by decide) rfl (xX1_insertRange (OKC.tr hC) hl0_4 hs4_0 hr7 hr9 hq10) rfl rfl (c_le rfl) (c_le rfl) (c_le rfl) (c_le rfl) dX1_sortRanges_46 noXk (po_kV ?_)
          refine jg_iinc (q := 2) (lv' := [(2, .int (iI (w32 (s4.1 + 1)))), (0, .ref l0_4), (1, .int (iI l1_4)), (3, .int (iI s4.2.1))]) hC dX1_sortRanges_49 rfl (by decide) rfl ?_
          refine jj_lv (lv' := [(0, .ref l0_4), (1, .int (iI l1_4)), (2, .int (iI (w32 (s4.1 + 1)))), (3, .int (iI s4.2.1))]) [1, 2, 0, 3] rfl ?_
          exact hB52 q10 (w32 (s4.1 + 1)) s4.2.1 (w32_r _) hs4_1 h
  unfold fX1_sortRanges at h
  refine jj_iconst hC dX1_sortRanges_0 ?_
  refine jj_istore_n (lv' := [(2, .int (iI 0)), (0, .ref a0), (1, .int (iI x1))]) hC dX1_sortRanges_1 rfl (by decide) rfl ?_
  refine jj_iconst hC dX1_sortRanges_2 ?_
  refine jj_istore_n (lv' := [(3, .int (iI 0)), (2, .int (iI 0)), (0, .ref a0), (1, .int (iI x1))]) hC dX1_sortRanges_3 rfl (by decide) rfl ?_
  obtain ⟨q12, hq12, h⟩ := bd_e h
  refine jj_lv (lv' := [(0, .ref a0), (1, .int (iI x1)), (2, .int (iI 0)), (3, .int (iI 0))]) [2, 3, 1, 0] rfl ?_
  refine hL4 a0 x1 hs0 hp1 FU _ q12 hq12 ⟨(show (-2147483648 ≤ (0 : Int) ∧ (0 : Int) < 2147483648) from by decide), (show (-2147483648 ≤ (0 : Int) ∧ (0 : Int) < 2147483648) from by decide)⟩ (fun e4_11 he12 hIE12 => ?_) (fun c12 hc12 => ?_)
  · subst he12
    replace h := el_l h
    have he4_11_0 := hIE12
    refine jj_iload_n hC dX1_sortRanges_58 rfl 0 rfl ?_
    cases h
    exact jj_iret hC (c_le rfl) (c_le rfl) dX1_sortRanges_59 ⟨rfl, he4_11_0, rfl, rfl, rfl, rfl, rfl⟩
  · subst hc12
    replace h := el_r h
    exact Option.some.inj h
def fX1_countByRanges_B72 (ad S Ln : Nat → Nat) (R : gR) (M14 : gM) (l0_14 : Nat) (l2_14 : Int) (l3_72 : Int) (l4_72 : Int) (l5_72 : Int) : Option ((Int × Int × Int) ⊕ ((Int) ⊕ (Int × gM))) :=
  some (.inl (l3_72, l4_72, w32 (l5_72 + 1)))
def fX1_countByRanges_L14 (ad S Ln : Nat → Nat) (R : gR) (M14 : gM) (l0_14 : Nat) (l2_14 : Int) (s14 : Int × Int × Int) : Option ((Int × Int × Int) ⊕ ((Int) ⊕ (Int × gM))) :=
  if l2_14 ≤ s14.2.2 then (some (.inr (.inl s14.1))) else (rf S (R l0_14 5) 20 fun b2 => gd ((0 : Int) ≤ s14.2.2 ∧ s14.2.2 < (Ln b2 : Int)) (rf S (R l0_14 6) 20 fun b4 => gd ((0 : Int) ≤ s14.2.2 ∧ s14.2.2 < (Ln b4 : Int)) (if (M14 b4 s14.2.2) < (i_max (M14 b2 s14.2.2) (w32 (s14.2.1 + 1))) then (fX1_countByRanges_B72 ad S Ln R M14 l0_14 l2_14 s14.1 s14.2.1 s14.2.2) else (rf S (R l0_14 6) 20 fun b6 => gd ((0 : Int) ≤ s14.2.2 ∧ s14.2.2 < (Ln b6 : Int)) (rf S (R l0_14 6) 20 fun b8 => gd ((0 : Int) ≤ s14.2.2 ∧ s14.2.2 < (Ln b8 : Int)) (fX1_countByRanges_B72 ad S Ln R M14 l0_14 l2_14 (w32 (s14.1 + (w32 ((w32 ((M14 b6 s14.2.2) - (i_max (M14 b2 s14.2.2) (w32 (s14.2.1 + 1))))) + 1)))) (M14 b8 s14.2.2) s14.2.2))))))
def fX1_countByRanges (ad S Ln : Nat → Nat) (R : gR) (M : gM) (a0 : Nat) (x1 : Int) : Option (Int × gM) :=
  bd (fX1_sortRanges ad S Ln R M a0 x1) fun q1 => bd (lp (fX1_countByRanges_L14 ad S Ln R q1.2 a0 q1.1) FU (0, (-1), 0)) fun q11 => Sum.elim (fun e14_10 => some ((e14_10, q1.2))) (fun c11 => some c11) q11
theorem xX1_countByRanges {l : Launch} {G : gE} {sz : Nat} {S Ln : Nat → Nat} {M : gM} {R : gR} (hl : l.stackTraces = false) {a0 : Nat} (hs0 : S a0 = 6) {x1 : Int} (hp1 : (-2147483648 ≤ x1 ∧ x1 < 2147483648)) {r : Int × gM} (h : fX1_countByRanges G.2.2.2.2 S Ln R M a0 x1 = some r) : Ct l G yX1_countByRanges cX1_countByRanges 7 (some .int) 3 0 0 [.ref a0, .int (iI x1)] sz S Ln M R (poI r.1 sz S Ln (r.2) R) noX := by
  refine jj_start (own := RX1) (lv0 := [(0, .ref a0), (1, .int (iI x1))]) hl (by decide +kernel) rfl rfl (c_le rfl) (fun C hCl hC => ?_)
  have hL14 : ∀ (M14 : gM) (l0_14 : Nat) (l2_14 : Int), S l0_14 = 6 → (-2147483648 ≤ l2_14 ∧ l2_14 < 2147483648) → ∀ (n : Nat) (s14 : Int × Int × Int) (q : (Int) ⊕ (Int × gM)), lp (fX1_countByRanges_L14 G.2.2.2.2 S Ln R M14 l0_14 l2_14) n s14 = some q → (-2147483648 ≤ s14.1 ∧ s14.1 < 2147483648) ∧ (-2147483648 ≤ s14.2.1 ∧ s14.2.1 < 2147483648) ∧ (-2147483648 ≤ s14.2.2 ∧ s14.2.2 < 2147483648) → (∀ e14, q = .inl e14 → (-2147483648 ≤ e14 ∧ e14 < 2147483648) → JJ G C 0 0 sz S Ln M14 R 78 [(3, .int (iI e14))] []) → (∀ c, q = .inr c → c = r) → JJ G C 0 0 sz S Ln M14 R 14 [(0, .ref l0_14), (2, .int (iI l2_14)), (3, .int (iI s14.1)), (4, .int (iI s14.2.1)), (5, .int (iI s14.2.2))] [] := by
    intro M14 l0_14 l2_14 hl0_14 hl2_14
    refine lp_ind ?_
    intro s14 r14 hI14 h hJ14 hE14 hR14
    obtain ⟨hs14_0, hs14_1, hs14_2⟩ := hI14
    have hB72 : ∀ (l3_72 : Int) (l4_72 : Int) (l5_72 : Int), (-2147483648 ≤ l3_72 ∧ l3_72 < 2147483648) → (-2147483648 ≤ l4_72 ∧ l4_72 < 2147483648) → (-2147483648 ≤ l5_72 ∧ l5_72 < 2147483648) → fX1_countByRanges_B72 G.2.2.2.2 S Ln R M14 l0_14 l2_14 l3_72 l4_72 l5_72 = some r14 → JJ G C 0 0 sz S Ln M14 R 72 [(0, .ref l0_14), (2, .int (iI l2_14)), (3, .int (iI l3_72)), (4, .int (iI l4_72)), (5, .int (iI l5_72))] [] := by
      intro l3_72 l4_72 l5_72 hl3_72 hl4_72 hl5_72 h
      unfold fX1_countByRanges_B72 at h
      refine jg_iinc (q := 4) (lv' := [(5, .int (iI (w32 (l5_72 + 1)))), (0, .ref l0_14), (2, .int (iI l2_14)), (3, .int (iI l3_72)), (4, .int (iI l4_72))]) hC dX1_countByRanges_72 rfl (by decide) rfl ?_
      refine jj_goto (tgt := 14) hC dX1_countByRanges_75 rfl ?_
      refine jj_lv (lv' := [(0, .ref l0_14), (2, .int (iI l2_14)), (3, .int (iI l3_72)), (4, .int (iI l4_72)), (5, .int (iI (w32 (l5_72 + 1))))]) [1, 2, 3, 4, 0] rfl ?_
      exact hJ14 _ (Option.some.inj h).symm ⟨hl3_72, hl4_72, (w32_r _)⟩
    unfold fX1_countByRanges_L14 at h
    refine jj_iload hC dX1_countByRanges_14 4 rfl ?_
    refine jj_iload_n hC dX1_countByRanges_16 rfl 1 rfl ?_
    refine jj_icmp_ge (tgt := 78) hC dX1_countByRanges_17 rfl hs14_2 hl2_14 (fun hc => ?_) (fun hc => ?_)
    · replace h := (if_pos hc).symm.trans h
      refine jj_lv (lv' := [(3, .int (iI s14.1))]) [2] rfl ?_
      exact hE14 _ (Option.some.inj h).symm hs14_0
    · replace h := (if_neg (Int.not_le.mpr hc)).symm.trans h
      refine jj_aload_n hC dX1_countByRanges_20 rfl 0 rfl ?_
      obtain ⟨b2, hb2, hs2, h⟩ := rf_e h
      refine jg_R hC kfX1 5 rfl hl0_14 (by decide) wd967 rfl hb2 dX1_countByRanges_21 ?_
      refine jj_iload hC dX1_countByRanges_24 4 rfl ?_
      obtain ⟨⟨ha3, hb3⟩, h⟩ := gd_e h
      refine jj_iald hC hs2 ha3 hb3 dX1_countByRanges_26 (fun hr3 => ?_)
      refine jj_iload hC dX1_countByRanges_27 3 rfl ?_
      refine jj_iconst hC dX1_countByRanges_29 ?_
      refine jg_iadd hC dX1_countByRanges_30 ?_
      refine jj_mmax hC hr3 (w32_r _) wd1541 wd211 wd47 wd212 (c_le rfl) (c_le rfl) (c_le rfl) (c_le rfl) dX1_countByRanges_31 ?_
      refine jj_istore (lv' := [(6, .int (iI (i_max (M14 b2 s14.2.2) (w32 (s14.2.1 + 1))))), (0, .ref l0_14), (2, .int (iI l2_14)), (3, .int (iI s14.1)), (4, .int (iI s14.2.1)), (5, .int (iI s14.2.2))]) hC dX1_countByRanges_34 (by decide) rfl ?_
      refine jj_iload hC dX1_countByRanges_36 0 rfl ?_
      refine jj_aload_n hC dX1_countByRanges_38 rfl 1 rfl ?_
      obtain ⟨b4, hb4, hs4, h⟩ := rf_e h
      refine jg_R hC kfX1 6 rfl hl0_14 (by decide) wd968 rfl hb4 dX1_countByRanges_39 ?_
      refine jj_iload hC dX1_countByRanges_42 5 rfl ?_
      obtain ⟨⟨ha5, hb5⟩, h⟩ := gd_e h
      refine jj_iald hC hs4 ha5 hb5 dX1_countByRanges_44 (fun hr5 => ?_)
      refine jj_icmp_gt (tgt := 72) hC dX1_countByRanges_45 rfl (i_max_r hr3 (w32_r _)) hr5 (fun hc => ?_) (fun hc => ?_)
      · replace h := (if_pos hc).symm.trans h
        refine jj_lv (lv' := [(0, .ref l0_14), (2, .int (iI l2_14)), (3, .int (iI s14.1)), (4, .int (iI s14.2.1)), (5, .int (iI s14.2.2))]) [1, 2, 3, 4, 5] rfl ?_
        exact hB72 s14.1 s14.2.1 s14.2.2 hs14_0 hs14_1 hs14_2 h
      · replace h := (if_neg (Int.not_lt.mpr hc)).symm.trans h
        refine jj_iload_n hC dX1_countByRanges_48 rfl 3 rfl ?_
        refine jj_aload_n hC dX1_countByRanges_49 rfl 1 rfl ?_
        obtain ⟨b6, hb6, hs6, h⟩ := rf_e h
        refine jg_R hC kfX1 6 rfl hl0_14 (by decide) wd968 rfl hb6 dX1_countByRanges_50 ?_
        refine jj_iload hC dX1_countByRanges_53 5 rfl ?_
        obtain ⟨⟨ha7, hb7⟩, h⟩ := gd_e h
        refine jj_iald hC hs6 ha7 hb7 dX1_countByRanges_55 (fun hr7 => ?_)
        refine jj_iload hC dX1_countByRanges_56 0 rfl ?_
        refine jg_isub hC dX1_countByRanges_58 ?_
        refine jj_iconst hC dX1_countByRanges_59 ?_
        refine jg_iadd hC dX1_countByRanges_60 ?_
        refine jg_iadd hC dX1_countByRanges_61 ?_
        refine jj_istore_n (lv' := [(3, .int (iI (w32 (s14.1 + (w32 ((w32 ((M14 b6 s14.2.2) - (i_max (M14 b2 s14.2.2) (w32 (s14.2.1 + 1))))) + 1)))))), (6, .int (iI (i_max (M14 b2 s14.2.2) (w32 (s14.2.1 + 1))))), (0, .ref l0_14), (2, .int (iI l2_14)), (4, .int (iI s14.2.1)), (5, .int (iI s14.2.2))]) hC dX1_countByRanges_62 rfl (by decide) rfl ?_
        refine jj_aload_n hC dX1_countByRanges_63 rfl 2 rfl ?_
        obtain ⟨b8, hb8, hs8, h⟩ := rf_e h
        refine jg_R hC kfX1 6 rfl hl0_14 (by decide) wd968 rfl hb8 dX1_countByRanges_64 ?_
        refine jj_iload hC dX1_countByRanges_67 5 rfl ?_
        obtain ⟨⟨ha9, hb9⟩, h⟩ := gd_e h
        refine jj_iald hC hs8 ha9 hb9 dX1_countByRanges_69 (fun hr9 => ?_)
        refine jj_istore (lv' := [(4, .int (iI (M14 b8 s14.2.2))), (3, .int (iI (w32 (s14.1 + (w32 ((w32 ((M14 b6 s14.2.2) - (i_max (M14 b2 s14.2.2) (w32 (s14.2.1 + 1))))) + 1)))))), (6, .int (iI (i_max (M14 b2 s14.2.2) (w32 (s14.2.1 + 1))))), (0, .ref l0_14), (2, .int (iI l2_14)), (5, .int (iI s14.2.2))]) hC dX1_countByRanges_70 (by decide) rfl ?_
        refine jj_lv (lv' := [(0, .ref l0_14), (2, .int (iI l2_14)), (3, .int (iI (w32 (s14.1 + (w32 ((w32 ((M14 b6 s14.2.2) - (i_max (M14 b2 s14.2.2) (w32 (s14.2.1 + 1))))) + 1)))))), (4, .int (iI (M14 b8 s14.2.2))), (5, .int (iI s14.2.2))]) [3, 4, 1, 0, 5] rfl ?_
        exact hB72 (w32 (s14.1 + (w32 ((w32 ((M14 b6 s14.2.2) - (i_max (M14 b2 s14.2.2) (w32 (s14.2.1 + 1))))) + 1)))) (M14 b8 s14.2.2) s14.2.2 (w32_r _) hr9 hs14_2 h
  unfold fX1_countByRanges at h
  refine jj_aload_n hC dX1_countByRanges_0 rfl 0 rfl ?_
  refine jj_iload_n hC dX1_countByRanges_1 rfl 1 rfl ?_
  obtain ⟨q1, hq1, h⟩ := bd_e h
  refine jj_invV hC mvX1_sortRanges wd1535 wd20 wd1533 hs0 (by decide) rfl (xX1_sortRanges (OKC.tr hC) hs0 hp1 hq1) rfl rfl (c_le rfl) (c_le rfl) (c_le rfl) (c_le rfl) dX1_countByRanges_2 noXk (po_kI (fun hr1 => ?_))
  refine jj_istore_n (lv' := [(2, .int (iI q1.1)), (0, .ref a0), (1, .int (iI x1))]) hC dX1_countByRanges_5 rfl (by decide) rfl ?_
  refine jj_iconst hC dX1_countByRanges_6 ?_
  refine jj_istore_n (lv' := [(3, .int (iI 0)), (2, .int (iI q1.1)), (0, .ref a0), (1, .int (iI x1))]) hC dX1_countByRanges_7 rfl (by decide) rfl ?_
  refine jj_iconst hC dX1_countByRanges_8 ?_
  refine jj_istore (lv' := [(4, .int (iI (-1))), (3, .int (iI 0)), (2, .int (iI q1.1)), (0, .ref a0), (1, .int (iI x1))]) hC dX1_countByRanges_9 (by decide) rfl ?_
  refine jj_iconst hC dX1_countByRanges_11 ?_
  refine jj_istore (lv' := [(5, .int (iI 0)), (4, .int (iI (-1))), (3, .int (iI 0)), (2, .int (iI q1.1)), (0, .ref a0), (1, .int (iI x1))]) hC dX1_countByRanges_12 (by decide) rfl ?_
  obtain ⟨q11, hq11, h⟩ := bd_e h
  refine jj_lv (lv' := [(0, .ref a0), (2, .int (iI q1.1)), (3, .int (iI 0)), (4, .int (iI (-1))), (5, .int (iI 0))]) [4, 3, 2, 1, 0] rfl ?_
  refine hL14 q1.2 a0 q1.1 hs0 hr1 FU _ q11 hq11 ⟨(show (-2147483648 ≤ (0 : Int) ∧ (0 : Int) < 2147483648) from by decide), (show (-2147483648 ≤ ((-1) : Int) ∧ ((-1) : Int) < 2147483648) from by decide), (show (-2147483648 ≤ (0 : Int) ∧ (0 : Int) < 2147483648) from by decide)⟩ (fun e14_10 he11 hIE11 => ?_) (fun c11 hc11 => ?_)
  · subst he11
    replace h := el_l h
    have he14_10_0 := hIE11
    refine jj_iload_n hC dX1_countByRanges_78 rfl 0 rfl ?_
    cases h
    exact jj_iret hC (c_le rfl) (c_le rfl) dX1_countByRanges_79 ⟨rfl, he14_10_0, rfl, rfl, rfl, rfl, rfl⟩
  · subst hc11
    replace h := el_r h
    exact Option.some.inj h
def fX2_copyFrom (ad S Ln : Nat → Nat) (R : gR) (M : gM) (a0 : Nat) (x1 : Nat) : Option gM :=
  rf S (R x1 0) 20 fun b1 => rf S (R a0 0) 20 fun b2 => gd ((0 : Int) ≤ 0 ∧ (0 : Int) ≤ 0 ∧ (0 : Int) ≤ 8 ∧ 0 + 8 ≤ (Ln b1 : Int) ∧ 0 + 8 ≤ (Ln b2 : Int)) (nam (i_cpy M b1 b2 0 0 8) fun M3 => rf S (R x1 1) 20 fun b4 => rf S (R a0 1) 20 fun b5 => gd ((0 : Int) ≤ 0 ∧ (0 : Int) ≤ 0 ∧ (0 : Int) ≤ 8 ∧ 0 + 8 ≤ (Ln b4 : Int) ∧ 0 + 8 ≤ (Ln b5 : Int)) (nam (i_cpy M3 b4 b5 0 0 8) fun M6 => nam (wr M6 a0 2 (M6 x1 2)) fun M8 => rf S (R x1 3) 20 fun b9 => rf S (R a0 3) 20 fun b10 => gd ((0 : Int) ≤ 0 ∧ (0 : Int) ≤ 0 ∧ (0 : Int) ≤ 6 ∧ 0 + 6 ≤ (Ln b9 : Int) ∧ 0 + 6 ≤ (Ln b10 : Int)) (nam (i_cpy M8 b9 b10 0 0 6) fun M11 => rf S (R x1 4) 20 fun b12 => rf S (R a0 4) 20 fun b13 => gd ((0 : Int) ≤ 0 ∧ (0 : Int) ≤ 0 ∧ (0 : Int) ≤ 6 ∧ 0 + 6 ≤ (Ln b12 : Int) ∧ 0 + 6 ≤ (Ln b13 : Int)) (nam (i_cpy M11 b12 b13 0 0 6) fun M14 => nam (wr M14 a0 5 (M14 x1 5)) fun M16 => some (M16)))))
theorem xX2_copyFrom {l : Launch} {G : gE} {sz : Nat} {S Ln : Nat → Nat} {M : gM} {R : gR} (hl : l.stackTraces = false) {a0 : Nat} (hs0 : S a0 = 7) {x1 : Nat} (hp1 : S x1 = 7) {r : gM} (h : fX2_copyFrom G.2.2.2.2 S Ln R M a0 x1 = some r) : Ct l G yX2_copyFrom cX2_copyFrom 2 none 1 0 0 [.ref a0, .ref x1] sz S Ln M R (poV sz S Ln (r) R) noX := by
  refine jj_start (own := RX2) (lv0 := [(0, .ref a0), (1, .ref x1)]) hl (by decide +kernel) rfl rfl (c_le rfl) (fun C hCl hC => ?_)
  unfold fX2_copyFrom at h
  refine jj_aload_n hC dX2_copyFrom_0 rfl 1 rfl ?_
  obtain ⟨b1, hb1, hs1, h⟩ := rf_e h
  refine jg_R hC kfX2 0 rfl hp1 (by decide) wd901 rfl hb1 dX2_copyFrom_1 ?_
  refine jj_iconst hC dX2_copyFrom_4 ?_
  refine jj_aload_n hC dX2_copyFrom_5 rfl 0 rfl ?_
  obtain ⟨b2, hb2, hs2, h⟩ := rf_e h
  refine jg_R hC kfX2 0 rfl hs0 (by decide) wd901 rfl hb2 dX2_copyFrom_6 ?_
  refine jj_iconst hC dX2_copyFrom_9 ?_
  refine jj_bipush hC dX2_copyFrom_10 (by decide) ?_
  obtain ⟨⟨ha3, hb3, hc3, hd3, he3⟩, h⟩ := gd_e h
  obtain ⟨M3, hM3, h⟩ := nam_e h
  refine jj_copyI hC hs1 hs2 ha3 hb3 hc3 hd3 he3 wd518 wd233 wd232 wd45 (c_le rfl) (c_le rfl) dX2_copyFrom_12 (jj_M hM3 ?_)
  refine jj_aload_n hC dX2_copyFrom_15 rfl 1 rfl ?_
  obtain ⟨b4, hb4, hs4, h⟩ := rf_e h
  refine jg_R hC kfX2 1 rfl hp1 (by decide) wd903 rfl hb4 dX2_copyFrom_16 ?_
  refine jj_iconst hC dX2_copyFrom_19 ?_
  refine jj_aload_n hC dX2_copyFrom_20 rfl 0 rfl ?_
  obtain ⟨b5, hb5, hs5, h⟩ := rf_e h
  refine jg_R hC kfX2 1 rfl hs0 (by decide) wd903 rfl hb5 dX2_copyFrom_21 ?_
  refine jj_iconst hC dX2_copyFrom_24 ?_
  refine jj_bipush hC dX2_copyFrom_25 (by decide) ?_
  obtain ⟨⟨ha6, hb6, hc6, hd6, he6⟩, h⟩ := gd_e h
  obtain ⟨M6, hM6, h⟩ := nam_e h
  refine jj_copyI hC hs4 hs5 ha6 hb6 hc6 hd6 he6 wd518 wd233 wd232 wd45 (c_le rfl) (c_le rfl) dX2_copyFrom_27 (jj_M hM6 ?_)
  refine jj_aload_n hC dX2_copyFrom_30 rfl 0 rfl ?_
  refine jj_aload_n hC dX2_copyFrom_31 rfl 1 rfl ?_
  refine jg_I hC kfX2 2 rfl hp1 (by decide) wd905 rfl dX2_copyFrom_32 (fun hr7 => ?_)
  obtain ⟨M8, hM8, h⟩ := nam_e h
  refine jp_I hC kfX2 2 rfl hs0 rfl (by decide) wd905 rfl rfl rfl hr7 dX2_copyFrom_35 (jj_M hM8 ?_)
  refine jj_aload_n hC dX2_copyFrom_38 rfl 1 rfl ?_
  obtain ⟨b9, hb9, hs9, h⟩ := rf_e h
  refine jg_R hC kfX2 3 rfl hp1 (by decide) wd908 rfl hb9 dX2_copyFrom_39 ?_
  refine jj_iconst hC dX2_copyFrom_42 ?_
  refine jj_aload_n hC dX2_copyFrom_43 rfl 0 rfl ?_
  obtain ⟨b10, hb10, hs10, h⟩ := rf_e h
  refine jg_R hC kfX2 3 rfl hs0 (by decide) wd908 rfl hb10 dX2_copyFrom_44 ?_
  refine jj_iconst hC dX2_copyFrom_47 ?_
  refine jj_bipush hC dX2_copyFrom_48 (by decide) ?_
  obtain ⟨⟨ha11, hb11, hc11, hd11, he11⟩, h⟩ := gd_e h
  obtain ⟨M11, hM11, h⟩ := nam_e h
  refine jj_copyI hC hs9 hs10 ha11 hb11 hc11 hd11 he11 wd518 wd233 wd232 wd45 (c_le rfl) (c_le rfl) dX2_copyFrom_50 (jj_M hM11 ?_)
  refine jj_aload_n hC dX2_copyFrom_53 rfl 1 rfl ?_
  obtain ⟨b12, hb12, hs12, h⟩ := rf_e h
  refine jg_R hC kfX2 4 rfl hp1 (by decide) wd911 rfl hb12 dX2_copyFrom_54 ?_
  refine jj_iconst hC dX2_copyFrom_57 ?_
  refine jj_aload_n hC dX2_copyFrom_58 rfl 0 rfl ?_
  obtain ⟨b13, hb13, hs13, h⟩ := rf_e h
  refine jg_R hC kfX2 4 rfl hs0 (by decide) wd911 rfl hb13 dX2_copyFrom_59 ?_
  refine jj_iconst hC dX2_copyFrom_62 ?_
  refine jj_bipush hC dX2_copyFrom_63 (by decide) ?_
  obtain ⟨⟨ha14, hb14, hc14, hd14, he14⟩, h⟩ := gd_e h
  obtain ⟨M14, hM14, h⟩ := nam_e h
  refine jj_copyI hC hs12 hs13 ha14 hb14 hc14 hd14 he14 wd518 wd233 wd232 wd45 (c_le rfl) (c_le rfl) dX2_copyFrom_65 (jj_M hM14 ?_)
  refine jj_aload_n hC dX2_copyFrom_68 rfl 0 rfl ?_
  refine jj_aload_n hC dX2_copyFrom_69 rfl 1 rfl ?_
  refine jg_I hC kfX2 5 rfl hp1 (by decide) wd913 rfl dX2_copyFrom_70 (fun hr15 => ?_)
  obtain ⟨M16, hM16, h⟩ := nam_e h
  refine jp_I hC kfX2 5 rfl hs0 rfl (by decide) wd913 rfl rfl rfl hr15 dX2_copyFrom_73 (jj_M hM16 ?_)
  cases h
  exact jj_vret hC (c_le rfl) (c_le rfl) dX2_copyFrom_76 ⟨rfl, trivial, rfl, rfl, rfl, rfl, rfl⟩
def fX2_hasPoint (ad S Ln : Nat → Nat) (R : gR) (M : gM) (a0 : Nat) (x1 : Int) : Option Int :=
  if x1 < 0 then (some (0)) else (if (M a0 2) ≤ x1 then (some (0)) else (some (1)))
theorem xX2_hasPoint {l : Launch} {G : gE} {sz : Nat} {S Ln : Nat → Nat} {M : gM} {R : gR} (hl : l.stackTraces = false) {a0 : Nat} (hs0 : S a0 = 7) {x1 : Int} (hp1 : (-2147483648 ≤ x1 ∧ x1 < 2147483648)) {r : Int} (h : fX2_hasPoint G.2.2.2.2 S Ln R M a0 x1 = some r) : Ct l G yX2_hasPoint cX2_hasPoint 2 (some .boolean) 1 0 0 [.ref a0, .int (iI x1)] sz S Ln M R (poZ r sz S Ln (M) R) noX := by
  refine jj_start (own := RX2) (lv0 := [(0, .ref a0), (1, .int (iI x1))]) hl (by decide +kernel) rfl rfl (c_le rfl) (fun C hCl hC => ?_)
  unfold fX2_hasPoint at h
  refine jj_iload_n hC dX2_hasPoint_0 rfl 1 rfl ?_
  refine jj_if_lt (tgt := 16) hC dX2_hasPoint_1 rfl hp1 (fun hc => ?_) (fun hc => ?_)
  · replace h := (if_pos hc).symm.trans h
    refine jj_iconst hC dX2_hasPoint_16 ?_
    cases h
    exact jj_zret hC (show (0 ≤ (0 : Int) ∧ (0 : Int) ≤ 1) from by decide) (c_le rfl) (c_le rfl) dX2_hasPoint_17 ⟨rfl, (show (0 ≤ (0 : Int) ∧ (0 : Int) ≤ 1) from by decide), rfl, rfl, rfl, rfl, rfl⟩
  · replace h := (if_neg (Int.not_lt.mpr hc)).symm.trans h
    refine jj_iload_n hC dX2_hasPoint_4 rfl 1 rfl ?_
    refine jj_aload_n hC dX2_hasPoint_5 rfl 0 rfl ?_
    refine jg_I hC kfX2 2 rfl hs0 (by decide) wd905 rfl dX2_hasPoint_6 (fun hr1 => ?_)
    refine jj_icmp_ge (tgt := 16) hC dX2_hasPoint_9 rfl hp1 hr1 (fun hc => ?_) (fun hc => ?_)
    · replace h := (if_pos hc).symm.trans h
      refine jj_iconst hC dX2_hasPoint_16 ?_
      cases h
      exact jj_zret hC (show (0 ≤ (0 : Int) ∧ (0 : Int) ≤ 1) from by decide) (c_le rfl) (c_le rfl) dX2_hasPoint_17 ⟨rfl, (show (0 ≤ (0 : Int) ∧ (0 : Int) ≤ 1) from by decide), rfl, rfl, rfl, rfl, rfl⟩
    · replace h := (if_neg (Int.not_le.mpr hc)).symm.trans h
      refine jj_iconst hC dX2_hasPoint_12 ?_
      refine jj_goto (tgt := 17) hC dX2_hasPoint_13 rfl ?_
      cases h
      exact jj_zret hC (show (0 ≤ (1 : Int) ∧ (1 : Int) ≤ 1) from by decide) (c_le rfl) (c_le rfl) dX2_hasPoint_17 ⟨rfl, (show (0 ≤ (1 : Int) ∧ (1 : Int) ≤ 1) from by decide), rfl, rfl, rfl, rfl, rfl⟩
def fX2_hasStop (ad S Ln : Nat → Nat) (R : gR) (M : gM) (a0 : Nat) (x1 : Int) : Option Int :=
  if x1 < 0 then (some (0)) else (if (M a0 5) ≤ x1 then (some (0)) else (some (1)))
theorem xX2_hasStop {l : Launch} {G : gE} {sz : Nat} {S Ln : Nat → Nat} {M : gM} {R : gR} (hl : l.stackTraces = false) {a0 : Nat} (hs0 : S a0 = 7) {x1 : Int} (hp1 : (-2147483648 ≤ x1 ∧ x1 < 2147483648)) {r : Int} (h : fX2_hasStop G.2.2.2.2 S Ln R M a0 x1 = some r) : Ct l G yX2_hasStop cX2_hasStop 2 (some .boolean) 1 0 0 [.ref a0, .int (iI x1)] sz S Ln M R (poZ r sz S Ln (M) R) noX := by
  refine jj_start (own := RX2) (lv0 := [(0, .ref a0), (1, .int (iI x1))]) hl (by decide +kernel) rfl rfl (c_le rfl) (fun C hCl hC => ?_)
  unfold fX2_hasStop at h
  refine jj_iload_n hC dX2_hasStop_0 rfl 1 rfl ?_
  refine jj_if_lt (tgt := 16) hC dX2_hasStop_1 rfl hp1 (fun hc => ?_) (fun hc => ?_)
  · replace h := (if_pos hc).symm.trans h
    refine jj_iconst hC dX2_hasStop_16 ?_
    cases h
    exact jj_zret hC (show (0 ≤ (0 : Int) ∧ (0 : Int) ≤ 1) from by decide) (c_le rfl) (c_le rfl) dX2_hasStop_17 ⟨rfl, (show (0 ≤ (0 : Int) ∧ (0 : Int) ≤ 1) from by decide), rfl, rfl, rfl, rfl, rfl⟩
  · replace h := (if_neg (Int.not_lt.mpr hc)).symm.trans h
    refine jj_iload_n hC dX2_hasStop_4 rfl 1 rfl ?_
    refine jj_aload_n hC dX2_hasStop_5 rfl 0 rfl ?_
    refine jg_I hC kfX2 5 rfl hs0 (by decide) wd913 rfl dX2_hasStop_6 (fun hr1 => ?_)
    refine jj_icmp_ge (tgt := 16) hC dX2_hasStop_9 rfl hp1 hr1 (fun hc => ?_) (fun hc => ?_)
    · replace h := (if_pos hc).symm.trans h
      refine jj_iconst hC dX2_hasStop_16 ?_
      cases h
      exact jj_zret hC (show (0 ≤ (0 : Int) ∧ (0 : Int) ≤ 1) from by decide) (c_le rfl) (c_le rfl) dX2_hasStop_17 ⟨rfl, (show (0 ≤ (0 : Int) ∧ (0 : Int) ≤ 1) from by decide), rfl, rfl, rfl, rfl, rfl⟩
    · replace h := (if_neg (Int.not_le.mpr hc)).symm.trans h
      refine jj_iconst hC dX2_hasStop_12 ?_
      refine jj_goto (tgt := 17) hC dX2_hasStop_13 rfl ?_
      cases h
      exact jj_zret hC (show (0 ≤ (1 : Int) ∧ (1 : Int) ≤ 1) from by decide) (c_le rfl) (c_le rfl) dX2_hasStop_17 ⟨rfl, (show (0 ≤ (1 : Int) ∧ (1 : Int) ≤ 1) from by decide), rfl, rfl, rfl, rfl, rfl⟩
def fX2_putPoint (ad S Ln : Nat → Nat) (R : gR) (M : gM) (a0 : Nat) (x1 : Int) (x2 : Int) : Option (Int × gM) :=
  if (M a0 2) < 8 then (rf S (R a0 0) 20 fun b2 => gd ((0 : Int) ≤ (M a0 2) ∧ (M a0 2) < (Ln b2 : Int)) (nam (wr M b2 (M a0 2) x1) fun M4 => rf S (R a0 1) 20 fun b5 => gd ((0 : Int) ≤ (M4 a0 2) ∧ (M4 a0 2) < (Ln b5 : Int)) (nam (wr M4 b5 (M4 a0 2) x2) fun M7 => nam (wr M7 a0 2 (w32 ((M7 a0 2) + 1))) fun M9 => some ((w32 ((M9 a0 2) - 1), M9))))) else (some (((-1), M)))
theorem xX2_putPoint {l : Launch} {G : gE} {sz : Nat} {S Ln : Nat → Nat} {M : gM} {R : gR} (hl : l.stackTraces = false) {a0 : Nat} (hs0 : S a0 = 7) {x1 : Int} (hp1 : (-2147483648 ≤ x1 ∧ x1 < 2147483648)) {x2 : Int} (hp2 : (-2147483648 ≤ x2 ∧ x2 < 2147483648)) {r : Int × gM} (h : fX2_putPoint G.2.2.2.2 S Ln R M a0 x1 x2 = some r) : Ct l G yX2_putPoint cX2_putPoint 3 (some .int) 1 0 0 [.ref a0, .int (iI x1), .int (iI x2)] sz S Ln M R (poI r.1 sz S Ln (r.2) R) noX := by
  refine jj_start (own := RX2) (lv0 := [(0, .ref a0), (1, .int (iI x1)), (2, .int (iI x2))]) hl (by decide +kernel) rfl rfl (c_le rfl) (fun C hCl hC => ?_)
  unfold fX2_putPoint at h
  refine jj_aload_n hC dX2_putPoint_0 rfl 0 rfl ?_
  refine jg_I hC kfX2 2 rfl hs0 (by decide) wd905 rfl dX2_putPoint_1 (fun hr1 => ?_)
  refine jj_bipush hC dX2_putPoint_4 (by decide) ?_
  refine jj_icmp_lt (tgt := 11) hC dX2_putPoint_6 rfl hr1 (show (-2147483648 ≤ (8 : Int) ∧ (8 : Int) < 2147483648) from by decide) (fun hc => ?_) (fun hc => ?_)
  · replace h := (if_pos hc).symm.trans h
    refine jj_aload_n hC dX2_putPoint_11 rfl 0 rfl ?_
    obtain ⟨b2, hb2, hs2, h⟩ := rf_e h
    refine jg_R hC kfX2 0 rfl hs0 (by decide) wd901 rfl hb2 dX2_putPoint_12 ?_
    refine jj_aload_n hC dX2_putPoint_15 rfl 0 rfl ?_
    refine jg_I hC kfX2 2 rfl hs0 (by decide) wd905 rfl dX2_putPoint_16 (fun hr3 => ?_)
    refine jj_iload_n hC dX2_putPoint_19 rfl 1 rfl ?_
    obtain ⟨⟨ha4, hb4⟩, h⟩ := gd_e h
    obtain ⟨M4, hM4, h⟩ := nam_e h
    refine jj_iast hC hs2 ha4 hb4 hp1 dX2_putPoint_20 (jj_M hM4 ?_)
    refine jj_aload_n hC dX2_putPoint_21 rfl 0 rfl ?_
    obtain ⟨b5, hb5, hs5, h⟩ := rf_e h
    refine jg_R hC kfX2 1 rfl hs0 (by decide) wd903 rfl hb5 dX2_putPoint_22 ?_
    refine jj_aload_n hC dX2_putPoint_25 rfl 0 rfl ?_
    refine jg_I hC kfX2 2 rfl hs0 (by decide) wd905 rfl dX2_putPoint_26 (fun hr6 => ?_)
    refine jj_iload_n hC dX2_putPoint_29 rfl 2 rfl ?_
    obtain ⟨⟨ha7, hb7⟩, h⟩ := gd_e h
    obtain ⟨M7, hM7, h⟩ := nam_e h
    refine jj_iast hC hs5 ha7 hb7 hp2 dX2_putPoint_30 (jj_M hM7 ?_)
    refine jj_aload_n hC dX2_putPoint_31 rfl 0 rfl ?_
    refine jj_dup hC dX2_putPoint_32 rfl ?_
    refine jg_I hC kfX2 2 rfl hs0 (by decide) wd905 rfl dX2_putPoint_33 (fun hr8 => ?_)
    refine jj_iconst hC dX2_putPoint_36 ?_
    refine jg_iadd hC dX2_putPoint_37 ?_
    obtain ⟨M9, hM9, h⟩ := nam_e h
    refine jp_I hC kfX2 2 rfl hs0 rfl (by decide) wd905 rfl rfl rfl (w32_r _) dX2_putPoint_38 (jj_M hM9 ?_)
    refine jj_aload_n hC dX2_putPoint_41 rfl 0 rfl ?_
    refine jg_I hC kfX2 2 rfl hs0 (by decide) wd905 rfl dX2_putPoint_42 (fun hr10 => ?_)
    refine jj_iconst hC dX2_putPoint_45 ?_
    refine jg_isub hC dX2_putPoint_46 ?_
    cases h
    exact jj_iret hC (c_le rfl) (c_le rfl) dX2_putPoint_47 ⟨rfl, (w32_r _), rfl, rfl, rfl, rfl, rfl⟩
  · replace h := (if_neg (Int.not_lt.mpr hc)).symm.trans h
    refine jj_iconst hC dX2_putPoint_9 ?_
    cases h
    exact jj_iret hC (c_le rfl) (c_le rfl) dX2_putPoint_10 ⟨rfl, (show (-2147483648 ≤ ((-1) : Int) ∧ ((-1) : Int) < 2147483648) from by decide), rfl, rfl, rfl, rfl, rfl⟩
def fX2_spanTo (ad S Ln : Nat → Nat) (R : gR) (M : gM) (a0 : Nat) (x1 : Int) (x2 : Int) (x3 : Int) : Option Int :=
  if x1 < 0 then (some (0)) else (if x1 < (M a0 2) then (rf S (R a0 0) 20 fun b2 => gd ((0 : Int) ≤ x1 ∧ x1 < (Ln b2 : Int)) (rf S (R a0 1) 20 fun b4 => gd ((0 : Int) ≤ x1 ∧ x1 < (Ln b4 : Int)) (some (w32 ((i_abs (w32 ((M b2 x1) - x2))) + (i_abs (w32 ((M b4 x1) - x3)))))))) else (some (0)))
theorem xX2_spanTo {l : Launch} {G : gE} {sz : Nat} {S Ln : Nat → Nat} {M : gM} {R : gR} (hl : l.stackTraces = false) {a0 : Nat} (hs0 : S a0 = 7) {x1 : Int} (hp1 : (-2147483648 ≤ x1 ∧ x1 < 2147483648)) {x2 : Int} (hp2 : (-2147483648 ≤ x2 ∧ x2 < 2147483648)) {x3 : Int} (hp3 : (-2147483648 ≤ x3 ∧ x3 < 2147483648)) {r : Int} (h : fX2_spanTo G.2.2.2.2 S Ln R M a0 x1 x2 x3 = some r) : Ct l G yX2_spanTo cX2_spanTo 4 (some .int) 1 0 0 [.ref a0, .int (iI x1), .int (iI x2), .int (iI x3)] sz S Ln M R (poI r sz S Ln (M) R) noX := by
  refine jj_start (own := RX2) (lv0 := [(0, .ref a0), (1, .int (iI x1)), (2, .int (iI x2)), (3, .int (iI x3))]) hl (by decide +kernel) rfl rfl (c_le rfl) (fun C hCl hC => ?_)
  unfold fX2_spanTo at h
  refine jj_iload_n hC dX2_spanTo_0 rfl 1 rfl ?_
  refine jj_if_lt (tgt := 12) hC dX2_spanTo_1 rfl hp1 (fun hc => ?_) (fun hc => ?_)
  · replace h := (if_pos hc).symm.trans h
    refine jj_iconst hC dX2_spanTo_12 ?_
    cases h
    exact jj_iret hC (c_le rfl) (c_le rfl) dX2_spanTo_13 ⟨rfl, (show (-2147483648 ≤ (0 : Int) ∧ (0 : Int) < 2147483648) from by decide), rfl, rfl, rfl, rfl, rfl⟩
  · replace h := (if_neg (Int.not_lt.mpr hc)).symm.trans h
    refine jj_iload_n hC dX2_spanTo_4 rfl 1 rfl ?_
    refine jj_aload_n hC dX2_spanTo_5 rfl 0 rfl ?_
    refine jg_I hC kfX2 2 rfl hs0 (by decide) wd905 rfl dX2_spanTo_6 (fun hr1 => ?_)
    refine jj_icmp_lt (tgt := 14) hC dX2_spanTo_9 rfl hp1 hr1 (fun hc => ?_) (fun hc => ?_)
    · replace h := (if_pos hc).symm.trans h
      refine jj_aload_n hC dX2_spanTo_14 rfl 0 rfl ?_
      obtain ⟨b2, hb2, hs2, h⟩ := rf_e h
      refine jg_R hC kfX2 0 rfl hs0 (by decide) wd901 rfl hb2 dX2_spanTo_15 ?_
      refine jj_iload_n hC dX2_spanTo_18 rfl 1 rfl ?_
      obtain ⟨⟨ha3, hb3⟩, h⟩ := gd_e h
      refine jj_iald hC hs2 ha3 hb3 dX2_spanTo_19 (fun hr3 => ?_)
      refine jj_iload_n hC dX2_spanTo_20 rfl 2 rfl ?_
      refine jg_isub hC dX2_spanTo_21 ?_
      refine jg_mabs hC (w32_r _) wd727 wd728 wd47 wd729 (c_le rfl) (c_le rfl) (c_le rfl) (c_le rfl) dX2_spanTo_22 ?_
      refine jj_aload_n hC dX2_spanTo_25 rfl 0 rfl ?_
      obtain ⟨b4, hb4, hs4, h⟩ := rf_e h
      refine jg_R hC kfX2 1 rfl hs0 (by decide) wd903 rfl hb4 dX2_spanTo_26 ?_
      refine jj_iload_n hC dX2_spanTo_29 rfl 1 rfl ?_
      obtain ⟨⟨ha5, hb5⟩, h⟩ := gd_e h
      refine jj_iald hC hs4 ha5 hb5 dX2_spanTo_30 (fun hr5 => ?_)
      refine jj_iload_n hC dX2_spanTo_31 rfl 3 rfl ?_
      refine jg_isub hC dX2_spanTo_32 ?_
      refine jg_mabs hC (w32_r _) wd727 wd728 wd47 wd729 (c_le rfl) (c_le rfl) (c_le rfl) (c_le rfl) dX2_spanTo_33 ?_
      refine jg_iadd hC dX2_spanTo_36 ?_
      cases h
      exact jj_iret hC (c_le rfl) (c_le rfl) dX2_spanTo_37 ⟨rfl, (w32_r _), rfl, rfl, rfl, rfl, rfl⟩
    · replace h := (if_neg (Int.not_lt.mpr hc)).symm.trans h
      refine jj_iconst hC dX2_spanTo_12 ?_
      cases h
      exact jj_iret hC (c_le rfl) (c_le rfl) dX2_spanTo_13 ⟨rfl, (show (-2147483648 ≤ (0 : Int) ∧ (0 : Int) < 2147483648) from by decide), rfl, rfl, rfl, rfl, rfl⟩
def fX2_span (ad S Ln : Nat → Nat) (R : gR) (M : gM) (a0 : Nat) (x1 : Int) (x2 : Int) : Option Int :=
  bd (fX2_hasPoint ad S Ln R M a0 x2) fun q1 => if ¬ q1 = 0 then (rf S (R a0 0) 20 fun b2 => gd ((0 : Int) ≤ x2 ∧ x2 < (Ln b2 : Int)) (rf S (R a0 1) 20 fun b4 => gd ((0 : Int) ≤ x2 ∧ x2 < (Ln b4 : Int)) (bd (fX2_spanTo ad S Ln R M a0 x1 (M b2 x2) (M b4 x2)) fun q6 => some (q6)))) else (some (0))
theorem xX2_span {l : Launch} {G : gE} {sz : Nat} {S Ln : Nat → Nat} {M : gM} {R : gR} (hl : l.stackTraces = false) {a0 : Nat} (hs0 : S a0 = 7) {x1 : Int} (hp1 : (-2147483648 ≤ x1 ∧ x1 < 2147483648)) {x2 : Int} (hp2 : (-2147483648 ≤ x2 ∧ x2 < 2147483648)) {r : Int} (h : fX2_span G.2.2.2.2 S Ln R M a0 x1 x2 = some r) : Ct l G yX2_span cX2_span 3 (some .int) 2 0 0 [.ref a0, .int (iI x1), .int (iI x2)] sz S Ln M R (poI r sz S Ln (M) R) noX := by
  refine jj_start (own := RX2) (lv0 := [(0, .ref a0), (1, .int (iI x1)), (2, .int (iI x2))]) hl (by decide +kernel) rfl rfl (c_le rfl) (fun C hCl hC => ?_)
  unfold fX2_span at h
  refine jj_aload_n hC dX2_span_0 rfl 0 rfl ?_
  refine jj_iload_n hC dX2_span_1 rfl 2 rfl ?_
  obtain ⟨q1, hq1, h⟩ := bd_e h
  refine jj_invV hC mvX2_hasPoint wd658 wd659 wd1179 hs0 (by decide) rfl (xX2_hasPoint (OKC.tr hC) hs0 hp2 hq1) rfl rfl (c_le rfl) (c_le rfl) (c_le rfl) (c_le rfl) dX2_span_2 noXk (po_kZ (fun hr1 => ?_))
  refine jj_if_ne (tgt := 10) hC dX2_span_5 rfl (r_z hr1) (fun hc => ?_) (fun hc => ?_)
  · replace h := (if_pos hc).symm.trans h
    refine jj_aload_n hC dX2_span_10 rfl 0 rfl ?_
    refine jj_iload_n hC dX2_span_11 rfl 1 rfl ?_
    refine jj_aload_n hC dX2_span_12 rfl 0 rfl ?_
    obtain ⟨b2, hb2, hs2, h⟩ := rf_e h
    refine jg_R hC kfX2 0 rfl hs0 (by decide) wd901 rfl hb2 dX2_span_13 ?_
    refine jj_iload_n hC dX2_span_16 rfl 2 rfl ?_
    obtain ⟨⟨ha3, hb3⟩, h⟩ := gd_e h
    refine jj_iald hC hs2 ha3 hb3 dX2_span_17 (fun hr3 => ?_)
    refine jj_aload_n hC dX2_span_18 rfl 0 rfl ?_
    obtain ⟨b4, hb4, hs4, h⟩ := rf_e h
    refine jg_R hC kfX2 1 rfl hs0 (by decide) wd903 rfl hb4 dX2_span_19 ?_
    refine jj_iload_n hC dX2_span_22 rfl 2 rfl ?_
    obtain ⟨⟨ha5, hb5⟩, h⟩ := gd_e h
    refine jj_iald hC hs4 ha5 hb5 dX2_span_23 (fun hr5 => ?_)
    obtain ⟨q6, hq6, h⟩ := bd_e h
    refine jj_invV hC mvX2_spanTo wd724 wd725 wd723 hs0 (by decide) rfl (xX2_spanTo (OKC.tr hC) hs0 hp1 hr3 hr5 hq6) rfl rfl (c_le rfl) (c_le rfl) (c_le rfl) (c_le rfl) dX2_span_24 noXk (po_kI (fun hr6 => ?_))
    cases h
    exact jj_iret hC (c_le rfl) (c_le rfl) dX2_span_27 ⟨rfl, hr6, rfl, rfl, rfl, rfl, rfl⟩
  · replace h := (if_neg (fun k => k hc)).symm.trans h
    refine jj_iconst hC dX2_span_8 ?_
    cases h
    exact jj_iret hC (c_le rfl) (c_le rfl) dX2_span_9 ⟨rfl, (show (-2147483648 ≤ (0 : Int) ∧ (0 : Int) < 2147483648) from by decide), rfl, rfl, rfl, rfl, rfl⟩
def fX2_putStop_B48 (ad S Ln : Nat → Nat) (R : gR) (M48 : gM) (l0_48 : Nat) (l1_48 : Int) : Option (Int × gM) :=
  rf S (R l0_48 3) 20 fun b3 => gd ((0 : Int) ≤ (M48 l0_48 5) ∧ (M48 l0_48 5) < (Ln b3 : Int)) (nam (wr M48 b3 (M48 l0_48 5) l1_48) fun M5 => nam (wr M5 l0_48 5 (w32 ((M5 l0_48 5) + 1))) fun M7 => some ((M7 l0_48 5, M7)))
def fX2_putStop (ad S Ln : Nat → Nat) (R : gR) (M : gM) (a0 : Nat) (x1 : Int) : Option (Int × gM) :=
  if (M a0 5) < 6 then (if (M a0 5) ≤ 0 then (fX2_putStop_B48 ad S Ln R M a0 x1) else (rf S (R a0 4) 20 fun b9 => rf S (R a0 3) 20 fun b11 => gd ((0 : Int) ≤ (w32 ((M a0 5) - 1)) ∧ (w32 ((M a0 5) - 1)) < (Ln b11 : Int)) (bd (fX2_span ad S Ln R M a0 (M b11 (w32 ((M a0 5) - 1))) x1) fun q14 => gd ((0 : Int) ≤ (w32 ((M a0 5) - 1)) ∧ (w32 ((M a0 5) - 1)) < (Ln b9 : Int)) (nam (wr M b9 (w32 ((M a0 5) - 1)) q14) fun M15 => fX2_putStop_B48 ad S Ln R M15 a0 x1)))) else (some ((M a0 5, M)))
theorem xX2_putStop {l : Launch} {G : gE} {sz : Nat} {S Ln : Nat → Nat} {M : gM} {R : gR} (hl : l.stackTraces = false) {a0 : Nat} (hs0 : S a0 = 7) {x1 : Int} (hp1 : (-2147483648 ≤ x1 ∧ x1 < 2147483648)) {r : Int × gM} (h : fX2_putStop G.2.2.2.2 S Ln R M a0 x1 = some r) : Ct l G yX2_putStop cX2_putStop 2 (some .int) 3 0 0 [.ref a0, .int (iI x1)] sz S Ln M R (poI r.1 sz S Ln (r.2) R) noX := by
  refine jj_start (own := RX2) (lv0 := [(0, .ref a0), (1, .int (iI x1))]) hl (by decide +kernel) rfl rfl (c_le rfl) (fun C hCl hC => ?_)
  have hB48 : ∀ (M48 : gM) (l0_48 : Nat) (l1_48 : Int), S l0_48 = 7 → (-2147483648 ≤ l1_48 ∧ l1_48 < 2147483648) → fX2_putStop_B48 G.2.2.2.2 S Ln R M48 l0_48 l1_48 = some r → JJ G C 0 0 sz S Ln M48 R 48 [(0, .ref l0_48), (1, .int (iI l1_48))] [] := by
    intro M48 l0_48 l1_48 hl0_48 hl1_48 h
    unfold fX2_putStop_B48 at h
    refine jj_aload_n hC dX2_putStop_48 rfl 0 rfl ?_
    obtain ⟨b3, hb3, hs3, h⟩ := rf_e h
    refine jg_R hC kfX2 3 rfl hl0_48 (by decide) wd908 rfl hb3 dX2_putStop_49 ?_
    refine jj_aload_n hC dX2_putStop_52 rfl 0 rfl ?_
    refine jg_I hC kfX2 5 rfl hl0_48 (by decide) wd913 rfl dX2_putStop_53 (fun hr4 => ?_)
    refine jj_iload_n hC dX2_putStop_56 rfl 1 rfl ?_
    obtain ⟨⟨ha5, hb5⟩, h⟩ := gd_e h
    obtain ⟨M5, hM5, h⟩ := nam_e h
    refine jj_iast hC hs3 ha5 hb5 hl1_48 dX2_putStop_57 (jj_M hM5 ?_)
    refine jj_aload_n hC dX2_putStop_58 rfl 0 rfl ?_
    refine jj_dup hC dX2_putStop_59 rfl ?_
    refine jg_I hC kfX2 5 rfl hl0_48 (by decide) wd913 rfl dX2_putStop_60 (fun hr6 => ?_)
    refine jj_iconst hC dX2_putStop_63 ?_
    refine jg_iadd hC dX2_putStop_64 ?_
    obtain ⟨M7, hM7, h⟩ := nam_e h
    refine jp_I hC kfX2 5 rfl hl0_48 rfl (by decide) wd913 rfl rfl rfl (w32_r _) dX2_putStop_65 (jj_M hM7 ?_)
    refine jj_aload_n hC dX2_putStop_68 rfl 0 rfl ?_
    refine jg_I hC kfX2 5 rfl hl0_48 (by decide) wd913 rfl dX2_putStop_69 (fun hr8 => ?_)
    cases h
    exact jj_iret hC (c_le rfl) (c_le rfl) dX2_putStop_72 ⟨rfl, hr8, rfl, rfl, rfl, rfl, rfl⟩
  unfold fX2_putStop at h
  refine jj_aload_n hC dX2_putStop_0 rfl 0 rfl ?_
  refine jg_I hC kfX2 5 rfl hs0 (by decide) wd913 rfl dX2_putStop_1 (fun hr1 => ?_)
  refine jj_bipush hC dX2_putStop_4 (by decide) ?_
  refine jj_icmp_lt (tgt := 14) hC dX2_putStop_6 rfl hr1 (show (-2147483648 ≤ (6 : Int) ∧ (6 : Int) < 2147483648) from by decide) (fun hc => ?_) (fun hc => ?_)
  · replace h := (if_pos hc).symm.trans h
    refine jj_aload_n hC dX2_putStop_14 rfl 0 rfl ?_
    refine jg_I hC kfX2 5 rfl hs0 (by decide) wd913 rfl dX2_putStop_15 (fun hr2 => ?_)
    refine jj_if_le (tgt := 48) hC dX2_putStop_18 rfl hr2 (fun hc => ?_) (fun hc => ?_)
    · replace h := (if_pos hc).symm.trans h
      refine jj_lv (lv' := [(0, .ref a0), (1, .int (iI x1))]) [0, 1] rfl ?_
      exact hB48 M a0 x1 hs0 hp1 h
    · replace h := (if_neg (Int.not_le.mpr hc)).symm.trans h
      refine jj_aload_n hC dX2_putStop_21 rfl 0 rfl ?_
      obtain ⟨b9, hb9, hs9, h⟩ := rf_e h
      refine jg_R hC kfX2 4 rfl hs0 (by decide) wd911 rfl hb9 dX2_putStop_22 ?_
      refine jj_aload_n hC dX2_putStop_25 rfl 0 rfl ?_
      refine jg_I hC kfX2 5 rfl hs0 (by decide) wd913 rfl dX2_putStop_26 (fun hr10 => ?_)
      refine jj_iconst hC dX2_putStop_29 ?_
      refine jg_isub hC dX2_putStop_30 ?_
      refine jj_aload_n hC dX2_putStop_31 rfl 0 rfl ?_
      refine jj_aload_n hC dX2_putStop_32 rfl 0 rfl ?_
      obtain ⟨b11, hb11, hs11, h⟩ := rf_e h
      refine jg_R hC kfX2 3 rfl hs0 (by decide) wd908 rfl hb11 dX2_putStop_33 ?_
      refine jj_aload_n hC dX2_putStop_36 rfl 0 rfl ?_
      refine jg_I hC kfX2 5 rfl hs0 (by decide) wd913 rfl dX2_putStop_37 (fun hr12 => ?_)
      refine jj_iconst hC dX2_putStop_40 ?_
      refine jg_isub hC dX2_putStop_41 ?_
      obtain ⟨⟨ha13, hb13⟩, h⟩ := gd_e h
      refine jj_iald hC hs11 ha13 hb13 dX2_putStop_42 (fun hr13 => ?_)
      refine jj_iload_n hC dX2_putStop_43 rfl 1 rfl ?_
      obtain ⟨q14, hq14, h⟩ := bd_e h
      refine jj_invV hC mvX2_span wd1176 wd1177 wd1175 hs0 (by decide) rfl (xX2_span (OKC.tr hC) hs0 hr13 hp1 hq14) rfl rfl (c_le rfl) (c_le rfl) (c_le rfl) (c_le rfl) dX2_putStop_44 noXk (po_kI (fun hr14 => ?_))
      obtain ⟨⟨ha15, hb15⟩, h⟩ := gd_e h
      obtain ⟨M15, hM15, h⟩ := nam_e h
      refine jj_iast hC hs9 ha15 hb15 hr14 dX2_putStop_47 (jj_M hM15 ?_)
      refine jj_lv (lv' := [(0, .ref a0), (1, .int (iI x1))]) [0, 1] rfl ?_
      exact hB48 M15 a0 x1 hs0 hp1 h
  · replace h := (if_neg (Int.not_lt.mpr hc)).symm.trans h
    refine jj_aload_n hC dX2_putStop_9 rfl 0 rfl ?_
    refine jg_I hC kfX2 5 rfl hs0 (by decide) wd913 rfl dX2_putStop_10 (fun hr16 => ?_)
    cases h
    exact jj_iret hC (c_le rfl) (c_le rfl) dX2_putStop_13 ⟨rfl, hr16, rfl, rfl, rfl, rfl, rfl⟩
def fX2_dropStops (ad S Ln : Nat → Nat) (R : gR) (M : gM) (a0 : Nat) : Option (Int × gM) :=
  nam (wr M a0 5 0) fun M2 => some ((M a0 5, M2))
theorem xX2_dropStops {l : Launch} {G : gE} {sz : Nat} {S Ln : Nat → Nat} {M : gM} {R : gR} (hl : l.stackTraces = false) {a0 : Nat} (hs0 : S a0 = 7) {r : Int × gM} (h : fX2_dropStops G.2.2.2.2 S Ln R M a0 = some r) : Ct l G yX2_dropStops cX2_dropStops 2 (some .int) 1 0 0 [.ref a0] sz S Ln M R (poI r.1 sz S Ln (r.2) R) noX := by
  refine jj_start (own := RX2) (lv0 := [(0, .ref a0)]) hl (by decide +kernel) rfl rfl (c_le rfl) (fun C hCl hC => ?_)
  unfold fX2_dropStops at h
  refine jj_aload_n hC dX2_dropStops_0 rfl 0 rfl ?_
  refine jg_I hC kfX2 5 rfl hs0 (by decide) wd913 rfl dX2_dropStops_1 (fun hr1 => ?_)
  refine jj_istore_n (lv' := [(1, .int (iI (M a0 5))), (0, .ref a0)]) hC dX2_dropStops_4 rfl (by decide) rfl ?_
  refine jj_aload_n hC dX2_dropStops_5 rfl 1 rfl ?_
  refine jj_iconst hC dX2_dropStops_6 ?_
  obtain ⟨M2, hM2, h⟩ := nam_e h
  refine jp_I hC kfX2 5 rfl hs0 rfl (by decide) wd913 rfl rfl rfl (show (-2147483648 ≤ (0 : Int) ∧ (0 : Int) < 2147483648) from by decide) dX2_dropStops_7 (jj_M hM2 ?_)
  refine jj_iload_n hC dX2_dropStops_10 rfl 0 rfl ?_
  cases h
  exact jj_iret hC (c_le rfl) (c_le rfl) dX2_dropStops_11 ⟨rfl, hr1, rfl, rfl, rfl, rfl, rfl⟩
def fX2_spanToStop (ad S Ln : Nat → Nat) (R : gR) (M : gM) (a0 : Nat) (x1 : Int) (x2 : Int) (x3 : Int) : Option Int :=
  bd (fX2_hasStop ad S Ln R M a0 x1) fun q1 => if ¬ q1 = 0 then (rf S (R a0 3) 20 fun b2 => gd ((0 : Int) ≤ x1 ∧ x1 < (Ln b2 : Int)) (bd (fX2_spanTo ad S Ln R M a0 (M b2 x1) x2 x3) fun q4 => some (q4))) else (some (0))
theorem xX2_spanToStop {l : Launch} {G : gE} {sz : Nat} {S Ln : Nat → Nat} {M : gM} {R : gR} (hl : l.stackTraces = false) {a0 : Nat} (hs0 : S a0 = 7) {x1 : Int} (hp1 : (-2147483648 ≤ x1 ∧ x1 < 2147483648)) {x2 : Int} (hp2 : (-2147483648 ≤ x2 ∧ x2 < 2147483648)) {x3 : Int} (hp3 : (-2147483648 ≤ x3 ∧ x3 < 2147483648)) {r : Int} (h : fX2_spanToStop G.2.2.2.2 S Ln R M a0 x1 x2 x3 = some r) : Ct l G yX2_spanToStop cX2_spanToStop 4 (some .int) 2 0 0 [.ref a0, .int (iI x1), .int (iI x2), .int (iI x3)] sz S Ln M R (poI r sz S Ln (M) R) noX := by
  refine jj_start (own := RX2) (lv0 := [(0, .ref a0), (1, .int (iI x1)), (2, .int (iI x2)), (3, .int (iI x3))]) hl (by decide +kernel) rfl rfl (c_le rfl) (fun C hCl hC => ?_)
  unfold fX2_spanToStop at h
  refine jj_aload_n hC dX2_spanToStop_0 rfl 0 rfl ?_
  refine jj_iload_n hC dX2_spanToStop_1 rfl 1 rfl ?_
  obtain ⟨q1, hq1, h⟩ := bd_e h
  refine jj_invV hC mvX2_hasStop wd654 wd655 wd722 hs0 (by decide) rfl (xX2_hasStop (OKC.tr hC) hs0 hp1 hq1) rfl rfl (c_le rfl) (c_le rfl) (c_le rfl) (c_le rfl) dX2_spanToStop_2 noXk (po_kZ (fun hr1 => ?_))
  refine jj_if_ne (tgt := 10) hC dX2_spanToStop_5 rfl (r_z hr1) (fun hc => ?_) (fun hc => ?_)
  · replace h := (if_pos hc).symm.trans h
    refine jj_aload_n hC dX2_spanToStop_10 rfl 0 rfl ?_
    refine jj_aload_n hC dX2_spanToStop_11 rfl 0 rfl ?_
    obtain ⟨b2, hb2, hs2, h⟩ := rf_e h
    refine jg_R hC kfX2 3 rfl hs0 (by decide) wd908 rfl hb2 dX2_spanToStop_12 ?_
    refine jj_iload_n hC dX2_spanToStop_15 rfl 1 rfl ?_
    obtain ⟨⟨ha3, hb3⟩, h⟩ := gd_e h
    refine jj_iald hC hs2 ha3 hb3 dX2_spanToStop_16 (fun hr3 => ?_)
    refine jj_iload_n hC dX2_spanToStop_17 rfl 2 rfl ?_
    refine jj_iload_n hC dX2_spanToStop_18 rfl 3 rfl ?_
    obtain ⟨q4, hq4, h⟩ := bd_e h
    refine jj_invV hC mvX2_spanTo wd724 wd725 wd723 hs0 (by decide) rfl (xX2_spanTo (OKC.tr hC) hs0 hr3 hp2 hp3 hq4) rfl rfl (c_le rfl) (c_le rfl) (c_le rfl) (c_le rfl) dX2_spanToStop_19 noXk (po_kI (fun hr4 => ?_))
    cases h
    exact jj_iret hC (c_le rfl) (c_le rfl) dX2_spanToStop_22 ⟨rfl, hr4, rfl, rfl, rfl, rfl, rfl⟩
  · replace h := (if_neg (fun k => k hc)).symm.trans h
    refine jj_iconst hC dX2_spanToStop_8 ?_
    cases h
    exact jj_iret hC (c_le rfl) (c_le rfl) dX2_spanToStop_9 ⟨rfl, (show (-2147483648 ≤ (0 : Int) ∧ (0 : Int) < 2147483648) from by decide), rfl, rfl, rfl, rfl, rfl⟩
def fX2_endsAtPositionOf (ad S Ln : Nat → Nat) (R : gR) (M : gM) (a0 : Nat) (x1 : Int) : Option Int :=
  if (M a0 5) ≤ 0 then (some (0)) else (rf S (R a0 3) 20 fun b2 => gd ((0 : Int) ≤ (w32 ((M a0 5) - 1)) ∧ (w32 ((M a0 5) - 1)) < (Ln b2 : Int)) (bd (fX2_span ad S Ln R M a0 (M b2 (w32 ((M a0 5) - 1))) x1) fun q5 => if ¬ q5 = 0 then (some (0)) else (some (1))))
theorem xX2_endsAtPositionOf {l : Launch} {G : gE} {sz : Nat} {S Ln : Nat → Nat} {M : gM} {R : gR} (hl : l.stackTraces = false) {a0 : Nat} (hs0 : S a0 = 7) {x1 : Int} (hp1 : (-2147483648 ≤ x1 ∧ x1 < 2147483648)) {r : Int} (h : fX2_endsAtPositionOf G.2.2.2.2 S Ln R M a0 x1 = some r) : Ct l G yX2_endsAtPositionOf cX2_endsAtPositionOf 2 (some .boolean) 3 0 0 [.ref a0, .int (iI x1)] sz S Ln M R (poZ r sz S Ln (M) R) noX := by
  refine jj_start (own := RX2) (lv0 := [(0, .ref a0), (1, .int (iI x1))]) hl (by decide +kernel) rfl rfl (c_le rfl) (fun C hCl hC => ?_)
  unfold fX2_endsAtPositionOf at h
  refine jj_aload_n hC dX2_endsAtPositionOf_0 rfl 0 rfl ?_
  refine jg_I hC kfX2 5 rfl hs0 (by decide) wd913 rfl dX2_endsAtPositionOf_1 (fun hr1 => ?_)
  refine jj_if_le (tgt := 30) hC dX2_endsAtPositionOf_4 rfl hr1 (fun hc => ?_) (fun hc => ?_)
  · replace h := (if_pos hc).symm.trans h
    refine jj_iconst hC dX2_endsAtPositionOf_30 ?_
    cases h
    exact jj_zret hC (show (0 ≤ (0 : Int) ∧ (0 : Int) ≤ 1) from by decide) (c_le rfl) (c_le rfl) dX2_endsAtPositionOf_31 ⟨rfl, (show (0 ≤ (0 : Int) ∧ (0 : Int) ≤ 1) from by decide), rfl, rfl, rfl, rfl, rfl⟩
  · replace h := (if_neg (Int.not_le.mpr hc)).symm.trans h
    refine jj_aload_n hC dX2_endsAtPositionOf_7 rfl 0 rfl ?_
    refine jj_aload_n hC dX2_endsAtPositionOf_8 rfl 0 rfl ?_
    obtain ⟨b2, hb2, hs2, h⟩ := rf_e h
    refine jg_R hC kfX2 3 rfl hs0 (by decide) wd908 rfl hb2 dX2_endsAtPositionOf_9 ?_
    refine jj_aload_n hC dX2_endsAtPositionOf_12 rfl 0 rfl ?_
    refine jg_I hC kfX2 5 rfl hs0 (by decide) wd913 rfl dX2_endsAtPositionOf_13 (fun hr3 => ?_)
    refine jj_iconst hC dX2_endsAtPositionOf_16 ?_
    refine jg_isub hC dX2_endsAtPositionOf_17 ?_
    obtain ⟨⟨ha4, hb4⟩, h⟩ := gd_e h
    refine jj_iald hC hs2 ha4 hb4 dX2_endsAtPositionOf_18 (fun hr4 => ?_)
    refine jj_iload_n hC dX2_endsAtPositionOf_19 rfl 1 rfl ?_
    obtain ⟨q5, hq5, h⟩ := bd_e h
    refine jj_invV hC mvX2_span wd1176 wd1177 wd1175 hs0 (by decide) rfl (xX2_span (OKC.tr hC) hs0 hr4 hp1 hq5) rfl rfl (c_le rfl) (c_le rfl) (c_le rfl) (c_le rfl) dX2_endsAtPositionOf_20 noXk (po_kI (fun hr5 => ?_))
    refine jj_if_ne (tgt := 30) hC dX2_endsAtPositionOf_23 rfl hr5 (fun hc => ?_) (fun hc => ?_)
    · replace h := (if_pos hc).symm.trans h
      refine jj_iconst hC dX2_endsAtPositionOf_30 ?_
      cases h
      exact jj_zret hC (show (0 ≤ (0 : Int) ∧ (0 : Int) ≤ 1) from by decide) (c_le rfl) (c_le rfl) dX2_endsAtPositionOf_31 ⟨rfl, (show (0 ≤ (0 : Int) ∧ (0 : Int) ≤ 1) from by decide), rfl, rfl, rfl, rfl, rfl⟩
    · replace h := (if_neg (fun k => k hc)).symm.trans h
      refine jj_iconst hC dX2_endsAtPositionOf_26 ?_
      refine jj_goto (tgt := 31) hC dX2_endsAtPositionOf_27 rfl ?_
      cases h
      exact jj_zret hC (show (0 ≤ (1 : Int) ∧ (1 : Int) ≤ 1) from by decide) (c_le rfl) (c_le rfl) dX2_endsAtPositionOf_31 ⟨rfl, (show (0 ≤ (1 : Int) ∧ (1 : Int) ≤ 1) from by decide), rfl, rfl, rfl, rfl, rfl⟩
def fX2_isStopAt (ad S Ln : Nat → Nat) (R : gR) (M : gM) (a0 : Nat) (x1 : Int) (x2 : Int) (x3 : Int) : Option Int :=
  bd (fX2_hasStop ad S Ln R M a0 x1) fun q1 => if q1 = 0 then (some (0)) else (rf S (R a0 3) 20 fun b2 => gd ((0 : Int) ≤ x1 ∧ x1 < (Ln b2 : Int)) (bd (fX2_spanTo ad S Ln R M a0 (M b2 x1) x2 x3) fun q4 => if ¬ q4 = 0 then (some (0)) else (some (1))))
theorem xX2_isStopAt {l : Launch} {G : gE} {sz : Nat} {S Ln : Nat → Nat} {M : gM} {R : gR} (hl : l.stackTraces = false) {a0 : Nat} (hs0 : S a0 = 7) {x1 : Int} (hp1 : (-2147483648 ≤ x1 ∧ x1 < 2147483648)) {x2 : Int} (hp2 : (-2147483648 ≤ x2 ∧ x2 < 2147483648)) {x3 : Int} (hp3 : (-2147483648 ≤ x3 ∧ x3 < 2147483648)) {r : Int} (h : fX2_isStopAt G.2.2.2.2 S Ln R M a0 x1 x2 x3 = some r) : Ct l G yX2_isStopAt cX2_isStopAt 4 (some .boolean) 2 0 0 [.ref a0, .int (iI x1), .int (iI x2), .int (iI x3)] sz S Ln M R (poZ r sz S Ln (M) R) noX := by
  refine jj_start (own := RX2) (lv0 := [(0, .ref a0), (1, .int (iI x1)), (2, .int (iI x2)), (3, .int (iI x3))]) hl (by decide +kernel) rfl rfl (c_le rfl) (fun C hCl hC => ?_)
  unfold fX2_isStopAt at h
  refine jj_aload_n hC dX2_isStopAt_0 rfl 0 rfl ?_
  refine jj_iload_n hC dX2_isStopAt_1 rfl 1 rfl ?_
  obtain ⟨q1, hq1, h⟩ := bd_e h
  refine jj_invV hC mvX2_hasStop wd654 wd655 wd722 hs0 (by decide) rfl (xX2_hasStop (OKC.tr hC) hs0 hp1 hq1) rfl rfl (c_le rfl) (c_le rfl) (c_le rfl) (c_le rfl) dX2_isStopAt_2 noXk (po_kZ (fun hr1 => ?_))
  refine jj_if_eq (tgt := 27) hC dX2_isStopAt_5 rfl (r_z hr1) (fun hc => ?_) (fun hc => ?_)
  · replace h := (if_pos hc).symm.trans h
    refine jj_iconst hC dX2_isStopAt_27 ?_
    cases h
    exact jj_zret hC (show (0 ≤ (0 : Int) ∧ (0 : Int) ≤ 1) from by decide) (c_le rfl) (c_le rfl) dX2_isStopAt_28 ⟨rfl, (show (0 ≤ (0 : Int) ∧ (0 : Int) ≤ 1) from by decide), rfl, rfl, rfl, rfl, rfl⟩
  · replace h := (if_neg (hc)).symm.trans h
    refine jj_aload_n hC dX2_isStopAt_8 rfl 0 rfl ?_
    refine jj_aload_n hC dX2_isStopAt_9 rfl 0 rfl ?_
    obtain ⟨b2, hb2, hs2, h⟩ := rf_e h
    refine jg_R hC kfX2 3 rfl hs0 (by decide) wd908 rfl hb2 dX2_isStopAt_10 ?_
    refine jj_iload_n hC dX2_isStopAt_13 rfl 1 rfl ?_
    obtain ⟨⟨ha3, hb3⟩, h⟩ := gd_e h
    refine jj_iald hC hs2 ha3 hb3 dX2_isStopAt_14 (fun hr3 => ?_)
    refine jj_iload_n hC dX2_isStopAt_15 rfl 2 rfl ?_
    refine jj_iload_n hC dX2_isStopAt_16 rfl 3 rfl ?_
    obtain ⟨q4, hq4, h⟩ := bd_e h
    refine jj_invV hC mvX2_spanTo wd724 wd725 wd723 hs0 (by decide) rfl (xX2_spanTo (OKC.tr hC) hs0 hr3 hp2 hp3 hq4) rfl rfl (c_le rfl) (c_le rfl) (c_le rfl) (c_le rfl) dX2_isStopAt_17 noXk (po_kI (fun hr4 => ?_))
    refine jj_if_ne (tgt := 27) hC dX2_isStopAt_20 rfl hr4 (fun hc => ?_) (fun hc => ?_)
    · replace h := (if_pos hc).symm.trans h
      refine jj_iconst hC dX2_isStopAt_27 ?_
      cases h
      exact jj_zret hC (show (0 ≤ (0 : Int) ∧ (0 : Int) ≤ 1) from by decide) (c_le rfl) (c_le rfl) dX2_isStopAt_28 ⟨rfl, (show (0 ≤ (0 : Int) ∧ (0 : Int) ≤ 1) from by decide), rfl, rfl, rfl, rfl, rfl⟩
    · replace h := (if_neg (fun k => k hc)).symm.trans h
      refine jj_iconst hC dX2_isStopAt_23 ?_
      refine jj_goto (tgt := 28) hC dX2_isStopAt_24 rfl ?_
      cases h
      exact jj_zret hC (show (0 ≤ (1 : Int) ∧ (1 : Int) ≤ 1) from by decide) (c_le rfl) (c_le rfl) dX2_isStopAt_28 ⟨rfl, (show (0 ≤ (1 : Int) ∧ (1 : Int) ≤ 1) from by decide), rfl, rfl, rfl, rfl, rfl⟩
def fX2_sumOfLegs_L17 (ad S Ln : Nat → Nat) (R : gR) (M : gM) (l0_17 : Nat) (l2_17 : Int) (s17 : Int × Int) : Option ((Int × Int) ⊕ ((Int) ⊕ (Int))) :=
  if l2_17 ≤ s17.2 then (some (.inr (.inl s17.1))) else (rf S (R l0_17 4) 20 fun b1 => gd ((0 : Int) ≤ s17.2 ∧ s17.2 < (Ln b1 : Int)) (some (.inl (w32 (s17.1 + (M b1 s17.2)), w32 (s17.2 + 1)))))
def fX2_sumOfLegs (ad S Ln : Nat → Nat) (R : gR) (M : gM) (a0 : Nat) (x1 : Int) (x2 : Int) : Option Int :=
  if x1 < 0 then (some (0)) else (if x2 ≤ 6 then (bd (lp (fX2_sumOfLegs_L17 ad S Ln R M a0 x2) FU (0, x1)) fun q4 => Sum.elim (fun e17_3 => some (e17_3)) (fun c4 => some c4) q4) else (some (0)))
theorem xX2_sumOfLegs {l : Launch} {G : gE} {sz : Nat} {S Ln : Nat → Nat} {M : gM} {R : gR} (hl : l.stackTraces = false) {a0 : Nat} (hs0 : S a0 = 7) {x1 : Int} (hp1 : (-2147483648 ≤ x1 ∧ x1 < 2147483648)) {x2 : Int} (hp2 : (-2147483648 ≤ x2 ∧ x2 < 2147483648)) {r : Int} (h : fX2_sumOfLegs G.2.2.2.2 S Ln R M a0 x1 x2 = some r) : Ct l G yX2_sumOfLegs cX2_sumOfLegs 5 (some .int) 1 0 0 [.ref a0, .int (iI x1), .int (iI x2)] sz S Ln M R (poI r sz S Ln (M) R) noX := by
  refine jj_start (own := RX2) (lv0 := [(0, .ref a0), (1, .int (iI x1)), (2, .int (iI x2))]) hl (by decide +kernel) rfl rfl (c_le rfl) (fun C hCl hC => ?_)
  have hL17 : ∀ (l0_17 : Nat) (l2_17 : Int), S l0_17 = 7 → (-2147483648 ≤ l2_17 ∧ l2_17 < 2147483648) → ∀ (n : Nat) (s17 : Int × Int) (q : (Int) ⊕ (Int)), lp (fX2_sumOfLegs_L17 G.2.2.2.2 S Ln R M l0_17 l2_17) n s17 = some q → (-2147483648 ≤ s17.1 ∧ s17.1 < 2147483648) ∧ (-2147483648 ≤ s17.2 ∧ s17.2 < 2147483648) → (∀ e17, q = .inl e17 → (-2147483648 ≤ e17 ∧ e17 < 2147483648) → JJ G C 0 0 sz S Ln M R 39 [(3, .int (iI e17))] []) → (∀ c, q = .inr c → c = r) → JJ G C 0 0 sz S Ln M R 17 [(0, .ref l0_17), (2, .int (iI l2_17)), (3, .int (iI s17.1)), (4, .int (iI s17.2))] [] := by
    intro l0_17 l2_17 hl0_17 hl2_17
    refine lp_ind ?_
    intro s17 r17 hI17 h hJ17 hE17 hR17
    obtain ⟨hs17_0, hs17_1⟩ := hI17
    unfold fX2_sumOfLegs_L17 at h
    refine jj_iload hC dX2_sumOfLegs_17 3 rfl ?_
    refine jj_iload_n hC dX2_sumOfLegs_19 rfl 1 rfl ?_
    refine jj_icmp_ge (tgt := 39) hC dX2_sumOfLegs_20 rfl hs17_1 hl2_17 (fun hc => ?_) (fun hc => ?_)
    · replace h := (if_pos hc).symm.trans h
      refine jj_lv (lv' := [(3, .int (iI s17.1))]) [2] rfl ?_
      exact hE17 _ (Option.some.inj h).symm hs17_0
    · replace h := (if_neg (Int.not_le.mpr hc)).symm.trans h
      refine jj_iload_n hC dX2_sumOfLegs_23 rfl 2 rfl ?_
      refine jj_aload_n hC dX2_sumOfLegs_24 rfl 0 rfl ?_
      obtain ⟨b1, hb1, hs1, h⟩ := rf_e h
      refine jg_R hC kfX2 4 rfl hl0_17 (by decide) wd911 rfl hb1 dX2_sumOfLegs_25 ?_
      refine jj_iload hC dX2_sumOfLegs_28 3 rfl ?_
      obtain ⟨⟨ha2, hb2⟩, h⟩ := gd_e h
      refine jj_iald hC hs1 ha2 hb2 dX2_sumOfLegs_30 (fun hr2 => ?_)
      refine jg_iadd hC dX2_sumOfLegs_31 ?_
      refine jj_istore_n (lv' := [(3, .int (iI (w32 (s17.1 + (M b1 s17.2))))), (0, .ref l0_17), (2, .int (iI l2_17)), (4, .int (iI s17.2))]) hC dX2_sumOfLegs_32 rfl (by decide) rfl ?_
      refine jg_iinc (q := 3) (lv' := [(4, .int (iI (w32 (s17.2 + 1)))), (3, .int (iI (w32 (s17.1 + (M b1 s17.2))))), (0, .ref l0_17), (2, .int (iI l2_17))]) hC dX2_sumOfLegs_33 rfl (by decide) rfl ?_
      refine jj_goto (tgt := 17) hC dX2_sumOfLegs_36 rfl ?_
      refine jj_lv (lv' := [(0, .ref l0_17), (2, .int (iI l2_17)), (3, .int (iI (w32 (s17.1 + (M b1 s17.2))))), (4, .int (iI (w32 (s17.2 + 1))))]) [2, 3, 1, 0] rfl ?_
      exact hJ17 _ (Option.some.inj h).symm ⟨(w32_r _), (w32_r _)⟩
  unfold fX2_sumOfLegs at h
  refine jj_iload_n hC dX2_sumOfLegs_0 rfl 1 rfl ?_
  refine jj_if_lt (tgt := 10) hC dX2_sumOfLegs_1 rfl hp1 (fun hc => ?_) (fun hc => ?_)
  · replace h := (if_pos hc).symm.trans h
    refine jj_iconst hC dX2_sumOfLegs_10 ?_
    cases h
    exact jj_iret hC (c_le rfl) (c_le rfl) dX2_sumOfLegs_11 ⟨rfl, (show (-2147483648 ≤ (0 : Int) ∧ (0 : Int) < 2147483648) from by decide), rfl, rfl, rfl, rfl, rfl⟩
  · replace h := (if_neg (Int.not_lt.mpr hc)).symm.trans h
    refine jj_iload_n hC dX2_sumOfLegs_4 rfl 2 rfl ?_
    refine jj_bipush hC dX2_sumOfLegs_5 (by decide) ?_
    refine jj_icmp_le (tgt := 12) hC dX2_sumOfLegs_7 rfl hp2 (show (-2147483648 ≤ (6 : Int) ∧ (6 : Int) < 2147483648) from by decide) (fun hc => ?_) (fun hc => ?_)
    · replace h := (if_pos hc).symm.trans h
      refine jj_iconst hC dX2_sumOfLegs_12 ?_
      refine jj_istore_n (lv' := [(3, .int (iI 0)), (0, .ref a0), (1, .int (iI x1)), (2, .int (iI x2))]) hC dX2_sumOfLegs_13 rfl (by decide) rfl ?_
      refine jj_iload_n hC dX2_sumOfLegs_14 rfl 2 rfl ?_
      refine jj_istore (lv' := [(4, .int (iI x1)), (3, .int (iI 0)), (0, .ref a0), (1, .int (iI x1)), (2, .int (iI x2))]) hC dX2_sumOfLegs_15 (by decide) rfl ?_
      obtain ⟨q4, hq4, h⟩ := bd_e h
      refine jj_lv (lv' := [(0, .ref a0), (2, .int (iI x2)), (3, .int (iI 0)), (4, .int (iI x1))]) [2, 4, 1, 0] rfl ?_
      refine hL17 a0 x2 hs0 hp2 FU _ q4 hq4 ⟨(show (-2147483648 ≤ (0 : Int) ∧ (0 : Int) < 2147483648) from by decide), hp1⟩ (fun e17_3 he4 hIE4 => ?_) (fun c4 hc4 => ?_)
      · subst he4
        replace h := el_l h
        have he17_3_0 := hIE4
        refine jj_iload_n hC dX2_sumOfLegs_39 rfl 0 rfl ?_
        cases h
        exact jj_iret hC (c_le rfl) (c_le rfl) dX2_sumOfLegs_40 ⟨rfl, he17_3_0, rfl, rfl, rfl, rfl, rfl⟩
      · subst hc4
        replace h := el_r h
        exact Option.some.inj h
    · replace h := (if_neg (Int.not_le.mpr hc)).symm.trans h
      refine jj_iconst hC dX2_sumOfLegs_10 ?_
      cases h
      exact jj_iret hC (c_le rfl) (c_le rfl) dX2_sumOfLegs_11 ⟨rfl, (show (-2147483648 ≤ (0 : Int) ∧ (0 : Int) < 2147483648) from by decide), rfl, rfl, rfl, rfl, rfl⟩
def fX2_wholeDistance (ad S Ln : Nat → Nat) (R : gR) (M : gM) (a0 : Nat) : Option Int :=
  bd (fX2_sumOfLegs ad S Ln R M a0 0 (w32 ((M a0 5) - 1))) fun q2 => some (q2)
theorem xX2_wholeDistance {l : Launch} {G : gE} {sz : Nat} {S Ln : Nat → Nat} {M : gM} {R : gR} (hl : l.stackTraces = false) {a0 : Nat} (hs0 : S a0 = 7) {r : Int} (h : fX2_wholeDistance G.2.2.2.2 S Ln R M a0 = some r) : Ct l G yX2_wholeDistance cX2_wholeDistance 1 (some .int) 2 0 0 [.ref a0] sz S Ln M R (poI r sz S Ln (M) R) noX := by
  refine jj_start (own := RX2) (lv0 := [(0, .ref a0)]) hl (by decide +kernel) rfl rfl (c_le rfl) (fun C hCl hC => ?_)
  unfold fX2_wholeDistance at h
  refine jj_aload_n hC dX2_wholeDistance_0 rfl 0 rfl ?_
  refine jj_iconst hC dX2_wholeDistance_1 ?_
  refine jj_aload_n hC dX2_wholeDistance_2 rfl 0 rfl ?_
  refine jg_I hC kfX2 5 rfl hs0 (by decide) wd913 rfl dX2_wholeDistance_3 (fun hr1 => ?_)
  refine jj_iconst hC dX2_wholeDistance_6 ?_
  refine jg_isub hC dX2_wholeDistance_7 ?_
  obtain ⟨q2, hq2, h⟩ := bd_e h
  refine jj_invV hC mvX2_sumOfLegs wd762 wd763 wd774 hs0 (by decide) rfl (xX2_sumOfLegs (OKC.tr hC) hs0 (show (-2147483648 ≤ (0 : Int) ∧ (0 : Int) < 2147483648) from by decide) (w32_r _) hq2) rfl rfl (c_le rfl) (c_le rfl) (c_le rfl) (c_le rfl) dX2_wholeDistance_8 noXk (po_kI (fun hr2 => ?_))
  cases h
  exact jj_iret hC (c_le rfl) (c_le rfl) dX2_wholeDistance_11 ⟨rfl, hr2, rfl, rfl, rfl, rfl, rfl⟩
def fX2_directionTo (ad S Ln : Nat → Nat) (R : gR) (M : gM) (a0 : Nat) (x1 : Int) (x2 : Int) (x3 : Int) : Option Int :=
  bd (fX2_hasStop ad S Ln R M a0 x1) fun q1 => if q1 = 0 then (some (0)) else (rf S (R a0 3) 20 fun b2 => gd ((0 : Int) ≤ x1 ∧ x1 < (Ln b2 : Int)) (bd (fX2_hasPoint ad S Ln R M a0 (M b2 x1)) fun q4 => if ¬ q4 = 0 then (rf S (R a0 3) 20 fun b5 => gd ((0 : Int) ≤ x1 ∧ x1 < (Ln b5 : Int)) (rf S (R a0 0) 20 fun b7 => gd ((0 : Int) ≤ (M b5 x1) ∧ (M b5 x1) < (Ln b7 : Int)) (if (M b7 (M b5 x1)) = x2 then (rf S (R a0 1) 20 fun b9 => gd ((0 : Int) ≤ (M b5 x1) ∧ (M b5 x1) < (Ln b9 : Int)) (if (M b9 (M b5 x1)) ≤ x3 then (some (2)) else (some (0)))) else (rf S (R a0 0) 20 fun b11 => gd ((0 : Int) ≤ (M b5 x1) ∧ (M b5 x1) < (Ln b11 : Int)) (if (M b11 (M b5 x1)) ≤ x2 then (some (3)) else (some (1))))))) else (some (0))))
theorem xX2_directionTo {l : Launch} {G : gE} {sz : Nat} {S Ln : Nat → Nat} {M : gM} {R : gR} (hl : l.stackTraces = false) {a0 : Nat} (hs0 : S a0 = 7) {x1 : Int} (hp1 : (-2147483648 ≤ x1 ∧ x1 < 2147483648)) {x2 : Int} (hp2 : (-2147483648 ≤ x2 ∧ x2 < 2147483648)) {x3 : Int} (hp3 : (-2147483648 ≤ x3 ∧ x3 < 2147483648)) {r : Int} (h : fX2_directionTo G.2.2.2.2 S Ln R M a0 x1 x2 x3 = some r) : Ct l G yX2_directionTo cX2_directionTo 5 (some .int) 2 0 0 [.ref a0, .int (iI x1), .int (iI x2), .int (iI x3)] sz S Ln M R (poI r sz S Ln (M) R) noX := by
  refine jj_start (own := RX2) (lv0 := [(0, .ref a0), (1, .int (iI x1)), (2, .int (iI x2)), (3, .int (iI x3))]) hl (by decide +kernel) rfl rfl (c_le rfl) (fun C hCl hC => ?_)
  unfold fX2_directionTo at h
  refine jj_aload_n hC dX2_directionTo_0 rfl 0 rfl ?_
  refine jj_iload_n hC dX2_directionTo_1 rfl 1 rfl ?_
  obtain ⟨q1, hq1, h⟩ := bd_e h
  refine jj_invV hC mvX2_hasStop wd654 wd655 wd722 hs0 (by decide) rfl (xX2_hasStop (OKC.tr hC) hs0 hp1 hq1) rfl rfl (c_le rfl) (c_le rfl) (c_le rfl) (c_le rfl) dX2_directionTo_2 noXk (po_kZ (fun hr1 => ?_))
  refine jj_if_eq (tgt := 21) hC dX2_directionTo_5 rfl (r_z hr1) (fun hc => ?_) (fun hc => ?_)
  · replace h := (if_pos hc).symm.trans h
    refine jj_iconst hC dX2_directionTo_21 ?_
    cases h
    exact jj_iret hC (c_le rfl) (c_le rfl) dX2_directionTo_22 ⟨rfl, (show (-2147483648 ≤ (0 : Int) ∧ (0 : Int) < 2147483648) from by decide), rfl, rfl, rfl, rfl, rfl⟩
  · replace h := (if_neg (hc)).symm.trans h
    refine jj_aload_n hC dX2_directionTo_8 rfl 0 rfl ?_
    refine jj_aload_n hC dX2_directionTo_9 rfl 0 rfl ?_
    obtain ⟨b2, hb2, hs2, h⟩ := rf_e h
    refine jg_R hC kfX2 3 rfl hs0 (by decide) wd908 rfl hb2 dX2_directionTo_10 ?_
    refine jj_iload_n hC dX2_directionTo_13 rfl 1 rfl ?_
    obtain ⟨⟨ha3, hb3⟩, h⟩ := gd_e h
    refine jj_iald hC hs2 ha3 hb3 dX2_directionTo_14 (fun hr3 => ?_)
    obtain ⟨q4, hq4, h⟩ := bd_e h
    refine jj_invV hC mvX2_hasPoint wd658 wd659 wd1179 hs0 (by decide) rfl (xX2_hasPoint (OKC.tr hC) hs0 hr3 hq4) rfl rfl (c_le rfl) (c_le rfl) (c_le rfl) (c_le rfl) dX2_directionTo_15 noXk (po_kZ (fun hr4 => ?_))
    refine jj_if_ne (tgt := 23) hC dX2_directionTo_18 rfl (r_z hr4) (fun hc => ?_) (fun hc => ?_)
    · replace h := (if_pos hc).symm.trans h
      refine jj_aload_n hC dX2_directionTo_23 rfl 0 rfl ?_
      obtain ⟨b5, hb5, hs5, h⟩ := rf_e h
      refine jg_R hC kfX2 3 rfl hs0 (by decide) wd908 rfl hb5 dX2_directionTo_24 ?_
      refine jj_iload_n hC dX2_directionTo_27 rfl 1 rfl ?_
      obtain ⟨⟨ha6, hb6⟩, h⟩ := gd_e h
      refine jj_iald hC hs5 ha6 hb6 dX2_directionTo_28 (fun hr6 => ?_)
      refine jj_istore (lv' := [(4, .int (iI (M b5 x1))), (0, .ref a0), (1, .int (iI x1)), (2, .int (iI x2)), (3, .int (iI x3))]) hC dX2_directionTo_29 (by decide) rfl ?_
      refine jj_aload_n hC dX2_directionTo_31 rfl 1 rfl ?_
      obtain ⟨b7, hb7, hs7, h⟩ := rf_e h
      refine jg_R hC kfX2 0 rfl hs0 (by decide) wd901 rfl hb7 dX2_directionTo_32 ?_
      refine jj_iload hC dX2_directionTo_35 0 rfl ?_
      obtain ⟨⟨ha8, hb8⟩, h⟩ := gd_e h
      refine jj_iald hC hs7 ha8 hb8 dX2_directionTo_37 (fun hr8 => ?_)
      refine jj_iload_n hC dX2_directionTo_38 rfl 3 rfl ?_
      refine jj_icmp_eq (tgt := 59) hC dX2_directionTo_39 rfl hr8 hp2 (fun hc => ?_) (fun hc => ?_)
      · replace h := (if_pos hc).symm.trans h
        refine jj_aload_n hC dX2_directionTo_59 rfl 1 rfl ?_
        obtain ⟨b9, hb9, hs9, h⟩ := rf_e h
        refine jg_R hC kfX2 1 rfl hs0 (by decide) wd903 rfl hb9 dX2_directionTo_60 ?_
        refine jj_iload hC dX2_directionTo_63 0 rfl ?_
        obtain ⟨⟨ha10, hb10⟩, h⟩ := gd_e h
        refine jj_iald hC hs9 ha10 hb10 dX2_directionTo_65 (fun hr10 => ?_)
        refine jj_iload_n hC dX2_directionTo_66 rfl 4 rfl ?_
        refine jj_icmp_le (tgt := 74) hC dX2_directionTo_67 rfl hr10 hp3 (fun hc => ?_) (fun hc => ?_)
        · replace h := (if_pos hc).symm.trans h
          refine jj_iconst hC dX2_directionTo_74 ?_
          cases h
          exact jj_iret hC (c_le rfl) (c_le rfl) dX2_directionTo_75 ⟨rfl, (show (-2147483648 ≤ (2 : Int) ∧ (2 : Int) < 2147483648) from by decide), rfl, rfl, rfl, rfl, rfl⟩
        · replace h := (if_neg (Int.not_le.mpr hc)).symm.trans h
          refine jj_iconst hC dX2_directionTo_70 ?_
          refine jj_goto (tgt := 75) hC dX2_directionTo_71 rfl ?_
          cases h
          exact jj_iret hC (c_le rfl) (c_le rfl) dX2_directionTo_75 ⟨rfl, (show (-2147483648 ≤ (0 : Int) ∧ (0 : Int) < 2147483648) from by decide), rfl, rfl, rfl, rfl, rfl⟩
      · replace h := (if_neg (hc)).symm.trans h
        refine jj_aload_n hC dX2_directionTo_42 rfl 1 rfl ?_
        obtain ⟨b11, hb11, hs11, h⟩ := rf_e h
        refine jg_R hC kfX2 0 rfl hs0 (by decide) wd901 rfl hb11 dX2_directionTo_43 ?_
        refine jj_iload hC dX2_directionTo_46 0 rfl ?_
        obtain ⟨⟨ha12, hb12⟩, h⟩ := gd_e h
        refine jj_iald hC hs11 ha12 hb12 dX2_directionTo_48 (fun hr12 => ?_)
        refine jj_iload_n hC dX2_directionTo_49 rfl 3 rfl ?_
        refine jj_icmp_le (tgt := 57) hC dX2_directionTo_50 rfl hr12 hp2 (fun hc => ?_) (fun hc => ?_)
        · replace h := (if_pos hc).symm.trans h
          refine jj_iconst hC dX2_directionTo_57 ?_
          cases h
          exact jj_iret hC (c_le rfl) (c_le rfl) dX2_directionTo_58 ⟨rfl, (show (-2147483648 ≤ (3 : Int) ∧ (3 : Int) < 2147483648) from by decide), rfl, rfl, rfl, rfl, rfl⟩
        · replace h := (if_neg (Int.not_le.mpr hc)).symm.trans h
          refine jj_iconst hC dX2_directionTo_53 ?_
          refine jj_goto (tgt := 58) hC dX2_directionTo_54 rfl ?_
          cases h
          exact jj_iret hC (c_le rfl) (c_le rfl) dX2_directionTo_58 ⟨rfl, (show (-2147483648 ≤ (1 : Int) ∧ (1 : Int) < 2147483648) from by decide), rfl, rfl, rfl, rfl, rfl⟩
    · replace h := (if_neg (fun k => k hc)).symm.trans h
      refine jj_iconst hC dX2_directionTo_21 ?_
      cases h
      exact jj_iret hC (c_le rfl) (c_le rfl) dX2_directionTo_22 ⟨rfl, (show (-2147483648 ≤ (0 : Int) ∧ (0 : Int) < 2147483648) from by decide), rfl, rfl, rfl, rfl, rfl⟩
def fX3_copyFrom (ad S Ln : Nat → Nat) (R : gR) (M : gM) (a0 : Nat) (x1 : Nat) : Option gM :=
  nam (wr M a0 0 (M x1 0)) fun M2 => gd (0 ≤ M2 x1 1) (nam (wr M2 a0 1 (M2 x1 1)) fun M4 => nam (wr M4 a0 2 (M4 x1 2)) fun M6 => nam (wr M6 a0 3 (M6 x1 3)) fun M8 => nam (wr M8 a0 4 (M8 x1 4)) fun M10 => nam (wr M10 a0 5 (M10 x1 5)) fun M12 => nam (wr M12 a0 6 (M12 x1 6)) fun M14 => nam (wr M14 a0 7 (M14 x1 7)) fun M16 => nam (wr M16 a0 8 (M16 x1 8)) fun M18 => some (M18))
theorem xX3_copyFrom {l : Launch} {G : gE} {sz : Nat} {S Ln : Nat → Nat} {M : gM} {R : gR} (hl : l.stackTraces = false) {a0 : Nat} (hs0 : S a0 = 8) {x1 : Nat} (hp1 : S x1 = 8) {r : gM} (h : fX3_copyFrom G.2.2.2.2 S Ln R M a0 x1 = some r) : Ct l G yX3_copyFrom cX3_copyFrom 2 none 1 0 0 [.ref a0, .ref x1] sz S Ln M R (poV sz S Ln (r) R) noX := by
  refine jj_start (own := RX3) (lv0 := [(0, .ref a0), (1, .ref x1)]) hl (by decide +kernel) rfl rfl (c_le rfl) (fun C hCl hC => ?_)
  unfold fX3_copyFrom at h
  refine jj_aload_n hC dX3_copyFrom_0 rfl 0 rfl ?_
  refine jj_aload_n hC dX3_copyFrom_1 rfl 1 rfl ?_
  refine jg_I hC kfX3 0 rfl hp1 (by decide) wd991 rfl dX3_copyFrom_2 (fun hr1 => ?_)
  obtain ⟨M2, hM2, h⟩ := nam_e h
  refine jp_I hC kfX3 0 rfl hs0 rfl (by decide) wd991 rfl rfl rfl hr1 dX3_copyFrom_5 (jj_M hM2 ?_)
  refine jj_aload_n hC dX3_copyFrom_8 rfl 0 rfl ?_
  refine jj_aload_n hC dX3_copyFrom_9 rfl 1 rfl ?_
  obtain ⟨hg3, h⟩ := gd_e h
  refine jg_E hC kfX3 1 rfl hp1 (by decide) wd992 rfl hg3 dX3_copyFrom_10 (fun hr3 => ?_)
  obtain ⟨M4, hM4, h⟩ := nam_e h
  refine jp_E hC kfX3 1 rfl ⟨hg3, hr3⟩ hs0 rfl (by decide) wd992 rfl rfl rfl dX3_copyFrom_13 (jj_M hM4 ?_)
  refine jj_aload_n hC dX3_copyFrom_16 rfl 0 rfl ?_
  refine jj_aload_n hC dX3_copyFrom_17 rfl 1 rfl ?_
  refine jg_I hC kfX3 2 rfl hp1 (by decide) wd995 rfl dX3_copyFrom_18 (fun hr5 => ?_)
  obtain ⟨M6, hM6, h⟩ := nam_e h
  refine jp_I hC kfX3 2 rfl hs0 rfl (by decide) wd995 rfl rfl rfl hr5 dX3_copyFrom_21 (jj_M hM6 ?_)
  refine jj_aload_n hC dX3_copyFrom_24 rfl 0 rfl ?_
  refine jj_aload_n hC dX3_copyFrom_25 rfl 1 rfl ?_
  refine jg_I hC kfX3 3 rfl hp1 (by decide) wd998 rfl dX3_copyFrom_26 (fun hr7 => ?_)
  obtain ⟨M8, hM8, h⟩ := nam_e h
  refine jp_I hC kfX3 3 rfl hs0 rfl (by decide) wd998 rfl rfl rfl hr7 dX3_copyFrom_29 (jj_M hM8 ?_)
  refine jj_aload_n hC dX3_copyFrom_32 rfl 0 rfl ?_
  refine jj_aload_n hC dX3_copyFrom_33 rfl 1 rfl ?_
  refine jg_I hC kfX3 4 rfl hp1 (by decide) wd1001 rfl dX3_copyFrom_34 (fun hr9 => ?_)
  obtain ⟨M10, hM10, h⟩ := nam_e h
  refine jp_I hC kfX3 4 rfl hs0 rfl (by decide) wd1001 rfl rfl rfl hr9 dX3_copyFrom_37 (jj_M hM10 ?_)
  refine jj_aload_n hC dX3_copyFrom_40 rfl 0 rfl ?_
  refine jj_aload_n hC dX3_copyFrom_41 rfl 1 rfl ?_
  refine jg_I hC kfX3 5 rfl hp1 (by decide) wd1004 rfl dX3_copyFrom_42 (fun hr11 => ?_)
  obtain ⟨M12, hM12, h⟩ := nam_e h
  refine jp_I hC kfX3 5 rfl hs0 rfl (by decide) wd1004 rfl rfl rfl hr11 dX3_copyFrom_45 (jj_M hM12 ?_)
  refine jj_aload_n hC dX3_copyFrom_48 rfl 0 rfl ?_
  refine jj_aload_n hC dX3_copyFrom_49 rfl 1 rfl ?_
  refine jg_I hC kfX3 6 rfl hp1 (by decide) wd1007 rfl dX3_copyFrom_50 (fun hr13 => ?_)
  obtain ⟨M14, hM14, h⟩ := nam_e h
  refine jp_I hC kfX3 6 rfl hs0 rfl (by decide) wd1007 rfl rfl rfl hr13 dX3_copyFrom_53 (jj_M hM14 ?_)
  refine jj_aload_n hC dX3_copyFrom_56 rfl 0 rfl ?_
  refine jj_aload_n hC dX3_copyFrom_57 rfl 1 rfl ?_
  refine jg_I hC kfX3 7 rfl hp1 (by decide) wd1010 rfl dX3_copyFrom_58 (fun hr15 => ?_)
  obtain ⟨M16, hM16, h⟩ := nam_e h
  refine jp_I hC kfX3 7 rfl hs0 rfl (by decide) wd1010 rfl rfl rfl hr15 dX3_copyFrom_61 (jj_M hM16 ?_)
  refine jj_aload_n hC dX3_copyFrom_64 rfl 0 rfl ?_
  refine jj_aload_n hC dX3_copyFrom_65 rfl 1 rfl ?_
  refine jg_L hC kfX3 8 rfl hp1 (by decide) wd1013 rfl dX3_copyFrom_66 (fun hr17 => ?_)
  obtain ⟨M18, hM18, h⟩ := nam_e h
  refine jp_L hC kfX3 8 rfl hs0 rfl (by decide) wd1013 rfl rfl rfl hr17 dX3_copyFrom_69 (jj_M hM18 ?_)
  cases h
  exact jj_vret hC (c_le rfl) (c_le rfl) dX3_copyFrom_72 ⟨rfl, trivial, rfl, rfl, rfl, rfl, rfl⟩
def fX3_rest (ad S Ln : Nat → Nat) (R : gR) (M : gM) (a0 : Nat) : Option gM :=
  nam (wr M a0 1 0) fun M1 => nam (wr M1 a0 2 0) fun M2 => nam (wr M2 a0 3 0) fun M3 => nam (wr M3 a0 4 0) fun M4 => nam (wr M4 a0 5 0) fun M5 => nam (wr M5 a0 6 0) fun M6 => nam (wr M6 a0 7 0) fun M7 => some (M7)
theorem xX3_rest {l : Launch} {G : gE} {sz : Nat} {S Ln : Nat → Nat} {M : gM} {R : gR} (hl : l.stackTraces = false) {a0 : Nat} (hs0 : S a0 = 8) {r : gM} (h : fX3_rest G.2.2.2.2 S Ln R M a0 = some r) : Ct l G yX3_rest cX3_rest 1 none 1 0 0 [.ref a0] sz S Ln M R (poV sz S Ln (r) R) noX := by
  refine jj_start (own := RX3) (lv0 := [(0, .ref a0)]) hl (by decide +kernel) rfl rfl (c_le rfl) (fun C hCl hC => ?_)
  unfold fX3_rest at h
  refine jj_aload_n hC dX3_rest_0 rfl 0 rfl ?_
  refine jg_s (j := 0) hC 0 rfl rfl wd628 dX3_rest_1 ?_
  obtain ⟨M1, hM1, h⟩ := nam_e h
  refine jp_E hC kfX3 1 rfl (show (0 ≤ (0 : Int) ∧ (0 : Int) < 9) from by decide) hs0 rfl (by decide) wd992 rfl rfl rfl dX3_rest_4 (jj_M hM1 ?_)
  refine jj_aload_n hC dX3_rest_7 rfl 0 rfl ?_
  refine jj_iconst hC dX3_rest_8 ?_
  obtain ⟨M2, hM2, h⟩ := nam_e h
  refine jp_I hC kfX3 2 rfl hs0 rfl (by decide) wd995 rfl rfl rfl (show (-2147483648 ≤ (0 : Int) ∧ (0 : Int) < 2147483648) from by decide) dX3_rest_9 (jj_M hM2 ?_)
  refine jj_aload_n hC dX3_rest_12 rfl 0 rfl ?_
  refine jj_iconst hC dX3_rest_13 ?_
  obtain ⟨M3, hM3, h⟩ := nam_e h
  refine jp_I hC kfX3 3 rfl hs0 rfl (by decide) wd998 rfl rfl rfl (show (-2147483648 ≤ (0 : Int) ∧ (0 : Int) < 2147483648) from by decide) dX3_rest_14 (jj_M hM3 ?_)
  refine jj_aload_n hC dX3_rest_17 rfl 0 rfl ?_
  refine jj_iconst hC dX3_rest_18 ?_
  obtain ⟨M4, hM4, h⟩ := nam_e h
  refine jp_I hC kfX3 4 rfl hs0 rfl (by decide) wd1001 rfl rfl rfl (show (-2147483648 ≤ (0 : Int) ∧ (0 : Int) < 2147483648) from by decide) dX3_rest_19 (jj_M hM4 ?_)
  refine jj_aload_n hC dX3_rest_22 rfl 0 rfl ?_
  refine jj_iconst hC dX3_rest_23 ?_
  obtain ⟨M5, hM5, h⟩ := nam_e h
  refine jp_I hC kfX3 5 rfl hs0 rfl (by decide) wd1004 rfl rfl rfl (show (-2147483648 ≤ (0 : Int) ∧ (0 : Int) < 2147483648) from by decide) dX3_rest_24 (jj_M hM5 ?_)
  refine jj_aload_n hC dX3_rest_27 rfl 0 rfl ?_
  refine jj_iconst hC dX3_rest_28 ?_
  obtain ⟨M6, hM6, h⟩ := nam_e h
  refine jp_I hC kfX3 6 rfl hs0 rfl (by decide) wd1007 rfl rfl rfl (show (-2147483648 ≤ (0 : Int) ∧ (0 : Int) < 2147483648) from by decide) dX3_rest_29 (jj_M hM6 ?_)
  refine jj_aload_n hC dX3_rest_32 rfl 0 rfl ?_
  refine jj_iconst hC dX3_rest_33 ?_
  obtain ⟨M7, hM7, h⟩ := nam_e h
  refine jp_I hC kfX3 7 rfl hs0 rfl (by decide) wd1010 rfl rfl rfl (show (-2147483648 ≤ (0 : Int) ∧ (0 : Int) < 2147483648) from by decide) dX3_rest_34 (jj_M hM7 ?_)
  cases h
  exact jj_vret hC (c_le rfl) (c_le rfl) dX3_rest_37 ⟨rfl, trivial, rfl, rfl, rfl, rfl, rfl⟩
def fX3_enter (ad S Ln : Nat → Nat) (R : gR) (M : gM) (a0 : Nat) (x1 : Int) : Option gM :=
  nam (wr M a0 0 x1) fun M1 => nam (wr M1 a0 8 0) fun M2 => bd (fX3_rest ad S Ln R M2 a0) fun q3 => some (q3)
theorem xX3_enter {l : Launch} {G : gE} {sz : Nat} {S Ln : Nat → Nat} {M : gM} {R : gR} (hl : l.stackTraces = false) {a0 : Nat} (hs0 : S a0 = 8) {x1 : Int} (hp1 : (-2147483648 ≤ x1 ∧ x1 < 2147483648)) {r : gM} (h : fX3_enter G.2.2.2.2 S Ln R M a0 x1 = some r) : Ct l G yX3_enter cX3_enter 2 none 2 0 0 [.ref a0, .int (iI x1)] sz S Ln M R (poV sz S Ln (r) R) noX := by
  refine jj_start (own := RX3) (lv0 := [(0, .ref a0), (1, .int (iI x1))]) hl (by decide +kernel) rfl rfl (c_le rfl) (fun C hCl hC => ?_)
  unfold fX3_enter at h
  refine jj_aload_n hC dX3_enter_0 rfl 0 rfl ?_
  refine jj_iload_n hC dX3_enter_1 rfl 1 rfl ?_
  obtain ⟨M1, hM1, h⟩ := nam_e h
  refine jp_I hC kfX3 0 rfl hs0 rfl (by decide) wd991 rfl rfl rfl hp1 dX3_enter_2 (jj_M hM1 ?_)
  refine jj_aload_n hC dX3_enter_5 rfl 0 rfl ?_
  refine jj_lconst (z := 0) hC dX3_enter_6 rfl ?_
  obtain ⟨M2, hM2, h⟩ := nam_e h
  refine jp_L hC kfX3 8 rfl hs0 rfl (by decide) wd1013 rfl rfl rfl (show (-9223372036854775808 ≤ (0 : Int) ∧ (0 : Int) < 9223372036854775808) from by decide) dX3_enter_7 (jj_M hM2 ?_)
  refine jj_aload_n hC dX3_enter_10 rfl 0 rfl ?_
  obtain ⟨q3, hq3, h⟩ := bd_e h
  refine jj_invV hC mvX3_rest wd625 wd626 wd624 hs0 (by decide) rfl (xX3_rest (OKC.tr hC) hs0 hq3) rfl rfl (c_le rfl) (c_le rfl) (c_le rfl) (c_le rfl) dX3_enter_11 noXk (po_kV ?_)
  cases h
  exact jj_vret hC (c_le rfl) (c_le rfl) dX3_enter_14 ⟨rfl, trivial, rfl, rfl, rfl, rfl, rfl⟩
def fX3_takeOff (ad S Ln : Nat → Nat) (R : gR) (M : gM) (a0 : Nat) (x1 : Int) (x2 : Int) : Option gM :=
  nam (wr M a0 1 1) fun M1 => nam (wr M1 a0 2 x1) fun M2 => nam (wr M2 a0 3 x2) fun M3 => nam (wr M3 a0 4 1000) fun M4 => nam (wr M4 a0 5 0) fun M5 => nam (wr M5 a0 6 0) fun M6 => nam (wr M6 a0 7 1) fun M7 => some (M7)
theorem xX3_takeOff {l : Launch} {G : gE} {sz : Nat} {S Ln : Nat → Nat} {M : gM} {R : gR} (hl : l.stackTraces = false) {a0 : Nat} (hs0 : S a0 = 8) {x1 : Int} (hp1 : (-2147483648 ≤ x1 ∧ x1 < 2147483648)) {x2 : Int} (hp2 : (-2147483648 ≤ x2 ∧ x2 < 2147483648)) {r : gM} (h : fX3_takeOff G.2.2.2.2 S Ln R M a0 x1 x2 = some r) : Ct l G yX3_takeOff cX3_takeOff 3 none 1 0 0 [.ref a0, .int (iI x1), .int (iI x2)] sz S Ln M R (poV sz S Ln (r) R) noX := by
  refine jj_start (own := RX3) (lv0 := [(0, .ref a0), (1, .int (iI x1)), (2, .int (iI x2))]) hl (by decide +kernel) rfl rfl (c_le rfl) (fun C hCl hC => ?_)
  unfold fX3_takeOff at h
  refine jj_aload_n hC dX3_takeOff_0 rfl 0 rfl ?_
  refine jg_s (j := 1) hC 1 rfl rfl wd494 dX3_takeOff_1 ?_
  obtain ⟨M1, hM1, h⟩ := nam_e h
  refine jp_E hC kfX3 1 rfl (show (0 ≤ (1 : Int) ∧ (1 : Int) < 9) from by decide) hs0 rfl (by decide) wd992 rfl rfl rfl dX3_takeOff_4 (jj_M hM1 ?_)
  refine jj_aload_n hC dX3_takeOff_7 rfl 0 rfl ?_
  refine jj_iload_n hC dX3_takeOff_8 rfl 1 rfl ?_
  obtain ⟨M2, hM2, h⟩ := nam_e h
  refine jp_I hC kfX3 2 rfl hs0 rfl (by decide) wd995 rfl rfl rfl hp1 dX3_takeOff_9 (jj_M hM2 ?_)
  refine jj_aload_n hC dX3_takeOff_12 rfl 0 rfl ?_
  refine jj_iload_n hC dX3_takeOff_13 rfl 2 rfl ?_
  obtain ⟨M3, hM3, h⟩ := nam_e h
  refine jp_I hC kfX3 3 rfl hs0 rfl (by decide) wd998 rfl rfl rfl hp2 dX3_takeOff_14 (jj_M hM3 ?_)
  refine jj_aload_n hC dX3_takeOff_17 rfl 0 rfl ?_
  refine jj_sipush hC dX3_takeOff_18 (by decide) ?_
  obtain ⟨M4, hM4, h⟩ := nam_e h
  refine jp_I hC kfX3 4 rfl hs0 rfl (by decide) wd1001 rfl rfl rfl (show (-2147483648 ≤ (1000 : Int) ∧ (1000 : Int) < 2147483648) from by decide) dX3_takeOff_21 (jj_M hM4 ?_)
  refine jj_aload_n hC dX3_takeOff_24 rfl 0 rfl ?_
  refine jj_iconst hC dX3_takeOff_25 ?_
  obtain ⟨M5, hM5, h⟩ := nam_e h
  refine jp_I hC kfX3 5 rfl hs0 rfl (by decide) wd1004 rfl rfl rfl (show (-2147483648 ≤ (0 : Int) ∧ (0 : Int) < 2147483648) from by decide) dX3_takeOff_26 (jj_M hM5 ?_)
  refine jj_aload_n hC dX3_takeOff_29 rfl 0 rfl ?_
  refine jj_iconst hC dX3_takeOff_30 ?_
  obtain ⟨M6, hM6, h⟩ := nam_e h
  refine jp_I hC kfX3 6 rfl hs0 rfl (by decide) wd1007 rfl rfl rfl (show (-2147483648 ≤ (0 : Int) ∧ (0 : Int) < 2147483648) from by decide) dX3_takeOff_31 (jj_M hM6 ?_)
  refine jj_aload_n hC dX3_takeOff_34 rfl 0 rfl ?_
  refine jj_iconst hC dX3_takeOff_35 ?_
  obtain ⟨M7, hM7, h⟩ := nam_e h
  refine jp_I hC kfX3 7 rfl hs0 rfl (by decide) wd1010 rfl rfl rfl (show (-2147483648 ≤ (1 : Int) ∧ (1 : Int) < 2147483648) from by decide) dX3_takeOff_36 (jj_M hM7 ?_)
  cases h
  exact jj_vret hC (c_le rfl) (c_le rfl) dX3_takeOff_39 ⟨rfl, trivial, rfl, rfl, rfl, rfl, rfl⟩
def fX9_quotient (ad S Ln : Nat → Nat) (R : gR) (M : gM) (x0 : Int) (x1 : Int) : Option Int :=
  if x1 ≤ 0 then (some (0)) else (gd ((0 : Int) < x1) (some (Int.tdiv x0 x1)))
theorem xX9_quotient {l : Launch} {G : gE} {sz : Nat} {S Ln : Nat → Nat} {M : gM} {R : gR} (hl : l.stackTraces = false) {x0 : Int} (hp0 : (-2147483648 ≤ x0 ∧ x0 < 2147483648)) {x1 : Int} (hp1 : (-2147483648 ≤ x1 ∧ x1 < 2147483648)) {r : Int} (h : fX9_quotient G.2.2.2.2 S Ln R M x0 x1 = some r) : Ct l G yX9_quotient cX9_quotient 2 (some .int) 1 0 0 [.int (iI x0), .int (iI x1)] sz S Ln M R (poI r sz S Ln (M) R) noX := by
  refine jj_start (own := RX9) (lv0 := [(0, .int (iI x0)), (1, .int (iI x1))]) hl (by decide +kernel) rfl rfl (c_le rfl) (fun C hCl hC => ?_)
  unfold fX9_quotient at h
  refine jj_iload_n hC dX9_quotient_0 rfl 1 rfl ?_
  refine jj_if_le (tgt := 10) hC dX9_quotient_1 rfl hp1 (fun hc => ?_) (fun hc => ?_)
  · replace h := (if_pos hc).symm.trans h
    refine jj_iconst hC dX9_quotient_10 ?_
    cases h
    exact jj_iret hC (c_le rfl) (c_le rfl) dX9_quotient_11 ⟨rfl, (show (-2147483648 ≤ (0 : Int) ∧ (0 : Int) < 2147483648) from by decide), rfl, rfl, rfl, rfl, rfl⟩
  · replace h := (if_neg (Int.not_le.mpr hc)).symm.trans h
    refine jj_iload_n hC dX9_quotient_4 rfl 0 rfl ?_
    refine jj_iload_n hC dX9_quotient_5 rfl 1 rfl ?_
    obtain ⟨hg1, h⟩ := gd_e h
    refine jj_idiv hC dX9_quotient_6 hp0 hp1 hg1 ?_
    refine jj_goto (tgt := 11) hC dX9_quotient_7 rfl ?_
    cases h
    exact jj_iret hC (c_le rfl) (c_le rfl) dX9_quotient_11 ⟨rfl, (i_tdiv_r hp0 hg1), rfl, rfl, rfl, rfl, rfl⟩
def fX3_sinkRate (ad S Ln : Nat → Nat) (R : gR) (M : gM) (a0 : Nat) : Option Int :=
  bd (fX9_quotient ad S Ln R M 1000 (M a0 0)) fun q2 => some (q2)
theorem xX3_sinkRate {l : Launch} {G : gE} {sz : Nat} {S Ln : Nat → Nat} {M : gM} {R : gR} (hl : l.stackTraces = false) {a0 : Nat} (hs0 : S a0 = 8) {r : Int} (h : fX3_sinkRate G.2.2.2.2 S Ln R M a0 = some r) : Ct l G yX3_sinkRate cX3_sinkRate 1 (some .int) 2 0 0 [.ref a0] sz S Ln M R (poI r sz S Ln (M) R) noX := by
  refine jj_start (own := RX3) (lv0 := [(0, .ref a0)]) hl (by decide +kernel) rfl rfl (c_le rfl) (fun C hCl hC => ?_)
  unfold fX3_sinkRate at h
  refine jj_sipush hC dX3_sinkRate_0 (by decide) ?_
  refine jj_aload_n hC dX3_sinkRate_3 rfl 0 rfl ?_
  refine jg_I hC kfX3 0 rfl hs0 (by decide) wd991 rfl dX3_sinkRate_4 (fun hr1 => ?_)
  obtain ⟨q2, hq2, h⟩ := bd_e h
  refine jj_invSN hC mvX9_quotient wd711 wd710 (xX9_quotient (OKC.tr hC) (show (-2147483648 ≤ (1000 : Int) ∧ (1000 : Int) < 2147483648) from by decide) hr1 hq2) rfl rfl (c_le rfl) (c_le rfl) (c_le rfl) (c_le rfl) dX3_sinkRate_7 (po_kI (fun hr2 => ?_))
  cases h
  exact jj_iret hC (c_le rfl) (c_le rfl) dX3_sinkRate_10 ⟨rfl, hr2, rfl, rfl, rfl, rfl, rfl⟩
def fX9_eastward (ad S Ln : Nat → Nat) (R : gR) (M : gM) (x0 : Int) : Option Int :=
  if ¬ x0 = 1 then (if ¬ x0 = 3 then (some (0)) else (some ((-1)))) else (some (1))
theorem xX9_eastward {l : Launch} {G : gE} {sz : Nat} {S Ln : Nat → Nat} {M : gM} {R : gR} (hl : l.stackTraces = false) {x0 : Int} (hp0 : (-2147483648 ≤ x0 ∧ x0 < 2147483648)) {r : Int} (h : fX9_eastward G.2.2.2.2 S Ln R M x0 = some r) : Ct l G yX9_eastward cX9_eastward 1 (some .int) 1 0 0 [.int (iI x0)] sz S Ln M R (poI r sz S Ln (M) R) noX := by
  refine jj_start (own := RX9) (lv0 := [(0, .int (iI x0))]) hl (by decide +kernel) rfl rfl (c_le rfl) (fun C hCl hC => ?_)
  unfold fX9_eastward at h
  refine jj_iload_n hC dX9_eastward_0 rfl 0 rfl ?_
  refine jj_iconst hC dX9_eastward_1 ?_
  refine jj_icmp_ne (tgt := 7) hC dX9_eastward_2 rfl hp0 (show (-2147483648 ≤ (1 : Int) ∧ (1 : Int) < 2147483648) from by decide) (fun hc => ?_) (fun hc => ?_)
  · replace h := (if_pos hc).symm.trans h
    refine jj_iload_n hC dX9_eastward_7 rfl 0 rfl ?_
    refine jj_iconst hC dX9_eastward_8 ?_
    refine jj_icmp_ne (tgt := 16) hC dX9_eastward_9 rfl hp0 (show (-2147483648 ≤ (3 : Int) ∧ (3 : Int) < 2147483648) from by decide) (fun hc => ?_) (fun hc => ?_)
    · replace h := (if_pos hc).symm.trans h
      refine jj_iconst hC dX9_eastward_16 ?_
      cases h
      exact jj_iret hC (c_le rfl) (c_le rfl) dX9_eastward_17 ⟨rfl, (show (-2147483648 ≤ (0 : Int) ∧ (0 : Int) < 2147483648) from by decide), rfl, rfl, rfl, rfl, rfl⟩
    · replace h := (if_neg (fun k => k hc)).symm.trans h
      refine jj_iconst hC dX9_eastward_12 ?_
      refine jj_goto (tgt := 17) hC dX9_eastward_13 rfl ?_
      cases h
      exact jj_iret hC (c_le rfl) (c_le rfl) dX9_eastward_17 ⟨rfl, (show (-2147483648 ≤ ((-1) : Int) ∧ ((-1) : Int) < 2147483648) from by decide), rfl, rfl, rfl, rfl, rfl⟩
  · replace h := (if_neg (fun k => k hc)).symm.trans h
    refine jj_iconst hC dX9_eastward_5 ?_
    cases h
    exact jj_iret hC (c_le rfl) (c_le rfl) dX9_eastward_6 ⟨rfl, (show (-2147483648 ≤ (1 : Int) ∧ (1 : Int) < 2147483648) from by decide), rfl, rfl, rfl, rfl, rfl⟩
def fX9_northward (ad S Ln : Nat → Nat) (R : gR) (M : gM) (x0 : Int) : Option Int :=
  if ¬ x0 = 0 then (if ¬ x0 = 2 then (some (0)) else (some ((-1)))) else (some (1))
theorem xX9_northward {l : Launch} {G : gE} {sz : Nat} {S Ln : Nat → Nat} {M : gM} {R : gR} (hl : l.stackTraces = false) {x0 : Int} (hp0 : (-2147483648 ≤ x0 ∧ x0 < 2147483648)) {r : Int} (h : fX9_northward G.2.2.2.2 S Ln R M x0 = some r) : Ct l G yX9_northward cX9_northward 1 (some .int) 1 0 0 [.int (iI x0)] sz S Ln M R (poI r sz S Ln (M) R) noX := by
  refine jj_start (own := RX9) (lv0 := [(0, .int (iI x0))]) hl (by decide +kernel) rfl rfl (c_le rfl) (fun C hCl hC => ?_)
  unfold fX9_northward at h
  refine jj_iload_n hC dX9_northward_0 rfl 0 rfl ?_
  refine jj_if_ne (tgt := 6) hC dX9_northward_1 rfl hp0 (fun hc => ?_) (fun hc => ?_)
  · replace h := (if_pos hc).symm.trans h
    refine jj_iload_n hC dX9_northward_6 rfl 0 rfl ?_
    refine jj_iconst hC dX9_northward_7 ?_
    refine jj_icmp_ne (tgt := 15) hC dX9_northward_8 rfl hp0 (show (-2147483648 ≤ (2 : Int) ∧ (2 : Int) < 2147483648) from by decide) (fun hc => ?_) (fun hc => ?_)
    · replace h := (if_pos hc).symm.trans h
      refine jj_iconst hC dX9_northward_15 ?_
      cases h
      exact jj_iret hC (c_le rfl) (c_le rfl) dX9_northward_16 ⟨rfl, (show (-2147483648 ≤ (0 : Int) ∧ (0 : Int) < 2147483648) from by decide), rfl, rfl, rfl, rfl, rfl⟩
    · replace h := (if_neg (fun k => k hc)).symm.trans h
      refine jj_iconst hC dX9_northward_11 ?_
      refine jj_goto (tgt := 16) hC dX9_northward_12 rfl ?_
      cases h
      exact jj_iret hC (c_le rfl) (c_le rfl) dX9_northward_16 ⟨rfl, (show (-2147483648 ≤ ((-1) : Int) ∧ ((-1) : Int) < 2147483648) from by decide), rfl, rfl, rfl, rfl, rfl⟩
  · replace h := (if_neg (fun k => k hc)).symm.trans h
    refine jj_iconst hC dX9_northward_4 ?_
    cases h
    exact jj_iret hC (c_le rfl) (c_le rfl) dX9_northward_5 ⟨rfl, (show (-2147483648 ≤ (1 : Int) ∧ (1 : Int) < 2147483648) from by decide), rfl, rfl, rfl, rfl, rfl⟩
def fX3_move (ad S Ln : Nat → Nat) (R : gR) (M : gM) (a0 : Nat) (x1 : Int) : Option gM :=
  bd (fX9_eastward ad S Ln R M x1) fun q2 => nam (wr M a0 2 (w32 ((M a0 2) + q2))) fun M3 => bd (fX9_northward ad S Ln R M3 x1) fun q5 => nam (wr M3 a0 3 (w32 ((M3 a0 3) + q5))) fun M6 => nam (wr M6 a0 5 (w32 ((M6 a0 5) + 1))) fun M8 => bd (fX3_sinkRate ad S Ln R M8 a0) fun q10 => nam (wr M8 a0 4 (i_max 0 (w32 ((M8 a0 4) - q10)))) fun M11 => some (M11)
theorem xX3_move {l : Launch} {G : gE} {sz : Nat} {S Ln : Nat → Nat} {M : gM} {R : gR} (hl : l.stackTraces = false) {a0 : Nat} (hs0 : S a0 = 8) {x1 : Int} (hp1 : (-2147483648 ≤ x1 ∧ x1 < 2147483648)) {r : gM} (h : fX3_move G.2.2.2.2 S Ln R M a0 x1 = some r) : Ct l G yX3_move cX3_move 2 none 3 0 0 [.ref a0, .int (iI x1)] sz S Ln M R (poV sz S Ln (r) R) noX := by
  refine jj_start (own := RX3) (lv0 := [(0, .ref a0), (1, .int (iI x1))]) hl (by decide +kernel) rfl rfl (c_le rfl) (fun C hCl hC => ?_)
  unfold fX3_move at h
  refine jj_aload_n hC dX3_move_0 rfl 0 rfl ?_
  refine jj_dup hC dX3_move_1 rfl ?_
  refine jg_I hC kfX3 2 rfl hs0 (by decide) wd995 rfl dX3_move_2 (fun hr1 => ?_)
  refine jj_iload_n hC dX3_move_5 rfl 1 rfl ?_
  obtain ⟨q2, hq2, h⟩ := bd_e h
  refine jj_invSN hC mvX9_eastward wd683 wd704 (xX9_eastward (OKC.tr hC) hp1 hq2) rfl rfl (c_le rfl) (c_le rfl) (c_le rfl) (c_le rfl) dX3_move_6 (po_kI (fun hr2 => ?_))
  refine jg_iadd hC dX3_move_9 ?_
  obtain ⟨M3, hM3, h⟩ := nam_e h
  refine jp_I hC kfX3 2 rfl hs0 rfl (by decide) wd995 rfl rfl rfl (w32_r _) dX3_move_10 (jj_M hM3 ?_)
  refine jj_aload_n hC dX3_move_13 rfl 0 rfl ?_
  refine jj_dup hC dX3_move_14 rfl ?_
  refine jg_I hC kfX3 3 rfl hs0 (by decide) wd998 rfl dX3_move_15 (fun hr4 => ?_)
  refine jj_iload_n hC dX3_move_18 rfl 1 rfl ?_
  obtain ⟨q5, hq5, h⟩ := bd_e h
  refine jj_invSN hC mvX9_northward wd686 wd705 (xX9_northward (OKC.tr hC) hp1 hq5) rfl rfl (c_le rfl) (c_le rfl) (c_le rfl) (c_le rfl) dX3_move_19 (po_kI (fun hr5 => ?_))
  refine jg_iadd hC dX3_move_22 ?_
  obtain ⟨M6, hM6, h⟩ := nam_e h
  refine jp_I hC kfX3 3 rfl hs0 rfl (by decide) wd998 rfl rfl rfl (w32_r _) dX3_move_23 (jj_M hM6 ?_)
  refine jj_aload_n hC dX3_move_26 rfl 0 rfl ?_
  refine jj_dup hC dX3_move_27 rfl ?_
  refine jg_I hC kfX3 5 rfl hs0 (by decide) wd1004 rfl dX3_move_28 (fun hr7 => ?_)
  refine jj_iconst hC dX3_move_31 ?_
  refine jg_iadd hC dX3_move_32 ?_
  obtain ⟨M8, hM8, h⟩ := nam_e h
  refine jp_I hC kfX3 5 rfl hs0 rfl (by decide) wd1004 rfl rfl rfl (w32_r _) dX3_move_33 (jj_M hM8 ?_)
  refine jj_aload_n hC dX3_move_36 rfl 0 rfl ?_
  refine jj_iconst hC dX3_move_37 ?_
  refine jj_aload_n hC dX3_move_38 rfl 0 rfl ?_
  refine jg_I hC kfX3 4 rfl hs0 (by decide) wd1001 rfl dX3_move_39 (fun hr9 => ?_)
  refine jj_aload_n hC dX3_move_42 rfl 0 rfl ?_
  obtain ⟨q10, hq10, h⟩ := bd_e h
  refine jj_invV hC mvX3_sinkRate wd707 wd708 wd706 hs0 (by decide) rfl (xX3_sinkRate (OKC.tr hC) hs0 hq10) rfl rfl (c_le rfl) (c_le rfl) (c_le rfl) (c_le rfl) dX3_move_43 noXk (po_kI (fun hr10 => ?_))
  refine jg_isub hC dX3_move_46 ?_
  refine jj_mmax hC (show (-2147483648 ≤ (0 : Int) ∧ (0 : Int) < 2147483648) from by decide) (w32_r _) wd713 wd211 wd47 wd212 (c_le rfl) (c_le rfl) (c_le rfl) (c_le rfl) dX3_move_47 ?_
  obtain ⟨M11, hM11, h⟩ := nam_e h
  refine jp_I hC kfX3 4 rfl hs0 rfl (by decide) wd1001 rfl rfl rfl (i_max_r (show (-2147483648 ≤ (0 : Int) ∧ (0 : Int) < 2147483648) from by decide) (w32_r _)) dX3_move_50 (jj_M hM11 ?_)
  cases h
  exact jj_vret hC (c_le rfl) (c_le rfl) dX3_move_53 ⟨rfl, trivial, rfl, rfl, rfl, rfl, rfl⟩
def fX3_rise_B27 (ad S Ln : Nat → Nat) (R : gR) (M27 : gM) (l0_27 : Nat) (l2_27 : Int) : Option gM :=
  nam (wr M27 l0_27 5 (w32 ((M27 l0_27 5) + l2_27))) fun M3 => some (M3)
def fX3_rise (ad S Ln : Nat → Nat) (R : gR) (M : gM) (a0 : Nat) (x1 : Int) (x2 : Int) (x3 : Int) : Option gM :=
  if x3 ≤ (M a0 4) then (fX3_rise_B27 ad S Ln R M a0 x2) else (nam (wr M a0 4 (i_min x3 (w32 ((M a0 4) + (w32 ((w32 (60 * x1)) * x2)))))) fun M5 => fX3_rise_B27 ad S Ln R M5 a0 x2)
theorem xX3_rise {l : Launch} {G : gE} {sz : Nat} {S Ln : Nat → Nat} {M : gM} {R : gR} (hl : l.stackTraces = false) {a0 : Nat} (hs0 : S a0 = 8) {x1 : Int} (hp1 : (-2147483648 ≤ x1 ∧ x1 < 2147483648)) {x2 : Int} (hp2 : (-2147483648 ≤ x2 ∧ x2 < 2147483648)) {x3 : Int} (hp3 : (-2147483648 ≤ x3 ∧ x3 < 2147483648)) {r : gM} (h : fX3_rise G.2.2.2.2 S Ln R M a0 x1 x2 x3 = some r) : Ct l G yX3_rise cX3_rise 4 none 1 0 0 [.ref a0, .int (iI x1), .int (iI x2), .int (iI x3)] sz S Ln M R (poV sz S Ln (r) R) noX := by
  refine jj_start (own := RX3) (lv0 := [(0, .ref a0), (1, .int (iI x1)), (2, .int (iI x2)), (3, .int (iI x3))]) hl (by decide +kernel) rfl rfl (c_le rfl) (fun C hCl hC => ?_)
  have hB27 : ∀ (M27 : gM) (l0_27 : Nat) (l2_27 : Int), S l0_27 = 8 → (-2147483648 ≤ l2_27 ∧ l2_27 < 2147483648) → fX3_rise_B27 G.2.2.2.2 S Ln R M27 l0_27 l2_27 = some r → JJ G C 0 0 sz S Ln M27 R 27 [(0, .ref l0_27), (2, .int (iI l2_27))] [] := by
    intro M27 l0_27 l2_27 hl0_27 hl2_27 h
    unfold fX3_rise_B27 at h
    refine jj_aload_n hC dX3_rise_27 rfl 0 rfl ?_
    refine jj_dup hC dX3_rise_28 rfl ?_
    refine jg_I hC kfX3 5 rfl hl0_27 (by decide) wd1004 rfl dX3_rise_29 (fun hr2 => ?_)
    refine jj_iload_n hC dX3_rise_32 rfl 1 rfl ?_
    refine jg_iadd hC dX3_rise_33 ?_
    obtain ⟨M3, hM3, h⟩ := nam_e h
    refine jp_I hC kfX3 5 rfl hl0_27 rfl (by decide) wd1004 rfl rfl rfl (w32_r _) dX3_rise_34 (jj_M hM3 ?_)
    cases h
    exact jj_vret hC (c_le rfl) (c_le rfl) dX3_rise_37 ⟨rfl, trivial, rfl, rfl, rfl, rfl, rfl⟩
  unfold fX3_rise at h
  refine jj_aload_n hC dX3_rise_0 rfl 0 rfl ?_
  refine jg_I hC kfX3 4 rfl hs0 (by decide) wd1001 rfl dX3_rise_1 (fun hr1 => ?_)
  refine jj_iload_n hC dX3_rise_4 rfl 3 rfl ?_
  refine jj_icmp_ge (tgt := 27) hC dX3_rise_5 rfl hr1 hp3 (fun hc => ?_) (fun hc => ?_)
  · replace h := (if_pos hc).symm.trans h
    refine jj_lv (lv' := [(0, .ref a0), (2, .int (iI x2))]) [0, 2] rfl ?_
    exact hB27 M a0 x2 hs0 hp2 h
  · replace h := (if_neg (Int.not_le.mpr hc)).symm.trans h
    refine jj_aload_n hC dX3_rise_8 rfl 0 rfl ?_
    refine jj_iload_n hC dX3_rise_9 rfl 3 rfl ?_
    refine jj_aload_n hC dX3_rise_10 rfl 0 rfl ?_
    refine jg_I hC kfX3 4 rfl hs0 (by decide) wd1001 rfl dX3_rise_11 (fun hr4 => ?_)
    refine jj_bipush hC dX3_rise_14 (by decide) ?_
    refine jj_iload_n hC dX3_rise_16 rfl 1 rfl ?_
    refine jg_imul hC dX3_rise_17 ?_
    refine jj_iload_n hC dX3_rise_18 rfl 2 rfl ?_
    refine jg_imul hC dX3_rise_19 ?_
    refine jg_iadd hC dX3_rise_20 ?_
    refine jj_mmin hC hp3 (w32_r _) wd1264 wd229 wd47 wd230 (c_le rfl) (c_le rfl) (c_le rfl) (c_le rfl) dX3_rise_21 ?_
    obtain ⟨M5, hM5, h⟩ := nam_e h
    refine jp_I hC kfX3 4 rfl hs0 rfl (by decide) wd1001 rfl rfl rfl (i_min_r hp3 (w32_r _)) dX3_rise_24 (jj_M hM5 ?_)
    refine jj_lv (lv' := [(0, .ref a0), (2, .int (iI x2))]) [0, 2] rfl ?_
    exact hB27 M5 a0 x2 hs0 hp2 h
def fX3_phaseSign (ad S Ln : Nat → Nat) (R : gR) (M : gM) (a0 : Nat) : Option Int :=
  gd (0 ≤ M a0 1) (if ¬ (M a0 1) = 1 then (gd (0 ≤ M a0 1) (if ¬ (M a0 1) = 2 then (some (33)) else (some (108)))) else (some (102)))
theorem xX3_phaseSign {l : Launch} {G : gE} {sz : Nat} {S Ln : Nat → Nat} {M : gM} {R : gR} (hl : l.stackTraces = false) {a0 : Nat} (hs0 : S a0 = 8) {r : Int} (h : fX3_phaseSign G.2.2.2.2 S Ln R M a0 = some r) : Ct l G yX3_phaseSign cX3_phaseSign 1 (some .char) 1 0 0 [.ref a0] sz S Ln M R (poC r sz S Ln (M) R) noX := by
  refine jj_start (own := RX3) (lv0 := [(0, .ref a0)]) hl (by decide +kernel) rfl rfl (c_le rfl) (fun C hCl hC => ?_)
  unfold fX3_phaseSign at h
  refine jj_aload_n hC dX3_phaseSign_0 rfl 0 rfl ?_
  obtain ⟨hg1, h⟩ := gd_e h
  refine jg_E hC kfX3 1 rfl hs0 (by decide) wd992 rfl hg1 dX3_phaseSign_1 (fun hr1 => ?_)
  refine jg_s (j := 1) hC 1 rfl rfl wd494 dX3_phaseSign_4 ?_
  refine jg_acmp_ne (tgt := 13) hC dX3_phaseSign_7 rfl ⟨hg1, hr1⟩ (show (0 ≤ (1 : Int) ∧ (1 : Int) < 9) from by decide) (fun hc => ?_) (fun hc => ?_)
  · replace h := (if_pos hc).symm.trans h
    refine jj_aload_n hC dX3_phaseSign_13 rfl 0 rfl ?_
    obtain ⟨hg2, h⟩ := gd_e h
    refine jg_E hC kfX3 1 rfl hs0 (by decide) wd992 rfl hg2 dX3_phaseSign_14 (fun hr2 => ?_)
    refine jg_s (j := 2) hC 2 rfl rfl wd496 dX3_phaseSign_17 ?_
    refine jg_acmp_ne (tgt := 28) hC dX3_phaseSign_20 rfl ⟨hg2, hr2⟩ (show (0 ≤ (2 : Int) ∧ (2 : Int) < 9) from by decide) (fun hc => ?_) (fun hc => ?_)
    · replace h := (if_pos hc).symm.trans h
      refine jj_bipush hC dX3_phaseSign_28 (by decide) ?_
      cases h
      exact jj_cret hC (show (0 ≤ (33 : Int) ∧ (33 : Int) < 65536) from by decide) (c_le rfl) (c_le rfl) dX3_phaseSign_30 ⟨rfl, (show (0 ≤ (33 : Int) ∧ (33 : Int) < 65536) from by decide), rfl, rfl, rfl, rfl, rfl⟩
    · replace h := (if_neg (fun k => k hc)).symm.trans h
      refine jj_bipush hC dX3_phaseSign_23 (by decide) ?_
      refine jj_goto (tgt := 30) hC dX3_phaseSign_25 rfl ?_
      cases h
      exact jj_cret hC (show (0 ≤ (108 : Int) ∧ (108 : Int) < 65536) from by decide) (c_le rfl) (c_le rfl) dX3_phaseSign_30 ⟨rfl, (show (0 ≤ (108 : Int) ∧ (108 : Int) < 65536) from by decide), rfl, rfl, rfl, rfl, rfl⟩
  · replace h := (if_neg (fun k => k hc)).symm.trans h
    refine jj_bipush hC dX3_phaseSign_10 (by decide) ?_
    cases h
    exact jj_cret hC (show (0 ≤ (102 : Int) ∧ (102 : Int) < 65536) from by decide) (c_le rfl) (c_le rfl) dX3_phaseSign_12 ⟨rfl, (show (0 ≤ (102 : Int) ∧ (102 : Int) < 65536) from by decide), rfl, rfl, rfl, rfl, rfl⟩
def fX9_isCoordinate (ad S Ln : Nat → Nat) (R : gR) (M : gM) (x0 : Int) : Option Int :=
  if x0 < 0 then (some (0)) else (if 60 < x0 then (some (0)) else (some (1)))
theorem xX9_isCoordinate {l : Launch} {G : gE} {sz : Nat} {S Ln : Nat → Nat} {M : gM} {R : gR} (hl : l.stackTraces = false) {x0 : Int} (hp0 : (-2147483648 ≤ x0 ∧ x0 < 2147483648)) {r : Int} (h : fX9_isCoordinate G.2.2.2.2 S Ln R M x0 = some r) : Ct l G yX9_isCoordinate cX9_isCoordinate 1 (some .boolean) 1 0 0 [.int (iI x0)] sz S Ln M R (poZ r sz S Ln (M) R) noX := by
  refine jj_start (own := RX9) (lv0 := [(0, .int (iI x0))]) hl (by decide +kernel) rfl rfl (c_le rfl) (fun C hCl hC => ?_)
  unfold fX9_isCoordinate at h
  refine jj_iload_n hC dX9_isCoordinate_0 rfl 0 rfl ?_
  refine jj_if_lt (tgt := 14) hC dX9_isCoordinate_1 rfl hp0 (fun hc => ?_) (fun hc => ?_)
  · replace h := (if_pos hc).symm.trans h
    refine jj_iconst hC dX9_isCoordinate_14 ?_
    cases h
    exact jj_zret hC (show (0 ≤ (0 : Int) ∧ (0 : Int) ≤ 1) from by decide) (c_le rfl) (c_le rfl) dX9_isCoordinate_15 ⟨rfl, (show (0 ≤ (0 : Int) ∧ (0 : Int) ≤ 1) from by decide), rfl, rfl, rfl, rfl, rfl⟩
  · replace h := (if_neg (Int.not_lt.mpr hc)).symm.trans h
    refine jj_iload_n hC dX9_isCoordinate_4 rfl 0 rfl ?_
    refine jj_bipush hC dX9_isCoordinate_5 (by decide) ?_
    refine jj_icmp_gt (tgt := 14) hC dX9_isCoordinate_7 rfl hp0 (show (-2147483648 ≤ (60 : Int) ∧ (60 : Int) < 2147483648) from by decide) (fun hc => ?_) (fun hc => ?_)
    · replace h := (if_pos hc).symm.trans h
      refine jj_iconst hC dX9_isCoordinate_14 ?_
      cases h
      exact jj_zret hC (show (0 ≤ (0 : Int) ∧ (0 : Int) ≤ 1) from by decide) (c_le rfl) (c_le rfl) dX9_isCoordinate_15 ⟨rfl, (show (0 ≤ (0 : Int) ∧ (0 : Int) ≤ 1) from by decide), rfl, rfl, rfl, rfl, rfl⟩
    · replace h := (if_neg (Int.not_lt.mpr hc)).symm.trans h
      refine jj_iconst hC dX9_isCoordinate_10 ?_
      refine jj_goto (tgt := 15) hC dX9_isCoordinate_11 rfl ?_
      cases h
      exact jj_zret hC (show (0 ≤ (1 : Int) ∧ (1 : Int) ≤ 1) from by decide) (c_le rfl) (c_le rfl) dX9_isCoordinate_15 ⟨rfl, (show (0 ≤ (1 : Int) ∧ (1 : Int) ≤ 1) from by decide), rfl, rfl, rfl, rfl, rfl⟩
