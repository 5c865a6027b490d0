def fL_c0_B341 (ad : Nat → Nat) (S341 Ln341 : Nat → Nat) (R341 : gR) (M341 : gM) (a0 : Nat) (a1 : Nat) (a2 : Nat) (a3 : Nat) (a4 : Nat) (l5_341 : Int) : Option ((Int × (Nat → Nat) × (Nat → Nat) × gM × gR) ⊕ Unit) :=
  some (.inl (w32 (l5_341 + 5), S341, Ln341, M341, R341))
def fL_c0 (ad : Nat → Nat) (sz : Nat) (S Ln : Nat → Nat) (R : gR) (M : gM) (a0 a1 a2 a3 a4 : Nat) (i0 : Int) : Option ((Int × (Nat → Nat) × (Nat → Nat) × gM × gR) ⊕ Unit) :=
  gd ((0 : Int) ≤ (w32 (i0 + 1)) ∧ (w32 (i0 + 1)) < (Ln a0 : Int)) (gd ((0 : Int) ≤ (w32 (i0 + 2)) ∧ (w32 (i0 + 2)) < (Ln a0 : Int)) (bd (fL_addPoint ad S Ln R M a1 (M a0 (w32 (i0 + 1))) (M a0 (w32 (i0 + 2))) a3) fun q3 => gd ((0 : Int) ≤ (w32 (i0 + 1)) ∧ (w32 (i0 + 1)) < (Ln a0 : Int)) (gd ((0 : Int) ≤ (w32 (i0 + 2)) ∧ (w32 (i0 + 2)) < (Ln a0 : Int)) (bd (fX10_addPoint ad S Ln q3.2.2 q3.2.1 a2 (q3.2.1 a0 (w32 (i0 + 1))) (q3.2.1 a0 (w32 (i0 + 2)))) fun q6 => bd (fX10_thrown ad S Ln q3.2.2 q6.2 a2) fun q7 => if q7 = q3.1 then (if ¬ q3.1 = 0 then (fL_c0_B341 ad S Ln q3.2.2 q6.2 a0 a1 a2 a3 a4 i0) else (gd ((0 : Int) ≤ 0 ∧ 0 < (Ln a3 : Int)) (if (i_lcmp (q6.2 a3 0) q6.1) = 0 then (fL_c0_B341 ad S Ln q3.2.2 q6.2 a0 a1 a2 a3 a4 i0) else (none)))) else (none)))))
theorem xL_c0 {G : gE} {C : gC} {sz kk : Nat} {S Ln : Nat → Nat} {M : gM} {R : gR} {P : gP} (hC : OKC G C RL cL_law 9 (some .boolean) 1400 603072 7198826 P noX) (hkk : kk + 40 ≤ 603072) (hnn : 256 * (kk + 40) ≤ 7198826) {a0 a1 a2 a3 a4 : Nat} {i0 : Int} (h0 : S a0 = 29) (h1 : S a1 = 12) (h2 : S a2 = 13) (h3 : S a3 = 21) (h4 : S a4 = 22) (hi0 : (-2147483648 ≤ i0 ∧ i0 < 2147483648)) {r : (Int × (Nat → Nat) × (Nat → Nat) × gM × gR) ⊕ Unit} (h : fL_c0 G.2.2.2.2 sz S Ln R M a0 a1 a2 a3 a4 i0 = some r) (hJ : ∀ t, r = .inl t → ∀ sz1, ((-2147483648 ≤ t.1 ∧ t.1 < 2147483648) ∧ t.2.1 a0 = 29 ∧ t.2.1 a1 = 12 ∧ t.2.1 a2 = 13 ∧ t.2.1 a3 = 21 ∧ t.2.1 a4 = 22 ∧ Ex2 S Ln t.2.1 t.2.2.1) → JJ G C (kk + 40) (256 * (kk + 40)) sz1 t.2.1 t.2.2.1 t.2.2.2.1 t.2.2.2.2 28 [(0, .ref a0), (1, .ref a1), (2, .ref a2), (3, .ref a3), (4, .ref a4), (5, .int (iI t.1))] []) : JJ G C kk (256 * (kk)) sz S Ln M R 276 [(0, .ref a0), (1, .ref a1), (2, .ref a2), (3, .ref a3), (4, .ref a4), (5, .int (iI i0))] [] := by
  have hB341 : ∀ (sz341 : Nat) (S341 : (Nat → Nat)) (Ln341 : (Nat → Nat)) (M341 : gM) (R341 : gR) (l5_341 : Int), Ex2 S Ln S341 Ln341 → (-2147483648 ≤ l5_341 ∧ l5_341 < 2147483648) → S341 a0 = 29 → S341 a1 = 12 → S341 a2 = 13 → S341 a3 = 21 → S341 a4 = 22 → fL_c0_B341 G.2.2.2.2 S341 Ln341 R341 M341 a0 a1 a2 a3 a4 l5_341 = some r → JJ G C (kk + 1) (256 * (kk + 1)) sz341 S341 Ln341 M341 R341 341 [(0, .ref a0), (1, .ref a1), (2, .ref a2), (3, .ref a3), (4, .ref a4), (5, .int (iI l5_341))] [] := by
    intro sz341 S341 Ln341 M341 R341 l5_341 hx341 hl5_341 ha0_341 ha1_341 ha2_341 ha3_341 ha4_341 h
    unfold fL_c0_B341 at h
    refine jj_goto (tgt := 2982) hC dL_law_341 rfl ?_
    refine jg_iinc (q := 5) (lv' := [(5, .int (iI (w32 (l5_341 + 5)))), (0, .ref a0), (1, .ref a1), (2, .ref a2), (3, .ref a3), (4, .ref a4)]) hC dL_law_2982 rfl (by decide) rfl ?_
    refine jj_goto (tgt := 28) hC dL_law_2985 rfl ?_
    refine jj_widen (k' := kk + 40) (n' := 256 * (kk + 40)) (by omega) (by omega) ?_
    refine jj_lv (lv' := [(0, .ref a0), (1, .ref a1), (2, .ref a2), (3, .ref a3), (4, .ref a4), (5, .int (iI (w32 (l5_341 + 5))))]) [1, 2, 3, 4, 5, 0] rfl ?_
    exact hJ _ (Option.some.inj h).symm sz341 ⟨(w32_r _), ha0_341, ha1_341, ha2_341, ha3_341, ha4_341, hx341⟩
  unfold fL_c0 at h
  refine jj_aload_n hC dL_law_276 rfl 1 rfl ?_
  refine jj_aload_n hC dL_law_277 rfl 0 rfl ?_
  refine jj_iload hC dL_law_278 5 rfl ?_
  refine jj_iconst hC dL_law_280 ?_
  refine jg_iadd hC dL_law_281 ?_
  obtain ⟨⟨ha1, hb1⟩, h⟩ := gd_e h
  refine jj_iald29 hC h0 ha1 hb1 dL_law_282 (fun hr1 => ?_)
  refine jj_aload_n hC dL_law_283 rfl 0 rfl ?_
  refine jj_iload hC dL_law_284 5 rfl ?_
  refine jj_iconst hC dL_law_286 ?_
  refine jg_iadd hC dL_law_287 ?_
  obtain ⟨⟨ha2, hb2⟩, h⟩ := gd_e h
  refine jj_iald29 hC h0 ha2 hb2 dL_law_288 (fun hr2 => ?_)
  refine jj_aload_n hC dL_law_289 rfl 3 rfl ?_
  obtain ⟨q3, hq3, h⟩ := bd_e h
  refine jj_invSW hC mvwL_addPoint wd972 wd971 (xL_addPoint (OKC.tr hC) h1 hr1 hr2 h3 hq3) rfl rfl (c_le rfl) (c_le rfl) (by omega) (by omega) dL_law_290 (po_kW (fun hr3 hx3 sz3 => ?_))
  refine jj_widen (k' := kk + 1) (n' := 256 * (kk + 1)) (by omega) (by omega) ?_
  refine jj_istore (lv' := [(6, .int (iI q3.1)), (0, .ref a0), (1, .ref a1), (2, .ref a2), (3, .ref a3), (4, .ref a4), (5, .int (iI i0))]) hC dL_law_293 (by decide) rfl ?_
  refine jj_aload_n hC dL_law_295 rfl 3 rfl ?_
  refine jj_aload_n hC dL_law_296 rfl 1 rfl ?_
  refine jj_iload hC dL_law_297 6 rfl ?_
  refine jj_iconst hC dL_law_299 ?_
  refine jg_iadd hC dL_law_300 ?_
  obtain ⟨⟨ha4, hb4⟩, h⟩ := gd_e h
  refine jj_iald29 hC h0 ha4 hb4 dL_law_301 (fun hr4 => ?_)
  refine jj_aload_n hC dL_law_302 rfl 1 rfl ?_
  refine jj_iload hC dL_law_303 6 rfl ?_
  refine jj_iconst hC dL_law_305 ?_
  refine jg_iadd hC dL_law_306 ?_
  obtain ⟨⟨ha5, hb5⟩, h⟩ := gd_e h
  refine jj_iald29 hC h0 ha5 hb5 dL_law_307 (fun hr5 => ?_)
  obtain ⟨q6, hq6, h⟩ := bd_e h
  refine jj_invV hC mvX10_addPoint wd1769 wd1770 wd1768 h2 (by decide) rfl (xX10_addPoint (OKC.tr hC) h2 hr4 hr5 hq6) rfl rfl (c_le rfl) (c_le rfl) (by omega) (by omega) dL_law_308 noXk (po_kI (fun hr6 => ?_))
  refine jj_istore (lv' := [(7, .int (iI q6.1)), (6, .int (iI q3.1)), (0, .ref a0), (1, .ref a1), (2, .ref a2), (3, .ref a3), (4, .ref a4), (5, .int (iI i0))]) hC dL_law_311 (by decide) rfl ?_
  refine jj_aload_n hC dL_law_313 rfl 4 rfl ?_
  obtain ⟨q7, hq7, h⟩ := bd_e h
  refine jj_invV hC mvX10_thrown wd1765 wd1766 wd1764 h2 (by decide) rfl (xX10_thrown (OKC.tr hC) h2 hq7) rfl rfl (c_le rfl) (c_le rfl) (by omega) (by omega) dL_law_314 noXk (po_kI (fun hr7 => ?_))
  refine jj_iload hC dL_law_317 1 rfl ?_
  refine jj_icmp_eq (tgt := 324) hC dL_law_319 rfl hr7 hr3 (fun hc => ?_) (fun hc => ?_)
  · replace h := (if_pos hc).symm.trans h
    refine jj_iload hC dL_law_324 1 rfl ?_
    refine jj_if_ne (tgt := 341) hC dL_law_326 rfl hr3 (fun hc => ?_) (fun hc => ?_)
    · replace h := (if_pos hc).symm.trans h
      refine jj_widen (k' := kk + 1) (n' := 256 * (kk + 1)) (by omega) (by omega) ?_
      refine jj_lv (lv' := [(0, .ref a0), (1, .ref a1), (2, .ref a2), (3, .ref a3), (4, .ref a4), (5, .int (iI i0))]) [2, 3, 4, 5, 6, 7] rfl ?_
      exact hB341 sz3 S Ln q6.2 q3.2.2 i0 ex2_r hi0 h0 h1 h2 h3 h4 h
    · replace h := (if_neg (fun k => k hc)).symm.trans h
      refine jj_aload_n hC dL_law_329 rfl 5 rfl ?_
      refine jj_iconst hC dL_law_330 ?_
      obtain ⟨⟨ha8, hb8⟩, h⟩ := gd_e h
      refine jj_lald hC h3 ha8 hb8 dL_law_331 (fun hr8 => ?_)
      refine jj_iload hC dL_law_332 0 rfl ?_
      refine jj_i2l hC dL_law_334 hr6 ?_
      refine jg_lcmp hC hr8 (r_il hr6) dL_law_335 ?_
      refine jj_if_eq (tgt := 341) hC dL_law_336 rfl i_lcmp_r (fun hc => ?_) (fun hc => ?_)
      · replace h := (if_pos hc).symm.trans h
        refine jj_widen (k' := kk + 1) (n' := 256 * (kk + 1)) (by omega) (by omega) ?_
        refine jj_lv (lv' := [(0, .ref a0), (1, .ref a1), (2, .ref a2), (3, .ref a3), (4, .ref a4), (5, .int (iI i0))]) [2, 3, 4, 5, 6, 7] rfl ?_
        exact hB341 sz3 S Ln q6.2 q3.2.2 i0 ex2_r hi0 h0 h1 h2 h3 h4 h
      · replace h := (if_neg (hc)).symm.trans h
        cases h
  · replace h := (if_neg (hc)).symm.trans h
    cases h
def fL_c1_B397 (ad : Nat → Nat) (S397 Ln397 : Nat → Nat) (R397 : gR) (M397 : gM) (a0 : Nat) (a1 : Nat) (a2 : Nat) (a3 : Nat) (a4 : Nat) (l5_397 : Int) : Option ((Int × (Nat → Nat) × (Nat → Nat) × gM × gR) ⊕ Unit) :=
  some (.inl (w32 (l5_397 + 5), S397, Ln397, M397, R397))
def fL_c1 (ad : Nat → Nat) (sz : Nat) (S Ln : Nat → Nat) (R : gR) (M : gM) (a0 a1 a2 a3 a4 : Nat) (i0 : Int) : Option ((Int × (Nat → Nat) × (Nat → Nat) × gM × gR) ⊕ Unit) :=
  gd ((0 : Int) ≤ (w32 (i0 + 1)) ∧ (w32 (i0 + 1)) < (Ln a0 : Int)) (bd (fL_addTaskPoint ad S Ln R M a1 (M a0 (w32 (i0 + 1))) a3) fun q2 => gd ((0 : Int) ≤ (w32 (i0 + 1)) ∧ (w32 (i0 + 1)) < (Ln a0 : Int)) (bd (fX10_addTaskPoint ad S Ln q2.2.2 q2.2.1 a2 (q2.2.1 a0 (w32 (i0 + 1)))) fun q4 => bd (fX10_thrown ad S Ln q2.2.2 q4.2 a2) fun q5 => if q5 = q2.1 then (if ¬ q2.1 = 0 then (fL_c1_B397 ad S Ln q2.2.2 q4.2 a0 a1 a2 a3 a4 i0) else (gd ((0 : Int) ≤ 0 ∧ 0 < (Ln a3 : Int)) (if (i_lcmp (q4.2 a3 0) q4.1) = 0 then (fL_c1_B397 ad S Ln q2.2.2 q4.2 a0 a1 a2 a3 a4 i0) else (none)))) else (none)))
theorem xL_c1 {G : gE} {C : gC} {sz kk : Nat} {S Ln : Nat → Nat} {M : gM} {R : gR} {P : gP} (hC : OKC G C RL cL_law 9 (some .boolean) 1400 603072 7198826 P noX) (hkk : kk + 40 ≤ 603072) (hnn : 256 * (kk + 40) ≤ 7198826) {a0 a1 a2 a3 a4 : Nat} {i0 : Int} (h0 : S a0 = 29) (h1 : S a1 = 12) (h2 : S a2 = 13) (h3 : S a3 = 21) (h4 : S a4 = 22) (hi0 : (-2147483648 ≤ i0 ∧ i0 < 2147483648)) {r : (Int × (Nat → Nat) × (Nat → Nat) × gM × gR) ⊕ Unit} (h : fL_c1 G.2.2.2.2 sz S Ln R M a0 a1 a2 a3 a4 i0 = some r) (hJ : ∀ t, r = .inl t → ∀ sz1, ((-2147483648 ≤ t.1 ∧ t.1 < 2147483648) ∧ t.2.1 a0 = 29 ∧ t.2.1 a1 = 12 ∧ t.2.1 a2 = 13 ∧ t.2.1 a3 = 21 ∧ t.2.1 a4 = 22 ∧ Ex2 S Ln t.2.1 t.2.2.1) → JJ G C (kk + 40) (256 * (kk + 40)) sz1 t.2.1 t.2.2.1 t.2.2.2.1 t.2.2.2.2 28 [(0, .ref a0), (1, .ref a1), (2, .ref a2), (3, .ref a3), (4, .ref a4), (5, .int (iI t.1))] []) : JJ G C kk (256 * (kk)) sz S Ln M R 344 [(0, .ref a0), (1, .ref a1), (2, .ref a2), (3, .ref a3), (4, .ref a4), (5, .int (iI i0))] [] := by
  have hB397 : ∀ (sz397 : Nat) (S397 : (Nat → Nat)) (Ln397 : (Nat → Nat)) (M397 : gM) (R397 : gR) (l5_397 : Int), Ex2 S Ln S397 Ln397 → (-2147483648 ≤ l5_397 ∧ l5_397 < 2147483648) → S397 a0 = 29 → S397 a1 = 12 → S397 a2 = 13 → S397 a3 = 21 → S397 a4 = 22 → fL_c1_B397 G.2.2.2.2 S397 Ln397 R397 M397 a0 a1 a2 a3 a4 l5_397 = some r → JJ G C (kk + 1) (256 * (kk + 1)) sz397 S397 Ln397 M397 R397 397 [(0, .ref a0), (1, .ref a1), (2, .ref a2), (3, .ref a3), (4, .ref a4), (5, .int (iI l5_397))] [] := by
    intro sz397 S397 Ln397 M397 R397 l5_397 hx397 hl5_397 ha0_397 ha1_397 ha2_397 ha3_397 ha4_397 h
    unfold fL_c1_B397 at h
    refine jj_goto (tgt := 2982) hC dL_law_397 rfl ?_
    refine jg_iinc (q := 5) (lv' := [(5, .int (iI (w32 (l5_397 + 5)))), (0, .ref a0), (1, .ref a1), (2, .ref a2), (3, .ref a3), (4, .ref a4)]) hC dL_law_2982 rfl (by decide) rfl ?_
    refine jj_goto (tgt := 28) hC dL_law_2985 rfl ?_
    refine jj_widen (k' := kk + 40) (n' := 256 * (kk + 40)) (by omega) (by omega) ?_
    refine jj_lv (lv' := [(0, .ref a0), (1, .ref a1), (2, .ref a2), (3, .ref a3), (4, .ref a4), (5, .int (iI (w32 (l5_397 + 5))))]) [1, 2, 3, 4, 5, 0] rfl ?_
    exact hJ _ (Option.some.inj h).symm sz397 ⟨(w32_r _), ha0_397, ha1_397, ha2_397, ha3_397, ha4_397, hx397⟩
  unfold fL_c1 at h
  refine jj_aload_n hC dL_law_344 rfl 1 rfl ?_
  refine jj_aload_n hC dL_law_345 rfl 0 rfl ?_
  refine jj_iload hC dL_law_346 5 rfl ?_
  refine jj_iconst hC dL_law_348 ?_
  refine jg_iadd hC dL_law_349 ?_
  obtain ⟨⟨ha1, hb1⟩, h⟩ := gd_e h
  refine jj_iald29 hC h0 ha1 hb1 dL_law_350 (fun hr1 => ?_)
  refine jj_aload_n hC dL_law_351 rfl 3 rfl ?_
  obtain ⟨q2, hq2, h⟩ := bd_e h
  refine jj_invSW hC mvwL_addTaskPoint wd1064 wd1063 (xL_addTaskPoint (OKC.tr hC) h1 hr1 h3 hq2) rfl rfl (c_le rfl) (c_le rfl) (by omega) (by omega) dL_law_352 (po_kW (fun hr2 hx2 sz2 => ?_))
  refine jj_widen (k' := kk + 1) (n' := 256 * (kk + 1)) (by omega) (by omega) ?_
  refine jj_istore (lv' := [(6, .int (iI q2.1)), (0, .ref a0), (1, .ref a1), (2, .ref a2), (3, .ref a3), (4, .ref a4), (5, .int (iI i0))]) hC dL_law_355 (by decide) rfl ?_
  refine jj_aload_n hC dL_law_357 rfl 3 rfl ?_
  refine jj_aload_n hC dL_law_358 rfl 1 rfl ?_
  refine jj_iload hC dL_law_359 6 rfl ?_
  refine jj_iconst hC dL_law_361 ?_
  refine jg_iadd hC dL_law_362 ?_
  obtain ⟨⟨ha3, hb3⟩, h⟩ := gd_e h
  refine jj_iald29 hC h0 ha3 hb3 dL_law_363 (fun hr3 => ?_)
  obtain ⟨q4, hq4, h⟩ := bd_e h
  refine jj_invV hC mvX10_addTaskPoint wd1798 wd1799 wd1797 h2 (by decide) rfl (xX10_addTaskPoint (OKC.tr hC) h2 hr3 hq4) rfl rfl (c_le rfl) (c_le rfl) (by omega) (by omega) dL_law_364 noXk (po_kI (fun hr4 => ?_))
  refine jj_istore (lv' := [(7, .int (iI q4.1)), (6, .int (iI q2.1)), (0, .ref a0), (1, .ref a1), (2, .ref a2), (3, .ref a3), (4, .ref a4), (5, .int (iI i0))]) hC dL_law_367 (by decide) rfl ?_
  refine jj_aload_n hC dL_law_369 rfl 4 rfl ?_
  obtain ⟨q5, hq5, h⟩ := bd_e h
  refine jj_invV hC mvX10_thrown wd1765 wd1766 wd1764 h2 (by decide) rfl (xX10_thrown (OKC.tr hC) h2 hq5) rfl rfl (c_le rfl) (c_le rfl) (by omega) (by omega) dL_law_370 noXk (po_kI (fun hr5 => ?_))
  refine jj_iload hC dL_law_373 1 rfl ?_
  refine jj_icmp_eq (tgt := 380) hC dL_law_375 rfl hr5 hr2 (fun hc => ?_) (fun hc => ?_)
  · replace h := (if_pos hc).symm.trans h
    refine jj_iload hC dL_law_380 1 rfl ?_
    refine jj_if_ne (tgt := 397) hC dL_law_382 rfl hr2 (fun hc => ?_) (fun hc => ?_)
    · replace h := (if_pos hc).symm.trans h
      refine jj_widen (k' := kk + 1) (n' := 256 * (kk + 1)) (by omega) (by omega) ?_
      refine jj_lv (lv' := [(0, .ref a0), (1, .ref a1), (2, .ref a2), (3, .ref a3), (4, .ref a4), (5, .int (iI i0))]) [2, 3, 4, 5, 6, 7] rfl ?_
      exact hB397 sz2 S Ln q4.2 q2.2.2 i0 ex2_r hi0 h0 h1 h2 h3 h4 h
    · replace h := (if_neg (fun k => k hc)).symm.trans h
      refine jj_aload_n hC dL_law_385 rfl 5 rfl ?_
      refine jj_iconst hC dL_law_386 ?_
      obtain ⟨⟨ha6, hb6⟩, h⟩ := gd_e h
      refine jj_lald hC h3 ha6 hb6 dL_law_387 (fun hr6 => ?_)
      refine jj_iload hC dL_law_388 0 rfl ?_
      refine jj_i2l hC dL_law_390 hr4 ?_
      refine jg_lcmp hC hr6 (r_il hr4) dL_law_391 ?_
      refine jj_if_eq (tgt := 397) hC dL_law_392 rfl i_lcmp_r (fun hc => ?_) (fun hc => ?_)
      · replace h := (if_pos hc).symm.trans h
        refine jj_widen (k' := kk + 1) (n' := 256 * (kk + 1)) (by omega) (by omega) ?_
        refine jj_lv (lv' := [(0, .ref a0), (1, .ref a1), (2, .ref a2), (3, .ref a3), (4, .ref a4), (5, .int (iI i0))]) [2, 3, 4, 5, 6, 7] rfl ?_
        exact hB397 sz2 S Ln q4.2 q2.2.2 i0 ex2_r hi0 h0 h1 h2 h3 h4 h
      · replace h := (if_neg (hc)).symm.trans h
        cases h
  · replace h := (if_neg (hc)).symm.trans h
    cases h
def fL_c2_B441 (ad : Nat → Nat) (S441 Ln441 : Nat → Nat) (R441 : gR) (M441 : gM) (a0 : Nat) (a1 : Nat) (a2 : Nat) (a3 : Nat) (a4 : Nat) (l5_441 : Int) : Option ((Int × (Nat → Nat) × (Nat → Nat) × gM × gR) ⊕ Unit) :=
  some (.inl (w32 (l5_441 + 5), S441, Ln441, M441, R441))
def fL_c2 (ad : Nat → Nat) (sz : Nat) (S Ln : Nat → Nat) (R : gR) (M : gM) (a0 a1 a2 a3 a4 : Nat) (i0 : Int) : Option ((Int × (Nat → Nat) × (Nat → Nat) × gM × gR) ⊕ Unit) :=
  bd (fL_clearTask ad S Ln R M a1 a3) fun q1 => bd (fX10_clearTask ad S Ln q1.2.2 q1.2.1 a2) fun q2 => bd (fX10_thrown ad S Ln q1.2.2 q2.2 a2) fun q3 => if q3 = q1.1 then (if ¬ q1.1 = 0 then (fL_c2_B441 ad S Ln q1.2.2 q2.2 a0 a1 a2 a3 a4 i0) else (gd ((0 : Int) ≤ 0 ∧ 0 < (Ln a3 : Int)) (if (i_lcmp (q2.2 a3 0) q2.1) = 0 then (fL_c2_B441 ad S Ln q1.2.2 q2.2 a0 a1 a2 a3 a4 i0) else (none)))) else (none)
theorem xL_c2 {G : gE} {C : gC} {sz kk : Nat} {S Ln : Nat → Nat} {M : gM} {R : gR} {P : gP} (hC : OKC G C RL cL_law 9 (some .boolean) 1400 603072 7198826 P noX) (hkk : kk + 40 ≤ 603072) (hnn : 256 * (kk + 40) ≤ 7198826) {a0 a1 a2 a3 a4 : Nat} {i0 : Int} (h0 : S a0 = 29) (h1 : S a1 = 12) (h2 : S a2 = 13) (h3 : S a3 = 21) (h4 : S a4 = 22) (hi0 : (-2147483648 ≤ i0 ∧ i0 < 2147483648)) {r : (Int × (Nat → Nat) × (Nat → Nat) × gM × gR) ⊕ Unit} (h : fL_c2 G.2.2.2.2 sz S Ln R M a0 a1 a2 a3 a4 i0 = some r) (hJ : ∀ t, r = .inl t → ∀ sz1, ((-2147483648 ≤ t.1 ∧ t.1 < 2147483648) ∧ t.2.1 a0 = 29 ∧ t.2.1 a1 = 12 ∧ t.2.1 a2 = 13 ∧ t.2.1 a3 = 21 ∧ t.2.1 a4 = 22 ∧ Ex2 S Ln t.2.1 t.2.2.1) → JJ G C (kk + 40) (256 * (kk + 40)) sz1 t.2.1 t.2.2.1 t.2.2.2.1 t.2.2.2.2 28 [(0, .ref a0), (1, .ref a1), (2, .ref a2), (3, .ref a3), (4, .ref a4), (5, .int (iI t.1))] []) : JJ G C kk (256 * (kk)) sz S Ln M R 400 [(0, .ref a0), (1, .ref a1), (2, .ref a2), (3, .ref a3), (4, .ref a4), (5, .int (iI i0))] [] := by
  have hB441 : ∀ (sz441 : Nat) (S441 : (Nat → Nat)) (Ln441 : (Nat → Nat)) (M441 : gM) (R441 : gR) (l5_441 : Int), Ex2 S Ln S441 Ln441 → (-2147483648 ≤ l5_441 ∧ l5_441 < 2147483648) → S441 a0 = 29 → S441 a1 = 12 → S441 a2 = 13 → S441 a3 = 21 → S441 a4 = 22 → fL_c2_B441 G.2.2.2.2 S441 Ln441 R441 M441 a0 a1 a2 a3 a4 l5_441 = some r → JJ G C (kk + 1) (256 * (kk + 1)) sz441 S441 Ln441 M441 R441 441 [(0, .ref a0), (1, .ref a1), (2, .ref a2), (3, .ref a3), (4, .ref a4), (5, .int (iI l5_441))] [] := by
    intro sz441 S441 Ln441 M441 R441 l5_441 hx441 hl5_441 ha0_441 ha1_441 ha2_441 ha3_441 ha4_441 h
    unfold fL_c2_B441 at h
    refine jj_goto (tgt := 2982) hC dL_law_441 rfl ?_
    refine jg_iinc (q := 5) (lv' := [(5, .int (iI (w32 (l5_441 + 5)))), (0, .ref a0), (1, .ref a1), (2, .ref a2), (3, .ref a3), (4, .ref a4)]) hC dL_law_2982 rfl (by decide) rfl ?_
    refine jj_goto (tgt := 28) hC dL_law_2985 rfl ?_
    refine jj_widen (k' := kk + 40) (n' := 256 * (kk + 40)) (by omega) (by omega) ?_
    refine jj_lv (lv' := [(0, .ref a0), (1, .ref a1), (2, .ref a2), (3, .ref a3), (4, .ref a4), (5, .int (iI (w32 (l5_441 + 5))))]) [1, 2, 3, 4, 5, 0] rfl ?_
    exact hJ _ (Option.some.inj h).symm sz441 ⟨(w32_r _), ha0_441, ha1_441, ha2_441, ha3_441, ha4_441, hx441⟩
  unfold fL_c2 at h
  refine jj_aload_n hC dL_law_400 rfl 1 rfl ?_
  refine jj_aload_n hC dL_law_401 rfl 3 rfl ?_
  obtain ⟨q1, hq1, h⟩ := bd_e h
  refine jj_invSW hC mvwL_clearTask wd1095 wd1094 (xL_clearTask (OKC.tr hC) h1 h3 hq1) rfl rfl (c_le rfl) (c_le rfl) (by omega) (by omega) dL_law_402 (po_kW (fun hr1 hx1 sz1 => ?_))
  refine jj_widen (k' := kk + 1) (n' := 256 * (kk + 1)) (by omega) (by omega) ?_
  refine jj_istore (lv' := [(6, .int (iI q1.1)), (0, .ref a0), (1, .ref a1), (2, .ref a2), (3, .ref a3), (4, .ref a4), (5, .int (iI i0))]) hC dL_law_405 (by decide) rfl ?_
  refine jj_aload_n hC dL_law_407 rfl 3 rfl ?_
  obtain ⟨q2, hq2, h⟩ := bd_e h
  refine jj_invV hC mvX10_clearTask wd1837 wd1838 wd1836 h2 (by decide) rfl (xX10_clearTask (OKC.tr hC) h2 hq2) rfl rfl (c_le rfl) (c_le rfl) (by omega) (by omega) dL_law_408 noXk (po_kI (fun hr2 => ?_))
  refine jj_istore (lv' := [(7, .int (iI q2.1)), (6, .int (iI q1.1)), (0, .ref a0), (1, .ref a1), (2, .ref a2), (3, .ref a3), (4, .ref a4), (5, .int (iI i0))]) hC dL_law_411 (by decide) rfl ?_
  refine jj_aload_n hC dL_law_413 rfl 4 rfl ?_
  obtain ⟨q3, hq3, h⟩ := bd_e h
  refine jj_invV hC mvX10_thrown wd1765 wd1766 wd1764 h2 (by decide) rfl (xX10_thrown (OKC.tr hC) h2 hq3) rfl rfl (c_le rfl) (c_le rfl) (by omega) (by omega) dL_law_414 noXk (po_kI (fun hr3 => ?_))
  refine jj_iload hC dL_law_417 1 rfl ?_
  refine jj_icmp_eq (tgt := 424) hC dL_law_419 rfl hr3 hr1 (fun hc => ?_) (fun hc => ?_)
  · replace h := (if_pos hc).symm.trans h
    refine jj_iload hC dL_law_424 1 rfl ?_
    refine jj_if_ne (tgt := 441) hC dL_law_426 rfl hr1 (fun hc => ?_) (fun hc => ?_)
    · replace h := (if_pos hc).symm.trans h
      refine jj_widen (k' := kk + 1) (n' := 256 * (kk + 1)) (by omega) (by omega) ?_
      refine jj_lv (lv' := [(0, .ref a0), (1, .ref a1), (2, .ref a2), (3, .ref a3), (4, .ref a4), (5, .int (iI i0))]) [2, 3, 4, 5, 6, 7] rfl ?_
      exact hB441 sz1 S Ln q2.2 q1.2.2 i0 ex2_r hi0 h0 h1 h2 h3 h4 h
    · replace h := (if_neg (fun k => k hc)).symm.trans h
      refine jj_aload_n hC dL_law_429 rfl 5 rfl ?_
      refine jj_iconst hC dL_law_430 ?_
      obtain ⟨⟨ha4, hb4⟩, h⟩ := gd_e h
      refine jj_lald hC h3 ha4 hb4 dL_law_431 (fun hr4 => ?_)
      refine jj_iload hC dL_law_432 0 rfl ?_
      refine jj_i2l hC dL_law_434 hr2 ?_
      refine jg_lcmp hC hr4 (r_il hr2) dL_law_435 ?_
      refine jj_if_eq (tgt := 441) hC dL_law_436 rfl i_lcmp_r (fun hc => ?_) (fun hc => ?_)
      · replace h := (if_pos hc).symm.trans h
        refine jj_widen (k' := kk + 1) (n' := 256 * (kk + 1)) (by omega) (by omega) ?_
        refine jj_lv (lv' := [(0, .ref a0), (1, .ref a1), (2, .ref a2), (3, .ref a3), (4, .ref a4), (5, .int (iI i0))]) [2, 3, 4, 5, 6, 7] rfl ?_
        exact hB441 sz1 S Ln q2.2 q1.2.2 i0 ex2_r hi0 h0 h1 h2 h3 h4 h
      · replace h := (if_neg (hc)).symm.trans h
        cases h
  · replace h := (if_neg (hc)).symm.trans h
    cases h
def fL_c3_B521 (ad : Nat → Nat) (S521 Ln521 : Nat → Nat) (R521 : gR) (M521 : gM) (a0 : Nat) (a1 : Nat) (a2 : Nat) (a3 : Nat) (a4 : Nat) (l5_521 : Int) : Option ((Int × (Nat → Nat) × (Nat → Nat) × gM × gR) ⊕ Unit) :=
  some (.inl (w32 (l5_521 + 5), S521, Ln521, M521, R521))
def fL_c3 (ad : Nat → Nat) (sz : Nat) (S Ln : Nat → Nat) (R : gR) (M : gM) (a0 a1 a2 a3 a4 : Nat) (i0 : Int) : Option ((Int × (Nat → Nat) × (Nat → Nat) × gM × gR) ⊕ Unit) :=
  gd ((0 : Int) ≤ (w32 (i0 + 1)) ∧ (w32 (i0 + 1)) < (Ln a0 : Int)) (gd ((0 : Int) ≤ (w32 (i0 + 2)) ∧ (w32 (i0 + 2)) < (Ln a0 : Int)) (gd ((0 : Int) ≤ (w32 (i0 + 3)) ∧ (w32 (i0 + 3)) < (Ln a0 : Int)) (bd (fL_addThermal ad S Ln R M a1 (M a0 (w32 (i0 + 1))) (M a0 (w32 (i0 + 2))) (M a0 (w32 (i0 + 3))) a3) fun q4 => gd ((0 : Int) ≤ (w32 (i0 + 1)) ∧ (w32 (i0 + 1)) < (Ln a0 : Int)) (gd ((0 : Int) ≤ (w32 (i0 + 2)) ∧ (w32 (i0 + 2)) < (Ln a0 : Int)) (gd ((0 : Int) ≤ (w32 (i0 + 3)) ∧ (w32 (i0 + 3)) < (Ln a0 : Int)) (bd (fX10_addThermal ad S Ln q4.2.2 q4.2.1 a2 (q4.2.1 a0 (w32 (i0 + 1))) (q4.2.1 a0 (w32 (i0 + 2))) (q4.2.1 a0 (w32 (i0 + 3)))) fun q8 => bd (fX10_thrown ad S Ln q4.2.2 q8.2 a2) fun q9 => if q9 = q4.1 then (if ¬ q4.1 = 0 then (fL_c3_B521 ad S Ln q4.2.2 q8.2 a0 a1 a2 a3 a4 i0) else (gd ((0 : Int) ≤ 0 ∧ 0 < (Ln a3 : Int)) (if (i_lcmp (q8.2 a3 0) q8.1) = 0 then (fL_c3_B521 ad S Ln q4.2.2 q8.2 a0 a1 a2 a3 a4 i0) else (none)))) else (none)))))))
theorem xL_c3 {G : gE} {C : gC} {sz kk : Nat} {S Ln : Nat → Nat} {M : gM} {R : gR} {P : gP} (hC : OKC G C RL cL_law 9 (some .boolean) 1400 603072 7198826 P noX) (hkk : kk + 40 ≤ 603072) (hnn : 256 * (kk + 40) ≤ 7198826) {a0 a1 a2 a3 a4 : Nat} {i0 : Int} (h0 : S a0 = 29) (h1 : S a1 = 12) (h2 : S a2 = 13) (h3 : S a3 = 21) (h4 : S a4 = 22) (hi0 : (-2147483648 ≤ i0 ∧ i0 < 2147483648)) {r : (Int × (Nat → Nat) × (Nat → Nat) × gM × gR) ⊕ Unit} (h : fL_c3 G.2.2.2.2 sz S Ln R M a0 a1 a2 a3 a4 i0 = some r) (hJ : ∀ t, r = .inl t → ∀ sz1, ((-2147483648 ≤ t.1 ∧ t.1 < 2147483648) ∧ t.2.1 a0 = 29 ∧ t.2.1 a1 = 12 ∧ t.2.1 a2 = 13 ∧ t.2.1 a3 = 21 ∧ t.2.1 a4 = 22 ∧ Ex2 S Ln t.2.1 t.2.2.1) → JJ G C (kk + 40) (256 * (kk + 40)) sz1 t.2.1 t.2.2.1 t.2.2.2.1 t.2.2.2.2 28 [(0, .ref a0), (1, .ref a1), (2, .ref a2), (3, .ref a3), (4, .ref a4), (5, .int (iI t.1))] []) : JJ G C kk (256 * (kk)) sz S Ln M R 444 [(0, .ref a0), (1, .ref a1), (2, .ref a2), (3, .ref a3), (4, .ref a4), (5, .int (iI i0))] [] := by
  have hB521 : ∀ (sz521 : Nat) (S521 : (Nat → Nat)) (Ln521 : (Nat → Nat)) (M521 : gM) (R521 : gR) (l5_521 : Int), Ex2 S Ln S521 Ln521 → (-2147483648 ≤ l5_521 ∧ l5_521 < 2147483648) → S521 a0 = 29 → S521 a1 = 12 → S521 a2 = 13 → S521 a3 = 21 → S521 a4 = 22 → fL_c3_B521 G.2.2.2.2 S521 Ln521 R521 M521 a0 a1 a2 a3 a4 l5_521 = some r → JJ G C (kk + 1) (256 * (kk + 1)) sz521 S521 Ln521 M521 R521 521 [(0, .ref a0), (1, .ref a1), (2, .ref a2), (3, .ref a3), (4, .ref a4), (5, .int (iI l5_521))] [] := by
    intro sz521 S521 Ln521 M521 R521 l5_521 hx521 hl5_521 ha0_521 ha1_521 ha2_521 ha3_521 ha4_521 h
    unfold fL_c3_B521 at h
    refine jj_goto (tgt := 2982) hC dL_law_521 rfl ?_
    refine jg_iinc (q := 5) (lv' := [(5, .int (iI (w32 (l5_521 + 5)))), (0, .ref a0), (1, .ref a1), (2, .ref a2), (3, .ref a3), (4, .ref a4)]) hC dL_law_2982 rfl (by decide) rfl ?_
    refine jj_goto (tgt := 28) hC dL_law_2985 rfl ?_
    refine jj_widen (k' := kk + 40) (n' := 256 * (kk + 40)) (by omega) (by omega) ?_
    refine jj_lv (lv' := [(0, .ref a0), (1, .ref a1), (2, .ref a2), (3, .ref a3), (4, .ref a4), (5, .int (iI (w32 (l5_521 + 5))))]) [1, 2, 3, 4, 5, 0] rfl ?_
    exact hJ _ (Option.some.inj h).symm sz521 ⟨(w32_r _), ha0_521, ha1_521, ha2_521, ha3_521, ha4_521, hx521⟩
  unfold fL_c3 at h
  refine jj_aload_n hC dL_law_444 rfl 1 rfl ?_
  refine jj_aload_n hC dL_law_445 rfl 0 rfl ?_
  refine jj_iload hC dL_law_446 5 rfl ?_
  refine jj_iconst hC dL_law_448 ?_
  refine jg_iadd hC dL_law_449 ?_
  obtain ⟨⟨ha1, hb1⟩, h⟩ := gd_e h
  refine jj_iald29 hC h0 ha1 hb1 dL_law_450 (fun hr1 => ?_)
  refine jj_aload_n hC dL_law_451 rfl 0 rfl ?_
  refine jj_iload hC dL_law_452 5 rfl ?_
  refine jj_iconst hC dL_law_454 ?_
  refine jg_iadd hC dL_law_455 ?_
  obtain ⟨⟨ha2, hb2⟩, h⟩ := gd_e h
  refine jj_iald29 hC h0 ha2 hb2 dL_law_456 (fun hr2 => ?_)
  refine jj_aload_n hC dL_law_457 rfl 0 rfl ?_
  refine jj_iload hC dL_law_458 5 rfl ?_
  refine jj_iconst hC dL_law_460 ?_
  refine jg_iadd hC dL_law_461 ?_
  obtain ⟨⟨ha3, hb3⟩, h⟩ := gd_e h
  refine jj_iald29 hC h0 ha3 hb3 dL_law_462 (fun hr3 => ?_)
  refine jj_aload_n hC dL_law_463 rfl 3 rfl ?_
  obtain ⟨q4, hq4, h⟩ := bd_e h
  refine jj_invSW hC mvwL_addThermal wd1107 wd1106 (xL_addThermal (OKC.tr hC) h1 hr1 hr2 hr3 h3 hq4) rfl rfl (c_le rfl) (c_le rfl) (by omega) (by omega) dL_law_464 (po_kW (fun hr4 hx4 sz4 => ?_))
  refine jj_widen (k' := kk + 1) (n' := 256 * (kk + 1)) (by omega) (by omega) ?_
  refine jj_istore (lv' := [(6, .int (iI q4.1)), (0, .ref a0), (1, .ref a1), (2, .ref a2), (3, .ref a3), (4, .ref a4), (5, .int (iI i0))]) hC dL_law_467 (by decide) rfl ?_
  refine jj_aload_n hC dL_law_469 rfl 3 rfl ?_
  refine jj_aload_n hC dL_law_470 rfl 1 rfl ?_
  refine jj_iload hC dL_law_471 6 rfl ?_
  refine jj_iconst hC dL_law_473 ?_
  refine jg_iadd hC dL_law_474 ?_
  obtain ⟨⟨ha5, hb5⟩, h⟩ := gd_e h
  refine jj_iald29 hC h0 ha5 hb5 dL_law_475 (fun hr5 => ?_)
  refine jj_aload_n hC dL_law_476 rfl 1 rfl ?_
  refine jj_iload hC dL_law_477 6 rfl ?_
  refine jj_iconst hC dL_law_479 ?_
  refine jg_iadd hC dL_law_480 ?_
  obtain ⟨⟨ha6, hb6⟩, h⟩ := gd_e h
  refine jj_iald29 hC h0 ha6 hb6 dL_law_481 (fun hr6 => ?_)
  refine jj_aload_n hC dL_law_482 rfl 1 rfl ?_
  refine jj_iload hC dL_law_483 6 rfl ?_
  refine jj_iconst hC dL_law_485 ?_
  refine jg_iadd hC dL_law_486 ?_
  obtain ⟨⟨ha7, hb7⟩, h⟩ := gd_e h
  refine jj_iald29 hC h0 ha7 hb7 dL_law_487 (fun hr7 => ?_)
  obtain ⟨q8, hq8, h⟩ := bd_e h
  refine jj_invV hC mvX10_addThermal wd1845 wd1846 wd1844 h2 (by decide) rfl (xX10_addThermal (OKC.tr hC) h2 hr5 hr6 hr7 hq8) rfl rfl (c_le rfl) (c_le rfl) (by omega) (by omega) dL_law_488 noXk (po_kI (fun hr8 => ?_))
  refine jj_istore (lv' := [(7, .int (iI q8.1)), (6, .int (iI q4.1)), (0, .ref a0), (1, .ref a1), (2, .ref a2), (3, .ref a3), (4, .ref a4), (5, .int (iI i0))]) hC dL_law_491 (by decide) rfl ?_
  refine jj_aload_n hC dL_law_493 rfl 4 rfl ?_
  obtain ⟨q9, hq9, h⟩ := bd_e h
  refine jj_invV hC mvX10_thrown wd1765 wd1766 wd1764 h2 (by decide) rfl (xX10_thrown (OKC.tr hC) h2 hq9) rfl rfl (c_le rfl) (c_le rfl) (by omega) (by omega) dL_law_494 noXk (po_kI (fun hr9 => ?_))
  refine jj_iload hC dL_law_497 1 rfl ?_
  refine jj_icmp_eq (tgt := 504) hC dL_law_499 rfl hr9 hr4 (fun hc => ?_) (fun hc => ?_)
  · replace h := (if_pos hc).symm.trans h
    refine jj_iload hC dL_law_504 1 rfl ?_
    refine jj_if_ne (tgt := 521) hC dL_law_506 rfl hr4 (fun hc => ?_) (fun hc => ?_)
    · replace h := (if_pos hc).symm.trans h
      refine jj_widen (k' := kk + 1) (n' := 256 * (kk + 1)) (by omega) (by omega) ?_
      refine jj_lv (lv' := [(0, .ref a0), (1, .ref a1), (2, .ref a2), (3, .ref a3), (4, .ref a4), (5, .int (iI i0))]) [2, 3, 4, 5, 6, 7] rfl ?_
      exact hB521 sz4 S Ln q8.2 q4.2.2 i0 ex2_r hi0 h0 h1 h2 h3 h4 h
    · replace h := (if_neg (fun k => k hc)).symm.trans h
      refine jj_aload_n hC dL_law_509 rfl 5 rfl ?_
      refine jj_iconst hC dL_law_510 ?_
      obtain ⟨⟨ha10, hb10⟩, h⟩ := gd_e h
      refine jj_lald hC h3 ha10 hb10 dL_law_511 (fun hr10 => ?_)
      refine jj_iload hC dL_law_512 0 rfl ?_
      refine jj_i2l hC dL_law_514 hr8 ?_
      refine jg_lcmp hC hr10 (r_il hr8) dL_law_515 ?_
      refine jj_if_eq (tgt := 521) hC dL_law_516 rfl i_lcmp_r (fun hc => ?_) (fun hc => ?_)
      · replace h := (if_pos hc).symm.trans h
        refine jj_widen (k' := kk + 1) (n' := 256 * (kk + 1)) (by omega) (by omega) ?_
        refine jj_lv (lv' := [(0, .ref a0), (1, .ref a1), (2, .ref a2), (3, .ref a3), (4, .ref a4), (5, .int (iI i0))]) [2, 3, 4, 5, 6, 7] rfl ?_
        exact hB521 sz4 S Ln q8.2 q4.2.2 i0 ex2_r hi0 h0 h1 h2 h3 h4 h
      · replace h := (if_neg (hc)).symm.trans h
        cases h
  · replace h := (if_neg (hc)).symm.trans h
    cases h
def fL_c4_B577 (ad : Nat → Nat) (S577 Ln577 : Nat → Nat) (R577 : gR) (M577 : gM) (a0 : Nat) (a1 : Nat) (a2 : Nat) (a3 : Nat) (a4 : Nat) (l5_577 : Int) : Option ((Int × (Nat → Nat) × (Nat → Nat) × gM × gR) ⊕ Unit) :=
  some (.inl (w32 (l5_577 + 5), S577, Ln577, M577, R577))
def fL_c4 (ad : Nat → Nat) (sz : Nat) (S Ln : Nat → Nat) (R : gR) (M : gM) (a0 a1 a2 a3 a4 : Nat) (i0 : Int) : Option ((Int × (Nat → Nat) × (Nat → Nat) × gM × gR) ⊕ Unit) :=
  gd ((0 : Int) ≤ (w32 (i0 + 1)) ∧ (w32 (i0 + 1)) < (Ln a0 : Int)) (bd (fL_setCloudBase ad S Ln R M a1 (M a0 (w32 (i0 + 1))) a3) fun q2 => gd ((0 : Int) ≤ (w32 (i0 + 1)) ∧ (w32 (i0 + 1)) < (Ln a0 : Int)) (bd (fX10_setCloudBase ad S Ln q2.2.2 q2.2.1 a2 (q2.2.1 a0 (w32 (i0 + 1)))) fun q4 => bd (fX10_thrown ad S Ln q2.2.2 q4.2 a2) fun q5 => if q5 = q2.1 then (if ¬ q2.1 = 0 then (fL_c4_B577 ad S Ln q2.2.2 q4.2 a0 a1 a2 a3 a4 i0) else (gd ((0 : Int) ≤ 0 ∧ 0 < (Ln a3 : Int)) (if (i_lcmp (q4.2 a3 0) q4.1) = 0 then (fL_c4_B577 ad S Ln q2.2.2 q4.2 a0 a1 a2 a3 a4 i0) else (none)))) else (none)))
theorem xL_c4 {G : gE} {C : gC} {sz kk : Nat} {S Ln : Nat → Nat} {M : gM} {R : gR} {P : gP} (hC : OKC G C RL cL_law 9 (some .boolean) 1400 603072 7198826 P noX) (hkk : kk + 40 ≤ 603072) (hnn : 256 * (kk + 40) ≤ 7198826) {a0 a1 a2 a3 a4 : Nat} {i0 : Int} (h0 : S a0 = 29) (h1 : S a1 = 12) (h2 : S a2 = 13) (h3 : S a3 = 21) (h4 : S a4 = 22) (hi0 : (-2147483648 ≤ i0 ∧ i0 < 2147483648)) {r : (Int × (Nat → Nat) × (Nat → Nat) × gM × gR) ⊕ Unit} (h : fL_c4 G.2.2.2.2 sz S Ln R M a0 a1 a2 a3 a4 i0 = some r) (hJ : ∀ t, r = .inl t → ∀ sz1, ((-2147483648 ≤ t.1 ∧ t.1 < 2147483648) ∧ t.2.1 a0 = 29 ∧ t.2.1 a1 = 12 ∧ t.2.1 a2 = 13 ∧ t.2.1 a3 = 21 ∧ t.2.1 a4 = 22 ∧ Ex2 S Ln t.2.1 t.2.2.1) → JJ G C (kk + 40) (256 * (kk + 40)) sz1 t.2.1 t.2.2.1 t.2.2.2.1 t.2.2.2.2 28 [(0, .ref a0), (1, .ref a1), (2, .ref a2), (3, .ref a3), (4, .ref a4), (5, .int (iI t.1))] []) : JJ G C kk (256 * (kk)) sz S Ln M R 524 [(0, .ref a0), (1, .ref a1), (2, .ref a2), (3, .ref a3), (4, .ref a4), (5, .int (iI i0))] [] := by
  have hB577 : ∀ (sz577 : Nat) (S577 : (Nat → Nat)) (Ln577 : (Nat → Nat)) (M577 : gM) (R577 : gR) (l5_577 : Int), Ex2 S Ln S577 Ln577 → (-2147483648 ≤ l5_577 ∧ l5_577 < 2147483648) → S577 a0 = 29 → S577 a1 = 12 → S577 a2 = 13 → S577 a3 = 21 → S577 a4 = 22 → fL_c4_B577 G.2.2.2.2 S577 Ln577 R577 M577 a0 a1 a2 a3 a4 l5_577 = some r → JJ G C (kk + 1) (256 * (kk + 1)) sz577 S577 Ln577 M577 R577 577 [(0, .ref a0), (1, .ref a1), (2, .ref a2), (3, .ref a3), (4, .ref a4), (5, .int (iI l5_577))] [] := by
    intro sz577 S577 Ln577 M577 R577 l5_577 hx577 hl5_577 ha0_577 ha1_577 ha2_577 ha3_577 ha4_577 h
    unfold fL_c4_B577 at h
    refine jj_goto (tgt := 2982) hC dL_law_577 rfl ?_
    refine jg_iinc (q := 5) (lv' := [(5, .int (iI (w32 (l5_577 + 5)))), (0, .ref a0), (1, .ref a1), (2, .ref a2), (3, .ref a3), (4, .ref a4)]) hC dL_law_2982 rfl (by decide) rfl ?_
    refine jj_goto (tgt := 28) hC dL_law_2985 rfl ?_
    refine jj_widen (k' := kk + 40) (n' := 256 * (kk + 40)) (by omega) (by omega) ?_
    refine jj_lv (lv' := [(0, .ref a0), (1, .ref a1), (2, .ref a2), (3, .ref a3), (4, .ref a4), (5, .int (iI (w32 (l5_577 + 5))))]) [1, 2, 3, 4, 5, 0] rfl ?_
    exact hJ _ (Option.some.inj h).symm sz577 ⟨(w32_r _), ha0_577, ha1_577, ha2_577, ha3_577, ha4_577, hx577⟩
  unfold fL_c4 at h
  refine jj_aload_n hC dL_law_524 rfl 1 rfl ?_
  refine jj_aload_n hC dL_law_525 rfl 0 rfl ?_
  refine jj_iload hC dL_law_526 5 rfl ?_
  refine jj_iconst hC dL_law_528 ?_
  refine jg_iadd hC dL_law_529 ?_
  obtain ⟨⟨ha1, hb1⟩, h⟩ := gd_e h
  refine jj_iald29 hC h0 ha1 hb1 dL_law_530 (fun hr1 => ?_)
  refine jj_aload_n hC dL_law_531 rfl 3 rfl ?_
  obtain ⟨q2, hq2, h⟩ := bd_e h
  refine jj_invSW hC mvwL_setCloudBase wd1122 wd1121 (xL_setCloudBase (OKC.tr hC) h1 hr1 h3 hq2) rfl rfl (c_le rfl) (c_le rfl) (by omega) (by omega) dL_law_532 (po_kW (fun hr2 hx2 sz2 => ?_))
  refine jj_widen (k' := kk + 1) (n' := 256 * (kk + 1)) (by omega) (by omega) ?_
  refine jj_istore (lv' := [(6, .int (iI q2.1)), (0, .ref a0), (1, .ref a1), (2, .ref a2), (3, .ref a3), (4, .ref a4), (5, .int (iI i0))]) hC dL_law_535 (by decide) rfl ?_
  refine jj_aload_n hC dL_law_537 rfl 3 rfl ?_
  refine jj_aload_n hC dL_law_538 rfl 1 rfl ?_
  refine jj_iload hC dL_law_539 6 rfl ?_
  refine jj_iconst hC dL_law_541 ?_
  refine jg_iadd hC dL_law_542 ?_
  obtain ⟨⟨ha3, hb3⟩, h⟩ := gd_e h
  refine jj_iald29 hC h0 ha3 hb3 dL_law_543 (fun hr3 => ?_)
  obtain ⟨q4, hq4, h⟩ := bd_e h
  refine jj_invV hC mvX10_setCloudBase wd1853 wd1854 wd1852 h2 (by decide) rfl (xX10_setCloudBase (OKC.tr hC) h2 hr3 hq4) rfl rfl (c_le rfl) (c_le rfl) (by omega) (by omega) dL_law_544 noXk (po_kI (fun hr4 => ?_))
  refine jj_istore (lv' := [(7, .int (iI q4.1)), (6, .int (iI q2.1)), (0, .ref a0), (1, .ref a1), (2, .ref a2), (3, .ref a3), (4, .ref a4), (5, .int (iI i0))]) hC dL_law_547 (by decide) rfl ?_
  refine jj_aload_n hC dL_law_549 rfl 4 rfl ?_
  obtain ⟨q5, hq5, h⟩ := bd_e h
  refine jj_invV hC mvX10_thrown wd1765 wd1766 wd1764 h2 (by decide) rfl (xX10_thrown (OKC.tr hC) h2 hq5) rfl rfl (c_le rfl) (c_le rfl) (by omega) (by omega) dL_law_550 noXk (po_kI (fun hr5 => ?_))
  refine jj_iload hC dL_law_553 1 rfl ?_
  refine jj_icmp_eq (tgt := 560) hC dL_law_555 rfl hr5 hr2 (fun hc => ?_) (fun hc => ?_)
  · replace h := (if_pos hc).symm.trans h
    refine jj_iload hC dL_law_560 1 rfl ?_
    refine jj_if_ne (tgt := 577) hC dL_law_562 rfl hr2 (fun hc => ?_) (fun hc => ?_)
    · replace h := (if_pos hc).symm.trans h
      refine jj_widen (k' := kk + 1) (n' := 256 * (kk + 1)) (by omega) (by omega) ?_
      refine jj_lv (lv' := [(0, .ref a0), (1, .ref a1), (2, .ref a2), (3, .ref a3), (4, .ref a4), (5, .int (iI i0))]) [2, 3, 4, 5, 6, 7] rfl ?_
      exact hB577 sz2 S Ln q4.2 q2.2.2 i0 ex2_r hi0 h0 h1 h2 h3 h4 h
    · replace h := (if_neg (fun k => k hc)).symm.trans h
      refine jj_aload_n hC dL_law_565 rfl 5 rfl ?_
      refine jj_iconst hC dL_law_566 ?_
      obtain ⟨⟨ha6, hb6⟩, h⟩ := gd_e h
      refine jj_lald hC h3 ha6 hb6 dL_law_567 (fun hr6 => ?_)
      refine jj_iload hC dL_law_568 0 rfl ?_
      refine jj_i2l hC dL_law_570 hr4 ?_
      refine jg_lcmp hC hr6 (r_il hr4) dL_law_571 ?_
      refine jj_if_eq (tgt := 577) hC dL_law_572 rfl i_lcmp_r (fun hc => ?_) (fun hc => ?_)
      · replace h := (if_pos hc).symm.trans h
        refine jj_widen (k' := kk + 1) (n' := 256 * (kk + 1)) (by omega) (by omega) ?_
        refine jj_lv (lv' := [(0, .ref a0), (1, .ref a1), (2, .ref a2), (3, .ref a3), (4, .ref a4), (5, .int (iI i0))]) [2, 3, 4, 5, 6, 7] rfl ?_
        exact hB577 sz2 S Ln q4.2 q2.2.2 i0 ex2_r hi0 h0 h1 h2 h3 h4 h
      · replace h := (if_neg (hc)).symm.trans h
        cases h
  · replace h := (if_neg (hc)).symm.trans h
    cases h
def fL_c5_B669 (ad : Nat → Nat) (S669 Ln669 : Nat → Nat) (R669 : gR) (M669 : gM) (a0 : Nat) (a1 : Nat) (a2 : Nat) (a3 : Nat) (a4 : Nat) (l5_669 : Int) : Option ((Int × (Nat → Nat) × (Nat → Nat) × gM × gR) ⊕ Unit) :=
  some (.inl (w32 (l5_669 + 5), S669, Ln669, M669, R669))
def fL_c5 (ad : Nat → Nat) (sz : Nat) (S Ln : Nat → Nat) (R : gR) (M : gM) (a0 a1 a2 a3 a4 : Nat) (i0 : Int) : Option ((Int × (Nat → Nat) × (Nat → Nat) × gM × gR) ⊕ Unit) :=
  gd ((0 : Int) ≤ (w32 (i0 + 1)) ∧ (w32 (i0 + 1)) < (Ln a0 : Int)) (gd ((0 : Int) ≤ (w32 (i0 + 2)) ∧ (w32 (i0 + 2)) < (Ln a0 : Int)) (gd ((0 : Int) ≤ (w32 (i0 + 3)) ∧ (w32 (i0 + 3)) < (Ln a0 : Int)) (gd ((0 : Int) ≤ (w32 (i0 + 4)) ∧ (w32 (i0 + 4)) < (Ln a0 : Int)) (bd (fL_addArea ad S Ln R M a1 (M a0 (w32 (i0 + 1))) (M a0 (w32 (i0 + 2))) (M a0 (w32 (i0 + 3))) (M a0 (w32 (i0 + 4))) a3) fun q5 => gd ((0 : Int) ≤ (w32 (i0 + 1)) ∧ (w32 (i0 + 1)) < (Ln a0 : Int)) (gd ((0 : Int) ≤ (w32 (i0 + 2)) ∧ (w32 (i0 + 2)) < (Ln a0 : Int)) (gd ((0 : Int) ≤ (w32 (i0 + 3)) ∧ (w32 (i0 + 3)) < (Ln a0 : Int)) (gd ((0 : Int) ≤ (w32 (i0 + 4)) ∧ (w32 (i0 + 4)) < (Ln a0 : Int)) (bd (fX10_addArea ad S Ln q5.2.2 q5.2.1 a2 (q5.2.1 a0 (w32 (i0 + 1))) (q5.2.1 a0 (w32 (i0 + 2))) (q5.2.1 a0 (w32 (i0 + 3))) (q5.2.1 a0 (w32 (i0 + 4)))) fun q10 => bd (fX10_thrown ad S Ln q5.2.2 q10.2 a2) fun q11 => if q11 = q5.1 then (if ¬ q5.1 = 0 then (fL_c5_B669 ad S Ln q5.2.2 q10.2 a0 a1 a2 a3 a4 i0) else (gd ((0 : Int) ≤ 0 ∧ 0 < (Ln a3 : Int)) (if (i_lcmp (q10.2 a3 0) q10.1) = 0 then (fL_c5_B669 ad S Ln q5.2.2 q10.2 a0 a1 a2 a3 a4 i0) else (none)))) else (none)))))))))
theorem xL_c5 {G : gE} {C : gC} {sz kk : Nat} {S Ln : Nat → Nat} {M : gM} {R : gR} {P : gP} (hC : OKC G C RL cL_law 9 (some .boolean) 1400 603072 7198826 P noX) (hkk : kk + 40 ≤ 603072) (hnn : 256 * (kk + 40) ≤ 7198826) {a0 a1 a2 a3 a4 : Nat} {i0 : Int} (h0 : S a0 = 29) (h1 : S a1 = 12) (h2 : S a2 = 13) (h3 : S a3 = 21) (h4 : S a4 = 22) (hi0 : (-2147483648 ≤ i0 ∧ i0 < 2147483648)) {r : (Int × (Nat → Nat) × (Nat → Nat) × gM × gR) ⊕ Unit} (h : fL_c5 G.2.2.2.2 sz S Ln R M a0 a1 a2 a3 a4 i0 = some r) (hJ : ∀ t, r = .inl t → ∀ sz1, ((-2147483648 ≤ t.1 ∧ t.1 < 2147483648) ∧ t.2.1 a0 = 29 ∧ t.2.1 a1 = 12 ∧ t.2.1 a2 = 13 ∧ t.2.1 a3 = 21 ∧ t.2.1 a4 = 22 ∧ Ex2 S Ln t.2.1 t.2.2.1) → JJ G C (kk + 40) (256 * (kk + 40)) sz1 t.2.1 t.2.2.1 t.2.2.2.1 t.2.2.2.2 28 [(0, .ref a0), (1, .ref a1), (2, .ref a2), (3, .ref a3), (4, .ref a4), (5, .int (iI t.1))] []) : JJ G C kk (256 * (kk)) sz S Ln M R 580 [(0, .ref a0), (1, .ref a1), (2, .ref a2), (3, .ref a3), (4, .ref a4), (5, .int (iI i0))] [] := by
  have hB669 : ∀ (sz669 : Nat) (S669 : (Nat → Nat)) (Ln669 : (Nat → Nat)) (M669 : gM) (R669 : gR) (l5_669 : Int), Ex2 S Ln S669 Ln669 → (-2147483648 ≤ l5_669 ∧ l5_669 < 2147483648) → S669 a0 = 29 → S669 a1 = 12 → S669 a2 = 13 → S669 a3 = 21 → S669 a4 = 22 → fL_c5_B669 G.2.2.2.2 S669 Ln669 R669 M669 a0 a1 a2 a3 a4 l5_669 = some r → JJ G C (kk + 1) (256 * (kk + 1)) sz669 S669 Ln669 M669 R669 669 [(0, .ref a0), (1, .ref a1), (2, .ref a2), (3, .ref a3), (4, .ref a4), (5, .int (iI l5_669))] [] := by
    intro sz669 S669 Ln669 M669 R669 l5_669 hx669 hl5_669 ha0_669 ha1_669 ha2_669 ha3_669 ha4_669 h
    unfold fL_c5_B669 at h
    refine jj_goto (tgt := 2982) hC dL_law_669 rfl ?_
    refine jg_iinc (q := 5) (lv' := [(5, .int (iI (w32 (l5_669 + 5)))), (0, .ref a0), (1, .ref a1), (2, .ref a2), (3, .ref a3), (4, .ref a4)]) hC dL_law_2982 rfl (by decide) rfl ?_
    refine jj_goto (tgt := 28) hC dL_law_2985 rfl ?_
    refine jj_widen (k' := kk + 40) (n' := 256 * (kk + 40)) (by omega) (by omega) ?_
    refine jj_lv (lv' := [(0, .ref a0), (1, .ref a1), (2, .ref a2), (3, .ref a3), (4, .ref a4), (5, .int (iI (w32 (l5_669 + 5))))]) [1, 2, 3, 4, 5, 0] rfl ?_
    exact hJ _ (Option.some.inj h).symm sz669 ⟨(w32_r _), ha0_669, ha1_669, ha2_669, ha3_669, ha4_669, hx669⟩
  unfold fL_c5 at h
  refine jj_aload_n hC dL_law_580 rfl 1 rfl ?_
  refine jj_aload_n hC dL_law_581 rfl 0 rfl ?_
  refine jj_iload hC dL_law_582 5 rfl ?_
  refine jj_iconst hC dL_law_584 ?_
  refine jg_iadd hC dL_law_585 ?_
  obtain ⟨⟨ha1, hb1⟩, h⟩ := gd_e h
  refine jj_iald29 hC h0 ha1 hb1 dL_law_586 (fun hr1 => ?_)
  refine jj_aload_n hC dL_law_587 rfl 0 rfl ?_
  refine jj_iload hC dL_law_588 5 rfl ?_
  refine jj_iconst hC dL_law_590 ?_
  refine jg_iadd hC dL_law_591 ?_
  obtain ⟨⟨ha2, hb2⟩, h⟩ := gd_e h
  refine jj_iald29 hC h0 ha2 hb2 dL_law_592 (fun hr2 => ?_)
  refine jj_aload_n hC dL_law_593 rfl 0 rfl ?_
  refine jj_iload hC dL_law_594 5 rfl ?_
  refine jj_iconst hC dL_law_596 ?_
  refine jg_iadd hC dL_law_597 ?_
  obtain ⟨⟨ha3, hb3⟩, h⟩ := gd_e h
  refine jj_iald29 hC h0 ha3 hb3 dL_law_598 (fun hr3 => ?_)
  refine jj_aload_n hC dL_law_599 rfl 0 rfl ?_
  refine jj_iload hC dL_law_600 5 rfl ?_
  refine jj_iconst hC dL_law_602 ?_
  refine jg_iadd hC dL_law_603 ?_
  obtain ⟨⟨ha4, hb4⟩, h⟩ := gd_e h
  refine jj_iald29 hC h0 ha4 hb4 dL_law_604 (fun hr4 => ?_)
  refine jj_aload_n hC dL_law_605 rfl 3 rfl ?_
  obtain ⟨q5, hq5, h⟩ := bd_e h
  refine jj_invSW hC mvwL_addArea wd1130 wd1129 (xL_addArea (OKC.tr hC) h1 hr1 hr2 hr3 hr4 h3 hq5) rfl rfl (c_le rfl) (c_le rfl) (by omega) (by omega) dL_law_606 (po_kW (fun hr5 hx5 sz5 => ?_))
  refine jj_widen (k' := kk + 1) (n' := 256 * (kk + 1)) (by omega) (by omega) ?_
  refine jj_istore (lv' := [(6, .int (iI q5.1)), (0, .ref a0), (1, .ref a1), (2, .ref a2), (3, .ref a3), (4, .ref a4), (5, .int (iI i0))]) hC dL_law_609 (by decide) rfl ?_
  refine jj_aload_n hC dL_law_611 rfl 3 rfl ?_
  refine jj_aload_n hC dL_law_612 rfl 1 rfl ?_
  refine jj_iload hC dL_law_613 6 rfl ?_
  refine jj_iconst hC dL_law_615 ?_
  refine jg_iadd hC dL_law_616 ?_
  obtain ⟨⟨ha6, hb6⟩, h⟩ := gd_e h
  refine jj_iald29 hC h0 ha6 hb6 dL_law_617 (fun hr6 => ?_)
  refine jj_aload_n hC dL_law_618 rfl 1 rfl ?_
  refine jj_iload hC dL_law_619 6 rfl ?_
  refine jj_iconst hC dL_law_621 ?_
  refine jg_iadd hC dL_law_622 ?_
  obtain ⟨⟨ha7, hb7⟩, h⟩ := gd_e h
  refine jj_iald29 hC h0 ha7 hb7 dL_law_623 (fun hr7 => ?_)
  refine jj_aload_n hC dL_law_624 rfl 1 rfl ?_
  refine jj_iload hC dL_law_625 6 rfl ?_
  refine jj_iconst hC dL_law_627 ?_
  refine jg_iadd hC dL_law_628 ?_
  obtain ⟨⟨ha8, hb8⟩, h⟩ := gd_e h
  refine jj_iald29 hC h0 ha8 hb8 dL_law_629 (fun hr8 => ?_)
  refine jj_aload_n hC dL_law_630 rfl 1 rfl ?_
  refine jj_iload hC dL_law_631 6 rfl ?_
  refine jj_iconst hC dL_law_633 ?_
  refine jg_iadd hC dL_law_634 ?_
  obtain ⟨⟨ha9, hb9⟩, h⟩ := gd_e h
  refine jj_iald29 hC h0 ha9 hb9 dL_law_635 (fun hr9 => ?_)
  obtain ⟨q10, hq10, h⟩ := bd_e h
  refine jj_invV hC mvX10_addArea wd1861 wd1862 wd1860 h2 (by decide) rfl (xX10_addArea (OKC.tr hC) h2 hr6 hr7 hr8 hr9 hq10) rfl rfl (c_le rfl) (c_le rfl) (by omega) (by omega) dL_law_636 noXk (po_kI (fun hr10 => ?_))
  refine jj_istore (lv' := [(7, .int (iI q10.1)), (6, .int (iI q5.1)), (0, .ref a0), (1, .ref a1), (2, .ref a2), (3, .ref a3), (4, .ref a4), (5, .int (iI i0))]) hC dL_law_639 (by decide) rfl ?_
  refine jj_aload_n hC dL_law_641 rfl 4 rfl ?_
  obtain ⟨q11, hq11, h⟩ := bd_e h
  refine jj_invV hC mvX10_thrown wd1765 wd1766 wd1764 h2 (by decide) rfl (xX10_thrown (OKC.tr hC) h2 hq11) rfl rfl (c_le rfl) (c_le rfl) (by omega) (by omega) dL_law_642 noXk (po_kI (fun hr11 => ?_))
  refine jj_iload hC dL_law_645 1 rfl ?_
  refine jj_icmp_eq (tgt := 652) hC dL_law_647 rfl hr11 hr5 (fun hc => ?_) (fun hc => ?_)
  · replace h := (if_pos hc).symm.trans h
    refine jj_iload hC dL_law_652 1 rfl ?_
    refine jj_if_ne (tgt := 669) hC dL_law_654 rfl hr5 (fun hc => ?_) (fun hc => ?_)
    · replace h := (if_pos hc).symm.trans h
      refine jj_widen (k' := kk + 1) (n' := 256 * (kk + 1)) (by omega) (by omega) ?_
      refine jj_lv (lv' := [(0, .ref a0), (1, .ref a1), (2, .ref a2), (3, .ref a3), (4, .ref a4), (5, .int (iI i0))]) [2, 3, 4, 5, 6, 7] rfl ?_
      exact hB669 sz5 S Ln q10.2 q5.2.2 i0 ex2_r hi0 h0 h1 h2 h3 h4 h
    · replace h := (if_neg (fun k => k hc)).symm.trans h
      refine jj_aload_n hC dL_law_657 rfl 5 rfl ?_
      refine jj_iconst hC dL_law_658 ?_
      obtain ⟨⟨ha12, hb12⟩, h⟩ := gd_e h
      refine jj_lald hC h3 ha12 hb12 dL_law_659 (fun hr12 => ?_)
      refine jj_iload hC dL_law_660 0 rfl ?_
      refine jj_i2l hC dL_law_662 hr10 ?_
      refine jg_lcmp hC hr12 (r_il hr10) dL_law_663 ?_
      refine jj_if_eq (tgt := 669) hC dL_law_664 rfl i_lcmp_r (fun hc => ?_) (fun hc => ?_)
      · replace h := (if_pos hc).symm.trans h
        refine jj_widen (k' := kk + 1) (n' := 256 * (kk + 1)) (by omega) (by omega) ?_
        refine jj_lv (lv' := [(0, .ref a0), (1, .ref a1), (2, .ref a2), (3, .ref a3), (4, .ref a4), (5, .int (iI i0))]) [2, 3, 4, 5, 6, 7] rfl ?_
        exact hB669 sz5 S Ln q10.2 q5.2.2 i0 ex2_r hi0 h0 h1 h2 h3 h4 h
      · replace h := (if_neg (hc)).symm.trans h
        cases h
  · replace h := (if_neg (hc)).symm.trans h
    cases h
def fL_c6_B725 (ad : Nat → Nat) (S725 Ln725 : Nat → Nat) (R725 : gR) (M725 : gM) (a0 : Nat) (a1 : Nat) (a2 : Nat) (a3 : Nat) (a4 : Nat) (l5_725 : Int) : Option ((Int × (Nat → Nat) × (Nat → Nat) × gM × gR) ⊕ Unit) :=
  some (.inl (w32 (l5_725 + 5), S725, Ln725, M725, R725))
def fL_c6 (ad : Nat → Nat) (sz : Nat) (S Ln : Nat → Nat) (R : gR) (M : gM) (a0 a1 a2 a3 a4 : Nat) (i0 : Int) : Option ((Int × (Nat → Nat) × (Nat → Nat) × gM × gR) ⊕ Unit) :=
  gd ((0 : Int) ≤ (w32 (i0 + 1)) ∧ (w32 (i0 + 1)) < (Ln a0 : Int)) (bd (fL_addPilot ad S Ln R M a1 (M a0 (w32 (i0 + 1))) a3) fun q2 => gd ((0 : Int) ≤ (w32 (i0 + 1)) ∧ (w32 (i0 + 1)) < (Ln a0 : Int)) (bd (fX10_addPilot ad S Ln q2.2.2 q2.2.1 a2 (q2.2.1 a0 (w32 (i0 + 1)))) fun q4 => bd (fX10_thrown ad S Ln q2.2.2 q4.2 a2) fun q5 => if q5 = q2.1 then (if ¬ q2.1 = 0 then (fL_c6_B725 ad S Ln q2.2.2 q4.2 a0 a1 a2 a3 a4 i0) else (gd ((0 : Int) ≤ 0 ∧ 0 < (Ln a3 : Int)) (if (i_lcmp (q4.2 a3 0) q4.1) = 0 then (fL_c6_B725 ad S Ln q2.2.2 q4.2 a0 a1 a2 a3 a4 i0) else (none)))) else (none)))
theorem xL_c6 {G : gE} {C : gC} {sz kk : Nat} {S Ln : Nat → Nat} {M : gM} {R : gR} {P : gP} (hC : OKC G C RL cL_law 9 (some .boolean) 1400 603072 7198826 P noX) (hkk : kk + 40 ≤ 603072) (hnn : 256 * (kk + 40) ≤ 7198826) {a0 a1 a2 a3 a4 : Nat} {i0 : Int} (h0 : S a0 = 29) (h1 : S a1 = 12) (h2 : S a2 = 13) (h3 : S a3 = 21) (h4 : S a4 = 22) (hi0 : (-2147483648 ≤ i0 ∧ i0 < 2147483648)) {r : (Int × (Nat → Nat) × (Nat → Nat) × gM × gR) ⊕ Unit} (h : fL_c6 G.2.2.2.2 sz S Ln R M a0 a1 a2 a3 a4 i0 = some r) (hJ : ∀ t, r = .inl t → ∀ sz1, ((-2147483648 ≤ t.1 ∧ t.1 < 2147483648) ∧ t.2.1 a0 = 29 ∧ t.2.1 a1 = 12 ∧ t.2.1 a2 = 13 ∧ t.2.1 a3 = 21 ∧ t.2.1 a4 = 22 ∧ Ex2 S Ln t.2.1 t.2.2.1) → JJ G C (kk + 40) (256 * (kk + 40)) sz1 t.2.1 t.2.2.1 t.2.2.2.1 t.2.2.2.2 28 [(0, .ref a0), (1, .ref a1), (2, .ref a2), (3, .ref a3), (4, .ref a4), (5, .int (iI t.1))] []) : JJ G C kk (256 * (kk)) sz S Ln M R 672 [(0, .ref a0), (1, .ref a1), (2, .ref a2), (3, .ref a3), (4, .ref a4), (5, .int (iI i0))] [] := by
  have hB725 : ∀ (sz725 : Nat) (S725 : (Nat → Nat)) (Ln725 : (Nat → Nat)) (M725 : gM) (R725 : gR) (l5_725 : Int), Ex2 S Ln S725 Ln725 → (-2147483648 ≤ l5_725 ∧ l5_725 < 2147483648) → S725 a0 = 29 → S725 a1 = 12 → S725 a2 = 13 → S725 a3 = 21 → S725 a4 = 22 → fL_c6_B725 G.2.2.2.2 S725 Ln725 R725 M725 a0 a1 a2 a3 a4 l5_725 = some r → JJ G C (kk + 1) (256 * (kk + 1)) sz725 S725 Ln725 M725 R725 725 [(0, .ref a0), (1, .ref a1), (2, .ref a2), (3, .ref a3), (4, .ref a4), (5, .int (iI l5_725))] [] := by
    intro sz725 S725 Ln725 M725 R725 l5_725 hx725 hl5_725 ha0_725 ha1_725 ha2_725 ha3_725 ha4_725 h
    unfold fL_c6_B725 at h
    refine jj_goto (tgt := 2982) hC dL_law_725 rfl ?_
    refine jg_iinc (q := 5) (lv' := [(5, .int (iI (w32 (l5_725 + 5)))), (0, .ref a0), (1, .ref a1), (2, .ref a2), (3, .ref a3), (4, .ref a4)]) hC dL_law_2982 rfl (by decide) rfl ?_
    refine jj_goto (tgt := 28) hC dL_law_2985 rfl ?_
    refine jj_widen (k' := kk + 40) (n' := 256 * (kk + 40)) (by omega) (by omega) ?_
    refine jj_lv (lv' := [(0, .ref a0), (1, .ref a1), (2, .ref a2), (3, .ref a3), (4, .ref a4), (5, .int (iI (w32 (l5_725 + 5))))]) [1, 2, 3, 4, 5, 0] rfl ?_
    exact hJ _ (Option.some.inj h).symm sz725 ⟨(w32_r _), ha0_725, ha1_725, ha2_725, ha3_725, ha4_725, hx725⟩
  unfold fL_c6 at h
  refine jj_aload_n hC dL_law_672 rfl 1 rfl ?_
  refine jj_aload_n hC dL_law_673 rfl 0 rfl ?_
  refine jj_iload hC dL_law_674 5 rfl ?_
  refine jj_iconst hC dL_law_676 ?_
  refine jg_iadd hC dL_law_677 ?_
  obtain ⟨⟨ha1, hb1⟩, h⟩ := gd_e h
  refine jj_iald29 hC h0 ha1 hb1 dL_law_678 (fun hr1 => ?_)
  refine jj_aload_n hC dL_law_679 rfl 3 rfl ?_
  obtain ⟨q2, hq2, h⟩ := bd_e h
  refine jj_invSW hC mvwL_addPilot wd1145 wd1144 (xL_addPilot (OKC.tr hC) h1 hr1 h3 hq2) rfl rfl (c_le rfl) (c_le rfl) (by omega) (by omega) dL_law_680 (po_kW (fun hr2 hx2 sz2 => ?_))
  refine jj_widen (k' := kk + 1) (n' := 256 * (kk + 1)) (by omega) (by omega) ?_
  refine jj_istore (lv' := [(6, .int (iI q2.1)), (0, .ref a0), (1, .ref a1), (2, .ref a2), (3, .ref a3), (4, .ref a4), (5, .int (iI i0))]) hC dL_law_683 (by decide) rfl ?_
  refine jj_aload_n hC dL_law_685 rfl 3 rfl ?_
  refine jj_aload_n hC dL_law_686 rfl 1 rfl ?_
  refine jj_iload hC dL_law_687 6 rfl ?_
  refine jj_iconst hC dL_law_689 ?_
  refine jg_iadd hC dL_law_690 ?_
  obtain ⟨⟨ha3, hb3⟩, h⟩ := gd_e h
  refine jj_iald29 hC h0 ha3 hb3 dL_law_691 (fun hr3 => ?_)
  obtain ⟨q4, hq4, h⟩ := bd_e h
  refine jj_invV hC mvX10_addPilot wd1869 wd1870 wd1868 h2 (by decide) rfl (xX10_addPilot (OKC.tr hC) h2 hr3 hq4) rfl rfl (c_le rfl) (c_le rfl) (by omega) (by omega) dL_law_692 noXk (po_kI (fun hr4 => ?_))
  refine jj_istore (lv' := [(7, .int (iI q4.1)), (6, .int (iI q2.1)), (0, .ref a0), (1, .ref a1), (2, .ref a2), (3, .ref a3), (4, .ref a4), (5, .int (iI i0))]) hC dL_law_695 (by decide) rfl ?_
  refine jj_aload_n hC dL_law_697 rfl 4 rfl ?_
  obtain ⟨q5, hq5, h⟩ := bd_e h
  refine jj_invV hC mvX10_thrown wd1765 wd1766 wd1764 h2 (by decide) rfl (xX10_thrown (OKC.tr hC) h2 hq5) rfl rfl (c_le rfl) (c_le rfl) (by omega) (by omega) dL_law_698 noXk (po_kI (fun hr5 => ?_))
  refine jj_iload hC dL_law_701 1 rfl ?_
  refine jj_icmp_eq (tgt := 708) hC dL_law_703 rfl hr5 hr2 (fun hc => ?_) (fun hc => ?_)
  · replace h := (if_pos hc).symm.trans h
    refine jj_iload hC dL_law_708 1 rfl ?_
    refine jj_if_ne (tgt := 725) hC dL_law_710 rfl hr2 (fun hc => ?_) (fun hc => ?_)
    · replace h := (if_pos hc).symm.trans h
      refine jj_widen (k' := kk + 1) (n' := 256 * (kk + 1)) (by omega) (by omega) ?_
      refine jj_lv (lv' := [(0, .ref a0), (1, .ref a1), (2, .ref a2), (3, .ref a3), (4, .ref a4), (5, .int (iI i0))]) [2, 3, 4, 5, 6, 7] rfl ?_
      exact hB725 sz2 S Ln q4.2 q2.2.2 i0 ex2_r hi0 h0 h1 h2 h3 h4 h
    · replace h := (if_neg (fun k => k hc)).symm.trans h
      refine jj_aload_n hC dL_law_713 rfl 5 rfl ?_
      refine jj_iconst hC dL_law_714 ?_
      obtain ⟨⟨ha6, hb6⟩, h⟩ := gd_e h
      refine jj_lald hC h3 ha6 hb6 dL_law_715 (fun hr6 => ?_)
      refine jj_iload hC dL_law_716 0 rfl ?_
      refine jj_i2l hC dL_law_718 hr4 ?_
      refine jg_lcmp hC hr6 (r_il hr4) dL_law_719 ?_
      refine jj_if_eq (tgt := 725) hC dL_law_720 rfl i_lcmp_r (fun hc => ?_) (fun hc => ?_)
      · replace h := (if_pos hc).symm.trans h
        refine jj_widen (k' := kk + 1) (n' := 256 * (kk + 1)) (by omega) (by omega) ?_
        refine jj_lv (lv' := [(0, .ref a0), (1, .ref a1), (2, .ref a2), (3, .ref a3), (4, .ref a4), (5, .int (iI i0))]) [2, 3, 4, 5, 6, 7] rfl ?_
        exact hB725 sz2 S Ln q4.2 q2.2.2 i0 ex2_r hi0 h0 h1 h2 h3 h4 h
      · replace h := (if_neg (hc)).symm.trans h
        cases h
  · replace h := (if_neg (hc)).symm.trans h
    cases h
def fL_c7_B781 (ad : Nat → Nat) (S781 Ln781 : Nat → Nat) (R781 : gR) (M781 : gM) (a0 : Nat) (a1 : Nat) (a2 : Nat) (a3 : Nat) (a4 : Nat) (l5_781 : Int) : Option ((Int × (Nat → Nat) × (Nat → Nat) × gM × gR) ⊕ Unit) :=
  some (.inl (w32 (l5_781 + 5), S781, Ln781, M781, R781))
def fL_c7 (ad : Nat → Nat) (sz : Nat) (S Ln : Nat → Nat) (R : gR) (M : gM) (a0 a1 a2 a3 a4 : Nat) (i0 : Int) : Option ((Int × (Nat → Nat) × (Nat → Nat) × gM × gR) ⊕ Unit) :=
  gd ((0 : Int) ≤ (w32 (i0 + 1)) ∧ (w32 (i0 + 1)) < (Ln a0 : Int)) (bd (fL_launch ad S Ln R M a1 (M a0 (w32 (i0 + 1))) a3) fun q2 => gd ((0 : Int) ≤ (w32 (i0 + 1)) ∧ (w32 (i0 + 1)) < (Ln a0 : Int)) (bd (fX10_launch ad S Ln q2.2.2 q2.2.1 a2 (q2.2.1 a0 (w32 (i0 + 1)))) fun q4 => bd (fX10_thrown ad S Ln q2.2.2 q4.2 a2) fun q5 => if q5 = q2.1 then (if ¬ q2.1 = 0 then (fL_c7_B781 ad S Ln q2.2.2 q4.2 a0 a1 a2 a3 a4 i0) else (gd ((0 : Int) ≤ 0 ∧ 0 < (Ln a3 : Int)) (if (i_lcmp (q4.2 a3 0) q4.1) = 0 then (fL_c7_B781 ad S Ln q2.2.2 q4.2 a0 a1 a2 a3 a4 i0) else (none)))) else (none)))
theorem xL_c7 {G : gE} {C : gC} {sz kk : Nat} {S Ln : Nat → Nat} {M : gM} {R : gR} {P : gP} (hC : OKC G C RL cL_law 9 (some .boolean) 1400 603072 7198826 P noX) (hkk : kk + 40 ≤ 603072) (hnn : 256 * (kk + 40) ≤ 7198826) {a0 a1 a2 a3 a4 : Nat} {i0 : Int} (h0 : S a0 = 29) (h1 : S a1 = 12) (h2 : S a2 = 13) (h3 : S a3 = 21) (h4 : S a4 = 22) (hi0 : (-2147483648 ≤ i0 ∧ i0 < 2147483648)) {r : (Int × (Nat → Nat) × (Nat → Nat) × gM × gR) ⊕ Unit} (h : fL_c7 G.2.2.2.2 sz S Ln R M a0 a1 a2 a3 a4 i0 = some r) (hJ : ∀ t, r = .inl t → ∀ sz1, ((-2147483648 ≤ t.1 ∧ t.1 < 2147483648) ∧ t.2.1 a0 = 29 ∧ t.2.1 a1 = 12 ∧ t.2.1 a2 = 13 ∧ t.2.1 a3 = 21 ∧ t.2.1 a4 = 22 ∧ Ex2 S Ln t.2.1 t.2.2.1) → JJ G C (kk + 40) (256 * (kk + 40)) sz1 t.2.1 t.2.2.1 t.2.2.2.1 t.2.2.2.2 28 [(0, .ref a0), (1, .ref a1), (2, .ref a2), (3, .ref a3), (4, .ref a4), (5, .int (iI t.1))] []) : JJ G C kk (256 * (kk)) sz S Ln M R 728 [(0, .ref a0), (1, .ref a1), (2, .ref a2), (3, .ref a3), (4, .ref a4), (5, .int (iI i0))] [] := by
  have hB781 : ∀ (sz781 : Nat) (S781 : (Nat → Nat)) (Ln781 : (Nat → Nat)) (M781 : gM) (R781 : gR) (l5_781 : Int), Ex2 S Ln S781 Ln781 → (-2147483648 ≤ l5_781 ∧ l5_781 < 2147483648) → S781 a0 = 29 → S781 a1 = 12 → S781 a2 = 13 → S781 a3 = 21 → S781 a4 = 22 → fL_c7_B781 G.2.2.2.2 S781 Ln781 R781 M781 a0 a1 a2 a3 a4 l5_781 = some r → JJ G C (kk + 1) (256 * (kk + 1)) sz781 S781 Ln781 M781 R781 781 [(0, .ref a0), (1, .ref a1), (2, .ref a2), (3, .ref a3), (4, .ref a4), (5, .int (iI l5_781))] [] := by
    intro sz781 S781 Ln781 M781 R781 l5_781 hx781 hl5_781 ha0_781 ha1_781 ha2_781 ha3_781 ha4_781 h
    unfold fL_c7_B781 at h
    refine jj_goto (tgt := 2982) hC dL_law_781 rfl ?_
    refine jg_iinc (q := 5) (lv' := [(5, .int (iI (w32 (l5_781 + 5)))), (0, .ref a0), (1, .ref a1), (2, .ref a2), (3, .ref a3), (4, .ref a4)]) hC dL_law_2982 rfl (by decide) rfl ?_
    refine jj_goto (tgt := 28) hC dL_law_2985 rfl ?_
    refine jj_widen (k' := kk + 40) (n' := 256 * (kk + 40)) (by omega) (by omega) ?_
    refine jj_lv (lv' := [(0, .ref a0), (1, .ref a1), (2, .ref a2), (3, .ref a3), (4, .ref a4), (5, .int (iI (w32 (l5_781 + 5))))]) [1, 2, 3, 4, 5, 0] rfl ?_
    exact hJ _ (Option.some.inj h).symm sz781 ⟨(w32_r _), ha0_781, ha1_781, ha2_781, ha3_781, ha4_781, hx781⟩
  unfold fL_c7 at h
  refine jj_aload_n hC dL_law_728 rfl 1 rfl ?_
  refine jj_aload_n hC dL_law_729 rfl 0 rfl ?_
  refine jj_iload hC dL_law_730 5 rfl ?_
  refine jj_iconst hC dL_law_732 ?_
  refine jg_iadd hC dL_law_733 ?_
  obtain ⟨⟨ha1, hb1⟩, h⟩ := gd_e h
  refine jj_iald29 hC h0 ha1 hb1 dL_law_734 (fun hr1 => ?_)
  refine jj_aload_n hC dL_law_735 rfl 3 rfl ?_
  obtain ⟨q2, hq2, h⟩ := bd_e h
  refine jj_invSW hC mvwL_launch wd1168 wd1167 (xL_launch (OKC.tr hC) h1 hr1 h3 hq2) rfl rfl (c_le rfl) (c_le rfl) (by omega) (by omega) dL_law_736 (po_kW (fun hr2 hx2 sz2 => ?_))
  refine jj_widen (k' := kk + 1) (n' := 256 * (kk + 1)) (by omega) (by omega) ?_
  refine jj_istore (lv' := [(6, .int (iI q2.1)), (0, .ref a0), (1, .ref a1), (2, .ref a2), (3, .ref a3), (4, .ref a4), (5, .int (iI i0))]) hC dL_law_739 (by decide) rfl ?_
  refine jj_aload_n hC dL_law_741 rfl 3 rfl ?_
  refine jj_aload_n hC dL_law_742 rfl 1 rfl ?_
  refine jj_iload hC dL_law_743 6 rfl ?_
  refine jj_iconst hC dL_law_745 ?_
  refine jg_iadd hC dL_law_746 ?_
  obtain ⟨⟨ha3, hb3⟩, h⟩ := gd_e h
  refine jj_iald29 hC h0 ha3 hb3 dL_law_747 (fun hr3 => ?_)
  obtain ⟨q4, hq4, h⟩ := bd_e h
  refine jj_invV hC mvX10_launch wd1881 wd1882 wd1880 h2 (by decide) rfl (xX10_launch (OKC.tr hC) h2 hr3 hq4) rfl rfl (c_le rfl) (c_le rfl) (by omega) (by omega) dL_law_748 noXk (po_kI (fun hr4 => ?_))
  refine jj_istore (lv' := [(7, .int (iI q4.1)), (6, .int (iI q2.1)), (0, .ref a0), (1, .ref a1), (2, .ref a2), (3, .ref a3), (4, .ref a4), (5, .int (iI i0))]) hC dL_law_751 (by decide) rfl ?_
  refine jj_aload_n hC dL_law_753 rfl 4 rfl ?_
  obtain ⟨q5, hq5, h⟩ := bd_e h
  refine jj_invV hC mvX10_thrown wd1765 wd1766 wd1764 h2 (by decide) rfl (xX10_thrown (OKC.tr hC) h2 hq5) rfl rfl (c_le rfl) (c_le rfl) (by omega) (by omega) dL_law_754 noXk (po_kI (fun hr5 => ?_))
  refine jj_iload hC dL_law_757 1 rfl ?_
  refine jj_icmp_eq (tgt := 764) hC dL_law_759 rfl hr5 hr2 (fun hc => ?_) (fun hc => ?_)
  · replace h := (if_pos hc).symm.trans h
    refine jj_iload hC dL_law_764 1 rfl ?_
    refine jj_if_ne (tgt := 781) hC dL_law_766 rfl hr2 (fun hc => ?_) (fun hc => ?_)
    · replace h := (if_pos hc).symm.trans h
      refine jj_widen (k' := kk + 1) (n' := 256 * (kk + 1)) (by omega) (by omega) ?_
      refine jj_lv (lv' := [(0, .ref a0), (1, .ref a1), (2, .ref a2), (3, .ref a3), (4, .ref a4), (5, .int (iI i0))]) [2, 3, 4, 5, 6, 7] rfl ?_
      exact hB781 sz2 S Ln q4.2 q2.2.2 i0 ex2_r hi0 h0 h1 h2 h3 h4 h
    · replace h := (if_neg (fun k => k hc)).symm.trans h
      refine jj_aload_n hC dL_law_769 rfl 5 rfl ?_
      refine jj_iconst hC dL_law_770 ?_
      obtain ⟨⟨ha6, hb6⟩, h⟩ := gd_e h
      refine jj_lald hC h3 ha6 hb6 dL_law_771 (fun hr6 => ?_)
      refine jj_iload hC dL_law_772 0 rfl ?_
      refine jj_i2l hC dL_law_774 hr4 ?_
      refine jg_lcmp hC hr6 (r_il hr4) dL_law_775 ?_
      refine jj_if_eq (tgt := 781) hC dL_law_776 rfl i_lcmp_r (fun hc => ?_) (fun hc => ?_)
      · replace h := (if_pos hc).symm.trans h
        refine jj_widen (k' := kk + 1) (n' := 256 * (kk + 1)) (by omega) (by omega) ?_
        refine jj_lv (lv' := [(0, .ref a0), (1, .ref a1), (2, .ref a2), (3, .ref a3), (4, .ref a4), (5, .int (iI i0))]) [2, 3, 4, 5, 6, 7] rfl ?_
        exact hB781 sz2 S Ln q4.2 q2.2.2 i0 ex2_r hi0 h0 h1 h2 h3 h4 h
      · replace h := (if_neg (hc)).symm.trans h
        cases h
  · replace h := (if_neg (hc)).symm.trans h
    cases h
def fL_c8_B861 (ad : Nat → Nat) (S861 Ln861 : Nat → Nat) (R861 : gR) (M861 : gM) (a0 : Nat) (a1 : Nat) (a2 : Nat) (a3 : Nat) (a4 : Nat) (l5_861 : Int) : Option ((Int × (Nat → Nat) × (Nat → Nat) × gM × gR) ⊕ Unit) :=
  some (.inl (w32 (l5_861 + 5), S861, Ln861, M861, R861))
def fL_c8 (ad : Nat → Nat) (sz : Nat) (S Ln : Nat → Nat) (R : gR) (M : gM) (a0 a1 a2 a3 a4 : Nat) (i0 : Int) : Option ((Int × (Nat → Nat) × (Nat → Nat) × gM × gR) ⊕ Unit) :=
  gd ((0 : Int) ≤ (w32 (i0 + 1)) ∧ (w32 (i0 + 1)) < (Ln a0 : Int)) (gd ((0 : Int) ≤ (w32 (i0 + 2)) ∧ (w32 (i0 + 2)) < (Ln a0 : Int)) (gd ((0 : Int) ≤ (w32 (i0 + 3)) ∧ (w32 (i0 + 3)) < (Ln a0 : Int)) (bd (fL_fly ad S Ln R M a1 (M a0 (w32 (i0 + 1))) (M a0 (w32 (i0 + 2))) (M a0 (w32 (i0 + 3))) a3) fun q4 => gd ((0 : Int) ≤ (w32 (i0 + 1)) ∧ (w32 (i0 + 1)) < (Ln a0 : Int)) (gd ((0 : Int) ≤ (w32 (i0 + 2)) ∧ (w32 (i0 + 2)) < (Ln a0 : Int)) (gd ((0 : Int) ≤ (w32 (i0 + 3)) ∧ (w32 (i0 + 3)) < (Ln a0 : Int)) (bd (fX10_fly ad S Ln q4.2.2 q4.2.1 a2 (q4.2.1 a0 (w32 (i0 + 1))) (q4.2.1 a0 (w32 (i0 + 2))) (q4.2.1 a0 (w32 (i0 + 3)))) fun q8 => bd (fX10_thrown ad S Ln q4.2.2 q8.2 a2) fun q9 => if q9 = q4.1 then (if ¬ q4.1 = 0 then (fL_c8_B861 ad S Ln q4.2.2 q8.2 a0 a1 a2 a3 a4 i0) else (gd ((0 : Int) ≤ 0 ∧ 0 < (Ln a3 : Int)) (if (i_lcmp (q8.2 a3 0) q8.1) = 0 then (fL_c8_B861 ad S Ln q4.2.2 q8.2 a0 a1 a2 a3 a4 i0) else (none)))) else (none)))))))
theorem xL_c8 {G : gE} {C : gC} {sz kk : Nat} {S Ln : Nat → Nat} {M : gM} {R : gR} {P : gP} (hC : OKC G C RL cL_law 9 (some .boolean) 1400 603072 7198826 P noX) (hkk : kk + 40 ≤ 603072) (hnn : 256 * (kk + 40) ≤ 7198826) {a0 a1 a2 a3 a4 : Nat} {i0 : Int} (h0 : S a0 = 29) (h1 : S a1 = 12) (h2 : S a2 = 13) (h3 : S a3 = 21) (h4 : S a4 = 22) (hi0 : (-2147483648 ≤ i0 ∧ i0 < 2147483648)) {r : (Int × (Nat → Nat) × (Nat → Nat) × gM × gR) ⊕ Unit} (h : fL_c8 G.2.2.2.2 sz S Ln R M a0 a1 a2 a3 a4 i0 = some r) (hJ : ∀ t, r = .inl t → ∀ sz1, ((-2147483648 ≤ t.1 ∧ t.1 < 2147483648) ∧ t.2.1 a0 = 29 ∧ t.2.1 a1 = 12 ∧ t.2.1 a2 = 13 ∧ t.2.1 a3 = 21 ∧ t.2.1 a4 = 22 ∧ Ex2 S Ln t.2.1 t.2.2.1) → JJ G C (kk + 40) (256 * (kk + 40)) sz1 t.2.1 t.2.2.1 t.2.2.2.1 t.2.2.2.2 28 [(0, .ref a0), (1, .ref a1), (2, .ref a2), (3, .ref a3), (4, .ref a4), (5, .int (iI t.1))] []) : JJ G C kk (256 * (kk)) sz S Ln M R 784 [(0, .ref a0), (1, .ref a1), (2, .ref a2), (3, .ref a3), (4, .ref a4), (5, .int (iI i0))] [] := by
  have hB861 : ∀ (sz861 : Nat) (S861 : (Nat → Nat)) (Ln861 : (Nat → Nat)) (M861 : gM) (R861 : gR) (l5_861 : Int), Ex2 S Ln S861 Ln861 → (-2147483648 ≤ l5_861 ∧ l5_861 < 2147483648) → S861 a0 = 29 → S861 a1 = 12 → S861 a2 = 13 → S861 a3 = 21 → S861 a4 = 22 → fL_c8_B861 G.2.2.2.2 S861 Ln861 R861 M861 a0 a1 a2 a3 a4 l5_861 = some r → JJ G C (kk + 1) (256 * (kk + 1)) sz861 S861 Ln861 M861 R861 861 [(0, .ref a0), (1, .ref a1), (2, .ref a2), (3, .ref a3), (4, .ref a4), (5, .int (iI l5_861))] [] := by
    intro sz861 S861 Ln861 M861 R861 l5_861 hx861 hl5_861 ha0_861 ha1_861 ha2_861 ha3_861 ha4_861 h
    unfold fL_c8_B861 at h
    refine jj_goto (tgt := 2982) hC dL_law_861 rfl ?_
    refine jg_iinc (q := 5) (lv' := [(5, .int (iI (w32 (l5_861 + 5)))), (0, .ref a0), (1, .ref a1), (2, .ref a2), (3, .ref a3), (4, .ref a4)]) hC dL_law_2982 rfl (by decide) rfl ?_
    refine jj_goto (tgt := 28) hC dL_law_2985 rfl ?_
    refine jj_widen (k' := kk + 40) (n' := 256 * (kk + 40)) (by omega) (by omega) ?_
    refine jj_lv (lv' := [(0, .ref a0), (1, .ref a1), (2, .ref a2), (3, .ref a3), (4, .ref a4), (5, .int (iI (w32 (l5_861 + 5))))]) [1, 2, 3, 4, 5, 0] rfl ?_
    exact hJ _ (Option.some.inj h).symm sz861 ⟨(w32_r _), ha0_861, ha1_861, ha2_861, ha3_861, ha4_861, hx861⟩
  unfold fL_c8 at h
  refine jj_aload_n hC dL_law_784 rfl 1 rfl ?_
  refine jj_aload_n hC dL_law_785 rfl 0 rfl ?_
  refine jj_iload hC dL_law_786 5 rfl ?_
  refine jj_iconst hC dL_law_788 ?_
  refine jg_iadd hC dL_law_789 ?_
  obtain ⟨⟨ha1, hb1⟩, h⟩ := gd_e h
  refine jj_iald29 hC h0 ha1 hb1 dL_law_790 (fun hr1 => ?_)
  refine jj_aload_n hC dL_law_791 rfl 0 rfl ?_
  refine jj_iload hC dL_law_792 5 rfl ?_
  refine jj_iconst hC dL_law_794 ?_
  refine jg_iadd hC dL_law_795 ?_
  obtain ⟨⟨ha2, hb2⟩, h⟩ := gd_e h
  refine jj_iald29 hC h0 ha2 hb2 dL_law_796 (fun hr2 => ?_)
  refine jj_aload_n hC dL_law_797 rfl 0 rfl ?_
  refine jj_iload hC dL_law_798 5 rfl ?_
  refine jj_iconst hC dL_law_800 ?_
  refine jg_iadd hC dL_law_801 ?_
  obtain ⟨⟨ha3, hb3⟩, h⟩ := gd_e h
  refine jj_iald29 hC h0 ha3 hb3 dL_law_802 (fun hr3 => ?_)
  refine jj_aload_n hC dL_law_803 rfl 3 rfl ?_
  obtain ⟨q4, hq4, h⟩ := bd_e h
  refine jj_invSW hC mvwL_fly wd1193 wd1192 (xL_fly (OKC.tr hC) h1 hr1 hr2 hr3 h3 hq4) rfl rfl (c_le rfl) (c_le rfl) (by omega) (by omega) dL_law_804 (po_kW (fun hr4 hx4 sz4 => ?_))
  refine jj_widen (k' := kk + 1) (n' := 256 * (kk + 1)) (by omega) (by omega) ?_
  refine jj_istore (lv' := [(6, .int (iI q4.1)), (0, .ref a0), (1, .ref a1), (2, .ref a2), (3, .ref a3), (4, .ref a4), (5, .int (iI i0))]) hC dL_law_807 (by decide) rfl ?_
  refine jj_aload_n hC dL_law_809 rfl 3 rfl ?_
  refine jj_aload_n hC dL_law_810 rfl 1 rfl ?_
  refine jj_iload hC dL_law_811 6 rfl ?_
  refine jj_iconst hC dL_law_813 ?_
  refine jg_iadd hC dL_law_814 ?_
  obtain ⟨⟨ha5, hb5⟩, h⟩ := gd_e h
  refine jj_iald29 hC h0 ha5 hb5 dL_law_815 (fun hr5 => ?_)
  refine jj_aload_n hC dL_law_816 rfl 1 rfl ?_
  refine jj_iload hC dL_law_817 6 rfl ?_
  refine jj_iconst hC dL_law_819 ?_
  refine jg_iadd hC dL_law_820 ?_
  obtain ⟨⟨ha6, hb6⟩, h⟩ := gd_e h
  refine jj_iald29 hC h0 ha6 hb6 dL_law_821 (fun hr6 => ?_)
  refine jj_aload_n hC dL_law_822 rfl 1 rfl ?_
  refine jj_iload hC dL_law_823 6 rfl ?_
  refine jj_iconst hC dL_law_825 ?_
  refine jg_iadd hC dL_law_826 ?_
  obtain ⟨⟨ha7, hb7⟩, h⟩ := gd_e h
  refine jj_iald29 hC h0 ha7 hb7 dL_law_827 (fun hr7 => ?_)
  obtain ⟨q8, hq8, h⟩ := bd_e h
  refine jj_invV hC mvX10_fly wd1897 wd1898 wd1896 h2 (by decide) rfl (xX10_fly (OKC.tr hC) h2 hr5 hr6 hr7 hq8) rfl rfl (c_le rfl) (c_le rfl) (by omega) (by omega) dL_law_828 noXk (po_kI (fun hr8 => ?_))
  refine jj_istore (lv' := [(7, .int (iI q8.1)), (6, .int (iI q4.1)), (0, .ref a0), (1, .ref a1), (2, .ref a2), (3, .ref a3), (4, .ref a4), (5, .int (iI i0))]) hC dL_law_831 (by decide) rfl ?_
  refine jj_aload_n hC dL_law_833 rfl 4 rfl ?_
  obtain ⟨q9, hq9, h⟩ := bd_e h
  refine jj_invV hC mvX10_thrown wd1765 wd1766 wd1764 h2 (by decide) rfl (xX10_thrown (OKC.tr hC) h2 hq9) rfl rfl (c_le rfl) (c_le rfl) (by omega) (by omega) dL_law_834 noXk (po_kI (fun hr9 => ?_))
  refine jj_iload hC dL_law_837 1 rfl ?_
  refine jj_icmp_eq (tgt := 844) hC dL_law_839 rfl hr9 hr4 (fun hc => ?_) (fun hc => ?_)
  · replace h := (if_pos hc).symm.trans h
    refine jj_iload hC dL_law_844 1 rfl ?_
    refine jj_if_ne (tgt := 861) hC dL_law_846 rfl hr4 (fun hc => ?_) (fun hc => ?_)
    · replace h := (if_pos hc).symm.trans h
      refine jj_widen (k' := kk + 1) (n' := 256 * (kk + 1)) (by omega) (by omega) ?_
      refine jj_lv (lv' := [(0, .ref a0), (1, .ref a1), (2, .ref a2), (3, .ref a3), (4, .ref a4), (5, .int (iI i0))]) [2, 3, 4, 5, 6, 7] rfl ?_
      exact hB861 sz4 S Ln q8.2 q4.2.2 i0 ex2_r hi0 h0 h1 h2 h3 h4 h
    · replace h := (if_neg (fun k => k hc)).symm.trans h
      refine jj_aload_n hC dL_law_849 rfl 5 rfl ?_
      refine jj_iconst hC dL_law_850 ?_
      obtain ⟨⟨ha10, hb10⟩, h⟩ := gd_e h
      refine jj_lald hC h3 ha10 hb10 dL_law_851 (fun hr10 => ?_)
      refine jj_iload hC dL_law_852 0 rfl ?_
      refine jj_i2l hC dL_law_854 hr8 ?_
      refine jg_lcmp hC hr10 (r_il hr8) dL_law_855 ?_
      refine jj_if_eq (tgt := 861) hC dL_law_856 rfl i_lcmp_r (fun hc => ?_) (fun hc => ?_)
      · replace h := (if_pos hc).symm.trans h
        refine jj_widen (k' := kk + 1) (n' := 256 * (kk + 1)) (by omega) (by omega) ?_
        refine jj_lv (lv' := [(0, .ref a0), (1, .ref a1), (2, .ref a2), (3, .ref a3), (4, .ref a4), (5, .int (iI i0))]) [2, 3, 4, 5, 6, 7] rfl ?_
        exact hB861 sz4 S Ln q8.2 q4.2.2 i0 ex2_r hi0 h0 h1 h2 h3 h4 h
      · replace h := (if_neg (hc)).symm.trans h
        cases h
  · replace h := (if_neg (hc)).symm.trans h
    cases h
def fL_c9_B929 (ad : Nat → Nat) (S929 Ln929 : Nat → Nat) (R929 : gR) (M929 : gM) (a0 : Nat) (a1 : Nat) (a2 : Nat) (a3 : Nat) (a4 : Nat) (l5_929 : Int) : Option ((Int × (Nat → Nat) × (Nat → Nat) × gM × gR) ⊕ Unit) :=
  some (.inl (w32 (l5_929 + 5), S929, Ln929, M929, R929))
def fL_c9 (ad : Nat → Nat) (sz : Nat) (S Ln : Nat → Nat) (R : gR) (M : gM) (a0 a1 a2 a3 a4 : Nat) (i0 : Int) : Option ((Int × (Nat → Nat) × (Nat → Nat) × gM × gR) ⊕ Unit) :=
  gd ((0 : Int) ≤ (w32 (i0 + 1)) ∧ (w32 (i0 + 1)) < (Ln a0 : Int)) (gd ((0 : Int) ≤ (w32 (i0 + 2)) ∧ (w32 (i0 + 2)) < (Ln a0 : Int)) (bd (fL_climb ad S Ln R M a1 (M a0 (w32 (i0 + 1))) (M a0 (w32 (i0 + 2))) a3) fun q3 => gd ((0 : Int) ≤ (w32 (i0 + 1)) ∧ (w32 (i0 + 1)) < (Ln a0 : Int)) (gd ((0 : Int) ≤ (w32 (i0 + 2)) ∧ (w32 (i0 + 2)) < (Ln a0 : Int)) (bd (fX10_climb ad S Ln q3.2.2 q3.2.1 a2 (q3.2.1 a0 (w32 (i0 + 1))) (q3.2.1 a0 (w32 (i0 + 2)))) fun q6 => bd (fX10_thrown ad S Ln q3.2.2 q6.2 a2) fun q7 => if q7 = q3.1 then (if ¬ q3.1 = 0 then (fL_c9_B929 ad S Ln q3.2.2 q6.2 a0 a1 a2 a3 a4 i0) else (gd ((0 : Int) ≤ 0 ∧ 0 < (Ln a3 : Int)) (if (i_lcmp (q6.2 a3 0) q6.1) = 0 then (fL_c9_B929 ad S Ln q3.2.2 q6.2 a0 a1 a2 a3 a4 i0) else (none)))) else (none)))))
theorem xL_c9 {G : gE} {C : gC} {sz kk : Nat} {S Ln : Nat → Nat} {M : gM} {R : gR} {P : gP} (hC : OKC G C RL cL_law 9 (some .boolean) 1400 603072 7198826 P noX) (hkk : kk + 40 ≤ 603072) (hnn : 256 * (kk + 40) ≤ 7198826) {a0 a1 a2 a3 a4 : Nat} {i0 : Int} (h0 : S a0 = 29) (h1 : S a1 = 12) (h2 : S a2 = 13) (h3 : S a3 = 21) (h4 : S a4 = 22) (hi0 : (-2147483648 ≤ i0 ∧ i0 < 2147483648)) {r : (Int × (Nat → Nat) × (Nat → Nat) × gM × gR) ⊕ Unit} (h : fL_c9 G.2.2.2.2 sz S Ln R M a0 a1 a2 a3 a4 i0 = some r) (hJ : ∀ t, r = .inl t → ∀ sz1, ((-2147483648 ≤ t.1 ∧ t.1 < 2147483648) ∧ t.2.1 a0 = 29 ∧ t.2.1 a1 = 12 ∧ t.2.1 a2 = 13 ∧ t.2.1 a3 = 21 ∧ t.2.1 a4 = 22 ∧ Ex2 S Ln t.2.1 t.2.2.1) → JJ G C (kk + 40) (256 * (kk + 40)) sz1 t.2.1 t.2.2.1 t.2.2.2.1 t.2.2.2.2 28 [(0, .ref a0), (1, .ref a1), (2, .ref a2), (3, .ref a3), (4, .ref a4), (5, .int (iI t.1))] []) : JJ G C kk (256 * (kk)) sz S Ln M R 864 [(0, .ref a0), (1, .ref a1), (2, .ref a2), (3, .ref a3), (4, .ref a4), (5, .int (iI i0))] [] := by
  have hB929 : ∀ (sz929 : Nat) (S929 : (Nat → Nat)) (Ln929 : (Nat → Nat)) (M929 : gM) (R929 : gR) (l5_929 : Int), Ex2 S Ln S929 Ln929 → (-2147483648 ≤ l5_929 ∧ l5_929 < 2147483648) → S929 a0 = 29 → S929 a1 = 12 → S929 a2 = 13 → S929 a3 = 21 → S929 a4 = 22 → fL_c9_B929 G.2.2.2.2 S929 Ln929 R929 M929 a0 a1 a2 a3 a4 l5_929 = some r → JJ G C (kk + 1) (256 * (kk + 1)) sz929 S929 Ln929 M929 R929 929 [(0, .ref a0), (1, .ref a1), (2, .ref a2), (3, .ref a3), (4, .ref a4), (5, .int (iI l5_929))] [] := by
    intro sz929 S929 Ln929 M929 R929 l5_929 hx929 hl5_929 ha0_929 ha1_929 ha2_929 ha3_929 ha4_929 h
    unfold fL_c9_B929 at h
    refine jj_goto (tgt := 2982) hC dL_law_929 rfl ?_
    refine jg_iinc (q := 5) (lv' := [(5, .int (iI (w32 (l5_929 + 5)))), (0, .ref a0), (1, .ref a1), (2, .ref a2), (3, .ref a3), (4, .ref a4)]) hC dL_law_2982 rfl (by decide) rfl ?_
    refine jj_goto (tgt := 28) hC dL_law_2985 rfl ?_
    refine jj_widen (k' := kk + 40) (n' := 256 * (kk + 40)) (by omega) (by omega) ?_
    refine jj_lv (lv' := [(0, .ref a0), (1, .ref a1), (2, .ref a2), (3, .ref a3), (4, .ref a4), (5, .int (iI (w32 (l5_929 + 5))))]) [1, 2, 3, 4, 5, 0] rfl ?_
    exact hJ _ (Option.some.inj h).symm sz929 ⟨(w32_r _), ha0_929, ha1_929, ha2_929, ha3_929, ha4_929, hx929⟩
  unfold fL_c9 at h
  refine jj_aload_n hC dL_law_864 rfl 1 rfl ?_
  refine jj_aload_n hC dL_law_865 rfl 0 rfl ?_
  refine jj_iload hC dL_law_866 5 rfl ?_
  refine jj_iconst hC dL_law_868 ?_
  refine jg_iadd hC dL_law_869 ?_
  obtain ⟨⟨ha1, hb1⟩, h⟩ := gd_e h
  refine jj_iald29 hC h0 ha1 hb1 dL_law_870 (fun hr1 => ?_)
  refine jj_aload_n hC dL_law_871 rfl 0 rfl ?_
  refine jj_iload hC dL_law_872 5 rfl ?_
  refine jj_iconst hC dL_law_874 ?_
  refine jg_iadd hC dL_law_875 ?_
  obtain ⟨⟨ha2, hb2⟩, h⟩ := gd_e h
  refine jj_iald29 hC h0 ha2 hb2 dL_law_876 (fun hr2 => ?_)
  refine jj_aload_n hC dL_law_877 rfl 3 rfl ?_
  obtain ⟨q3, hq3, h⟩ := bd_e h
  refine jj_invSW hC mvwL_climb wd1210 wd1209 (xL_climb (OKC.tr hC) h1 hr1 hr2 h3 hq3) rfl rfl (c_le rfl) (c_le rfl) (by omega) (by omega) dL_law_878 (po_kW (fun hr3 hx3 sz3 => ?_))
  refine jj_widen (k' := kk + 1) (n' := 256 * (kk + 1)) (by omega) (by omega) ?_
  refine jj_istore (lv' := [(6, .int (iI q3.1)), (0, .ref a0), (1, .ref a1), (2, .ref a2), (3, .ref a3), (4, .ref a4), (5, .int (iI i0))]) hC dL_law_881 (by decide) rfl ?_
  refine jj_aload_n hC dL_law_883 rfl 3 rfl ?_
  refine jj_aload_n hC dL_law_884 rfl 1 rfl ?_
  refine jj_iload hC dL_law_885 6 rfl ?_
  refine jj_iconst hC dL_law_887 ?_
  refine jg_iadd hC dL_law_888 ?_
  obtain ⟨⟨ha4, hb4⟩, h⟩ := gd_e h
  refine jj_iald29 hC h0 ha4 hb4 dL_law_889 (fun hr4 => ?_)
  refine jj_aload_n hC dL_law_890 rfl 1 rfl ?_
  refine jj_iload hC dL_law_891 6 rfl ?_
  refine jj_iconst hC dL_law_893 ?_
  refine jg_iadd hC dL_law_894 ?_
  obtain ⟨⟨ha5, hb5⟩, h⟩ := gd_e h
  refine jj_iald29 hC h0 ha5 hb5 dL_law_895 (fun hr5 => ?_)
  obtain ⟨q6, hq6, h⟩ := bd_e h
  refine jj_invV hC mvX10_climb wd1927 wd1928 wd1926 h2 (by decide) rfl (xX10_climb (OKC.tr hC) h2 hr4 hr5 hq6) rfl rfl (c_le rfl) (c_le rfl) (by omega) (by omega) dL_law_896 noXk (po_kI (fun hr6 => ?_))
  refine jj_istore (lv' := [(7, .int (iI q6.1)), (6, .int (iI q3.1)), (0, .ref a0), (1, .ref a1), (2, .ref a2), (3, .ref a3), (4, .ref a4), (5, .int (iI i0))]) hC dL_law_899 (by decide) rfl ?_
  refine jj_aload_n hC dL_law_901 rfl 4 rfl ?_
  obtain ⟨q7, hq7, h⟩ := bd_e h
  refine jj_invV hC mvX10_thrown wd1765 wd1766 wd1764 h2 (by decide) rfl (xX10_thrown (OKC.tr hC) h2 hq7) rfl rfl (c_le rfl) (c_le rfl) (by omega) (by omega) dL_law_902 noXk (po_kI (fun hr7 => ?_))
  refine jj_iload hC dL_law_905 1 rfl ?_
  refine jj_icmp_eq (tgt := 912) hC dL_law_907 rfl hr7 hr3 (fun hc => ?_) (fun hc => ?_)
  · replace h := (if_pos hc).symm.trans h
    refine jj_iload hC dL_law_912 1 rfl ?_
    refine jj_if_ne (tgt := 929) hC dL_law_914 rfl hr3 (fun hc => ?_) (fun hc => ?_)
    · replace h := (if_pos hc).symm.trans h
      refine jj_widen (k' := kk + 1) (n' := 256 * (kk + 1)) (by omega) (by omega) ?_
      refine jj_lv (lv' := [(0, .ref a0), (1, .ref a1), (2, .ref a2), (3, .ref a3), (4, .ref a4), (5, .int (iI i0))]) [2, 3, 4, 5, 6, 7] rfl ?_
      exact hB929 sz3 S Ln q6.2 q3.2.2 i0 ex2_r hi0 h0 h1 h2 h3 h4 h
    · replace h := (if_neg (fun k => k hc)).symm.trans h
      refine jj_aload_n hC dL_law_917 rfl 5 rfl ?_
      refine jj_iconst hC dL_law_918 ?_
      obtain ⟨⟨ha8, hb8⟩, h⟩ := gd_e h
      refine jj_lald hC h3 ha8 hb8 dL_law_919 (fun hr8 => ?_)
      refine jj_iload hC dL_law_920 0 rfl ?_
      refine jj_i2l hC dL_law_922 hr6 ?_
      refine jg_lcmp hC hr8 (r_il hr6) dL_law_923 ?_
      refine jj_if_eq (tgt := 929) hC dL_law_924 rfl i_lcmp_r (fun hc => ?_) (fun hc => ?_)
      · replace h := (if_pos hc).symm.trans h
        refine jj_widen (k' := kk + 1) (n' := 256 * (kk + 1)) (by omega) (by omega) ?_
        refine jj_lv (lv' := [(0, .ref a0), (1, .ref a1), (2, .ref a2), (3, .ref a3), (4, .ref a4), (5, .int (iI i0))]) [2, 3, 4, 5, 6, 7] rfl ?_
        exact hB929 sz3 S Ln q6.2 q3.2.2 i0 ex2_r hi0 h0 h1 h2 h3 h4 h
      · replace h := (if_neg (hc)).symm.trans h
        cases h
  · replace h := (if_neg (hc)).symm.trans h
    cases h
def fL_c10_B973 (ad : Nat → Nat) (S973 Ln973 : Nat → Nat) (R973 : gR) (M973 : gM) (a0 : Nat) (a1 : Nat) (a2 : Nat) (a3 : Nat) (a4 : Nat) (l5_973 : Int) : Option ((Int × (Nat → Nat) × (Nat → Nat) × gM × gR) ⊕ Unit) :=
  some (.inl (w32 (l5_973 + 5), S973, Ln973, M973, R973))
def fL_c10 (ad : Nat → Nat) (sz : Nat) (S Ln : Nat → Nat) (R : gR) (M : gM) (a0 a1 a2 a3 a4 : Nat) (i0 : Int) : Option ((Int × (Nat → Nat) × (Nat → Nat) × gM × gR) ⊕ Unit) :=
  bd (fL_endDay ad S Ln R M a1 a3) fun q1 => bd (fX10_endDay ad S Ln q1.2.2 q1.2.1 a2) fun q2 => bd (fX10_thrown ad S Ln q1.2.2 q2.2 a2) fun q3 => if q3 = q1.1 then (if ¬ q1.1 = 0 then (fL_c10_B973 ad S Ln q1.2.2 q2.2 a0 a1 a2 a3 a4 i0) else (gd ((0 : Int) ≤ 0 ∧ 0 < (Ln a3 : Int)) (if (i_lcmp (q2.2 a3 0) q2.1) = 0 then (fL_c10_B973 ad S Ln q1.2.2 q2.2 a0 a1 a2 a3 a4 i0) else (none)))) else (none)
theorem xL_c10 {G : gE} {C : gC} {sz kk : Nat} {S Ln : Nat → Nat} {M : gM} {R : gR} {P : gP} (hC : OKC G C RL cL_law 9 (some .boolean) 1400 603072 7198826 P noX) (hkk : kk + 40 ≤ 603072) (hnn : 256 * (kk + 40) ≤ 7198826) {a0 a1 a2 a3 a4 : Nat} {i0 : Int} (h0 : S a0 = 29) (h1 : S a1 = 12) (h2 : S a2 = 13) (h3 : S a3 = 21) (h4 : S a4 = 22) (hi0 : (-2147483648 ≤ i0 ∧ i0 < 2147483648)) {r : (Int × (Nat → Nat) × (Nat → Nat) × gM × gR) ⊕ Unit} (h : fL_c10 G.2.2.2.2 sz S Ln R M a0 a1 a2 a3 a4 i0 = some r) (hJ : ∀ t, r = .inl t → ∀ sz1, ((-2147483648 ≤ t.1 ∧ t.1 < 2147483648) ∧ t.2.1 a0 = 29 ∧ t.2.1 a1 = 12 ∧ t.2.1 a2 = 13 ∧ t.2.1 a3 = 21 ∧ t.2.1 a4 = 22 ∧ Ex2 S Ln t.2.1 t.2.2.1) → JJ G C (kk + 40) (256 * (kk + 40)) sz1 t.2.1 t.2.2.1 t.2.2.2.1 t.2.2.2.2 28 [(0, .ref a0), (1, .ref a1), (2, .ref a2), (3, .ref a3), (4, .ref a4), (5, .int (iI t.1))] []) : JJ G C kk (256 * (kk)) sz S Ln M R 932 [(0, .ref a0), (1, .ref a1), (2, .ref a2), (3, .ref a3), (4, .ref a4), (5, .int (iI i0))] [] := by
  have hB973 : ∀ (sz973 : Nat) (S973 : (Nat → Nat)) (Ln973 : (Nat → Nat)) (M973 : gM) (R973 : gR) (l5_973 : Int), Ex2 S Ln S973 Ln973 → (-2147483648 ≤ l5_973 ∧ l5_973 < 2147483648) → S973 a0 = 29 → S973 a1 = 12 → S973 a2 = 13 → S973 a3 = 21 → S973 a4 = 22 → fL_c10_B973 G.2.2.2.2 S973 Ln973 R973 M973 a0 a1 a2 a3 a4 l5_973 = some r → JJ G C (kk + 1) (256 * (kk + 1)) sz973 S973 Ln973 M973 R973 973 [(0, .ref a0), (1, .ref a1), (2, .ref a2), (3, .ref a3), (4, .ref a4), (5, .int (iI l5_973))] [] := by
    intro sz973 S973 Ln973 M973 R973 l5_973 hx973 hl5_973 ha0_973 ha1_973 ha2_973 ha3_973 ha4_973 h
    unfold fL_c10_B973 at h
    refine jj_goto (tgt := 2982) hC dL_law_973 rfl ?_
    refine jg_iinc (q := 5) (lv' := [(5, .int (iI (w32 (l5_973 + 5)))), (0, .ref a0), (1, .ref a1), (2, .ref a2), (3, .ref a3), (4, .ref a4)]) hC dL_law_2982 rfl (by decide) rfl ?_
    refine jj_goto (tgt := 28) hC dL_law_2985 rfl ?_
    refine jj_widen (k' := kk + 40) (n' := 256 * (kk + 40)) (by omega) (by omega) ?_
    refine jj_lv (lv' := [(0, .ref a0), (1, .ref a1), (2, .ref a2), (3, .ref a3), (4, .ref a4), (5, .int (iI (w32 (l5_973 + 5))))]) [1, 2, 3, 4, 5, 0] rfl ?_
    exact hJ _ (Option.some.inj h).symm sz973 ⟨(w32_r _), ha0_973, ha1_973, ha2_973, ha3_973, ha4_973, hx973⟩
  unfold fL_c10 at h
  refine jj_aload_n hC dL_law_932 rfl 1 rfl ?_
  refine jj_aload_n hC dL_law_933 rfl 3 rfl ?_
  obtain ⟨q1, hq1, h⟩ := bd_e h
  refine jj_invSW hC mvwL_endDay wd1235 wd1234 (xL_endDay (OKC.tr hC) h1 h3 hq1) rfl rfl (c_le rfl) (c_le rfl) (by omega) (by omega) dL_law_934 (po_kW (fun hr1 hx1 sz1 => ?_))
  refine jj_widen (k' := kk + 1) (n' := 256 * (kk + 1)) (by omega) (by omega) ?_
  refine jj_istore (lv' := [(6, .int (iI q1.1)), (0, .ref a0), (1, .ref a1), (2, .ref a2), (3, .ref a3), (4, .ref a4), (5, .int (iI i0))]) hC dL_law_937 (by decide) rfl ?_
  refine jj_aload_n hC dL_law_939 rfl 3 rfl ?_
  obtain ⟨q2, hq2, h⟩ := bd_e h
  refine jj_invV hC mvX10_endDay wd1939 wd1940 wd1938 h2 (by decide) rfl (xX10_endDay (OKC.tr hC) h2 hq2) rfl rfl (c_le rfl) (c_le rfl) (by omega) (by omega) dL_law_940 noXk (po_kI (fun hr2 => ?_))
  refine jj_istore (lv' := [(7, .int (iI q2.1)), (6, .int (iI q1.1)), (0, .ref a0), (1, .ref a1), (2, .ref a2), (3, .ref a3), (4, .ref a4), (5, .int (iI i0))]) hC dL_law_943 (by decide) rfl ?_
  refine jj_aload_n hC dL_law_945 rfl 4 rfl ?_
  obtain ⟨q3, hq3, h⟩ := bd_e h
  refine jj_invV hC mvX10_thrown wd1765 wd1766 wd1764 h2 (by decide) rfl (xX10_thrown (OKC.tr hC) h2 hq3) rfl rfl (c_le rfl) (c_le rfl) (by omega) (by omega) dL_law_946 noXk (po_kI (fun hr3 => ?_))
  refine jj_iload hC dL_law_949 1 rfl ?_
  refine jj_icmp_eq (tgt := 956) hC dL_law_951 rfl hr3 hr1 (fun hc => ?_) (fun hc => ?_)
  · replace h := (if_pos hc).symm.trans h
    refine jj_iload hC dL_law_956 1 rfl ?_
    refine jj_if_ne (tgt := 973) hC dL_law_958 rfl hr1 (fun hc => ?_) (fun hc => ?_)
    · replace h := (if_pos hc).symm.trans h
      refine jj_widen (k' := kk + 1) (n' := 256 * (kk + 1)) (by omega) (by omega) ?_
      refine jj_lv (lv' := [(0, .ref a0), (1, .ref a1), (2, .ref a2), (3, .ref a3), (4, .ref a4), (5, .int (iI i0))]) [2, 3, 4, 5, 6, 7] rfl ?_
      exact hB973 sz1 S Ln q2.2 q1.2.2 i0 ex2_r hi0 h0 h1 h2 h3 h4 h
    · replace h := (if_neg (fun k => k hc)).symm.trans h
      refine jj_aload_n hC dL_law_961 rfl 5 rfl ?_
      refine jj_iconst hC dL_law_962 ?_
      obtain ⟨⟨ha4, hb4⟩, h⟩ := gd_e h
      refine jj_lald hC h3 ha4 hb4 dL_law_963 (fun hr4 => ?_)
      refine jj_iload hC dL_law_964 0 rfl ?_
      refine jj_i2l hC dL_law_966 hr2 ?_
      refine jg_lcmp hC hr4 (r_il hr2) dL_law_967 ?_
      refine jj_if_eq (tgt := 973) hC dL_law_968 rfl i_lcmp_r (fun hc => ?_) (fun hc => ?_)
      · replace h := (if_pos hc).symm.trans h
        refine jj_widen (k' := kk + 1) (n' := 256 * (kk + 1)) (by omega) (by omega) ?_
        refine jj_lv (lv' := [(0, .ref a0), (1, .ref a1), (2, .ref a2), (3, .ref a3), (4, .ref a4), (5, .int (iI i0))]) [2, 3, 4, 5, 6, 7] rfl ?_
        exact hB973 sz1 S Ln q2.2 q1.2.2 i0 ex2_r hi0 h0 h1 h2 h3 h4 h
      · replace h := (if_neg (hc)).symm.trans h
        cases h
  · replace h := (if_neg (hc)).symm.trans h
    cases h
def fL_c11 (ad : Nat → Nat) (sz : Nat) (S Ln : Nat → Nat) (R : gR) (M : gM) (a0 a1 a2 a3 a4 : Nat) (i0 : Int) : Option ((Int × (Nat → Nat) × (Nat → Nat) × gM × gR) ⊕ Unit) :=
  bd (fX9_pointCount ad S Ln R M a1) fun q1 => bd (fX10_pointCount ad S Ln R M a2) fun q2 => if q1 = q2.1 then (some (.inl (w32 (i0 + 5), S, Ln, q2.2, R))) else (none)
theorem xL_c11 {G : gE} {C : gC} {sz kk : Nat} {S Ln : Nat → Nat} {M : gM} {R : gR} {P : gP} (hC : OKC G C RL cL_law 9 (some .boolean) 1400 603072 7198826 P noX) (hkk : kk + 40 ≤ 603072) (hnn : 256 * (kk + 40) ≤ 7198826) {a0 a1 a2 a3 a4 : Nat} {i0 : Int} (h0 : S a0 = 29) (h1 : S a1 = 12) (h2 : S a2 = 13) (h3 : S a3 = 21) (h4 : S a4 = 22) (hi0 : (-2147483648 ≤ i0 ∧ i0 < 2147483648)) {r : (Int × (Nat → Nat) × (Nat → Nat) × gM × gR) ⊕ Unit} (h : fL_c11 G.2.2.2.2 sz S Ln R M a0 a1 a2 a3 a4 i0 = some r) (hJ : ∀ t, r = .inl t → ∀ sz1, ((-2147483648 ≤ t.1 ∧ t.1 < 2147483648) ∧ t.2.1 a0 = 29 ∧ t.2.1 a1 = 12 ∧ t.2.1 a2 = 13 ∧ t.2.1 a3 = 21 ∧ t.2.1 a4 = 22 ∧ Ex2 S Ln t.2.1 t.2.2.1) → JJ G C (kk + 40) (256 * (kk + 40)) sz1 t.2.1 t.2.2.1 t.2.2.2.1 t.2.2.2.2 28 [(0, .ref a0), (1, .ref a1), (2, .ref a2), (3, .ref a3), (4, .ref a4), (5, .int (iI t.1))] []) : JJ G C kk (256 * (kk)) sz S Ln M R 976 [(0, .ref a0), (1, .ref a1), (2, .ref a2), (3, .ref a3), (4, .ref a4), (5, .int (iI i0))] [] := by
  unfold fL_c11 at h
  refine jj_aload_n hC dL_law_976 rfl 1 rfl ?_
  obtain ⟨q1, hq1, h⟩ := bd_e h
  refine jj_invV hC mvX9_pointCount wd412 wd413 wd411 h1 (by decide) rfl (xX9_pointCount (OKC.tr hC) h1 hq1) rfl rfl (c_le rfl) (c_le rfl) (by omega) (by omega) dL_law_977 noXk (po_kI (fun hr1 => ?_))
  refine jj_aload_n hC dL_law_980 rfl 2 rfl ?_
  obtain ⟨q2, hq2, h⟩ := bd_e h
  refine jj_invV hC mvX10_pointCount wd1975 wd1976 wd1974 h2 (by decide) rfl (xX10_pointCount (OKC.tr hC) h2 hq2) rfl rfl (c_le rfl) (c_le rfl) (by omega) (by omega) dL_law_981 noXk (po_kI (fun hr2 => ?_))
  refine jj_icmp_eq (tgt := 2982) hC dL_law_984 rfl hr1 hr2 (fun hc => ?_) (fun hc => ?_)
  · replace h := (if_pos hc).symm.trans h
    refine jg_iinc (q := 5) (lv' := [(5, .int (iI (w32 (i0 + 5)))), (0, .ref a0), (1, .ref a1), (2, .ref a2), (3, .ref a3), (4, .ref a4)]) hC dL_law_2982 rfl (by decide) rfl ?_
    refine jj_goto (tgt := 28) hC dL_law_2985 rfl ?_
    refine jj_widen (k' := kk + 40) (n' := 256 * (kk + 40)) (by omega) (by omega) ?_
    refine jj_lv (lv' := [(0, .ref a0), (1, .ref a1), (2, .ref a2), (3, .ref a3), (4, .ref a4), (5, .int (iI (w32 (i0 + 5))))]) [1, 2, 3, 4, 5, 0] rfl ?_
    exact hJ _ (Option.some.inj h).symm sz ⟨(w32_r _), h0, h1, h2, h3, h4, ex2_r⟩
  · replace h := (if_neg (hc)).symm.trans h
    cases h
def fL_c12_B1054 (ad : Nat → Nat) (S1054 Ln1054 : Nat → Nat) (R1054 : gR) (M1054 : gM) (a0 : Nat) (a1 : Nat) (a2 : Nat) (a3 : Nat) (a4 : Nat) (l5_1054 : Int) : Option ((Int × (Nat → Nat) × (Nat → Nat) × gM × gR) ⊕ Unit) :=
  some (.inl (w32 (l5_1054 + 5), S1054, Ln1054, M1054, R1054))
def fL_c12 (ad : Nat → Nat) (sz : Nat) (S Ln : Nat → Nat) (R : gR) (M : gM) (a0 a1 a2 a3 a4 : Nat) (i0 : Int) : Option ((Int × (Nat → Nat) × (Nat → Nat) × gM × gR) ⊕ Unit) :=
  gd ((0 : Int) ≤ (w32 (i0 + 1)) ∧ (w32 (i0 + 1)) < (Ln a0 : Int)) (gd ((0 : Int) ≤ (w32 (i0 + 2)) ∧ (w32 (i0 + 2)) < (Ln a0 : Int)) (bd (fL_distance ad S Ln R M a1 (M a0 (w32 (i0 + 1))) (M a0 (w32 (i0 + 2))) a3) fun q3 => gd ((0 : Int) ≤ (w32 (i0 + 1)) ∧ (w32 (i0 + 1)) < (Ln a0 : Int)) (gd ((0 : Int) ≤ (w32 (i0 + 2)) ∧ (w32 (i0 + 2)) < (Ln a0 : Int)) (bd (fX10_distance ad S Ln R q3.2 a2 (q3.2 a0 (w32 (i0 + 1))) (q3.2 a0 (w32 (i0 + 2)))) fun q6 => bd (fX10_thrown ad S Ln R q6.2 a2) fun q7 => if q7 = q3.1 then (if ¬ q3.1 = 0 then (fL_c12_B1054 ad S Ln R q6.2 a0 a1 a2 a3 a4 i0) else (gd ((0 : Int) ≤ 0 ∧ 0 < (Ln a3 : Int)) (if (i_lcmp (q6.2 a3 0) q6.1) = 0 then (fL_c12_B1054 ad S Ln R q6.2 a0 a1 a2 a3 a4 i0) else (none)))) else (none)))))
theorem xL_c12 {G : gE} {C : gC} {sz kk : Nat} {S Ln : Nat → Nat} {M : gM} {R : gR} {P : gP} (hC : OKC G C RL cL_law 9 (some .boolean) 1400 603072 7198826 P noX) (hkk : kk + 40 ≤ 603072) (hnn : 256 * (kk + 40) ≤ 7198826) {a0 a1 a2 a3 a4 : Nat} {i0 : Int} (h0 : S a0 = 29) (h1 : S a1 = 12) (h2 : S a2 = 13) (h3 : S a3 = 21) (h4 : S a4 = 22) (hi0 : (-2147483648 ≤ i0 ∧ i0 < 2147483648)) {r : (Int × (Nat → Nat) × (Nat → Nat) × gM × gR) ⊕ Unit} (h : fL_c12 G.2.2.2.2 sz S Ln R M a0 a1 a2 a3 a4 i0 = some r) (hJ : ∀ t, r = .inl t → ∀ sz1, ((-2147483648 ≤ t.1 ∧ t.1 < 2147483648) ∧ t.2.1 a0 = 29 ∧ t.2.1 a1 = 12 ∧ t.2.1 a2 = 13 ∧ t.2.1 a3 = 21 ∧ t.2.1 a4 = 22 ∧ Ex2 S Ln t.2.1 t.2.2.1) → JJ G C (kk + 40) (256 * (kk + 40)) sz1 t.2.1 t.2.2.1 t.2.2.2.1 t.2.2.2.2 28 [(0, .ref a0), (1, .ref a1), (2, .ref a2), (3, .ref a3), (4, .ref a4), (5, .int (iI t.1))] []) : JJ G C kk (256 * (kk)) sz S Ln M R 989 [(0, .ref a0), (1, .ref a1), (2, .ref a2), (3, .ref a3), (4, .ref a4), (5, .int (iI i0))] [] := by
  have hB1054 : ∀ (sz1054 : Nat) (S1054 : (Nat → Nat)) (Ln1054 : (Nat → Nat)) (M1054 : gM) (R1054 : gR) (l5_1054 : Int), Ex2 S Ln S1054 Ln1054 → (-2147483648 ≤ l5_1054 ∧ l5_1054 < 2147483648) → S1054 a0 = 29 → S1054 a1 = 12 → S1054 a2 = 13 → S1054 a3 = 21 → S1054 a4 = 22 → fL_c12_B1054 G.2.2.2.2 S1054 Ln1054 R1054 M1054 a0 a1 a2 a3 a4 l5_1054 = some r → JJ G C (kk + 1) (256 * (kk + 1)) sz1054 S1054 Ln1054 M1054 R1054 1054 [(0, .ref a0), (1, .ref a1), (2, .ref a2), (3, .ref a3), (4, .ref a4), (5, .int (iI l5_1054))] [] := by
    intro sz1054 S1054 Ln1054 M1054 R1054 l5_1054 hx1054 hl5_1054 ha0_1054 ha1_1054 ha2_1054 ha3_1054 ha4_1054 h
    unfold fL_c12_B1054 at h
    refine jj_goto (tgt := 2982) hC dL_law_1054 rfl ?_
    refine jg_iinc (q := 5) (lv' := [(5, .int (iI (w32 (l5_1054 + 5)))), (0, .ref a0), (1, .ref a1), (2, .ref a2), (3, .ref a3), (4, .ref a4)]) hC dL_law_2982 rfl (by decide) rfl ?_
    refine jj_goto (tgt := 28) hC dL_law_2985 rfl ?_
    refine jj_widen (k' := kk + 40) (n' := 256 * (kk + 40)) (by omega) (by omega) ?_
    refine jj_lv (lv' := [(0, .ref a0), (1, .ref a1), (2, .ref a2), (3, .ref a3), (4, .ref a4), (5, .int (iI (w32 (l5_1054 + 5))))]) [1, 2, 3, 4, 5, 0] rfl ?_
    exact hJ _ (Option.some.inj h).symm sz1054 ⟨(w32_r _), ha0_1054, ha1_1054, ha2_1054, ha3_1054, ha4_1054, hx1054⟩
  unfold fL_c12 at h
  refine jj_aload_n hC dL_law_989 rfl 1 rfl ?_
  refine jj_aload_n hC dL_law_990 rfl 0 rfl ?_
  refine jj_iload hC dL_law_991 5 rfl ?_
  refine jj_iconst hC dL_law_993 ?_
  refine jg_iadd hC dL_law_994 ?_
  obtain ⟨⟨ha1, hb1⟩, h⟩ := gd_e h
  refine jj_iald29 hC h0 ha1 hb1 dL_law_995 (fun hr1 => ?_)
  refine jj_aload_n hC dL_law_996 rfl 0 rfl ?_
  refine jj_iload hC dL_law_997 5 rfl ?_
  refine jj_iconst hC dL_law_999 ?_
  refine jg_iadd hC dL_law_1000 ?_
  obtain ⟨⟨ha2, hb2⟩, h⟩ := gd_e h
  refine jj_iald29 hC h0 ha2 hb2 dL_law_1001 (fun hr2 => ?_)
  refine jj_aload_n hC dL_law_1002 rfl 3 rfl ?_
  obtain ⟨q3, hq3, h⟩ := bd_e h
  refine jj_invSW hC mvwL_distance wd1261 wd1260 (xL_distance (OKC.tr hC) h1 hr1 hr2 h3 hq3) rfl rfl (c_le rfl) (c_le rfl) (by omega) (by omega) dL_law_1003 (po_kW (fun hr3 hx3 sz3 => ?_))
  refine jj_widen (k' := kk + 1) (n' := 256 * (kk + 1)) (by omega) (by omega) ?_
  refine jj_istore (lv' := [(6, .int (iI q3.1)), (0, .ref a0), (1, .ref a1), (2, .ref a2), (3, .ref a3), (4, .ref a4), (5, .int (iI i0))]) hC dL_law_1006 (by decide) rfl ?_
  refine jj_aload_n hC dL_law_1008 rfl 3 rfl ?_
  refine jj_aload_n hC dL_law_1009 rfl 1 rfl ?_
  refine jj_iload hC dL_law_1010 6 rfl ?_
  refine jj_iconst hC dL_law_1012 ?_
  refine jg_iadd hC dL_law_1013 ?_
  obtain ⟨⟨ha4, hb4⟩, h⟩ := gd_e h
  refine jj_iald29 hC h0 ha4 hb4 dL_law_1014 (fun hr4 => ?_)
  refine jj_aload_n hC dL_law_1015 rfl 1 rfl ?_
  refine jj_iload hC dL_law_1016 6 rfl ?_
  refine jj_iconst hC dL_law_1018 ?_
  refine jg_iadd hC dL_law_1019 ?_
  obtain ⟨⟨ha5, hb5⟩, h⟩ := gd_e h
  refine jj_iald29 hC h0 ha5 hb5 dL_law_1020 (fun hr5 => ?_)
  obtain ⟨q6, hq6, h⟩ := bd_e h
  refine jj_invV hC mvX10_distance wd1979 wd1980 wd1978 h2 (by decide) rfl (xX10_distance (OKC.tr hC) h2 hr4 hr5 hq6) rfl rfl (c_le rfl) (c_le rfl) (by omega) (by omega) dL_law_1021 noXk (po_kI (fun hr6 => ?_))
  refine jj_istore (lv' := [(7, .int (iI q6.1)), (6, .int (iI q3.1)), (0, .ref a0), (1, .ref a1), (2, .ref a2), (3, .ref a3), (4, .ref a4), (5, .int (iI i0))]) hC dL_law_1024 (by decide) rfl ?_
  refine jj_aload_n hC dL_law_1026 rfl 4 rfl ?_
  obtain ⟨q7, hq7, h⟩ := bd_e h
  refine jj_invV hC mvX10_thrown wd1765 wd1766 wd1764 h2 (by decide) rfl (xX10_thrown (OKC.tr hC) h2 hq7) rfl rfl (c_le rfl) (c_le rfl) (by omega) (by omega) dL_law_1027 noXk (po_kI (fun hr7 => ?_))
  refine jj_iload hC dL_law_1030 1 rfl ?_
  refine jj_icmp_eq (tgt := 1037) hC dL_law_1032 rfl hr7 hr3 (fun hc => ?_) (fun hc => ?_)
  · replace h := (if_pos hc).symm.trans h
    refine jj_iload hC dL_law_1037 1 rfl ?_
    refine jj_if_ne (tgt := 1054) hC dL_law_1039 rfl hr3 (fun hc => ?_) (fun hc => ?_)
    · replace h := (if_pos hc).symm.trans h
      refine jj_widen (k' := kk + 1) (n' := 256 * (kk + 1)) (by omega) (by omega) ?_
      refine jj_lv (lv' := [(0, .ref a0), (1, .ref a1), (2, .ref a2), (3, .ref a3), (4, .ref a4), (5, .int (iI i0))]) [2, 3, 4, 5, 6, 7] rfl ?_
      exact hB1054 sz3 S Ln q6.2 R i0 ex2_r hi0 h0 h1 h2 h3 h4 h
    · replace h := (if_neg (fun k => k hc)).symm.trans h
      refine jj_aload_n hC dL_law_1042 rfl 5 rfl ?_
      refine jj_iconst hC dL_law_1043 ?_
      obtain ⟨⟨ha8, hb8⟩, h⟩ := gd_e h
      refine jj_lald hC h3 ha8 hb8 dL_law_1044 (fun hr8 => ?_)
      refine jj_iload hC dL_law_1045 0 rfl ?_
      refine jj_i2l hC dL_law_1047 hr6 ?_
      refine jg_lcmp hC hr8 (r_il hr6) dL_law_1048 ?_
      refine jj_if_eq (tgt := 1054) hC dL_law_1049 rfl i_lcmp_r (fun hc => ?_) (fun hc => ?_)
      · replace h := (if_pos hc).symm.trans h
        refine jj_widen (k' := kk + 1) (n' := 256 * (kk + 1)) (by omega) (by omega) ?_
        refine jj_lv (lv' := [(0, .ref a0), (1, .ref a1), (2, .ref a2), (3, .ref a3), (4, .ref a4), (5, .int (iI i0))]) [2, 3, 4, 5, 6, 7] rfl ?_
        exact hB1054 sz3 S Ln q6.2 R i0 ex2_r hi0 h0 h1 h2 h3 h4 h
      · replace h := (if_neg (hc)).symm.trans h
        cases h
  · replace h := (if_neg (hc)).symm.trans h
    cases h
def fL_c13 (ad : Nat → Nat) (sz : Nat) (S Ln : Nat → Nat) (R : gR) (M : gM) (a0 a1 a2 a3 a4 : Nat) (i0 : Int) : Option ((Int × (Nat → Nat) × (Nat → Nat) × gM × gR) ⊕ Unit) :=
  bd (fX9_taskLength ad S Ln R M a1) fun q1 => bd (fX10_taskLength ad S Ln R M a2) fun q2 => if q1 = q2.1 then (some (.inl (w32 (i0 + 5), S, Ln, q2.2, R))) else (none)
theorem xL_c13 {G : gE} {C : gC} {sz kk : Nat} {S Ln : Nat → Nat} {M : gM} {R : gR} {P : gP} (hC : OKC G C RL cL_law 9 (some .boolean) 1400 603072 7198826 P noX) (hkk : kk + 40 ≤ 603072) (hnn : 256 * (kk + 40) ≤ 7198826) {a0 a1 a2 a3 a4 : Nat} {i0 : Int} (h0 : S a0 = 29) (h1 : S a1 = 12) (h2 : S a2 = 13) (h3 : S a3 = 21) (h4 : S a4 = 22) (hi0 : (-2147483648 ≤ i0 ∧ i0 < 2147483648)) {r : (Int × (Nat → Nat) × (Nat → Nat) × gM × gR) ⊕ Unit} (h : fL_c13 G.2.2.2.2 sz S Ln R M a0 a1 a2 a3 a4 i0 = some r) (hJ : ∀ t, r = .inl t → ∀ sz1, ((-2147483648 ≤ t.1 ∧ t.1 < 2147483648) ∧ t.2.1 a0 = 29 ∧ t.2.1 a1 = 12 ∧ t.2.1 a2 = 13 ∧ t.2.1 a3 = 21 ∧ t.2.1 a4 = 22 ∧ Ex2 S Ln t.2.1 t.2.2.1) → JJ G C (kk + 40) (256 * (kk + 40)) sz1 t.2.1 t.2.2.1 t.2.2.2.1 t.2.2.2.2 28 [(0, .ref a0), (1, .ref a1), (2, .ref a2), (3, .ref a3), (4, .ref a4), (5, .int (iI t.1))] []) : JJ G C kk (256 * (kk)) sz S Ln M R 1057 [(0, .ref a0), (1, .ref a1), (2, .ref a2), (3, .ref a3), (4, .ref a4), (5, .int (iI i0))] [] := by
  unfold fL_c13 at h
  refine jj_aload_n hC dL_law_1057 rfl 1 rfl ?_
  obtain ⟨q1, hq1, h⟩ := bd_e h
  refine jj_invV hC mvX9_taskLength wd416 wd417 wd415 h1 (by decide) rfl (xX9_taskLength (OKC.tr hC) h1 hq1) rfl rfl (c_le rfl) (c_le rfl) (by omega) (by omega) dL_law_1058 noXk (po_kI (fun hr1 => ?_))
  refine jj_aload_n hC dL_law_1061 rfl 2 rfl ?_
  obtain ⟨q2, hq2, h⟩ := bd_e h
  refine jj_invV hC mvX10_taskLength wd1983 wd1984 wd1982 h2 (by decide) rfl (xX10_taskLength (OKC.tr hC) h2 hq2) rfl rfl (c_le rfl) (c_le rfl) (by omega) (by omega) dL_law_1062 noXk (po_kI (fun hr2 => ?_))
  refine jj_icmp_eq (tgt := 2982) hC dL_law_1065 rfl hr1 hr2 (fun hc => ?_) (fun hc => ?_)
  · replace h := (if_pos hc).symm.trans h
    refine jg_iinc (q := 5) (lv' := [(5, .int (iI (w32 (i0 + 5)))), (0, .ref a0), (1, .ref a1), (2, .ref a2), (3, .ref a3), (4, .ref a4)]) hC dL_law_2982 rfl (by decide) rfl ?_
    refine jj_goto (tgt := 28) hC dL_law_2985 rfl ?_
    refine jj_widen (k' := kk + 40) (n' := 256 * (kk + 40)) (by omega) (by omega) ?_
    refine jj_lv (lv' := [(0, .ref a0), (1, .ref a1), (2, .ref a2), (3, .ref a3), (4, .ref a4), (5, .int (iI (w32 (i0 + 5))))]) [1, 2, 3, 4, 5, 0] rfl ?_
    exact hJ _ (Option.some.inj h).symm sz ⟨(w32_r _), h0, h1, h2, h3, h4, ex2_r⟩
  · replace h := (if_neg (hc)).symm.trans h
    cases h
def fL_c14_B1123 (ad : Nat → Nat) (S1123 Ln1123 : Nat → Nat) (R1123 : gR) (M1123 : gM) (a0 : Nat) (a1 : Nat) (a2 : Nat) (a3 : Nat) (a4 : Nat) (l5_1123 : Int) : Option ((Int × (Nat → Nat) × (Nat → Nat) × gM × gR) ⊕ Unit) :=
  some (.inl (w32 (l5_1123 + 5), S1123, Ln1123, M1123, R1123))
def fL_c14 (ad : Nat → Nat) (sz : Nat) (S Ln : Nat → Nat) (R : gR) (M : gM) (a0 a1 a2 a3 a4 : Nat) (i0 : Int) : Option ((Int × (Nat → Nat) × (Nat → Nat) × gM × gR) ⊕ Unit) :=
  gd ((0 : Int) ≤ (w32 (i0 + 1)) ∧ (w32 (i0 + 1)) < (Ln a0 : Int)) (bd (fL_taskPoint ad S Ln R M a1 (M a0 (w32 (i0 + 1))) a3) fun q2 => gd ((0 : Int) ≤ (w32 (i0 + 1)) ∧ (w32 (i0 + 1)) < (Ln a0 : Int)) (bd (fX10_taskPoint ad S Ln R q2.2 a2 (q2.2 a0 (w32 (i0 + 1)))) fun q4 => bd (fX10_thrown ad S Ln R q4.2 a2) fun q5 => if q5 = q2.1 then (if ¬ q2.1 = 0 then (fL_c14_B1123 ad S Ln R q4.2 a0 a1 a2 a3 a4 i0) else (gd ((0 : Int) ≤ 0 ∧ 0 < (Ln a3 : Int)) (if (i_lcmp (q4.2 a3 0) q4.1) = 0 then (fL_c14_B1123 ad S Ln R q4.2 a0 a1 a2 a3 a4 i0) else (none)))) else (none)))
theorem xL_c14 {G : gE} {C : gC} {sz kk : Nat} {S Ln : Nat → Nat} {M : gM} {R : gR} {P : gP} (hC : OKC G C RL cL_law 9 (some .boolean) 1400 603072 7198826 P noX) (hkk : kk + 40 ≤ 603072) (hnn : 256 * (kk + 40) ≤ 7198826) {a0 a1 a2 a3 a4 : Nat} {i0 : Int} (h0 : S a0 = 29) (h1 : S a1 = 12) (h2 : S a2 = 13) (h3 : S a3 = 21) (h4 : S a4 = 22) (hi0 : (-2147483648 ≤ i0 ∧ i0 < 2147483648)) {r : (Int × (Nat → Nat) × (Nat → Nat) × gM × gR) ⊕ Unit} (h : fL_c14 G.2.2.2.2 sz S Ln R M a0 a1 a2 a3 a4 i0 = some r) (hJ : ∀ t, r = .inl t → ∀ sz1, ((-2147483648 ≤ t.1 ∧ t.1 < 2147483648) ∧ t.2.1 a0 = 29 ∧ t.2.1 a1 = 12 ∧ t.2.1 a2 = 13 ∧ t.2.1 a3 = 21 ∧ t.2.1 a4 = 22 ∧ Ex2 S Ln t.2.1 t.2.2.1) → JJ G C (kk + 40) (256 * (kk + 40)) sz1 t.2.1 t.2.2.1 t.2.2.2.1 t.2.2.2.2 28 [(0, .ref a0), (1, .ref a1), (2, .ref a2), (3, .ref a3), (4, .ref a4), (5, .int (iI t.1))] []) : JJ G C kk (256 * (kk)) sz S Ln M R 1070 [(0, .ref a0), (1, .ref a1), (2, .ref a2), (3, .ref a3), (4, .ref a4), (5, .int (iI i0))] [] := by
  have hB1123 : ∀ (sz1123 : Nat) (S1123 : (Nat → Nat)) (Ln1123 : (Nat → Nat)) (M1123 : gM) (R1123 : gR) (l5_1123 : Int), Ex2 S Ln S1123 Ln1123 → (-2147483648 ≤ l5_1123 ∧ l5_1123 < 2147483648) → S1123 a0 = 29 → S1123 a1 = 12 → S1123 a2 = 13 → S1123 a3 = 21 → S1123 a4 = 22 → fL_c14_B1123 G.2.2.2.2 S1123 Ln1123 R1123 M1123 a0 a1 a2 a3 a4 l5_1123 = some r → JJ G C (kk + 1) (256 * (kk + 1)) sz1123 S1123 Ln1123 M1123 R1123 1123 [(0, .ref a0), (1, .ref a1), (2, .ref a2), (3, .ref a3), (4, .ref a4), (5, .int (iI l5_1123))] [] := by
    intro sz1123 S1123 Ln1123 M1123 R1123 l5_1123 hx1123 hl5_1123 ha0_1123 ha1_1123 ha2_1123 ha3_1123 ha4_1123 h
    unfold fL_c14_B1123 at h
    refine jj_goto (tgt := 2982) hC dL_law_1123 rfl ?_
    refine jg_iinc (q := 5) (lv' := [(5, .int (iI (w32 (l5_1123 + 5)))), (0, .ref a0), (1, .ref a1), (2, .ref a2), (3, .ref a3), (4, .ref a4)]) hC dL_law_2982 rfl (by decide) rfl ?_
    refine jj_goto (tgt := 28) hC dL_law_2985 rfl ?_
    refine jj_widen (k' := kk + 40) (n' := 256 * (kk + 40)) (by omega) (by omega) ?_
    refine jj_lv (lv' := [(0, .ref a0), (1, .ref a1), (2, .ref a2), (3, .ref a3), (4, .ref a4), (5, .int (iI (w32 (l5_1123 + 5))))]) [1, 2, 3, 4, 5, 0] rfl ?_
    exact hJ _ (Option.some.inj h).symm sz1123 ⟨(w32_r _), ha0_1123, ha1_1123, ha2_1123, ha3_1123, ha4_1123, hx1123⟩
  unfold fL_c14 at h
  refine jj_aload_n hC dL_law_1070 rfl 1 rfl ?_
  refine jj_aload_n hC dL_law_1071 rfl 0 rfl ?_
  refine jj_iload hC dL_law_1072 5 rfl ?_
  refine jj_iconst hC dL_law_1074 ?_
  refine jg_iadd hC dL_law_1075 ?_
  obtain ⟨⟨ha1, hb1⟩, h⟩ := gd_e h
  refine jj_iald29 hC h0 ha1 hb1 dL_law_1076 (fun hr1 => ?_)
  refine jj_aload_n hC dL_law_1077 rfl 3 rfl ?_
  obtain ⟨q2, hq2, h⟩ := bd_e h
  refine jj_invSW hC mvwL_taskPoint wd1271 wd1270 (xL_taskPoint (OKC.tr hC) h1 hr1 h3 hq2) rfl rfl (c_le rfl) (c_le rfl) (by omega) (by omega) dL_law_1078 (po_kW (fun hr2 hx2 sz2 => ?_))
  refine jj_widen (k' := kk + 1) (n' := 256 * (kk + 1)) (by omega) (by omega) ?_
  refine jj_istore (lv' := [(6, .int (iI q2.1)), (0, .ref a0), (1, .ref a1), (2, .ref a2), (3, .ref a3), (4, .ref a4), (5, .int (iI i0))]) hC dL_law_1081 (by decide) rfl ?_
  refine jj_aload_n hC dL_law_1083 rfl 3 rfl ?_
  refine jj_aload_n hC dL_law_1084 rfl 1 rfl ?_
  refine jj_iload hC dL_law_1085 6 rfl ?_
  refine jj_iconst hC dL_law_1087 ?_
  refine jg_iadd hC dL_law_1088 ?_
  obtain ⟨⟨ha3, hb3⟩, h⟩ := gd_e h
  refine jj_iald29 hC h0 ha3 hb3 dL_law_1089 (fun hr3 => ?_)
  obtain ⟨q4, hq4, h⟩ := bd_e h
  refine jj_invV hC mvX10_taskPoint wd1987 wd1988 wd1986 h2 (by decide) rfl (xX10_taskPoint (OKC.tr hC) h2 hr3 hq4) rfl rfl (c_le rfl) (c_le rfl) (by omega) (by omega) dL_law_1090 noXk (po_kI (fun hr4 => ?_))
  refine jj_istore (lv' := [(7, .int (iI q4.1)), (6, .int (iI q2.1)), (0, .ref a0), (1, .ref a1), (2, .ref a2), (3, .ref a3), (4, .ref a4), (5, .int (iI i0))]) hC dL_law_1093 (by decide) rfl ?_
  refine jj_aload_n hC dL_law_1095 rfl 4 rfl ?_
  obtain ⟨q5, hq5, h⟩ := bd_e h
  refine jj_invV hC mvX10_thrown wd1765 wd1766 wd1764 h2 (by decide) rfl (xX10_thrown (OKC.tr hC) h2 hq5) rfl rfl (c_le rfl) (c_le rfl) (by omega) (by omega) dL_law_1096 noXk (po_kI (fun hr5 => ?_))
  refine jj_iload hC dL_law_1099 1 rfl ?_
  refine jj_icmp_eq (tgt := 1106) hC dL_law_1101 rfl hr5 hr2 (fun hc => ?_) (fun hc => ?_)
  · replace h := (if_pos hc).symm.trans h
    refine jj_iload hC dL_law_1106 1 rfl ?_
    refine jj_if_ne (tgt := 1123) hC dL_law_1108 rfl hr2 (fun hc => ?_) (fun hc => ?_)
    · replace h := (if_pos hc).symm.trans h
      refine jj_widen (k' := kk + 1) (n' := 256 * (kk + 1)) (by omega) (by omega) ?_
      refine jj_lv (lv' := [(0, .ref a0), (1, .ref a1), (2, .ref a2), (3, .ref a3), (4, .ref a4), (5, .int (iI i0))]) [2, 3, 4, 5, 6, 7] rfl ?_
      exact hB1123 sz2 S Ln q4.2 R i0 ex2_r hi0 h0 h1 h2 h3 h4 h
    · replace h := (if_neg (fun k => k hc)).symm.trans h
      refine jj_aload_n hC dL_law_1111 rfl 5 rfl ?_
      refine jj_iconst hC dL_law_1112 ?_
      obtain ⟨⟨ha6, hb6⟩, h⟩ := gd_e h
      refine jj_lald hC h3 ha6 hb6 dL_law_1113 (fun hr6 => ?_)
      refine jj_iload hC dL_law_1114 0 rfl ?_
      refine jj_i2l hC dL_law_1116 hr4 ?_
      refine jg_lcmp hC hr6 (r_il hr4) dL_law_1117 ?_
      refine jj_if_eq (tgt := 1123) hC dL_law_1118 rfl i_lcmp_r (fun hc => ?_) (fun hc => ?_)
      · replace h := (if_pos hc).symm.trans h
        refine jj_widen (k' := kk + 1) (n' := 256 * (kk + 1)) (by omega) (by omega) ?_
        refine jj_lv (lv' := [(0, .ref a0), (1, .ref a1), (2, .ref a2), (3, .ref a3), (4, .ref a4), (5, .int (iI i0))]) [2, 3, 4, 5, 6, 7] rfl ?_
        exact hB1123 sz2 S Ln q4.2 R i0 ex2_r hi0 h0 h1 h2 h3 h4 h
      · replace h := (if_neg (hc)).symm.trans h
        cases h
  · replace h := (if_neg (hc)).symm.trans h
    cases h
def fL_c15 (ad : Nat → Nat) (sz : Nat) (S Ln : Nat → Nat) (R : gR) (M : gM) (a0 a1 a2 a3 a4 : Nat) (i0 : Int) : Option ((Int × (Nat → Nat) × (Nat → Nat) × gM × gR) ⊕ Unit) :=
  bd (fX9_taskDistance ad S Ln R M a1) fun q1 => bd (fX10_taskDistance ad S Ln R M a2) fun q2 => if q1 = q2.1 then (some (.inl (w32 (i0 + 5), S, Ln, q2.2, R))) else (none)
theorem xL_c15 {G : gE} {C : gC} {sz kk : Nat} {S Ln : Nat → Nat} {M : gM} {R : gR} {P : gP} (hC : OKC G C RL cL_law 9 (some .boolean) 1400 603072 7198826 P noX) (hkk : kk + 40 ≤ 603072) (hnn : 256 * (kk + 40) ≤ 7198826) {a0 a1 a2 a3 a4 : Nat} {i0 : Int} (h0 : S a0 = 29) (h1 : S a1 = 12) (h2 : S a2 = 13) (h3 : S a3 = 21) (h4 : S a4 = 22) (hi0 : (-2147483648 ≤ i0 ∧ i0 < 2147483648)) {r : (Int × (Nat → Nat) × (Nat → Nat) × gM × gR) ⊕ Unit} (h : fL_c15 G.2.2.2.2 sz S Ln R M a0 a1 a2 a3 a4 i0 = some r) (hJ : ∀ t, r = .inl t → ∀ sz1, ((-2147483648 ≤ t.1 ∧ t.1 < 2147483648) ∧ t.2.1 a0 = 29 ∧ t.2.1 a1 = 12 ∧ t.2.1 a2 = 13 ∧ t.2.1 a3 = 21 ∧ t.2.1 a4 = 22 ∧ Ex2 S Ln t.2.1 t.2.2.1) → JJ G C (kk + 40) (256 * (kk + 40)) sz1 t.2.1 t.2.2.1 t.2.2.2.1 t.2.2.2.2 28 [(0, .ref a0), (1, .ref a1), (2, .ref a2), (3, .ref a3), (4, .ref a4), (5, .int (iI t.1))] []) : JJ G C kk (256 * (kk)) sz S Ln M R 1126 [(0, .ref a0), (1, .ref a1), (2, .ref a2), (3, .ref a3), (4, .ref a4), (5, .int (iI i0))] [] := by
  unfold fL_c15 at h
  refine jj_aload_n hC dL_law_1126 rfl 1 rfl ?_
  obtain ⟨q1, hq1, h⟩ := bd_e h
  refine jj_invV hC mvX9_taskDistance wd420 wd421 wd419 h1 (by decide) rfl (xX9_taskDistance (OKC.tr hC) h1 hq1) rfl rfl (c_le rfl) (c_le rfl) (by omega) (by omega) dL_law_1127 noXk (po_kI (fun hr1 => ?_))
  refine jj_aload_n hC dL_law_1130 rfl 2 rfl ?_
  obtain ⟨q2, hq2, h⟩ := bd_e h
  refine jj_invV hC mvX10_taskDistance wd1991 wd1992 wd1990 h2 (by decide) rfl (xX10_taskDistance (OKC.tr hC) h2 hq2) rfl rfl (c_le rfl) (c_le rfl) (by omega) (by omega) dL_law_1131 noXk (po_kI (fun hr2 => ?_))
  refine jj_icmp_eq (tgt := 2982) hC dL_law_1134 rfl hr1 hr2 (fun hc => ?_) (fun hc => ?_)
  · replace h := (if_pos hc).symm.trans h
    refine jg_iinc (q := 5) (lv' := [(5, .int (iI (w32 (i0 + 5)))), (0, .ref a0), (1, .ref a1), (2, .ref a2), (3, .ref a3), (4, .ref a4)]) hC dL_law_2982 rfl (by decide) rfl ?_
    refine jj_goto (tgt := 28) hC dL_law_2985 rfl ?_
    refine jj_widen (k' := kk + 40) (n' := 256 * (kk + 40)) (by omega) (by omega) ?_
    refine jj_lv (lv' := [(0, .ref a0), (1, .ref a1), (2, .ref a2), (3, .ref a3), (4, .ref a4), (5, .int (iI (w32 (i0 + 5))))]) [1, 2, 3, 4, 5, 0] rfl ?_
    exact hJ _ (Option.some.inj h).symm sz ⟨(w32_r _), h0, h1, h2, h3, h4, ex2_r⟩
  · replace h := (if_neg (hc)).symm.trans h
    cases h
def fL_c16_B1204 (ad : Nat → Nat) (S1204 Ln1204 : Nat → Nat) (R1204 : gR) (M1204 : gM) (a0 : Nat) (a1 : Nat) (a2 : Nat) (a3 : Nat) (a4 : Nat) (l5_1204 : Int) : Option ((Int × (Nat → Nat) × (Nat → Nat) × gM × gR) ⊕ Unit) :=
  some (.inl (w32 (l5_1204 + 5), S1204, Ln1204, M1204, R1204))
def fL_c16 (ad : Nat → Nat) (sz : Nat) (S Ln : Nat → Nat) (R : gR) (M : gM) (a0 a1 a2 a3 a4 : Nat) (i0 : Int) : Option ((Int × (Nat → Nat) × (Nat → Nat) × gM × gR) ⊕ Unit) :=
  gd ((0 : Int) ≤ (w32 (i0 + 1)) ∧ (w32 (i0 + 1)) < (Ln a0 : Int)) (gd ((0 : Int) ≤ (w32 (i0 + 2)) ∧ (w32 (i0 + 2)) < (Ln a0 : Int)) (bd (fL_strongestThermal ad S Ln R M a1 (M a0 (w32 (i0 + 1))) (M a0 (w32 (i0 + 2))) a3) fun q3 => gd ((0 : Int) ≤ (w32 (i0 + 1)) ∧ (w32 (i0 + 1)) < (Ln a0 : Int)) (gd ((0 : Int) ≤ (w32 (i0 + 2)) ∧ (w32 (i0 + 2)) < (Ln a0 : Int)) (bd (fX10_strongestThermal ad S Ln R q3.2 a2 (q3.2 a0 (w32 (i0 + 1))) (q3.2 a0 (w32 (i0 + 2)))) fun q6 => bd (fX10_thrown ad S Ln R q6.2 a2) fun q7 => if q7 = q3.1 then (if ¬ q3.1 = 0 then (fL_c16_B1204 ad S Ln R q6.2 a0 a1 a2 a3 a4 i0) else (gd ((0 : Int) ≤ 0 ∧ 0 < (Ln a3 : Int)) (if (i_lcmp (q6.2 a3 0) q6.1) = 0 then (fL_c16_B1204 ad S Ln R q6.2 a0 a1 a2 a3 a4 i0) else (none)))) else (none)))))
theorem xL_c16 {G : gE} {C : gC} {sz kk : Nat} {S Ln : Nat → Nat} {M : gM} {R : gR} {P : gP} (hC : OKC G C RL cL_law 9 (some .boolean) 1400 603072 7198826 P noX) (hkk : kk + 40 ≤ 603072) (hnn : 256 * (kk + 40) ≤ 7198826) {a0 a1 a2 a3 a4 : Nat} {i0 : Int} (h0 : S a0 = 29) (h1 : S a1 = 12) (h2 : S a2 = 13) (h3 : S a3 = 21) (h4 : S a4 = 22) (hi0 : (-2147483648 ≤ i0 ∧ i0 < 2147483648)) {r : (Int × (Nat → Nat) × (Nat → Nat) × gM × gR) ⊕ Unit} (h : fL_c16 G.2.2.2.2 sz S Ln R M a0 a1 a2 a3 a4 i0 = some r) (hJ : ∀ t, r = .inl t → ∀ sz1, ((-2147483648 ≤ t.1 ∧ t.1 < 2147483648) ∧ t.2.1 a0 = 29 ∧ t.2.1 a1 = 12 ∧ t.2.1 a2 = 13 ∧ t.2.1 a3 = 21 ∧ t.2.1 a4 = 22 ∧ Ex2 S Ln t.2.1 t.2.2.1) → JJ G C (kk + 40) (256 * (kk + 40)) sz1 t.2.1 t.2.2.1 t.2.2.2.1 t.2.2.2.2 28 [(0, .ref a0), (1, .ref a1), (2, .ref a2), (3, .ref a3), (4, .ref a4), (5, .int (iI t.1))] []) : JJ G C kk (256 * (kk)) sz S Ln M R 1139 [(0, .ref a0), (1, .ref a1), (2, .ref a2), (3, .ref a3), (4, .ref a4), (5, .int (iI i0))] [] := by
  have hB1204 : ∀ (sz1204 : Nat) (S1204 : (Nat → Nat)) (Ln1204 : (Nat → Nat)) (M1204 : gM) (R1204 : gR) (l5_1204 : Int), Ex2 S Ln S1204 Ln1204 → (-2147483648 ≤ l5_1204 ∧ l5_1204 < 2147483648) → S1204 a0 = 29 → S1204 a1 = 12 → S1204 a2 = 13 → S1204 a3 = 21 → S1204 a4 = 22 → fL_c16_B1204 G.2.2.2.2 S1204 Ln1204 R1204 M1204 a0 a1 a2 a3 a4 l5_1204 = some r → JJ G C (kk + 2) (256 * (kk + 2)) sz1204 S1204 Ln1204 M1204 R1204 1204 [(0, .ref a0), (1, .ref a1), (2, .ref a2), (3, .ref a3), (4, .ref a4), (5, .int (iI l5_1204))] [] := by
    intro sz1204 S1204 Ln1204 M1204 R1204 l5_1204 hx1204 hl5_1204 ha0_1204 ha1_1204 ha2_1204 ha3_1204 ha4_1204 h
    unfold fL_c16_B1204 at h
    refine jj_goto (tgt := 2982) hC dL_law_1204 rfl ?_
    refine jg_iinc (q := 5) (lv' := [(5, .int (iI (w32 (l5_1204 + 5)))), (0, .ref a0), (1, .ref a1), (2, .ref a2), (3, .ref a3), (4, .ref a4)]) hC dL_law_2982 rfl (by decide) rfl ?_
    refine jj_goto (tgt := 28) hC dL_law_2985 rfl ?_
    refine jj_widen (k' := kk + 40) (n' := 256 * (kk + 40)) (by omega) (by omega) ?_
    refine jj_lv (lv' := [(0, .ref a0), (1, .ref a1), (2, .ref a2), (3, .ref a3), (4, .ref a4), (5, .int (iI (w32 (l5_1204 + 5))))]) [1, 2, 3, 4, 5, 0] rfl ?_
    exact hJ _ (Option.some.inj h).symm sz1204 ⟨(w32_r _), ha0_1204, ha1_1204, ha2_1204, ha3_1204, ha4_1204, hx1204⟩
  unfold fL_c16 at h
  refine jj_aload_n hC dL_law_1139 rfl 1 rfl ?_
  refine jj_aload_n hC dL_law_1140 rfl 0 rfl ?_
  refine jj_iload hC dL_law_1141 5 rfl ?_
  refine jj_iconst hC dL_law_1143 ?_
  refine jg_iadd hC dL_law_1144 ?_
  obtain ⟨⟨ha1, hb1⟩, h⟩ := gd_e h
  refine jj_iald29 hC h0 ha1 hb1 dL_law_1145 (fun hr1 => ?_)
  refine jj_aload_n hC dL_law_1146 rfl 0 rfl ?_
  refine jj_iload hC dL_law_1147 5 rfl ?_
  refine jj_iconst hC dL_law_1149 ?_
  refine jg_iadd hC dL_law_1150 ?_
  obtain ⟨⟨ha2, hb2⟩, h⟩ := gd_e h
  refine jj_iald29 hC h0 ha2 hb2 dL_law_1151 (fun hr2 => ?_)
  refine jj_aload_n hC dL_law_1152 rfl 3 rfl ?_
  obtain ⟨q3, hq3, h⟩ := bd_e h
  refine jj_invSW hC mvwL_strongestThermal wd1296 wd1295 (xL_strongestThermal (OKC.tr hC) h1 hr1 hr2 h3 hq3) rfl rfl (c_le rfl) (c_le rfl) (by omega) (by omega) dL_law_1153 (po_kW (fun hr3 hx3 sz3 => ?_))
  refine jj_widen (k' := kk + 2) (n' := 256 * (kk + 2)) (by omega) (by omega) ?_
  refine jj_istore (lv' := [(6, .int (iI q3.1)), (0, .ref a0), (1, .ref a1), (2, .ref a2), (3, .ref a3), (4, .ref a4), (5, .int (iI i0))]) hC dL_law_1156 (by decide) rfl ?_
  refine jj_aload_n hC dL_law_1158 rfl 3 rfl ?_
  refine jj_aload_n hC dL_law_1159 rfl 1 rfl ?_
  refine jj_iload hC dL_law_1160 6 rfl ?_
  refine jj_iconst hC dL_law_1162 ?_
  refine jg_iadd hC dL_law_1163 ?_
  obtain ⟨⟨ha4, hb4⟩, h⟩ := gd_e h
  refine jj_iald29 hC h0 ha4 hb4 dL_law_1164 (fun hr4 => ?_)
  refine jj_aload_n hC dL_law_1165 rfl 1 rfl ?_
  refine jj_iload hC dL_law_1166 6 rfl ?_
  refine jj_iconst hC dL_law_1168 ?_
  refine jg_iadd hC dL_law_1169 ?_
  obtain ⟨⟨ha5, hb5⟩, h⟩ := gd_e h
  refine jj_iald29 hC h0 ha5 hb5 dL_law_1170 (fun hr5 => ?_)
  obtain ⟨q6, hq6, h⟩ := bd_e h
  refine jj_invV hC mvX10_strongestThermal wd1995 wd1996 wd1994 h2 (by decide) rfl (xX10_strongestThermal (OKC.tr hC) h2 hr4 hr5 hq6) rfl rfl (c_le rfl) (c_le rfl) (by omega) (by omega) dL_law_1171 noXk (po_kI (fun hr6 => ?_))
  refine jj_istore (lv' := [(7, .int (iI q6.1)), (6, .int (iI q3.1)), (0, .ref a0), (1, .ref a1), (2, .ref a2), (3, .ref a3), (4, .ref a4), (5, .int (iI i0))]) hC dL_law_1174 (by decide) rfl ?_
  refine jj_aload_n hC dL_law_1176 rfl 4 rfl ?_
  obtain ⟨q7, hq7, h⟩ := bd_e h
  refine jj_invV hC mvX10_thrown wd1765 wd1766 wd1764 h2 (by decide) rfl (xX10_thrown (OKC.tr hC) h2 hq7) rfl rfl (c_le rfl) (c_le rfl) (by omega) (by omega) dL_law_1177 noXk (po_kI (fun hr7 => ?_))
  refine jj_iload hC dL_law_1180 1 rfl ?_
  refine jj_icmp_eq (tgt := 1187) hC dL_law_1182 rfl hr7 hr3 (fun hc => ?_) (fun hc => ?_)
  · replace h := (if_pos hc).symm.trans h
    refine jj_iload hC dL_law_1187 1 rfl ?_
    refine jj_if_ne (tgt := 1204) hC dL_law_1189 rfl hr3 (fun hc => ?_) (fun hc => ?_)
    · replace h := (if_pos hc).symm.trans h
      refine jj_widen (k' := kk + 2) (n' := 256 * (kk + 2)) (by omega) (by omega) ?_
      refine jj_lv (lv' := [(0, .ref a0), (1, .ref a1), (2, .ref a2), (3, .ref a3), (4, .ref a4), (5, .int (iI i0))]) [2, 3, 4, 5, 6, 7] rfl ?_
      exact hB1204 sz3 S Ln q6.2 R i0 ex2_r hi0 h0 h1 h2 h3 h4 h
    · replace h := (if_neg (fun k => k hc)).symm.trans h
      refine jj_aload_n hC dL_law_1192 rfl 5 rfl ?_
      refine jj_iconst hC dL_law_1193 ?_
      obtain ⟨⟨ha8, hb8⟩, h⟩ := gd_e h
      refine jj_lald hC h3 ha8 hb8 dL_law_1194 (fun hr8 => ?_)
      refine jj_iload hC dL_law_1195 0 rfl ?_
      refine jj_i2l hC dL_law_1197 hr6 ?_
      refine jg_lcmp hC hr8 (r_il hr6) dL_law_1198 ?_
      refine jj_if_eq (tgt := 1204) hC dL_law_1199 rfl i_lcmp_r (fun hc => ?_) (fun hc => ?_)
      · replace h := (if_pos hc).symm.trans h
        refine jj_widen (k' := kk + 2) (n' := 256 * (kk + 2)) (by omega) (by omega) ?_
        refine jj_lv (lv' := [(0, .ref a0), (1, .ref a1), (2, .ref a2), (3, .ref a3), (4, .ref a4), (5, .int (iI i0))]) [2, 3, 4, 5, 6, 7] rfl ?_
        exact hB1204 sz3 S Ln q6.2 R i0 ex2_r hi0 h0 h1 h2 h3 h4 h
      · replace h := (if_neg (hc)).symm.trans h
        cases h
  · replace h := (if_neg (hc)).symm.trans h
    cases h
def fL_c17 (ad : Nat → Nat) (sz : Nat) (S Ln : Nat → Nat) (R : gR) (M : gM) (a0 a1 a2 a3 a4 : Nat) (i0 : Int) : Option ((Int × (Nat → Nat) × (Nat → Nat) × gM × gR) ⊕ Unit) :=
  bd (fX9_cloudBase ad S Ln R M a1) fun q1 => bd (fX10_cloudBase ad S Ln R M a2) fun q2 => if q1 = q2.1 then (some (.inl (w32 (i0 + 5), S, Ln, q2.2, R))) else (none)
theorem xL_c17 {G : gE} {C : gC} {sz kk : Nat} {S Ln : Nat → Nat} {M : gM} {R : gR} {P : gP} (hC : OKC G C RL cL_law 9 (some .boolean) 1400 603072 7198826 P noX) (hkk : kk + 40 ≤ 603072) (hnn : 256 * (kk + 40) ≤ 7198826) {a0 a1 a2 a3 a4 : Nat} {i0 : Int} (h0 : S a0 = 29) (h1 : S a1 = 12) (h2 : S a2 = 13) (h3 : S a3 = 21) (h4 : S a4 = 22) (hi0 : (-2147483648 ≤ i0 ∧ i0 < 2147483648)) {r : (Int × (Nat → Nat) × (Nat → Nat) × gM × gR) ⊕ Unit} (h : fL_c17 G.2.2.2.2 sz S Ln R M a0 a1 a2 a3 a4 i0 = some r) (hJ : ∀ t, r = .inl t → ∀ sz1, ((-2147483648 ≤ t.1 ∧ t.1 < 2147483648) ∧ t.2.1 a0 = 29 ∧ t.2.1 a1 = 12 ∧ t.2.1 a2 = 13 ∧ t.2.1 a3 = 21 ∧ t.2.1 a4 = 22 ∧ Ex2 S Ln t.2.1 t.2.2.1) → JJ G C (kk + 40) (256 * (kk + 40)) sz1 t.2.1 t.2.2.1 t.2.2.2.1 t.2.2.2.2 28 [(0, .ref a0), (1, .ref a1), (2, .ref a2), (3, .ref a3), (4, .ref a4), (5, .int (iI t.1))] []) : JJ G C kk (256 * (kk)) sz S Ln M R 1207 [(0, .ref a0), (1, .ref a1), (2, .ref a2), (3, .ref a3), (4, .ref a4), (5, .int (iI i0))] [] := by
  unfold fL_c17 at h
  refine jj_aload_n hC dL_law_1207 rfl 1 rfl ?_
  obtain ⟨q1, hq1, h⟩ := bd_e h
  refine jj_invV hC mvX9_cloudBase wd432 wd433 wd431 h1 (by decide) rfl (xX9_cloudBase (OKC.tr hC) h1 hq1) rfl rfl (c_le rfl) (c_le rfl) (by omega) (by omega) dL_law_1208 noXk (po_kI (fun hr1 => ?_))
  refine jj_aload_n hC dL_law_1211 rfl 2 rfl ?_
  obtain ⟨q2, hq2, h⟩ := bd_e h
  refine jj_invV hC mvX10_cloudBase wd1999 wd2000 wd1998 h2 (by decide) rfl (xX10_cloudBase (OKC.tr hC) h2 hq2) rfl rfl (c_le rfl) (c_le rfl) (by omega) (by omega) dL_law_1212 noXk (po_kI (fun hr2 => ?_))
  refine jj_icmp_eq (tgt := 2982) hC dL_law_1215 rfl hr1 hr2 (fun hc => ?_) (fun hc => ?_)
  · replace h := (if_pos hc).symm.trans h
    refine jg_iinc (q := 5) (lv' := [(5, .int (iI (w32 (i0 + 5)))), (0, .ref a0), (1, .ref a1), (2, .ref a2), (3, .ref a3), (4, .ref a4)]) hC dL_law_2982 rfl (by decide) rfl ?_
    refine jj_goto (tgt := 28) hC dL_law_2985 rfl ?_
    refine jj_widen (k' := kk + 40) (n' := 256 * (kk + 40)) (by omega) (by omega) ?_
    refine jj_lv (lv' := [(0, .ref a0), (1, .ref a1), (2, .ref a2), (3, .ref a3), (4, .ref a4), (5, .int (iI (w32 (i0 + 5))))]) [1, 2, 3, 4, 5, 0] rfl ?_
    exact hJ _ (Option.some.inj h).symm sz ⟨(w32_r _), h0, h1, h2, h3, h4, ex2_r⟩
  · replace h := (if_neg (hc)).symm.trans h
    cases h
def fL_c18_B1292 (ad : Nat → Nat) (S1292 Ln1292 : Nat → Nat) (R1292 : gR) (M1292 : gM) (a0 : Nat) (a1 : Nat) (a2 : Nat) (a3 : Nat) (a4 : Nat) (l5_1292 : Int) : Option ((Int × (Nat → Nat) × (Nat → Nat) × gM × gR) ⊕ Unit) :=
  some (.inl (w32 (l5_1292 + 5), S1292, Ln1292, M1292, R1292))
def fL_c18_B1286 (ad : Nat → Nat) (S1286 Ln1286 : Nat → Nat) (R1286 : gR) (M1286 : gM) (a0 : Nat) (a1 : Nat) (a2 : Nat) (a3 : Nat) (a4 : Nat) (l5_1286 : Int) (s0_1286 : Int) (s1_1286 : Int) : Option ((Int × (Nat → Nat) × (Nat → Nat) × gM × gR) ⊕ Unit) :=
  if (i_lcmp s1_1286 s0_1286) = 0 then (fL_c18_B1292 ad S1286 Ln1286 R1286 M1286 a0 a1 a2 a3 a4 l5_1286) else (none)
def fL_c18 (ad : Nat → Nat) (sz : Nat) (S Ln : Nat → Nat) (R : gR) (M : gM) (a0 a1 a2 a3 a4 : Nat) (i0 : Int) : Option ((Int × (Nat → Nat) × (Nat → Nat) × gM × gR) ⊕ Unit) :=
  gd ((0 : Int) ≤ (w32 (i0 + 1)) ∧ (w32 (i0 + 1)) < (Ln a0 : Int)) (gd ((0 : Int) ≤ (w32 (i0 + 2)) ∧ (w32 (i0 + 2)) < (Ln a0 : Int)) (bd (fL_isRestricted ad S Ln R M a1 (M a0 (w32 (i0 + 1))) (M a0 (w32 (i0 + 2))) a3) fun q3 => gd ((0 : Int) ≤ (w32 (i0 + 1)) ∧ (w32 (i0 + 1)) < (Ln a0 : Int)) (gd ((0 : Int) ≤ (w32 (i0 + 2)) ∧ (w32 (i0 + 2)) < (Ln a0 : Int)) (bd (fX10_isRestricted ad S Ln R q3.2 a2 (q3.2 a0 (w32 (i0 + 1))) (q3.2 a0 (w32 (i0 + 2)))) fun q6 => bd (fX10_thrown ad S Ln R q6.2 a2) fun q7 => if q7 = q3.1 then (if ¬ q3.1 = 0 then (fL_c18_B1292 ad S Ln R q6.2 a0 a1 a2 a3 a4 i0) else (gd ((0 : Int) ≤ 0 ∧ 0 < (Ln a3 : Int)) (if q6.1 = 0 then (fL_c18_B1286 ad S Ln R q6.2 a0 a1 a2 a3 a4 i0 0 (q6.2 a3 0)) else (fL_c18_B1286 ad S Ln R q6.2 a0 a1 a2 a3 a4 i0 1 (q6.2 a3 0))))) else (none)))))
theorem xL_c18 {G : gE} {C : gC} {sz kk : Nat} {S Ln : Nat → Nat} {M : gM} {R : gR} {P : gP} (hC : OKC G C RL cL_law 9 (some .boolean) 1400 603072 7198826 P noX) (hkk : kk + 40 ≤ 603072) (hnn : 256 * (kk + 40) ≤ 7198826) {a0 a1 a2 a3 a4 : Nat} {i0 : Int} (h0 : S a0 = 29) (h1 : S a1 = 12) (h2 : S a2 = 13) (h3 : S a3 = 21) (h4 : S a4 = 22) (hi0 : (-2147483648 ≤ i0 ∧ i0 < 2147483648)) {r : (Int × (Nat → Nat) × (Nat → Nat) × gM × gR) ⊕ Unit} (h : fL_c18 G.2.2.2.2 sz S Ln R M a0 a1 a2 a3 a4 i0 = some r) (hJ : ∀ t, r = .inl t → ∀ sz1, ((-2147483648 ≤ t.1 ∧ t.1 < 2147483648) ∧ t.2.1 a0 = 29 ∧ t.2.1 a1 = 12 ∧ t.2.1 a2 = 13 ∧ t.2.1 a3 = 21 ∧ t.2.1 a4 = 22 ∧ Ex2 S Ln t.2.1 t.2.2.1) → JJ G C (kk + 40) (256 * (kk + 40)) sz1 t.2.1 t.2.2.1 t.2.2.2.1 t.2.2.2.2 28 [(0, .ref a0), (1, .ref a1), (2, .ref a2), (3, .ref a3), (4, .ref a4), (5, .int (iI t.1))] []) : JJ G C kk (256 * (kk)) sz S Ln M R 1220 [(0, .ref a0), (1, .ref a1), (2, .ref a2), (3, .ref a3), (4, .ref a4), (5, .int (iI i0))] [] := by
  have hB1292 : ∀ (sz1292 : Nat) (S1292 : (Nat → Nat)) (Ln1292 : (Nat → Nat)) (M1292 : gM) (R1292 : gR) (l5_1292 : Int), Ex2 S Ln S1292 Ln1292 → (-2147483648 ≤ l5_1292 ∧ l5_1292 < 2147483648) → S1292 a0 = 29 → S1292 a1 = 12 → S1292 a2 = 13 → S1292 a3 = 21 → S1292 a4 = 22 → fL_c18_B1292 G.2.2.2.2 S1292 Ln1292 R1292 M1292 a0 a1 a2 a3 a4 l5_1292 = some r → JJ G C (kk + 1) (256 * (kk + 1)) sz1292 S1292 Ln1292 M1292 R1292 1292 [(0, .ref a0), (1, .ref a1), (2, .ref a2), (3, .ref a3), (4, .ref a4), (5, .int (iI l5_1292))] [] := by
    intro sz1292 S1292 Ln1292 M1292 R1292 l5_1292 hx1292 hl5_1292 ha0_1292 ha1_1292 ha2_1292 ha3_1292 ha4_1292 h
    unfold fL_c18_B1292 at h
    refine jj_goto (tgt := 2982) hC dL_law_1292 rfl ?_
    refine jg_iinc (q := 5) (lv' := [(5, .int (iI (w32 (l5_1292 + 5)))), (0, .ref a0), (1, .ref a1), (2, .ref a2), (3, .ref a3), (4, .ref a4)]) hC dL_law_2982 rfl (by decide) rfl ?_
    refine jj_goto (tgt := 28) hC dL_law_2985 rfl ?_
    refine jj_widen (k' := kk + 40) (n' := 256 * (kk + 40)) (by omega) (by omega) ?_
    refine jj_lv (lv' := [(0, .ref a0), (1, .ref a1), (2, .ref a2), (3, .ref a3), (4, .ref a4), (5, .int (iI (w32 (l5_1292 + 5))))]) [1, 2, 3, 4, 5, 0] rfl ?_
    exact hJ _ (Option.some.inj h).symm sz1292 ⟨(w32_r _), ha0_1292, ha1_1292, ha2_1292, ha3_1292, ha4_1292, hx1292⟩
  have hB1286 : ∀ (sz1286 : Nat) (S1286 : (Nat → Nat)) (Ln1286 : (Nat → Nat)) (M1286 : gM) (R1286 : gR) (l5_1286 : Int) (s0_1286 : Int) (s1_1286 : Int), Ex2 S Ln S1286 Ln1286 → (-2147483648 ≤ l5_1286 ∧ l5_1286 < 2147483648) → (-9223372036854775808 ≤ s0_1286 ∧ s0_1286 < 9223372036854775808) → (-9223372036854775808 ≤ s1_1286 ∧ s1_1286 < 9223372036854775808) → S1286 a0 = 29 → S1286 a1 = 12 → S1286 a2 = 13 → S1286 a3 = 21 → S1286 a4 = 22 → fL_c18_B1286 G.2.2.2.2 S1286 Ln1286 R1286 M1286 a0 a1 a2 a3 a4 l5_1286 s0_1286 s1_1286 = some r → JJ G C (kk + 1) (256 * (kk + 1)) sz1286 S1286 Ln1286 M1286 R1286 1286 [(0, .ref a0), (1, .ref a1), (2, .ref a2), (3, .ref a3), (4, .ref a4), (5, .int (iI l5_1286))] [.long (lI s0_1286), .long (lI s1_1286)] := by
    intro sz1286 S1286 Ln1286 M1286 R1286 l5_1286 s0_1286 s1_1286 hx1286 hl5_1286 hs0_1286 hs1_1286 ha0_1286 ha1_1286 ha2_1286 ha3_1286 ha4_1286 h
    unfold fL_c18_B1286 at h
    refine jg_lcmp hC hs1_1286 hs0_1286 dL_law_1286 ?_
    refine jj_if_eq (tgt := 1292) hC dL_law_1287 rfl i_lcmp_r (fun hc => ?_) (fun hc => ?_)
    · replace h := (if_pos hc).symm.trans h
      refine jj_widen (k' := kk + 1) (n' := 256 * (kk + 1)) (by omega) (by omega) ?_
      refine jj_lv (lv' := [(0, .ref a0), (1, .ref a1), (2, .ref a2), (3, .ref a3), (4, .ref a4), (5, .int (iI l5_1286))]) [0, 1, 2, 3, 4, 5] rfl ?_
      exact hB1292 sz1286 S1286 Ln1286 M1286 R1286 l5_1286 hx1286 hl5_1286 ha0_1286 ha1_1286 ha2_1286 ha3_1286 ha4_1286 h
    · replace h := (if_neg (hc)).symm.trans h
      cases h
  unfold fL_c18 at h
  refine jj_aload_n hC dL_law_1220 rfl 1 rfl ?_
  refine jj_aload_n hC dL_law_1221 rfl 0 rfl ?_
  refine jj_iload hC dL_law_1222 5 rfl ?_
  refine jj_iconst hC dL_law_1224 ?_
  refine jg_iadd hC dL_law_1225 ?_
  obtain ⟨⟨ha1, hb1⟩, h⟩ := gd_e h
  refine jj_iald29 hC h0 ha1 hb1 dL_law_1226 (fun hr1 => ?_)
  refine jj_aload_n hC dL_law_1227 rfl 0 rfl ?_
  refine jj_iload hC dL_law_1228 5 rfl ?_
  refine jj_iconst hC dL_law_1230 ?_
  refine jg_iadd hC dL_law_1231 ?_
  obtain ⟨⟨ha2, hb2⟩, h⟩ := gd_e h
  refine jj_iald29 hC h0 ha2 hb2 dL_law_1232 (fun hr2 => ?_)
  refine jj_aload_n hC dL_law_1233 rfl 3 rfl ?_
  obtain ⟨q3, hq3, h⟩ := bd_e h
  refine jj_invSW hC mvwL_isRestricted wd1310 wd1309 (xL_isRestricted (OKC.tr hC) h1 hr1 hr2 h3 hq3) rfl rfl (c_le rfl) (c_le rfl) (by omega) (by omega) dL_law_1234 (po_kW (fun hr3 hx3 sz3 => ?_))
  refine jj_widen (k' := kk + 1) (n' := 256 * (kk + 1)) (by omega) (by omega) ?_
  refine jj_istore (lv' := [(6, .int (iI q3.1)), (0, .ref a0), (1, .ref a1), (2, .ref a2), (3, .ref a3), (4, .ref a4), (5, .int (iI i0))]) hC dL_law_1237 (by decide) rfl ?_
  refine jj_aload_n hC dL_law_1239 rfl 3 rfl ?_
  refine jj_aload_n hC dL_law_1240 rfl 1 rfl ?_
  refine jj_iload hC dL_law_1241 6 rfl ?_
  refine jj_iconst hC dL_law_1243 ?_
  refine jg_iadd hC dL_law_1244 ?_
  obtain ⟨⟨ha4, hb4⟩, h⟩ := gd_e h
  refine jj_iald29 hC h0 ha4 hb4 dL_law_1245 (fun hr4 => ?_)
  refine jj_aload_n hC dL_law_1246 rfl 1 rfl ?_
  refine jj_iload hC dL_law_1247 6 rfl ?_
  refine jj_iconst hC dL_law_1249 ?_
  refine jg_iadd hC dL_law_1250 ?_
  obtain ⟨⟨ha5, hb5⟩, h⟩ := gd_e h
  refine jj_iald29 hC h0 ha5 hb5 dL_law_1251 (fun hr5 => ?_)
  obtain ⟨q6, hq6, h⟩ := bd_e h
  refine jj_invV hC mvX10_isRestricted wd2003 wd2004 wd2002 h2 (by decide) rfl (xX10_isRestricted (OKC.tr hC) h2 hr4 hr5 hq6) rfl rfl (c_le rfl) (c_le rfl) (by omega) (by omega) dL_law_1252 noXk (po_kZ (fun hr6 => ?_))
  refine jj_istore (lv' := [(7, .int (iI q6.1)), (6, .int (iI q3.1)), (0, .ref a0), (1, .ref a1), (2, .ref a2), (3, .ref a3), (4, .ref a4), (5, .int (iI i0))]) hC dL_law_1255 (by decide) rfl ?_
  refine jj_aload_n hC dL_law_1257 rfl 4 rfl ?_
  obtain ⟨q7, hq7, h⟩ := bd_e h
  refine jj_invV hC mvX10_thrown wd1765 wd1766 wd1764 h2 (by decide) rfl (xX10_thrown (OKC.tr hC) h2 hq7) rfl rfl (c_le rfl) (c_le rfl) (by omega) (by omega) dL_law_1258 noXk (po_kI (fun hr7 => ?_))
  refine jj_iload hC dL_law_1261 1 rfl ?_
  refine jj_icmp_eq (tgt := 1268) hC dL_law_1263 rfl hr7 hr3 (fun hc => ?_) (fun hc => ?_)
  · replace h := (if_pos hc).symm.trans h
    refine jj_iload hC dL_law_1268 1 rfl ?_
    refine jj_if_ne (tgt := 1292) hC dL_law_1270 rfl hr3 (fun hc => ?_) (fun hc => ?_)
    · replace h := (if_pos hc).symm.trans h
      refine jj_widen (k' := kk + 1) (n' := 256 * (kk + 1)) (by omega) (by omega) ?_
      refine jj_lv (lv' := [(0, .ref a0), (1, .ref a1), (2, .ref a2), (3, .ref a3), (4, .ref a4), (5, .int (iI i0))]) [2, 3, 4, 5, 6, 7] rfl ?_
      exact hB1292 sz3 S Ln q6.2 R i0 ex2_r hi0 h0 h1 h2 h3 h4 h
    · replace h := (if_neg (fun k => k hc)).symm.trans h
      refine jj_aload_n hC dL_law_1273 rfl 5 rfl ?_
      refine jj_iconst hC dL_law_1274 ?_
      obtain ⟨⟨ha8, hb8⟩, h⟩ := gd_e h
      refine jj_lald hC h3 ha8 hb8 dL_law_1275 (fun hr8 => ?_)
      refine jj_iload hC dL_law_1276 0 rfl ?_
      refine jj_if_eq (tgt := 1285) hC dL_law_1278 rfl (r_z hr6) (fun hc => ?_) (fun hc => ?_)
      · replace h := (if_pos hc).symm.trans h
        refine jj_lconst (z := 0) hC dL_law_1285 rfl ?_
        refine jj_widen (k' := kk + 1) (n' := 256 * (kk + 1)) (by omega) (by omega) ?_
        refine jj_lv (lv' := [(0, .ref a0), (1, .ref a1), (2, .ref a2), (3, .ref a3), (4, .ref a4), (5, .int (iI i0))]) [2, 3, 4, 5, 6, 7] rfl ?_
        exact hB1286 sz3 S Ln q6.2 R i0 0 (q6.2 a3 0) ex2_r hi0 (show (-9223372036854775808 ≤ (0 : Int) ∧ (0 : Int) < 9223372036854775808) from by decide) hr8 h0 h1 h2 h3 h4 h
      · replace h := (if_neg (hc)).symm.trans h
        refine jj_lconst (z := 1) hC dL_law_1281 rfl ?_
        refine jj_goto (tgt := 1286) hC dL_law_1282 rfl ?_
        refine jj_widen (k' := kk + 1) (n' := 256 * (kk + 1)) (by omega) (by omega) ?_
        refine jj_lv (lv' := [(0, .ref a0), (1, .ref a1), (2, .ref a2), (3, .ref a3), (4, .ref a4), (5, .int (iI i0))]) [2, 3, 4, 5, 6, 7] rfl ?_
        exact hB1286 sz3 S Ln q6.2 R i0 1 (q6.2 a3 0) ex2_r hi0 (show (-9223372036854775808 ≤ (1 : Int) ∧ (1 : Int) < 9223372036854775808) from by decide) hr8 h0 h1 h2 h3 h4 h
  · replace h := (if_neg (hc)).symm.trans h
    cases h
def fL_c19_B1348 (ad : Nat → Nat) (S1348 Ln1348 : Nat → Nat) (R1348 : gR) (M1348 : gM) (a0 : Nat) (a1 : Nat) (a2 : Nat) (a3 : Nat) (a4 : Nat) (l5_1348 : Int) : Option ((Int × (Nat → Nat) × (Nat → Nat) × gM × gR) ⊕ Unit) :=
  some (.inl (w32 (l5_1348 + 5), S1348, Ln1348, M1348, R1348))
def fL_c19 (ad : Nat → Nat) (sz : Nat) (S Ln : Nat → Nat) (R : gR) (M : gM) (a0 a1 a2 a3 a4 : Nat) (i0 : Int) : Option ((Int × (Nat → Nat) × (Nat → Nat) × gM × gR) ⊕ Unit) :=
  gd ((0 : Int) ≤ (w32 (i0 + 1)) ∧ (w32 (i0 + 1)) < (Ln a0 : Int)) (bd (fL_restrictedInRow ad S Ln R M a1 (M a0 (w32 (i0 + 1))) a3) fun q2 => gd ((0 : Int) ≤ (w32 (i0 + 1)) ∧ (w32 (i0 + 1)) < (Ln a0 : Int)) (bd (fX10_restrictedInRow ad S Ln R q2.2 a2 (q2.2 a0 (w32 (i0 + 1)))) fun q4 => bd (fX10_thrown ad S Ln R q4.2 a2) fun q5 => if q5 = q2.1 then (if ¬ q2.1 = 0 then (fL_c19_B1348 ad S Ln R q4.2 a0 a1 a2 a3 a4 i0) else (gd ((0 : Int) ≤ 0 ∧ 0 < (Ln a3 : Int)) (if (i_lcmp (q4.2 a3 0) q4.1) = 0 then (fL_c19_B1348 ad S Ln R q4.2 a0 a1 a2 a3 a4 i0) else (none)))) else (none)))
theorem xL_c19 {G : gE} {C : gC} {sz kk : Nat} {S Ln : Nat → Nat} {M : gM} {R : gR} {P : gP} (hC : OKC G C RL cL_law 9 (some .boolean) 1400 603072 7198826 P noX) (hkk : kk + 40 ≤ 603072) (hnn : 256 * (kk + 40) ≤ 7198826) {a0 a1 a2 a3 a4 : Nat} {i0 : Int} (h0 : S a0 = 29) (h1 : S a1 = 12) (h2 : S a2 = 13) (h3 : S a3 = 21) (h4 : S a4 = 22) (hi0 : (-2147483648 ≤ i0 ∧ i0 < 2147483648)) {r : (Int × (Nat → Nat) × (Nat → Nat) × gM × gR) ⊕ Unit} (h : fL_c19 G.2.2.2.2 sz S Ln R M a0 a1 a2 a3 a4 i0 = some r) (hJ : ∀ t, r = .inl t → ∀ sz1, ((-2147483648 ≤ t.1 ∧ t.1 < 2147483648) ∧ t.2.1 a0 = 29 ∧ t.2.1 a1 = 12 ∧ t.2.1 a2 = 13 ∧ t.2.1 a3 = 21 ∧ t.2.1 a4 = 22 ∧ Ex2 S Ln t.2.1 t.2.2.1) → JJ G C (kk + 40) (256 * (kk + 40)) sz1 t.2.1 t.2.2.1 t.2.2.2.1 t.2.2.2.2 28 [(0, .ref a0), (1, .ref a1), (2, .ref a2), (3, .ref a3), (4, .ref a4), (5, .int (iI t.1))] []) : JJ G C kk (256 * (kk)) sz S Ln M R 1295 [(0, .ref a0), (1, .ref a1), (2, .ref a2), (3, .ref a3), (4, .ref a4), (5, .int (iI i0))] [] := by
  have hB1348 : ∀ (sz1348 : Nat) (S1348 : (Nat → Nat)) (Ln1348 : (Nat → Nat)) (M1348 : gM) (R1348 : gR) (l5_1348 : Int), Ex2 S Ln S1348 Ln1348 → (-2147483648 ≤ l5_1348 ∧ l5_1348 < 2147483648) → S1348 a0 = 29 → S1348 a1 = 12 → S1348 a2 = 13 → S1348 a3 = 21 → S1348 a4 = 22 → fL_c19_B1348 G.2.2.2.2 S1348 Ln1348 R1348 M1348 a0 a1 a2 a3 a4 l5_1348 = some r → JJ G C (kk + 1) (256 * (kk + 1)) sz1348 S1348 Ln1348 M1348 R1348 1348 [(0, .ref a0), (1, .ref a1), (2, .ref a2), (3, .ref a3), (4, .ref a4), (5, .int (iI l5_1348))] [] := by
    intro sz1348 S1348 Ln1348 M1348 R1348 l5_1348 hx1348 hl5_1348 ha0_1348 ha1_1348 ha2_1348 ha3_1348 ha4_1348 h
    unfold fL_c19_B1348 at h
    refine jj_goto (tgt := 2982) hC dL_law_1348 rfl ?_
    refine jg_iinc (q := 5) (lv' := [(5, .int (iI (w32 (l5_1348 + 5)))), (0, .ref a0), (1, .ref a1), (2, .ref a2), (3, .ref a3), (4, .ref a4)]) hC dL_law_2982 rfl (by decide) rfl ?_
    refine jj_goto (tgt := 28) hC dL_law_2985 rfl ?_
    refine jj_widen (k' := kk + 40) (n' := 256 * (kk + 40)) (by omega) (by omega) ?_
    refine jj_lv (lv' := [(0, .ref a0), (1, .ref a1), (2, .ref a2), (3, .ref a3), (4, .ref a4), (5, .int (iI (w32 (l5_1348 + 5))))]) [1, 2, 3, 4, 5, 0] rfl ?_
    exact hJ _ (Option.some.inj h).symm sz1348 ⟨(w32_r _), ha0_1348, ha1_1348, ha2_1348, ha3_1348, ha4_1348, hx1348⟩
  unfold fL_c19 at h
  refine jj_aload_n hC dL_law_1295 rfl 1 rfl ?_
  refine jj_aload_n hC dL_law_1296 rfl 0 rfl ?_
  refine jj_iload hC dL_law_1297 5 rfl ?_
  refine jj_iconst hC dL_law_1299 ?_
  refine jg_iadd hC dL_law_1300 ?_
  obtain ⟨⟨ha1, hb1⟩, h⟩ := gd_e h
  refine jj_iald29 hC h0 ha1 hb1 dL_law_1301 (fun hr1 => ?_)
  refine jj_aload_n hC dL_law_1302 rfl 3 rfl ?_
  obtain ⟨q2, hq2, h⟩ := bd_e h
  refine jj_invSW hC mvwL_restrictedInRow wd1318 wd1317 (xL_restrictedInRow (OKC.tr hC) h1 hr1 h3 hq2) rfl rfl (c_le rfl) (c_le rfl) (by omega) (by omega) dL_law_1303 (po_kW (fun hr2 hx2 sz2 => ?_))
  refine jj_widen (k' := kk + 1) (n' := 256 * (kk + 1)) (by omega) (by omega) ?_
  refine jj_istore (lv' := [(6, .int (iI q2.1)), (0, .ref a0), (1, .ref a1), (2, .ref a2), (3, .ref a3), (4, .ref a4), (5, .int (iI i0))]) hC dL_law_1306 (by decide) rfl ?_
  refine jj_aload_n hC dL_law_1308 rfl 3 rfl ?_
  refine jj_aload_n hC dL_law_1309 rfl 1 rfl ?_
  refine jj_iload hC dL_law_1310 6 rfl ?_
  refine jj_iconst hC dL_law_1312 ?_
  refine jg_iadd hC dL_law_1313 ?_
  obtain ⟨⟨ha3, hb3⟩, h⟩ := gd_e h
  refine jj_iald29 hC h0 ha3 hb3 dL_law_1314 (fun hr3 => ?_)
  obtain ⟨q4, hq4, h⟩ := bd_e h
  refine jj_invV hC mvX10_restrictedInRow wd2007 wd2008 wd2006 h2 (by decide) rfl (xX10_restrictedInRow (OKC.tr hC) h2 hr3 hq4) rfl rfl (c_le rfl) (c_le rfl) (by omega) (by omega) dL_law_1315 noXk (po_kI (fun hr4 => ?_))
  refine jj_istore (lv' := [(7, .int (iI q4.1)), (6, .int (iI q2.1)), (0, .ref a0), (1, .ref a1), (2, .ref a2), (3, .ref a3), (4, .ref a4), (5, .int (iI i0))]) hC dL_law_1318 (by decide) rfl ?_
  refine jj_aload_n hC dL_law_1320 rfl 4 rfl ?_
  obtain ⟨q5, hq5, h⟩ := bd_e h
  refine jj_invV hC mvX10_thrown wd1765 wd1766 wd1764 h2 (by decide) rfl (xX10_thrown (OKC.tr hC) h2 hq5) rfl rfl (c_le rfl) (c_le rfl) (by omega) (by omega) dL_law_1321 noXk (po_kI (fun hr5 => ?_))
  refine jj_iload hC dL_law_1324 1 rfl ?_
  refine jj_icmp_eq (tgt := 1331) hC dL_law_1326 rfl hr5 hr2 (fun hc => ?_) (fun hc => ?_)
  · replace h := (if_pos hc).symm.trans h
    refine jj_iload hC dL_law_1331 1 rfl ?_
    refine jj_if_ne (tgt := 1348) hC dL_law_1333 rfl hr2 (fun hc => ?_) (fun hc => ?_)
    · replace h := (if_pos hc).symm.trans h
      refine jj_widen (k' := kk + 1) (n' := 256 * (kk + 1)) (by omega) (by omega) ?_
      refine jj_lv (lv' := [(0, .ref a0), (1, .ref a1), (2, .ref a2), (3, .ref a3), (4, .ref a4), (5, .int (iI i0))]) [2, 3, 4, 5, 6, 7] rfl ?_
      exact hB1348 sz2 S Ln q4.2 R i0 ex2_r hi0 h0 h1 h2 h3 h4 h
    · replace h := (if_neg (fun k => k hc)).symm.trans h
      refine jj_aload_n hC dL_law_1336 rfl 5 rfl ?_
      refine jj_iconst hC dL_law_1337 ?_
      obtain ⟨⟨ha6, hb6⟩, h⟩ := gd_e h
      refine jj_lald hC h3 ha6 hb6 dL_law_1338 (fun hr6 => ?_)
      refine jj_iload hC dL_law_1339 0 rfl ?_
      refine jj_i2l hC dL_law_1341 hr4 ?_
      refine jg_lcmp hC hr6 (r_il hr4) dL_law_1342 ?_
      refine jj_if_eq (tgt := 1348) hC dL_law_1343 rfl i_lcmp_r (fun hc => ?_) (fun hc => ?_)
      · replace h := (if_pos hc).symm.trans h
        refine jj_widen (k' := kk + 1) (n' := 256 * (kk + 1)) (by omega) (by omega) ?_
        refine jj_lv (lv' := [(0, .ref a0), (1, .ref a1), (2, .ref a2), (3, .ref a3), (4, .ref a4), (5, .int (iI i0))]) [2, 3, 4, 5, 6, 7] rfl ?_
        exact hB1348 sz2 S Ln q4.2 R i0 ex2_r hi0 h0 h1 h2 h3 h4 h
      · replace h := (if_neg (hc)).symm.trans h
        cases h
  · replace h := (if_neg (hc)).symm.trans h
    cases h
def fL_c20_B1404 (ad : Nat → Nat) (S1404 Ln1404 : Nat → Nat) (R1404 : gR) (M1404 : gM) (a0 : Nat) (a1 : Nat) (a2 : Nat) (a3 : Nat) (a4 : Nat) (l5_1404 : Int) : Option ((Int × (Nat → Nat) × (Nat → Nat) × gM × gR) ⊕ Unit) :=
  some (.inl (w32 (l5_1404 + 5), S1404, Ln1404, M1404, R1404))
def fL_c20 (ad : Nat → Nat) (sz : Nat) (S Ln : Nat → Nat) (R : gR) (M : gM) (a0 a1 a2 a3 a4 : Nat) (i0 : Int) : Option ((Int × (Nat → Nat) × (Nat → Nat) × gM × gR) ⊕ Unit) :=
  gd ((0 : Int) ≤ (w32 (i0 + 1)) ∧ (w32 (i0 + 1)) < (Ln a0 : Int)) (bd (fL_restrictedInRowByRanges ad S Ln R M a1 (M a0 (w32 (i0 + 1))) a3) fun q2 => gd ((0 : Int) ≤ (w32 (i0 + 1)) ∧ (w32 (i0 + 1)) < (Ln a0 : Int)) (bd (fX10_restrictedInRowByRanges ad S Ln R q2.2 a2 (q2.2 a0 (w32 (i0 + 1)))) fun q4 => bd (fX10_thrown ad S Ln R q4.2 a2) fun q5 => if q5 = q2.1 then (if ¬ q2.1 = 0 then (fL_c20_B1404 ad S Ln R q4.2 a0 a1 a2 a3 a4 i0) else (gd ((0 : Int) ≤ 0 ∧ 0 < (Ln a3 : Int)) (if (i_lcmp (q4.2 a3 0) q4.1) = 0 then (fL_c20_B1404 ad S Ln R q4.2 a0 a1 a2 a3 a4 i0) else (none)))) else (none)))
theorem xL_c20 {G : gE} {C : gC} {sz kk : Nat} {S Ln : Nat → Nat} {M : gM} {R : gR} {P : gP} (hC : OKC G C RL cL_law 9 (some .boolean) 1400 603072 7198826 P noX) (hkk : kk + 40 ≤ 603072) (hnn : 256 * (kk + 40) ≤ 7198826) {a0 a1 a2 a3 a4 : Nat} {i0 : Int} (h0 : S a0 = 29) (h1 : S a1 = 12) (h2 : S a2 = 13) (h3 : S a3 = 21) (h4 : S a4 = 22) (hi0 : (-2147483648 ≤ i0 ∧ i0 < 2147483648)) {r : (Int × (Nat → Nat) × (Nat → Nat) × gM × gR) ⊕ Unit} (h : fL_c20 G.2.2.2.2 sz S Ln R M a0 a1 a2 a3 a4 i0 = some r) (hJ : ∀ t, r = .inl t → ∀ sz1, ((-2147483648 ≤ t.1 ∧ t.1 < 2147483648) ∧ t.2.1 a0 = 29 ∧ t.2.1 a1 = 12 ∧ t.2.1 a2 = 13 ∧ t.2.1 a3 = 21 ∧ t.2.1 a4 = 22 ∧ Ex2 S Ln t.2.1 t.2.2.1) → JJ G C (kk + 40) (256 * (kk + 40)) sz1 t.2.1 t.2.2.1 t.2.2.2.1 t.2.2.2.2 28 [(0, .ref a0), (1, .ref a1), (2, .ref a2), (3, .ref a3), (4, .ref a4), (5, .int (iI t.1))] []) : JJ G C kk (256 * (kk)) sz S Ln M R 1351 [(0, .ref a0), (1, .ref a1), (2, .ref a2), (3, .ref a3), (4, .ref a4), (5, .int (iI i0))] [] := by
  have hB1404 : ∀ (sz1404 : Nat) (S1404 : (Nat → Nat)) (Ln1404 : (Nat → Nat)) (M1404 : gM) (R1404 : gR) (l5_1404 : Int), Ex2 S Ln S1404 Ln1404 → (-2147483648 ≤ l5_1404 ∧ l5_1404 < 2147483648) → S1404 a0 = 29 → S1404 a1 = 12 → S1404 a2 = 13 → S1404 a3 = 21 → S1404 a4 = 22 → fL_c20_B1404 G.2.2.2.2 S1404 Ln1404 R1404 M1404 a0 a1 a2 a3 a4 l5_1404 = some r → JJ G C (kk + 1) (256 * (kk + 1)) sz1404 S1404 Ln1404 M1404 R1404 1404 [(0, .ref a0), (1, .ref a1), (2, .ref a2), (3, .ref a3), (4, .ref a4), (5, .int (iI l5_1404))] [] := by
    intro sz1404 S1404 Ln1404 M1404 R1404 l5_1404 hx1404 hl5_1404 ha0_1404 ha1_1404 ha2_1404 ha3_1404 ha4_1404 h
    unfold fL_c20_B1404 at h
    refine jj_goto (tgt := 2982) hC dL_law_1404 rfl ?_
    refine jg_iinc (q := 5) (lv' := [(5, .int (iI (w32 (l5_1404 + 5)))), (0, .ref a0), (1, .ref a1), (2, .ref a2), (3, .ref a3), (4, .ref a4)]) hC dL_law_2982 rfl (by decide) rfl ?_
    refine jj_goto (tgt := 28) hC dL_law_2985 rfl ?_
    refine jj_widen (k' := kk + 40) (n' := 256 * (kk + 40)) (by omega) (by omega) ?_
    refine jj_lv (lv' := [(0, .ref a0), (1, .ref a1), (2, .ref a2), (3, .ref a3), (4, .ref a4), (5, .int (iI (w32 (l5_1404 + 5))))]) [1, 2, 3, 4, 5, 0] rfl ?_
    exact hJ _ (Option.some.inj h).symm sz1404 ⟨(w32_r _), ha0_1404, ha1_1404, ha2_1404, ha3_1404, ha4_1404, hx1404⟩
  unfold fL_c20 at h
  refine jj_aload_n hC dL_law_1351 rfl 1 rfl ?_
  refine jj_aload_n hC dL_law_1352 rfl 0 rfl ?_
  refine jj_iload hC dL_law_1353 5 rfl ?_
  refine jj_iconst hC dL_law_1355 ?_
  refine jg_iadd hC dL_law_1356 ?_
  obtain ⟨⟨ha1, hb1⟩, h⟩ := gd_e h
  refine jj_iald29 hC h0 ha1 hb1 dL_law_1357 (fun hr1 => ?_)
  refine jj_aload_n hC dL_law_1358 rfl 3 rfl ?_
  obtain ⟨q2, hq2, h⟩ := bd_e h
  refine jj_invSW hC mvwL_restrictedInRowByRanges wd1326 wd1325 (xL_restrictedInRowByRanges (OKC.tr hC) h1 hr1 h3 hq2) rfl rfl (c_le rfl) (c_le rfl) (by omega) (by omega) dL_law_1359 (po_kW (fun hr2 hx2 sz2 => ?_))
  refine jj_widen (k' := kk + 1) (n' := 256 * (kk + 1)) (by omega) (by omega) ?_
  refine jj_istore (lv' := [(6, .int (iI q2.1)), (0, .ref a0), (1, .ref a1), (2, .ref a2), (3, .ref a3), (4, .ref a4), (5, .int (iI i0))]) hC dL_law_1362 (by decide) rfl ?_
  refine jj_aload_n hC dL_law_1364 rfl 3 rfl ?_
  refine jj_aload_n hC dL_law_1365 rfl 1 rfl ?_
  refine jj_iload hC dL_law_1366 6 rfl ?_
  refine jj_iconst hC dL_law_1368 ?_
  refine jg_iadd hC dL_law_1369 ?_
  obtain ⟨⟨ha3, hb3⟩, h⟩ := gd_e h
  refine jj_iald29 hC h0 ha3 hb3 dL_law_1370 (fun hr3 => ?_)
  obtain ⟨q4, hq4, h⟩ := bd_e h
  refine jj_invV hC mvX10_restrictedInRowByRanges wd2011 wd2012 wd2010 h2 (by decide) rfl (xX10_restrictedInRowByRanges (OKC.tr hC) h2 hr3 hq4) rfl rfl (c_le rfl) (c_le rfl) (by omega) (by omega) dL_law_1371 noXk (po_kI (fun hr4 => ?_))
  refine jj_istore (lv' := [(7, .int (iI q4.1)), (6, .int (iI q2.1)), (0, .ref a0), (1, .ref a1), (2, .ref a2), (3, .ref a3), (4, .ref a4), (5, .int (iI i0))]) hC dL_law_1374 (by decide) rfl ?_
  refine jj_aload_n hC dL_law_1376 rfl 4 rfl ?_
  obtain ⟨q5, hq5, h⟩ := bd_e h
  refine jj_invV hC mvX10_thrown wd1765 wd1766 wd1764 h2 (by decide) rfl (xX10_thrown (OKC.tr hC) h2 hq5) rfl rfl (c_le rfl) (c_le rfl) (by omega) (by omega) dL_law_1377 noXk (po_kI (fun hr5 => ?_))
  refine jj_iload hC dL_law_1380 1 rfl ?_
  refine jj_icmp_eq (tgt := 1387) hC dL_law_1382 rfl hr5 hr2 (fun hc => ?_) (fun hc => ?_)
  · replace h := (if_pos hc).symm.trans h
    refine jj_iload hC dL_law_1387 1 rfl ?_
    refine jj_if_ne (tgt := 1404) hC dL_law_1389 rfl hr2 (fun hc => ?_) (fun hc => ?_)
    · replace h := (if_pos hc).symm.trans h
      refine jj_widen (k' := kk + 1) (n' := 256 * (kk + 1)) (by omega) (by omega) ?_
      refine jj_lv (lv' := [(0, .ref a0), (1, .ref a1), (2, .ref a2), (3, .ref a3), (4, .ref a4), (5, .int (iI i0))]) [2, 3, 4, 5, 6, 7] rfl ?_
      exact hB1404 sz2 S Ln q4.2 R i0 ex2_r hi0 h0 h1 h2 h3 h4 h
    · replace h := (if_neg (fun k => k hc)).symm.trans h
      refine jj_aload_n hC dL_law_1392 rfl 5 rfl ?_
      refine jj_iconst hC dL_law_1393 ?_
      obtain ⟨⟨ha6, hb6⟩, h⟩ := gd_e h
      refine jj_lald hC h3 ha6 hb6 dL_law_1394 (fun hr6 => ?_)
      refine jj_iload hC dL_law_1395 0 rfl ?_
      refine jj_i2l hC dL_law_1397 hr4 ?_
      refine jg_lcmp hC hr6 (r_il hr4) dL_law_1398 ?_
      refine jj_if_eq (tgt := 1404) hC dL_law_1399 rfl i_lcmp_r (fun hc => ?_) (fun hc => ?_)
      · replace h := (if_pos hc).symm.trans h
        refine jj_widen (k' := kk + 1) (n' := 256 * (kk + 1)) (by omega) (by omega) ?_
        refine jj_lv (lv' := [(0, .ref a0), (1, .ref a1), (2, .ref a2), (3, .ref a3), (4, .ref a4), (5, .int (iI i0))]) [2, 3, 4, 5, 6, 7] rfl ?_
        exact hB1404 sz2 S Ln q4.2 R i0 ex2_r hi0 h0 h1 h2 h3 h4 h
      · replace h := (if_neg (hc)).symm.trans h
        cases h
  · replace h := (if_neg (hc)).symm.trans h
    cases h
def fL_c21 (ad : Nat → Nat) (sz : Nat) (S Ln : Nat → Nat) (R : gR) (M : gM) (a0 a1 a2 a3 a4 : Nat) (i0 : Int) : Option ((Int × (Nat → Nat) × (Nat → Nat) × gM × gR) ⊕ Unit) :=
  bd (fX9_pilotCount ad S Ln R M a1) fun q1 => bd (fX10_pilotCount ad S Ln R M a2) fun q2 => if q1 = q2.1 then (some (.inl (w32 (i0 + 5), S, Ln, q2.2, R))) else (none)
theorem xL_c21 {G : gE} {C : gC} {sz kk : Nat} {S Ln : Nat → Nat} {M : gM} {R : gR} {P : gP} (hC : OKC G C RL cL_law 9 (some .boolean) 1400 603072 7198826 P noX) (hkk : kk + 40 ≤ 603072) (hnn : 256 * (kk + 40) ≤ 7198826) {a0 a1 a2 a3 a4 : Nat} {i0 : Int} (h0 : S a0 = 29) (h1 : S a1 = 12) (h2 : S a2 = 13) (h3 : S a3 = 21) (h4 : S a4 = 22) (hi0 : (-2147483648 ≤ i0 ∧ i0 < 2147483648)) {r : (Int × (Nat → Nat) × (Nat → Nat) × gM × gR) ⊕ Unit} (h : fL_c21 G.2.2.2.2 sz S Ln R M a0 a1 a2 a3 a4 i0 = some r) (hJ : ∀ t, r = .inl t → ∀ sz1, ((-2147483648 ≤ t.1 ∧ t.1 < 2147483648) ∧ t.2.1 a0 = 29 ∧ t.2.1 a1 = 12 ∧ t.2.1 a2 = 13 ∧ t.2.1 a3 = 21 ∧ t.2.1 a4 = 22 ∧ Ex2 S Ln t.2.1 t.2.2.1) → JJ G C (kk + 40) (256 * (kk + 40)) sz1 t.2.1 t.2.2.1 t.2.2.2.1 t.2.2.2.2 28 [(0, .ref a0), (1, .ref a1), (2, .ref a2), (3, .ref a3), (4, .ref a4), (5, .int (iI t.1))] []) : JJ G C kk (256 * (kk)) sz S Ln M R 1407 [(0, .ref a0), (1, .ref a1), (2, .ref a2), (3, .ref a3), (4, .ref a4), (5, .int (iI i0))] [] := by
  unfold fL_c21 at h
  refine jj_aload_n hC dL_law_1407 rfl 1 rfl ?_
  obtain ⟨q1, hq1, h⟩ := bd_e h
  refine jj_invV hC mvX9_pilotCount wd436 wd437 wd435 h1 (by decide) rfl (xX9_pilotCount (OKC.tr hC) h1 hq1) rfl rfl (c_le rfl) (c_le rfl) (by omega) (by omega) dL_law_1408 noXk (po_kI (fun hr1 => ?_))
  refine jj_aload_n hC dL_law_1411 rfl 2 rfl ?_
  obtain ⟨q2, hq2, h⟩ := bd_e h
  refine jj_invV hC mvX10_pilotCount wd2016 wd2017 wd2015 h2 (by decide) rfl (xX10_pilotCount (OKC.tr hC) h2 hq2) rfl rfl (c_le rfl) (c_le rfl) (by omega) (by omega) dL_law_1412 noXk (po_kI (fun hr2 => ?_))
  refine jj_icmp_eq (tgt := 2982) hC dL_law_1415 rfl hr1 hr2 (fun hc => ?_) (fun hc => ?_)
  · replace h := (if_pos hc).symm.trans h
    refine jg_iinc (q := 5) (lv' := [(5, .int (iI (w32 (i0 + 5)))), (0, .ref a0), (1, .ref a1), (2, .ref a2), (3, .ref a3), (4, .ref a4)]) hC dL_law_2982 rfl (by decide) rfl ?_
    refine jj_goto (tgt := 28) hC dL_law_2985 rfl ?_
    refine jj_widen (k' := kk + 40) (n' := 256 * (kk + 40)) (by omega) (by omega) ?_
    refine jj_lv (lv' := [(0, .ref a0), (1, .ref a1), (2, .ref a2), (3, .ref a3), (4, .ref a4), (5, .int (iI (w32 (i0 + 5))))]) [1, 2, 3, 4, 5, 0] rfl ?_
    exact hJ _ (Option.some.inj h).symm sz ⟨(w32_r _), h0, h1, h2, h3, h4, ex2_r⟩
  · replace h := (if_neg (hc)).symm.trans h
    cases h
def fL_c22 (ad : Nat → Nat) (sz : Nat) (S Ln : Nat → Nat) (R : gR) (M : gM) (a0 a1 a2 a3 a4 : Nat) (i0 : Int) : Option ((Int × (Nat → Nat) × (Nat → Nat) × gM × gR) ⊕ Unit) :=
  bd (fX9_isPlanning ad S Ln R M a1) fun q1 => bd (fX10_isPlanning ad S Ln R M a2) fun q2 => if q1 = q2.1 then (some (.inl (w32 (i0 + 5), S, Ln, q2.2, R))) else (none)
theorem xL_c22 {G : gE} {C : gC} {sz kk : Nat} {S Ln : Nat → Nat} {M : gM} {R : gR} {P : gP} (hC : OKC G C RL cL_law 9 (some .boolean) 1400 603072 7198826 P noX) (hkk : kk + 40 ≤ 603072) (hnn : 256 * (kk + 40) ≤ 7198826) {a0 a1 a2 a3 a4 : Nat} {i0 : Int} (h0 : S a0 = 29) (h1 : S a1 = 12) (h2 : S a2 = 13) (h3 : S a3 = 21) (h4 : S a4 = 22) (hi0 : (-2147483648 ≤ i0 ∧ i0 < 2147483648)) {r : (Int × (Nat → Nat) × (Nat → Nat) × gM × gR) ⊕ Unit} (h : fL_c22 G.2.2.2.2 sz S Ln R M a0 a1 a2 a3 a4 i0 = some r) (hJ : ∀ t, r = .inl t → ∀ sz1, ((-2147483648 ≤ t.1 ∧ t.1 < 2147483648) ∧ t.2.1 a0 = 29 ∧ t.2.1 a1 = 12 ∧ t.2.1 a2 = 13 ∧ t.2.1 a3 = 21 ∧ t.2.1 a4 = 22 ∧ Ex2 S Ln t.2.1 t.2.2.1) → JJ G C (kk + 40) (256 * (kk + 40)) sz1 t.2.1 t.2.2.1 t.2.2.2.1 t.2.2.2.2 28 [(0, .ref a0), (1, .ref a1), (2, .ref a2), (3, .ref a3), (4, .ref a4), (5, .int (iI t.1))] []) : JJ G C kk (256 * (kk)) sz S Ln M R 1420 [(0, .ref a0), (1, .ref a1), (2, .ref a2), (3, .ref a3), (4, .ref a4), (5, .int (iI i0))] [] := by
  unfold fL_c22 at h
  refine jj_aload_n hC dL_law_1420 rfl 1 rfl ?_
  obtain ⟨q1, hq1, h⟩ := bd_e h
  refine jj_invV hC mvX9_isPlanning wd440 wd441 wd439 h1 (by decide) rfl (xX9_isPlanning (OKC.tr hC) h1 hq1) rfl rfl (c_le rfl) (c_le rfl) (by omega) (by omega) dL_law_1421 noXk (po_kZ (fun hr1 => ?_))
  refine jj_aload_n hC dL_law_1424 rfl 2 rfl ?_
  obtain ⟨q2, hq2, h⟩ := bd_e h
  refine jj_invV hC mvX10_isPlanning wd2020 wd2021 wd2019 h2 (by decide) rfl (xX10_isPlanning (OKC.tr hC) h2 hq2) rfl rfl (c_le rfl) (c_le rfl) (by omega) (by omega) dL_law_1425 noXk (po_kZ (fun hr2 => ?_))
  refine jj_icmp_eq (tgt := 2982) hC dL_law_1428 rfl (r_z hr1) (r_z hr2) (fun hc => ?_) (fun hc => ?_)
  · replace h := (if_pos hc).symm.trans h
    refine jg_iinc (q := 5) (lv' := [(5, .int (iI (w32 (i0 + 5)))), (0, .ref a0), (1, .ref a1), (2, .ref a2), (3, .ref a3), (4, .ref a4)]) hC dL_law_2982 rfl (by decide) rfl ?_
    refine jj_goto (tgt := 28) hC dL_law_2985 rfl ?_
    refine jj_widen (k' := kk + 40) (n' := 256 * (kk + 40)) (by omega) (by omega) ?_
    refine jj_lv (lv' := [(0, .ref a0), (1, .ref a1), (2, .ref a2), (3, .ref a3), (4, .ref a4), (5, .int (iI (w32 (i0 + 5))))]) [1, 2, 3, 4, 5, 0] rfl ?_
    exact hJ _ (Option.some.inj h).symm sz ⟨(w32_r _), h0, h1, h2, h3, h4, ex2_r⟩
  · replace h := (if_neg (hc)).symm.trans h
    cases h
def fL_c23_B1493 (ad : Nat → Nat) (S1493 Ln1493 : Nat → Nat) (R1493 : gR) (M1493 : gM) (a0 : Nat) (a1 : Nat) (a2 : Nat) (a3 : Nat) (a4 : Nat) (l5_1493 : Int) : Option ((Int × (Nat → Nat) × (Nat → Nat) × gM × gR) ⊕ Unit) :=
  some (.inl (w32 (l5_1493 + 5), S1493, Ln1493, M1493, R1493))
def fL_c23_B1487 (ad : Nat → Nat) (S1487 Ln1487 : Nat → Nat) (R1487 : gR) (M1487 : gM) (a0 : Nat) (a1 : Nat) (a2 : Nat) (a3 : Nat) (a4 : Nat) (l5_1487 : Int) (s0_1487 : Int) (s1_1487 : Int) : Option ((Int × (Nat → Nat) × (Nat → Nat) × gM × gR) ⊕ Unit) :=
  if (i_lcmp s1_1487 s0_1487) = 0 then (fL_c23_B1493 ad S1487 Ln1487 R1487 M1487 a0 a1 a2 a3 a4 l5_1487) else (none)
def fL_c23 (ad : Nat → Nat) (sz : Nat) (S Ln : Nat → Nat) (R : gR) (M : gM) (a0 a1 a2 a3 a4 : Nat) (i0 : Int) : Option ((Int × (Nat → Nat) × (Nat → Nat) × gM × gR) ⊕ Unit) :=
  gd ((0 : Int) ≤ (w32 (i0 + 1)) ∧ (w32 (i0 + 1)) < (Ln a0 : Int)) (bd (fL_isFlying ad S Ln R M a1 (M a0 (w32 (i0 + 1))) a3) fun q2 => gd ((0 : Int) ≤ (w32 (i0 + 1)) ∧ (w32 (i0 + 1)) < (Ln a0 : Int)) (bd (fX10_isFlying ad S Ln R q2.2 a2 (q2.2 a0 (w32 (i0 + 1)))) fun q4 => bd (fX10_thrown ad S Ln R q4.2 a2) fun q5 => if q5 = q2.1 then (if ¬ q2.1 = 0 then (fL_c23_B1493 ad S Ln R q4.2 a0 a1 a2 a3 a4 i0) else (gd ((0 : Int) ≤ 0 ∧ 0 < (Ln a3 : Int)) (if q4.1 = 0 then (fL_c23_B1487 ad S Ln R q4.2 a0 a1 a2 a3 a4 i0 0 (q4.2 a3 0)) else (fL_c23_B1487 ad S Ln R q4.2 a0 a1 a2 a3 a4 i0 1 (q4.2 a3 0))))) else (none)))
theorem xL_c23 {G : gE} {C : gC} {sz kk : Nat} {S Ln : Nat → Nat} {M : gM} {R : gR} {P : gP} (hC : OKC G C RL cL_law 9 (some .boolean) 1400 603072 7198826 P noX) (hkk : kk + 40 ≤ 603072) (hnn : 256 * (kk + 40) ≤ 7198826) {a0 a1 a2 a3 a4 : Nat} {i0 : Int} (h0 : S a0 = 29) (h1 : S a1 = 12) (h2 : S a2 = 13) (h3 : S a3 = 21) (h4 : S a4 = 22) (hi0 : (-2147483648 ≤ i0 ∧ i0 < 2147483648)) {r : (Int × (Nat → Nat) × (Nat → Nat) × gM × gR) ⊕ Unit} (h : fL_c23 G.2.2.2.2 sz S Ln R M a0 a1 a2 a3 a4 i0 = some r) (hJ : ∀ t, r = .inl t → ∀ sz1, ((-2147483648 ≤ t.1 ∧ t.1 < 2147483648) ∧ t.2.1 a0 = 29 ∧ t.2.1 a1 = 12 ∧ t.2.1 a2 = 13 ∧ t.2.1 a3 = 21 ∧ t.2.1 a4 = 22 ∧ Ex2 S Ln t.2.1 t.2.2.1) → JJ G C (kk + 40) (256 * (kk + 40)) sz1 t.2.1 t.2.2.1 t.2.2.2.1 t.2.2.2.2 28 [(0, .ref a0), (1, .ref a1), (2, .ref a2), (3, .ref a3), (4, .ref a4), (5, .int (iI t.1))] []) : JJ G C kk (256 * (kk)) sz S Ln M R 1433 [(0, .ref a0), (1, .ref a1), (2, .ref a2), (3, .ref a3), (4, .ref a4), (5, .int (iI i0))] [] := by
  have hB1493 : ∀ (sz1493 : Nat) (S1493 : (Nat → Nat)) (Ln1493 : (Nat → Nat)) (M1493 : gM) (R1493 : gR) (l5_1493 : Int), Ex2 S Ln S1493 Ln1493 → (-2147483648 ≤ l5_1493 ∧ l5_1493 < 2147483648) → S1493 a0 = 29 → S1493 a1 = 12 → S1493 a2 = 13 → S1493 a3 = 21 → S1493 a4 = 22 → fL_c23_B1493 G.2.2.2.2 S1493 Ln1493 R1493 M1493 a0 a1 a2 a3 a4 l5_1493 = some r → JJ G C (kk + 1) (256 * (kk + 1)) sz1493 S1493 Ln1493 M1493 R1493 1493 [(0, .ref a0), (1, .ref a1), (2, .ref a2), (3, .ref a3), (4, .ref a4), (5, .int (iI l5_1493))] [] := by
    intro sz1493 S1493 Ln1493 M1493 R1493 l5_1493 hx1493 hl5_1493 ha0_1493 ha1_1493 ha2_1493 ha3_1493 ha4_1493 h
    unfold fL_c23_B1493 at h
    refine jj_goto (tgt := 2982) hC dL_law_1493 rfl ?_
    refine jg_iinc (q := 5) (lv' := [(5, .int (iI (w32 (l5_1493 + 5)))), (0, .ref a0), (1, .ref a1), (2, .ref a2), (3, .ref a3), (4, .ref a4)]) hC dL_law_2982 rfl (by decide) rfl ?_
    refine jj_goto (tgt := 28) hC dL_law_2985 rfl ?_
    refine jj_widen (k' := kk + 40) (n' := 256 * (kk + 40)) (by omega) (by omega) ?_
    refine jj_lv (lv' := [(0, .ref a0), (1, .ref a1), (2, .ref a2), (3, .ref a3), (4, .ref a4), (5, .int (iI (w32 (l5_1493 + 5))))]) [1, 2, 3, 4, 5, 0] rfl ?_
    exact hJ _ (Option.some.inj h).symm sz1493 ⟨(w32_r _), ha0_1493, ha1_1493, ha2_1493, ha3_1493, ha4_1493, hx1493⟩
  have hB1487 : ∀ (sz1487 : Nat) (S1487 : (Nat → Nat)) (Ln1487 : (Nat → Nat)) (M1487 : gM) (R1487 : gR) (l5_1487 : Int) (s0_1487 : Int) (s1_1487 : Int), Ex2 S Ln S1487 Ln1487 → (-2147483648 ≤ l5_1487 ∧ l5_1487 < 2147483648) → (-9223372036854775808 ≤ s0_1487 ∧ s0_1487 < 9223372036854775808) → (-9223372036854775808 ≤ s1_1487 ∧ s1_1487 < 9223372036854775808) → S1487 a0 = 29 → S1487 a1 = 12 → S1487 a2 = 13 → S1487 a3 = 21 → S1487 a4 = 22 → fL_c23_B1487 G.2.2.2.2 S1487 Ln1487 R1487 M1487 a0 a1 a2 a3 a4 l5_1487 s0_1487 s1_1487 = some r → JJ G C (kk + 1) (256 * (kk + 1)) sz1487 S1487 Ln1487 M1487 R1487 1487 [(0, .ref a0), (1, .ref a1), (2, .ref a2), (3, .ref a3), (4, .ref a4), (5, .int (iI l5_1487))] [.long (lI s0_1487), .long (lI s1_1487)] := by
    intro sz1487 S1487 Ln1487 M1487 R1487 l5_1487 s0_1487 s1_1487 hx1487 hl5_1487 hs0_1487 hs1_1487 ha0_1487 ha1_1487 ha2_1487 ha3_1487 ha4_1487 h
    unfold fL_c23_B1487 at h
    refine jg_lcmp hC hs1_1487 hs0_1487 dL_law_1487 ?_
    refine jj_if_eq (tgt := 1493) hC dL_law_1488 rfl i_lcmp_r (fun hc => ?_) (fun hc => ?_)
    · replace h := (if_pos hc).symm.trans h
      refine jj_widen (k' := kk + 1) (n' := 256 * (kk + 1)) (by omega) (by omega) ?_
      refine jj_lv (lv' := [(0, .ref a0), (1, .ref a1), (2, .ref a2), (3, .ref a3), (4, .ref a4), (5, .int (iI l5_1487))]) [0, 1, 2, 3, 4, 5] rfl ?_
      exact hB1493 sz1487 S1487 Ln1487 M1487 R1487 l5_1487 hx1487 hl5_1487 ha0_1487 ha1_1487 ha2_1487 ha3_1487 ha4_1487 h
    · replace h := (if_neg (hc)).symm.trans h
      cases h
  unfold fL_c23 at h
  refine jj_aload_n hC dL_law_1433 rfl 1 rfl ?_
  refine jj_aload_n hC dL_law_1434 rfl 0 rfl ?_
  refine jj_iload hC dL_law_1435 5 rfl ?_
  refine jj_iconst hC dL_law_1437 ?_
  refine jg_iadd hC dL_law_1438 ?_
  obtain ⟨⟨ha1, hb1⟩, h⟩ := gd_e h
  refine jj_iald29 hC h0 ha1 hb1 dL_law_1439 (fun hr1 => ?_)
  refine jj_aload_n hC dL_law_1440 rfl 3 rfl ?_
  obtain ⟨q2, hq2, h⟩ := bd_e h
  refine jj_invSW hC mvwL_isFlying wd1334 wd1333 (xL_isFlying (OKC.tr hC) h1 hr1 h3 hq2) rfl rfl (c_le rfl) (c_le rfl) (by omega) (by omega) dL_law_1441 (po_kW (fun hr2 hx2 sz2 => ?_))
  refine jj_widen (k' := kk + 1) (n' := 256 * (kk + 1)) (by omega) (by omega) ?_
  refine jj_istore (lv' := [(6, .int (iI q2.1)), (0, .ref a0), (1, .ref a1), (2, .ref a2), (3, .ref a3), (4, .ref a4), (5, .int (iI i0))]) hC dL_law_1444 (by decide) rfl ?_
  refine jj_aload_n hC dL_law_1446 rfl 3 rfl ?_
  refine jj_aload_n hC dL_law_1447 rfl 1 rfl ?_
  refine jj_iload hC dL_law_1448 6 rfl ?_
  refine jj_iconst hC dL_law_1450 ?_
  refine jg_iadd hC dL_law_1451 ?_
  obtain ⟨⟨ha3, hb3⟩, h⟩ := gd_e h
  refine jj_iald29 hC h0 ha3 hb3 dL_law_1452 (fun hr3 => ?_)
  obtain ⟨q4, hq4, h⟩ := bd_e h
  refine jj_invV hC mvX10_isFlying wd2024 wd2025 wd2023 h2 (by decide) rfl (xX10_isFlying (OKC.tr hC) h2 hr3 hq4) rfl rfl (c_le rfl) (c_le rfl) (by omega) (by omega) dL_law_1453 noXk (po_kZ (fun hr4 => ?_))
  refine jj_istore (lv' := [(7, .int (iI q4.1)), (6, .int (iI q2.1)), (0, .ref a0), (1, .ref a1), (2, .ref a2), (3, .ref a3), (4, .ref a4), (5, .int (iI i0))]) hC dL_law_1456 (by decide) rfl ?_
  refine jj_aload_n hC dL_law_1458 rfl 4 rfl ?_
  obtain ⟨q5, hq5, h⟩ := bd_e h
  refine jj_invV hC mvX10_thrown wd1765 wd1766 wd1764 h2 (by decide) rfl (xX10_thrown (OKC.tr hC) h2 hq5) rfl rfl (c_le rfl) (c_le rfl) (by omega) (by omega) dL_law_1459 noXk (po_kI (fun hr5 => ?_))
  refine jj_iload hC dL_law_1462 1 rfl ?_
  refine jj_icmp_eq (tgt := 1469) hC dL_law_1464 rfl hr5 hr2 (fun hc => ?_) (fun hc => ?_)
  · replace h := (if_pos hc).symm.trans h
    refine jj_iload hC dL_law_1469 1 rfl ?_
    refine jj_if_ne (tgt := 1493) hC dL_law_1471 rfl hr2 (fun hc => ?_) (fun hc => ?_)
    · replace h := (if_pos hc).symm.trans h
      refine jj_widen (k' := kk + 1) (n' := 256 * (kk + 1)) (by omega) (by omega) ?_
      refine jj_lv (lv' := [(0, .ref a0), (1, .ref a1), (2, .ref a2), (3, .ref a3), (4, .ref a4), (5, .int (iI i0))]) [2, 3, 4, 5, 6, 7] rfl ?_
      exact hB1493 sz2 S Ln q4.2 R i0 ex2_r hi0 h0 h1 h2 h3 h4 h
    · replace h := (if_neg (fun k => k hc)).symm.trans h
      refine jj_aload_n hC dL_law_1474 rfl 5 rfl ?_
      refine jj_iconst hC dL_law_1475 ?_
      obtain ⟨⟨ha6, hb6⟩, h⟩ := gd_e h
      refine jj_lald hC h3 ha6 hb6 dL_law_1476 (fun hr6 => ?_)
      refine jj_iload hC dL_law_1477 0 rfl ?_
      refine jj_if_eq (tgt := 1486) hC dL_law_1479 rfl (r_z hr4) (fun hc => ?_) (fun hc => ?_)
      · replace h := (if_pos hc).symm.trans h
        refine jj_lconst (z := 0) hC dL_law_1486 rfl ?_
        refine jj_widen (k' := kk + 1) (n' := 256 * (kk + 1)) (by omega) (by omega) ?_
        refine jj_lv (lv' := [(0, .ref a0), (1, .ref a1), (2, .ref a2), (3, .ref a3), (4, .ref a4), (5, .int (iI i0))]) [2, 3, 4, 5, 6, 7] rfl ?_
        exact hB1487 sz2 S Ln q4.2 R i0 0 (q4.2 a3 0) ex2_r hi0 (show (-9223372036854775808 ≤ (0 : Int) ∧ (0 : Int) < 9223372036854775808) from by decide) hr6 h0 h1 h2 h3 h4 h
      · replace h := (if_neg (hc)).symm.trans h
        refine jj_lconst (z := 1) hC dL_law_1482 rfl ?_
        refine jj_goto (tgt := 1487) hC dL_law_1483 rfl ?_
        refine jj_widen (k' := kk + 1) (n' := 256 * (kk + 1)) (by omega) (by omega) ?_
        refine jj_lv (lv' := [(0, .ref a0), (1, .ref a1), (2, .ref a2), (3, .ref a3), (4, .ref a4), (5, .int (iI i0))]) [2, 3, 4, 5, 6, 7] rfl ?_
        exact hB1487 sz2 S Ln q4.2 R i0 1 (q4.2 a3 0) ex2_r hi0 (show (-9223372036854775808 ≤ (1 : Int) ∧ (1 : Int) < 9223372036854775808) from by decide) hr6 h0 h1 h2 h3 h4 h
  · replace h := (if_neg (hc)).symm.trans h
    cases h
def fL_c24_B1556 (ad : Nat → Nat) (S1556 Ln1556 : Nat → Nat) (R1556 : gR) (M1556 : gM) (a0 : Nat) (a1 : Nat) (a2 : Nat) (a3 : Nat) (a4 : Nat) (l5_1556 : Int) : Option ((Int × (Nat → Nat) × (Nat → Nat) × gM × gR) ⊕ Unit) :=
  some (.inl (w32 (l5_1556 + 5), S1556, Ln1556, M1556, R1556))
def fL_c24_B1550 (ad : Nat → Nat) (S1550 Ln1550 : Nat → Nat) (R1550 : gR) (M1550 : gM) (a0 : Nat) (a1 : Nat) (a2 : Nat) (a3 : Nat) (a4 : Nat) (l5_1550 : Int) (s0_1550 : Int) (s1_1550 : Int) : Option ((Int × (Nat → Nat) × (Nat → Nat) × gM × gR) ⊕ Unit) :=
  if (i_lcmp s1_1550 s0_1550) = 0 then (fL_c24_B1556 ad S1550 Ln1550 R1550 M1550 a0 a1 a2 a3 a4 l5_1550) else (none)
def fL_c24 (ad : Nat → Nat) (sz : Nat) (S Ln : Nat → Nat) (R : gR) (M : gM) (a0 a1 a2 a3 a4 : Nat) (i0 : Int) : Option ((Int × (Nat → Nat) × (Nat → Nat) × gM × gR) ⊕ Unit) :=
  gd ((0 : Int) ≤ (w32 (i0 + 1)) ∧ (w32 (i0 + 1)) < (Ln a0 : Int)) (bd (fL_isLanded ad S Ln R M a1 (M a0 (w32 (i0 + 1))) a3) fun q2 => gd ((0 : Int) ≤ (w32 (i0 + 1)) ∧ (w32 (i0 + 1)) < (Ln a0 : Int)) (bd (fX10_isLanded ad S Ln R q2.2 a2 (q2.2 a0 (w32 (i0 + 1)))) fun q4 => bd (fX10_thrown ad S Ln R q4.2 a2) fun q5 => if q5 = q2.1 then (if ¬ q2.1 = 0 then (fL_c24_B1556 ad S Ln R q4.2 a0 a1 a2 a3 a4 i0) else (gd ((0 : Int) ≤ 0 ∧ 0 < (Ln a3 : Int)) (if q4.1 = 0 then (fL_c24_B1550 ad S Ln R q4.2 a0 a1 a2 a3 a4 i0 0 (q4.2 a3 0)) else (fL_c24_B1550 ad S Ln R q4.2 a0 a1 a2 a3 a4 i0 1 (q4.2 a3 0))))) else (none)))
theorem xL_c24 {G : gE} {C : gC} {sz kk : Nat} {S Ln : Nat → Nat} {M : gM} {R : gR} {P : gP} (hC : OKC G C RL cL_law 9 (some .boolean) 1400 603072 7198826 P noX) (hkk : kk + 40 ≤ 603072) (hnn : 256 * (kk + 40) ≤ 7198826) {a0 a1 a2 a3 a4 : Nat} {i0 : Int} (h0 : S a0 = 29) (h1 : S a1 = 12) (h2 : S a2 = 13) (h3 : S a3 = 21) (h4 : S a4 = 22) (hi0 : (-2147483648 ≤ i0 ∧ i0 < 2147483648)) {r : (Int × (Nat → Nat) × (Nat → Nat) × gM × gR) ⊕ Unit} (h : fL_c24 G.2.2.2.2 sz S Ln R M a0 a1 a2 a3 a4 i0 = some r) (hJ : ∀ t, r = .inl t → ∀ sz1, ((-2147483648 ≤ t.1 ∧ t.1 < 2147483648) ∧ t.2.1 a0 = 29 ∧ t.2.1 a1 = 12 ∧ t.2.1 a2 = 13 ∧ t.2.1 a3 = 21 ∧ t.2.1 a4 = 22 ∧ Ex2 S Ln t.2.1 t.2.2.1) → JJ G C (kk + 40) (256 * (kk + 40)) sz1 t.2.1 t.2.2.1 t.2.2.2.1 t.2.2.2.2 28 [(0, .ref a0), (1, .ref a1), (2, .ref a2), (3, .ref a3), (4, .ref a4), (5, .int (iI t.1))] []) : JJ G C kk (256 * (kk)) sz S Ln M R 1496 [(0, .ref a0), (1, .ref a1), (2, .ref a2), (3, .ref a3), (4, .ref a4), (5, .int (iI i0))] [] := by
  have hB1556 : ∀ (sz1556 : Nat) (S1556 : (Nat → Nat)) (Ln1556 : (Nat → Nat)) (M1556 : gM) (R1556 : gR) (l5_1556 : Int), Ex2 S Ln S1556 Ln1556 → (-2147483648 ≤ l5_1556 ∧ l5_1556 < 2147483648) → S1556 a0 = 29 → S1556 a1 = 12 → S1556 a2 = 13 → S1556 a3 = 21 → S1556 a4 = 22 → fL_c24_B1556 G.2.2.2.2 S1556 Ln1556 R1556 M1556 a0 a1 a2 a3 a4 l5_1556 = some r → JJ G C (kk + 1) (256 * (kk + 1)) sz1556 S1556 Ln1556 M1556 R1556 1556 [(0, .ref a0), (1, .ref a1), (2, .ref a2), (3, .ref a3), (4, .ref a4), (5, .int (iI l5_1556))] [] := by
    intro sz1556 S1556 Ln1556 M1556 R1556 l5_1556 hx1556 hl5_1556 ha0_1556 ha1_1556 ha2_1556 ha3_1556 ha4_1556 h
    unfold fL_c24_B1556 at h
    refine jj_goto (tgt := 2982) hC dL_law_1556 rfl ?_
    refine jg_iinc (q := 5) (lv' := [(5, .int (iI (w32 (l5_1556 + 5)))), (0, .ref a0), (1, .ref a1), (2, .ref a2), (3, .ref a3), (4, .ref a4)]) hC dL_law_2982 rfl (by decide) rfl ?_
    refine jj_goto (tgt := 28) hC dL_law_2985 rfl ?_
    refine jj_widen (k' := kk + 40) (n' := 256 * (kk + 40)) (by omega) (by omega) ?_
    refine jj_lv (lv' := [(0, .ref a0), (1, .ref a1), (2, .ref a2), (3, .ref a3), (4, .ref a4), (5, .int (iI (w32 (l5_1556 + 5))))]) [1, 2, 3, 4, 5, 0] rfl ?_
    exact hJ _ (Option.some.inj h).symm sz1556 ⟨(w32_r _), ha0_1556, ha1_1556, ha2_1556, ha3_1556, ha4_1556, hx1556⟩
  have hB1550 : ∀ (sz1550 : Nat) (S1550 : (Nat → Nat)) (Ln1550 : (Nat → Nat)) (M1550 : gM) (R1550 : gR) (l5_1550 : Int) (s0_1550 : Int) (s1_1550 : Int), Ex2 S Ln S1550 Ln1550 → (-2147483648 ≤ l5_1550 ∧ l5_1550 < 2147483648) → (-9223372036854775808 ≤ s0_1550 ∧ s0_1550 < 9223372036854775808) → (-9223372036854775808 ≤ s1_1550 ∧ s1_1550 < 9223372036854775808) → S1550 a0 = 29 → S1550 a1 = 12 → S1550 a2 = 13 → S1550 a3 = 21 → S1550 a4 = 22 → fL_c24_B1550 G.2.2.2.2 S1550 Ln1550 R1550 M1550 a0 a1 a2 a3 a4 l5_1550 s0_1550 s1_1550 = some r → JJ G C (kk + 1) (256 * (kk + 1)) sz1550 S1550 Ln1550 M1550 R1550 1550 [(0, .ref a0), (1, .ref a1), (2, .ref a2), (3, .ref a3), (4, .ref a4), (5, .int (iI l5_1550))] [.long (lI s0_1550), .long (lI s1_1550)] := by
    intro sz1550 S1550 Ln1550 M1550 R1550 l5_1550 s0_1550 s1_1550 hx1550 hl5_1550 hs0_1550 hs1_1550 ha0_1550 ha1_1550 ha2_1550 ha3_1550 ha4_1550 h
    unfold fL_c24_B1550 at h
    refine jg_lcmp hC hs1_1550 hs0_1550 dL_law_1550 ?_
    refine jj_if_eq (tgt := 1556) hC dL_law_1551 rfl i_lcmp_r (fun hc => ?_) (fun hc => ?_)
    · replace h := (if_pos hc).symm.trans h
      refine jj_widen (k' := kk + 1) (n' := 256 * (kk + 1)) (by omega) (by omega) ?_
      refine jj_lv (lv' := [(0, .ref a0), (1, .ref a1), (2, .ref a2), (3, .ref a3), (4, .ref a4), (5, .int (iI l5_1550))]) [0, 1, 2, 3, 4, 5] rfl ?_
      exact hB1556 sz1550 S1550 Ln1550 M1550 R1550 l5_1550 hx1550 hl5_1550 ha0_1550 ha1_1550 ha2_1550 ha3_1550 ha4_1550 h
    · replace h := (if_neg (hc)).symm.trans h
      cases h
  unfold fL_c24 at h
  refine jj_aload_n hC dL_law_1496 rfl 1 rfl ?_
  refine jj_aload_n hC dL_law_1497 rfl 0 rfl ?_
  refine jj_iload hC dL_law_1498 5 rfl ?_
  refine jj_iconst hC dL_law_1500 ?_
  refine jg_iadd hC dL_law_1501 ?_
  obtain ⟨⟨ha1, hb1⟩, h⟩ := gd_e h
  refine jj_iald29 hC h0 ha1 hb1 dL_law_1502 (fun hr1 => ?_)
  refine jj_aload_n hC dL_law_1503 rfl 3 rfl ?_
  obtain ⟨q2, hq2, h⟩ := bd_e h
  refine jj_invSW hC mvwL_isLanded wd1348 wd1347 (xL_isLanded (OKC.tr hC) h1 hr1 h3 hq2) rfl rfl (c_le rfl) (c_le rfl) (by omega) (by omega) dL_law_1504 (po_kW (fun hr2 hx2 sz2 => ?_))
  refine jj_widen (k' := kk + 1) (n' := 256 * (kk + 1)) (by omega) (by omega) ?_
  refine jj_istore (lv' := [(6, .int (iI q2.1)), (0, .ref a0), (1, .ref a1), (2, .ref a2), (3, .ref a3), (4, .ref a4), (5, .int (iI i0))]) hC dL_law_1507 (by decide) rfl ?_
  refine jj_aload_n hC dL_law_1509 rfl 3 rfl ?_
  refine jj_aload_n hC dL_law_1510 rfl 1 rfl ?_
  refine jj_iload hC dL_law_1511 6 rfl ?_
  refine jj_iconst hC dL_law_1513 ?_
  refine jg_iadd hC dL_law_1514 ?_
  obtain ⟨⟨ha3, hb3⟩, h⟩ := gd_e h
  refine jj_iald29 hC h0 ha3 hb3 dL_law_1515 (fun hr3 => ?_)
  obtain ⟨q4, hq4, h⟩ := bd_e h
  refine jj_invV hC mvX10_isLanded wd2032 wd2033 wd2031 h2 (by decide) rfl (xX10_isLanded (OKC.tr hC) h2 hr3 hq4) rfl rfl (c_le rfl) (c_le rfl) (by omega) (by omega) dL_law_1516 noXk (po_kZ (fun hr4 => ?_))
  refine jj_istore (lv' := [(7, .int (iI q4.1)), (6, .int (iI q2.1)), (0, .ref a0), (1, .ref a1), (2, .ref a2), (3, .ref a3), (4, .ref a4), (5, .int (iI i0))]) hC dL_law_1519 (by decide) rfl ?_
  refine jj_aload_n hC dL_law_1521 rfl 4 rfl ?_
  obtain ⟨q5, hq5, h⟩ := bd_e h
  refine jj_invV hC mvX10_thrown wd1765 wd1766 wd1764 h2 (by decide) rfl (xX10_thrown (OKC.tr hC) h2 hq5) rfl rfl (c_le rfl) (c_le rfl) (by omega) (by omega) dL_law_1522 noXk (po_kI (fun hr5 => ?_))
  refine jj_iload hC dL_law_1525 1 rfl ?_
  refine jj_icmp_eq (tgt := 1532) hC dL_law_1527 rfl hr5 hr2 (fun hc => ?_) (fun hc => ?_)
  · replace h := (if_pos hc).symm.trans h
    refine jj_iload hC dL_law_1532 1 rfl ?_
    refine jj_if_ne (tgt := 1556) hC dL_law_1534 rfl hr2 (fun hc => ?_) (fun hc => ?_)
    · replace h := (if_pos hc).symm.trans h
      refine jj_widen (k' := kk + 1) (n' := 256 * (kk + 1)) (by omega) (by omega) ?_
      refine jj_lv (lv' := [(0, .ref a0), (1, .ref a1), (2, .ref a2), (3, .ref a3), (4, .ref a4), (5, .int (iI i0))]) [2, 3, 4, 5, 6, 7] rfl ?_
      exact hB1556 sz2 S Ln q4.2 R i0 ex2_r hi0 h0 h1 h2 h3 h4 h
    · replace h := (if_neg (fun k => k hc)).symm.trans h
      refine jj_aload_n hC dL_law_1537 rfl 5 rfl ?_
      refine jj_iconst hC dL_law_1538 ?_
      obtain ⟨⟨ha6, hb6⟩, h⟩ := gd_e h
      refine jj_lald hC h3 ha6 hb6 dL_law_1539 (fun hr6 => ?_)
      refine jj_iload hC dL_law_1540 0 rfl ?_
      refine jj_if_eq (tgt := 1549) hC dL_law_1542 rfl (r_z hr4) (fun hc => ?_) (fun hc => ?_)
      · replace h := (if_pos hc).symm.trans h
        refine jj_lconst (z := 0) hC dL_law_1549 rfl ?_
        refine jj_widen (k' := kk + 1) (n' := 256 * (kk + 1)) (by omega) (by omega) ?_
        refine jj_lv (lv' := [(0, .ref a0), (1, .ref a1), (2, .ref a2), (3, .ref a3), (4, .ref a4), (5, .int (iI i0))]) [2, 3, 4, 5, 6, 7] rfl ?_
        exact hB1550 sz2 S Ln q4.2 R i0 0 (q4.2 a3 0) ex2_r hi0 (show (-9223372036854775808 ≤ (0 : Int) ∧ (0 : Int) < 9223372036854775808) from by decide) hr6 h0 h1 h2 h3 h4 h
      · replace h := (if_neg (hc)).symm.trans h
        refine jj_lconst (z := 1) hC dL_law_1545 rfl ?_
        refine jj_goto (tgt := 1550) hC dL_law_1546 rfl ?_
        refine jj_widen (k' := kk + 1) (n' := 256 * (kk + 1)) (by omega) (by omega) ?_
        refine jj_lv (lv' := [(0, .ref a0), (1, .ref a1), (2, .ref a2), (3, .ref a3), (4, .ref a4), (5, .int (iI i0))]) [2, 3, 4, 5, 6, 7] rfl ?_
        exact hB1550 sz2 S Ln q4.2 R i0 1 (q4.2 a3 0) ex2_r hi0 (show (-9223372036854775808 ≤ (1 : Int) ∧ (1 : Int) < 9223372036854775808) from by decide) hr6 h0 h1 h2 h3 h4 h
  · replace h := (if_neg (hc)).symm.trans h
    cases h
def fL_c25_B1619 (ad : Nat → Nat) (S1619 Ln1619 : Nat → Nat) (R1619 : gR) (M1619 : gM) (a0 : Nat) (a1 : Nat) (a2 : Nat) (a3 : Nat) (a4 : Nat) (l5_1619 : Int) : Option ((Int × (Nat → Nat) × (Nat → Nat) × gM × gR) ⊕ Unit) :=
  some (.inl (w32 (l5_1619 + 5), S1619, Ln1619, M1619, R1619))
def fL_c25_B1613 (ad : Nat → Nat) (S1613 Ln1613 : Nat → Nat) (R1613 : gR) (M1613 : gM) (a0 : Nat) (a1 : Nat) (a2 : Nat) (a3 : Nat) (a4 : Nat) (l5_1613 : Int) (s0_1613 : Int) (s1_1613 : Int) : Option ((Int × (Nat → Nat) × (Nat → Nat) × gM × gR) ⊕ Unit) :=
  if (i_lcmp s1_1613 s0_1613) = 0 then (fL_c25_B1619 ad S1613 Ln1613 R1613 M1613 a0 a1 a2 a3 a4 l5_1613) else (none)
def fL_c25 (ad : Nat → Nat) (sz : Nat) (S Ln : Nat → Nat) (R : gR) (M : gM) (a0 a1 a2 a3 a4 : Nat) (i0 : Int) : Option ((Int × (Nat → Nat) × (Nat → Nat) × gM × gR) ⊕ Unit) :=
  gd ((0 : Int) ≤ (w32 (i0 + 1)) ∧ (w32 (i0 + 1)) < (Ln a0 : Int)) (bd (fL_isFinished ad S Ln R M a1 (M a0 (w32 (i0 + 1))) a3) fun q2 => gd ((0 : Int) ≤ (w32 (i0 + 1)) ∧ (w32 (i0 + 1)) < (Ln a0 : Int)) (bd (fX10_isFinished ad S Ln R q2.2 a2 (q2.2 a0 (w32 (i0 + 1)))) fun q4 => bd (fX10_thrown ad S Ln R q4.2 a2) fun q5 => if q5 = q2.1 then (if ¬ q2.1 = 0 then (fL_c25_B1619 ad S Ln R q4.2 a0 a1 a2 a3 a4 i0) else (gd ((0 : Int) ≤ 0 ∧ 0 < (Ln a3 : Int)) (if q4.1 = 0 then (fL_c25_B1613 ad S Ln R q4.2 a0 a1 a2 a3 a4 i0 0 (q4.2 a3 0)) else (fL_c25_B1613 ad S Ln R q4.2 a0 a1 a2 a3 a4 i0 1 (q4.2 a3 0))))) else (none)))
theorem xL_c25 {G : gE} {C : gC} {sz kk : Nat} {S Ln : Nat → Nat} {M : gM} {R : gR} {P : gP} (hC : OKC G C RL cL_law 9 (some .boolean) 1400 603072 7198826 P noX) (hkk : kk + 40 ≤ 603072) (hnn : 256 * (kk + 40) ≤ 7198826) {a0 a1 a2 a3 a4 : Nat} {i0 : Int} (h0 : S a0 = 29) (h1 : S a1 = 12) (h2 : S a2 = 13) (h3 : S a3 = 21) (h4 : S a4 = 22) (hi0 : (-2147483648 ≤ i0 ∧ i0 < 2147483648)) {r : (Int × (Nat → Nat) × (Nat → Nat) × gM × gR) ⊕ Unit} (h : fL_c25 G.2.2.2.2 sz S Ln R M a0 a1 a2 a3 a4 i0 = some r) (hJ : ∀ t, r = .inl t → ∀ sz1, ((-2147483648 ≤ t.1 ∧ t.1 < 2147483648) ∧ t.2.1 a0 = 29 ∧ t.2.1 a1 = 12 ∧ t.2.1 a2 = 13 ∧ t.2.1 a3 = 21 ∧ t.2.1 a4 = 22 ∧ Ex2 S Ln t.2.1 t.2.2.1) → JJ G C (kk + 40) (256 * (kk + 40)) sz1 t.2.1 t.2.2.1 t.2.2.2.1 t.2.2.2.2 28 [(0, .ref a0), (1, .ref a1), (2, .ref a2), (3, .ref a3), (4, .ref a4), (5, .int (iI t.1))] []) : JJ G C kk (256 * (kk)) sz S Ln M R 1559 [(0, .ref a0), (1, .ref a1), (2, .ref a2), (3, .ref a3), (4, .ref a4), (5, .int (iI i0))] [] := by
  have hB1619 : ∀ (sz1619 : Nat) (S1619 : (Nat → Nat)) (Ln1619 : (Nat → Nat)) (M1619 : gM) (R1619 : gR) (l5_1619 : Int), Ex2 S Ln S1619 Ln1619 → (-2147483648 ≤ l5_1619 ∧ l5_1619 < 2147483648) → S1619 a0 = 29 → S1619 a1 = 12 → S1619 a2 = 13 → S1619 a3 = 21 → S1619 a4 = 22 → fL_c25_B1619 G.2.2.2.2 S1619 Ln1619 R1619 M1619 a0 a1 a2 a3 a4 l5_1619 = some r → JJ G C (kk + 1) (256 * (kk + 1)) sz1619 S1619 Ln1619 M1619 R1619 1619 [(0, .ref a0), (1, .ref a1), (2, .ref a2), (3, .ref a3), (4, .ref a4), (5, .int (iI l5_1619))] [] := by
    intro sz1619 S1619 Ln1619 M1619 R1619 l5_1619 hx1619 hl5_1619 ha0_1619 ha1_1619 ha2_1619 ha3_1619 ha4_1619 h
    unfold fL_c25_B1619 at h
    refine jj_goto (tgt := 2982) hC dL_law_1619 rfl ?_
    refine jg_iinc (q := 5) (lv' := [(5, .int (iI (w32 (l5_1619 + 5)))), (0, .ref a0), (1, .ref a1), (2, .ref a2), (3, .ref a3), (4, .ref a4)]) hC dL_law_2982 rfl (by decide) rfl ?_
    refine jj_goto (tgt := 28) hC dL_law_2985 rfl ?_
    refine jj_widen (k' := kk + 40) (n' := 256 * (kk + 40)) (by omega) (by omega) ?_
    refine jj_lv (lv' := [(0, .ref a0), (1, .ref a1), (2, .ref a2), (3, .ref a3), (4, .ref a4), (5, .int (iI (w32 (l5_1619 + 5))))]) [1, 2, 3, 4, 5, 0] rfl ?_
    exact hJ _ (Option.some.inj h).symm sz1619 ⟨(w32_r _), ha0_1619, ha1_1619, ha2_1619, ha3_1619, ha4_1619, hx1619⟩
  have hB1613 : ∀ (sz1613 : Nat) (S1613 : (Nat → Nat)) (Ln1613 : (Nat → Nat)) (M1613 : gM) (R1613 : gR) (l5_1613 : Int) (s0_1613 : Int) (s1_1613 : Int), Ex2 S Ln S1613 Ln1613 → (-2147483648 ≤ l5_1613 ∧ l5_1613 < 2147483648) → (-9223372036854775808 ≤ s0_1613 ∧ s0_1613 < 9223372036854775808) → (-9223372036854775808 ≤ s1_1613 ∧ s1_1613 < 9223372036854775808) → S1613 a0 = 29 → S1613 a1 = 12 → S1613 a2 = 13 → S1613 a3 = 21 → S1613 a4 = 22 → fL_c25_B1613 G.2.2.2.2 S1613 Ln1613 R1613 M1613 a0 a1 a2 a3 a4 l5_1613 s0_1613 s1_1613 = some r → JJ G C (kk + 1) (256 * (kk + 1)) sz1613 S1613 Ln1613 M1613 R1613 1613 [(0, .ref a0), (1, .ref a1), (2, .ref a2), (3, .ref a3), (4, .ref a4), (5, .int (iI l5_1613))] [.long (lI s0_1613), .long (lI s1_1613)] := by
    intro sz1613 S1613 Ln1613 M1613 R1613 l5_1613 s0_1613 s1_1613 hx1613 hl5_1613 hs0_1613 hs1_1613 ha0_1613 ha1_1613 ha2_1613 ha3_1613 ha4_1613 h
    unfold fL_c25_B1613 at h
    refine jg_lcmp hC hs1_1613 hs0_1613 dL_law_1613 ?_
    refine jj_if_eq (tgt := 1619) hC dL_law_1614 rfl i_lcmp_r (fun hc => ?_) (fun hc => ?_)
    · replace h := (if_pos hc).symm.trans h
      refine jj_widen (k' := kk + 1) (n' := 256 * (kk + 1)) (by omega) (by omega) ?_
      refine jj_lv (lv' := [(0, .ref a0), (1, .ref a1), (2, .ref a2), (3, .ref a3), (4, .ref a4), (5, .int (iI l5_1613))]) [0, 1, 2, 3, 4, 5] rfl ?_
      exact hB1619 sz1613 S1613 Ln1613 M1613 R1613 l5_1613 hx1613 hl5_1613 ha0_1613 ha1_1613 ha2_1613 ha3_1613 ha4_1613 h
    · replace h := (if_neg (hc)).symm.trans h
      cases h
  unfold fL_c25 at h
  refine jj_aload_n hC dL_law_1559 rfl 1 rfl ?_
  refine jj_aload_n hC dL_law_1560 rfl 0 rfl ?_
  refine jj_iload hC dL_law_1561 5 rfl ?_
  refine jj_iconst hC dL_law_1563 ?_
  refine jg_iadd hC dL_law_1564 ?_
  obtain ⟨⟨ha1, hb1⟩, h⟩ := gd_e h
  refine jj_iald29 hC h0 ha1 hb1 dL_law_1565 (fun hr1 => ?_)
  refine jj_aload_n hC dL_law_1566 rfl 3 rfl ?_
  obtain ⟨q2, hq2, h⟩ := bd_e h
  refine jj_invSW hC mvwL_isFinished wd1356 wd1355 (xL_isFinished (OKC.tr hC) h1 hr1 h3 hq2) rfl rfl (c_le rfl) (c_le rfl) (by omega) (by omega) dL_law_1567 (po_kW (fun hr2 hx2 sz2 => ?_))
  refine jj_widen (k' := kk + 1) (n' := 256 * (kk + 1)) (by omega) (by omega) ?_
  refine jj_istore (lv' := [(6, .int (iI q2.1)), (0, .ref a0), (1, .ref a1), (2, .ref a2), (3, .ref a3), (4, .ref a4), (5, .int (iI i0))]) hC dL_law_1570 (by decide) rfl ?_
  refine jj_aload_n hC dL_law_1572 rfl 3 rfl ?_
  refine jj_aload_n hC dL_law_1573 rfl 1 rfl ?_
  refine jj_iload hC dL_law_1574 6 rfl ?_
  refine jj_iconst hC dL_law_1576 ?_
  refine jg_iadd hC dL_law_1577 ?_
  obtain ⟨⟨ha3, hb3⟩, h⟩ := gd_e h
  refine jj_iald29 hC h0 ha3 hb3 dL_law_1578 (fun hr3 => ?_)
  obtain ⟨q4, hq4, h⟩ := bd_e h
  refine jj_invV hC mvX10_isFinished wd2036 wd2037 wd2035 h2 (by decide) rfl (xX10_isFinished (OKC.tr hC) h2 hr3 hq4) rfl rfl (c_le rfl) (c_le rfl) (by omega) (by omega) dL_law_1579 noXk (po_kZ (fun hr4 => ?_))
  refine jj_istore (lv' := [(7, .int (iI q4.1)), (6, .int (iI q2.1)), (0, .ref a0), (1, .ref a1), (2, .ref a2), (3, .ref a3), (4, .ref a4), (5, .int (iI i0))]) hC dL_law_1582 (by decide) rfl ?_
  refine jj_aload_n hC dL_law_1584 rfl 4 rfl ?_
  obtain ⟨q5, hq5, h⟩ := bd_e h
  refine jj_invV hC mvX10_thrown wd1765 wd1766 wd1764 h2 (by decide) rfl (xX10_thrown (OKC.tr hC) h2 hq5) rfl rfl (c_le rfl) (c_le rfl) (by omega) (by omega) dL_law_1585 noXk (po_kI (fun hr5 => ?_))
  refine jj_iload hC dL_law_1588 1 rfl ?_
  refine jj_icmp_eq (tgt := 1595) hC dL_law_1590 rfl hr5 hr2 (fun hc => ?_) (fun hc => ?_)
  · replace h := (if_pos hc).symm.trans h
    refine jj_iload hC dL_law_1595 1 rfl ?_
    refine jj_if_ne (tgt := 1619) hC dL_law_1597 rfl hr2 (fun hc => ?_) (fun hc => ?_)
    · replace h := (if_pos hc).symm.trans h
      refine jj_widen (k' := kk + 1) (n' := 256 * (kk + 1)) (by omega) (by omega) ?_
      refine jj_lv (lv' := [(0, .ref a0), (1, .ref a1), (2, .ref a2), (3, .ref a3), (4, .ref a4), (5, .int (iI i0))]) [2, 3, 4, 5, 6, 7] rfl ?_
      exact hB1619 sz2 S Ln q4.2 R i0 ex2_r hi0 h0 h1 h2 h3 h4 h
    · replace h := (if_neg (fun k => k hc)).symm.trans h
      refine jj_aload_n hC dL_law_1600 rfl 5 rfl ?_
      refine jj_iconst hC dL_law_1601 ?_
      obtain ⟨⟨ha6, hb6⟩, h⟩ := gd_e h
      refine jj_lald hC h3 ha6 hb6 dL_law_1602 (fun hr6 => ?_)
      refine jj_iload hC dL_law_1603 0 rfl ?_
      refine jj_if_eq (tgt := 1612) hC dL_law_1605 rfl (r_z hr4) (fun hc => ?_) (fun hc => ?_)
      · replace h := (if_pos hc).symm.trans h
        refine jj_lconst (z := 0) hC dL_law_1612 rfl ?_
        refine jj_widen (k' := kk + 1) (n' := 256 * (kk + 1)) (by omega) (by omega) ?_
        refine jj_lv (lv' := [(0, .ref a0), (1, .ref a1), (2, .ref a2), (3, .ref a3), (4, .ref a4), (5, .int (iI i0))]) [2, 3, 4, 5, 6, 7] rfl ?_
        exact hB1613 sz2 S Ln q4.2 R i0 0 (q4.2 a3 0) ex2_r hi0 (show (-9223372036854775808 ≤ (0 : Int) ∧ (0 : Int) < 9223372036854775808) from by decide) hr6 h0 h1 h2 h3 h4 h
      · replace h := (if_neg (hc)).symm.trans h
        refine jj_lconst (z := 1) hC dL_law_1608 rfl ?_
        refine jj_goto (tgt := 1613) hC dL_law_1609 rfl ?_
        refine jj_widen (k' := kk + 1) (n' := 256 * (kk + 1)) (by omega) (by omega) ?_
        refine jj_lv (lv' := [(0, .ref a0), (1, .ref a1), (2, .ref a2), (3, .ref a3), (4, .ref a4), (5, .int (iI i0))]) [2, 3, 4, 5, 6, 7] rfl ?_
        exact hB1613 sz2 S Ln q4.2 R i0 1 (q4.2 a3 0) ex2_r hi0 (show (-9223372036854775808 ≤ (1 : Int) ∧ (1 : Int) < 9223372036854775808) from by decide) hr6 h0 h1 h2 h3 h4 h
  · replace h := (if_neg (hc)).symm.trans h
    cases h
def fL_c26_B1675 (ad : Nat → Nat) (S1675 Ln1675 : Nat → Nat) (R1675 : gR) (M1675 : gM) (a0 : Nat) (a1 : Nat) (a2 : Nat) (a3 : Nat) (a4 : Nat) (l5_1675 : Int) : Option ((Int × (Nat → Nat) × (Nat → Nat) × gM × gR) ⊕ Unit) :=
  some (.inl (w32 (l5_1675 + 5), S1675, Ln1675, M1675, R1675))
def fL_c26 (ad : Nat → Nat) (sz : Nat) (S Ln : Nat → Nat) (R : gR) (M : gM) (a0 a1 a2 a3 a4 : Nat) (i0 : Int) : Option ((Int × (Nat → Nat) × (Nat → Nat) × gM × gR) ⊕ Unit) :=
  gd ((0 : Int) ≤ (w32 (i0 + 1)) ∧ (w32 (i0 + 1)) < (Ln a0 : Int)) (bd (fL_sink ad S Ln R M a1 (M a0 (w32 (i0 + 1))) a3) fun q2 => gd ((0 : Int) ≤ (w32 (i0 + 1)) ∧ (w32 (i0 + 1)) < (Ln a0 : Int)) (bd (fX10_sink ad S Ln R q2.2 a2 (q2.2 a0 (w32 (i0 + 1)))) fun q4 => bd (fX10_thrown ad S Ln R q4.2 a2) fun q5 => if q5 = q2.1 then (if ¬ q2.1 = 0 then (fL_c26_B1675 ad S Ln R q4.2 a0 a1 a2 a3 a4 i0) else (gd ((0 : Int) ≤ 0 ∧ 0 < (Ln a3 : Int)) (if (i_lcmp (q4.2 a3 0) q4.1) = 0 then (fL_c26_B1675 ad S Ln R q4.2 a0 a1 a2 a3 a4 i0) else (none)))) else (none)))
theorem xL_c26 {G : gE} {C : gC} {sz kk : Nat} {S Ln : Nat → Nat} {M : gM} {R : gR} {P : gP} (hC : OKC G C RL cL_law 9 (some .boolean) 1400 603072 7198826 P noX) (hkk : kk + 40 ≤ 603072) (hnn : 256 * (kk + 40) ≤ 7198826) {a0 a1 a2 a3 a4 : Nat} {i0 : Int} (h0 : S a0 = 29) (h1 : S a1 = 12) (h2 : S a2 = 13) (h3 : S a3 = 21) (h4 : S a4 = 22) (hi0 : (-2147483648 ≤ i0 ∧ i0 < 2147483648)) {r : (Int × (Nat → Nat) × (Nat → Nat) × gM × gR) ⊕ Unit} (h : fL_c26 G.2.2.2.2 sz S Ln R M a0 a1 a2 a3 a4 i0 = some r) (hJ : ∀ t, r = .inl t → ∀ sz1, ((-2147483648 ≤ t.1 ∧ t.1 < 2147483648) ∧ t.2.1 a0 = 29 ∧ t.2.1 a1 = 12 ∧ t.2.1 a2 = 13 ∧ t.2.1 a3 = 21 ∧ t.2.1 a4 = 22 ∧ Ex2 S Ln t.2.1 t.2.2.1) → JJ G C (kk + 40) (256 * (kk + 40)) sz1 t.2.1 t.2.2.1 t.2.2.2.1 t.2.2.2.2 28 [(0, .ref a0), (1, .ref a1), (2, .ref a2), (3, .ref a3), (4, .ref a4), (5, .int (iI t.1))] []) : JJ G C kk (256 * (kk)) sz S Ln M R 1622 [(0, .ref a0), (1, .ref a1), (2, .ref a2), (3, .ref a3), (4, .ref a4), (5, .int (iI i0))] [] := by
  have hB1675 : ∀ (sz1675 : Nat) (S1675 : (Nat → Nat)) (Ln1675 : (Nat → Nat)) (M1675 : gM) (R1675 : gR) (l5_1675 : Int), Ex2 S Ln S1675 Ln1675 → (-2147483648 ≤ l5_1675 ∧ l5_1675 < 2147483648) → S1675 a0 = 29 → S1675 a1 = 12 → S1675 a2 = 13 → S1675 a3 = 21 → S1675 a4 = 22 → fL_c26_B1675 G.2.2.2.2 S1675 Ln1675 R1675 M1675 a0 a1 a2 a3 a4 l5_1675 = some r → JJ G C (kk + 1) (256 * (kk + 1)) sz1675 S1675 Ln1675 M1675 R1675 1675 [(0, .ref a0), (1, .ref a1), (2, .ref a2), (3, .ref a3), (4, .ref a4), (5, .int (iI l5_1675))] [] := by
    intro sz1675 S1675 Ln1675 M1675 R1675 l5_1675 hx1675 hl5_1675 ha0_1675 ha1_1675 ha2_1675 ha3_1675 ha4_1675 h
    unfold fL_c26_B1675 at h
    refine jj_goto (tgt := 2982) hC dL_law_1675 rfl ?_
    refine jg_iinc (q := 5) (lv' := [(5, .int (iI (w32 (l5_1675 + 5)))), (0, .ref a0), (1, .ref a1), (2, .ref a2), (3, .ref a3), (4, .ref a4)]) hC dL_law_2982 rfl (by decide) rfl ?_
    refine jj_goto (tgt := 28) hC dL_law_2985 rfl ?_
    refine jj_widen (k' := kk + 40) (n' := 256 * (kk + 40)) (by omega) (by omega) ?_
    refine jj_lv (lv' := [(0, .ref a0), (1, .ref a1), (2, .ref a2), (3, .ref a3), (4, .ref a4), (5, .int (iI (w32 (l5_1675 + 5))))]) [1, 2, 3, 4, 5, 0] rfl ?_
    exact hJ _ (Option.some.inj h).symm sz1675 ⟨(w32_r _), ha0_1675, ha1_1675, ha2_1675, ha3_1675, ha4_1675, hx1675⟩
  unfold fL_c26 at h
  refine jj_aload_n hC dL_law_1622 rfl 1 rfl ?_
  refine jj_aload_n hC dL_law_1623 rfl 0 rfl ?_
  refine jj_iload hC dL_law_1624 5 rfl ?_
  refine jj_iconst hC dL_law_1626 ?_
  refine jg_iadd hC dL_law_1627 ?_
  obtain ⟨⟨ha1, hb1⟩, h⟩ := gd_e h
  refine jj_iald29 hC h0 ha1 hb1 dL_law_1628 (fun hr1 => ?_)
  refine jj_aload_n hC dL_law_1629 rfl 3 rfl ?_
  obtain ⟨q2, hq2, h⟩ := bd_e h
  refine jj_invSW hC mvwL_sink wd1364 wd1363 (xL_sink (OKC.tr hC) h1 hr1 h3 hq2) rfl rfl (c_le rfl) (c_le rfl) (by omega) (by omega) dL_law_1630 (po_kW (fun hr2 hx2 sz2 => ?_))
  refine jj_widen (k' := kk + 1) (n' := 256 * (kk + 1)) (by omega) (by omega) ?_
  refine jj_istore (lv' := [(6, .int (iI q2.1)), (0, .ref a0), (1, .ref a1), (2, .ref a2), (3, .ref a3), (4, .ref a4), (5, .int (iI i0))]) hC dL_law_1633 (by decide) rfl ?_
  refine jj_aload_n hC dL_law_1635 rfl 3 rfl ?_
  refine jj_aload_n hC dL_law_1636 rfl 1 rfl ?_
  refine jj_iload hC dL_law_1637 6 rfl ?_
  refine jj_iconst hC dL_law_1639 ?_
  refine jg_iadd hC dL_law_1640 ?_
  obtain ⟨⟨ha3, hb3⟩, h⟩ := gd_e h
  refine jj_iald29 hC h0 ha3 hb3 dL_law_1641 (fun hr3 => ?_)
  obtain ⟨q4, hq4, h⟩ := bd_e h
  refine jj_invV hC mvX10_sink wd2040 wd2041 wd2039 h2 (by decide) rfl (xX10_sink (OKC.tr hC) h2 hr3 hq4) rfl rfl (c_le rfl) (c_le rfl) (by omega) (by omega) dL_law_1642 noXk (po_kI (fun hr4 => ?_))
  refine jj_istore (lv' := [(7, .int (iI q4.1)), (6, .int (iI q2.1)), (0, .ref a0), (1, .ref a1), (2, .ref a2), (3, .ref a3), (4, .ref a4), (5, .int (iI i0))]) hC dL_law_1645 (by decide) rfl ?_
  refine jj_aload_n hC dL_law_1647 rfl 4 rfl ?_
  obtain ⟨q5, hq5, h⟩ := bd_e h
  refine jj_invV hC mvX10_thrown wd1765 wd1766 wd1764 h2 (by decide) rfl (xX10_thrown (OKC.tr hC) h2 hq5) rfl rfl (c_le rfl) (c_le rfl) (by omega) (by omega) dL_law_1648 noXk (po_kI (fun hr5 => ?_))
  refine jj_iload hC dL_law_1651 1 rfl ?_
  refine jj_icmp_eq (tgt := 1658) hC dL_law_1653 rfl hr5 hr2 (fun hc => ?_) (fun hc => ?_)
  · replace h := (if_pos hc).symm.trans h
    refine jj_iload hC dL_law_1658 1 rfl ?_
    refine jj_if_ne (tgt := 1675) hC dL_law_1660 rfl hr2 (fun hc => ?_) (fun hc => ?_)
    · replace h := (if_pos hc).symm.trans h
      refine jj_widen (k' := kk + 1) (n' := 256 * (kk + 1)) (by omega) (by omega) ?_
      refine jj_lv (lv' := [(0, .ref a0), (1, .ref a1), (2, .ref a2), (3, .ref a3), (4, .ref a4), (5, .int (iI i0))]) [2, 3, 4, 5, 6, 7] rfl ?_
      exact hB1675 sz2 S Ln q4.2 R i0 ex2_r hi0 h0 h1 h2 h3 h4 h
    · replace h := (if_neg (fun k => k hc)).symm.trans h
      refine jj_aload_n hC dL_law_1663 rfl 5 rfl ?_
      refine jj_iconst hC dL_law_1664 ?_
      obtain ⟨⟨ha6, hb6⟩, h⟩ := gd_e h
      refine jj_lald hC h3 ha6 hb6 dL_law_1665 (fun hr6 => ?_)
      refine jj_iload hC dL_law_1666 0 rfl ?_
      refine jj_i2l hC dL_law_1668 hr4 ?_
      refine jg_lcmp hC hr6 (r_il hr4) dL_law_1669 ?_
      refine jj_if_eq (tgt := 1675) hC dL_law_1670 rfl i_lcmp_r (fun hc => ?_) (fun hc => ?_)
      · replace h := (if_pos hc).symm.trans h
        refine jj_widen (k' := kk + 1) (n' := 256 * (kk + 1)) (by omega) (by omega) ?_
        refine jj_lv (lv' := [(0, .ref a0), (1, .ref a1), (2, .ref a2), (3, .ref a3), (4, .ref a4), (5, .int (iI i0))]) [2, 3, 4, 5, 6, 7] rfl ?_
        exact hB1675 sz2 S Ln q4.2 R i0 ex2_r hi0 h0 h1 h2 h3 h4 h
      · replace h := (if_neg (hc)).symm.trans h
        cases h
  · replace h := (if_neg (hc)).symm.trans h
    cases h
def fL_c27_B1731 (ad : Nat → Nat) (S1731 Ln1731 : Nat → Nat) (R1731 : gR) (M1731 : gM) (a0 : Nat) (a1 : Nat) (a2 : Nat) (a3 : Nat) (a4 : Nat) (l5_1731 : Int) : Option ((Int × (Nat → Nat) × (Nat → Nat) × gM × gR) ⊕ Unit) :=
  some (.inl (w32 (l5_1731 + 5), S1731, Ln1731, M1731, R1731))
def fL_c27 (ad : Nat → Nat) (sz : Nat) (S Ln : Nat → Nat) (R : gR) (M : gM) (a0 a1 a2 a3 a4 : Nat) (i0 : Int) : Option ((Int × (Nat → Nat) × (Nat → Nat) × gM × gR) ⊕ Unit) :=
  gd ((0 : Int) ≤ (w32 (i0 + 1)) ∧ (w32 (i0 + 1)) < (Ln a0 : Int)) (bd (fL_x ad S Ln R M a1 (M a0 (w32 (i0 + 1))) a3) fun q2 => gd ((0 : Int) ≤ (w32 (i0 + 1)) ∧ (w32 (i0 + 1)) < (Ln a0 : Int)) (bd (fX10_x ad S Ln R q2.2 a2 (q2.2 a0 (w32 (i0 + 1)))) fun q4 => bd (fX10_thrown ad S Ln R q4.2 a2) fun q5 => if q5 = q2.1 then (if ¬ q2.1 = 0 then (fL_c27_B1731 ad S Ln R q4.2 a0 a1 a2 a3 a4 i0) else (gd ((0 : Int) ≤ 0 ∧ 0 < (Ln a3 : Int)) (if (i_lcmp (q4.2 a3 0) q4.1) = 0 then (fL_c27_B1731 ad S Ln R q4.2 a0 a1 a2 a3 a4 i0) else (none)))) else (none)))
theorem xL_c27 {G : gE} {C : gC} {sz kk : Nat} {S Ln : Nat → Nat} {M : gM} {R : gR} {P : gP} (hC : OKC G C RL cL_law 9 (some .boolean) 1400 603072 7198826 P noX) (hkk : kk + 40 ≤ 603072) (hnn : 256 * (kk + 40) ≤ 7198826) {a0 a1 a2 a3 a4 : Nat} {i0 : Int} (h0 : S a0 = 29) (h1 : S a1 = 12) (h2 : S a2 = 13) (h3 : S a3 = 21) (h4 : S a4 = 22) (hi0 : (-2147483648 ≤ i0 ∧ i0 < 2147483648)) {r : (Int × (Nat → Nat) × (Nat → Nat) × gM × gR) ⊕ Unit} (h : fL_c27 G.2.2.2.2 sz S Ln R M a0 a1 a2 a3 a4 i0 = some r) (hJ : ∀ t, r = .inl t → ∀ sz1, ((-2147483648 ≤ t.1 ∧ t.1 < 2147483648) ∧ t.2.1 a0 = 29 ∧ t.2.1 a1 = 12 ∧ t.2.1 a2 = 13 ∧ t.2.1 a3 = 21 ∧ t.2.1 a4 = 22 ∧ Ex2 S Ln t.2.1 t.2.2.1) → JJ G C (kk + 40) (256 * (kk + 40)) sz1 t.2.1 t.2.2.1 t.2.2.2.1 t.2.2.2.2 28 [(0, .ref a0), (1, .ref a1), (2, .ref a2), (3, .ref a3), (4, .ref a4), (5, .int (iI t.1))] []) : JJ G C kk (256 * (kk)) sz S Ln M R 1678 [(0, .ref a0), (1, .ref a1), (2, .ref a2), (3, .ref a3), (4, .ref a4), (5, .int (iI i0))] [] := by
  have hB1731 : ∀ (sz1731 : Nat) (S1731 : (Nat → Nat)) (Ln1731 : (Nat → Nat)) (M1731 : gM) (R1731 : gR) (l5_1731 : Int), Ex2 S Ln S1731 Ln1731 → (-2147483648 ≤ l5_1731 ∧ l5_1731 < 2147483648) → S1731 a0 = 29 → S1731 a1 = 12 → S1731 a2 = 13 → S1731 a3 = 21 → S1731 a4 = 22 → fL_c27_B1731 G.2.2.2.2 S1731 Ln1731 R1731 M1731 a0 a1 a2 a3 a4 l5_1731 = some r → JJ G C (kk + 2) (256 * (kk + 2)) sz1731 S1731 Ln1731 M1731 R1731 1731 [(0, .ref a0), (1, .ref a1), (2, .ref a2), (3, .ref a3), (4, .ref a4), (5, .int (iI l5_1731))] [] := by
    intro sz1731 S1731 Ln1731 M1731 R1731 l5_1731 hx1731 hl5_1731 ha0_1731 ha1_1731 ha2_1731 ha3_1731 ha4_1731 h
    unfold fL_c27_B1731 at h
    refine jj_goto (tgt := 2982) hC dL_law_1731 rfl ?_
    refine jg_iinc (q := 5) (lv' := [(5, .int (iI (w32 (l5_1731 + 5)))), (0, .ref a0), (1, .ref a1), (2, .ref a2), (3, .ref a3), (4, .ref a4)]) hC dL_law_2982 rfl (by decide) rfl ?_
    refine jj_goto (tgt := 28) hC dL_law_2985 rfl ?_
    refine jj_widen (k' := kk + 40) (n' := 256 * (kk + 40)) (by omega) (by omega) ?_
    refine jj_lv (lv' := [(0, .ref a0), (1, .ref a1), (2, .ref a2), (3, .ref a3), (4, .ref a4), (5, .int (iI (w32 (l5_1731 + 5))))]) [1, 2, 3, 4, 5, 0] rfl ?_
    exact hJ _ (Option.some.inj h).symm sz1731 ⟨(w32_r _), ha0_1731, ha1_1731, ha2_1731, ha3_1731, ha4_1731, hx1731⟩
  unfold fL_c27 at h
  refine jj_aload_n hC dL_law_1678 rfl 1 rfl ?_
  refine jj_aload_n hC dL_law_1679 rfl 0 rfl ?_
  refine jj_iload hC dL_law_1680 5 rfl ?_
  refine jj_iconst hC dL_law_1682 ?_
  refine jg_iadd hC dL_law_1683 ?_
  obtain ⟨⟨ha1, hb1⟩, h⟩ := gd_e h
  refine jj_iald29 hC h0 ha1 hb1 dL_law_1684 (fun hr1 => ?_)
  refine jj_aload_n hC dL_law_1685 rfl 3 rfl ?_
  obtain ⟨q2, hq2, h⟩ := bd_e h
  refine jj_invSW hC mvwL_x wd1372 wd1371 (xL_x (OKC.tr hC) h1 hr1 h3 hq2) rfl rfl (c_le rfl) (c_le rfl) (by omega) (by omega) dL_law_1686 (po_kW (fun hr2 hx2 sz2 => ?_))
  refine jj_widen (k' := kk + 2) (n' := 256 * (kk + 2)) (by omega) (by omega) ?_
  refine jj_istore (lv' := [(6, .int (iI q2.1)), (0, .ref a0), (1, .ref a1), (2, .ref a2), (3, .ref a3), (4, .ref a4), (5, .int (iI i0))]) hC dL_law_1689 (by decide) rfl ?_
  refine jj_aload_n hC dL_law_1691 rfl 3 rfl ?_
  refine jj_aload_n hC dL_law_1692 rfl 1 rfl ?_
  refine jj_iload hC dL_law_1693 6 rfl ?_
  refine jj_iconst hC dL_law_1695 ?_
  refine jg_iadd hC dL_law_1696 ?_
  obtain ⟨⟨ha3, hb3⟩, h⟩ := gd_e h
  refine jj_iald29 hC h0 ha3 hb3 dL_law_1697 (fun hr3 => ?_)
  obtain ⟨q4, hq4, h⟩ := bd_e h
  refine jj_invV hC mvX10_x wd2044 wd2045 wd2043 h2 (by decide) rfl (xX10_x (OKC.tr hC) h2 hr3 hq4) rfl rfl (c_le rfl) (c_le rfl) (by omega) (by omega) dL_law_1698 noXk (po_kI (fun hr4 => ?_))
  refine jj_istore (lv' := [(7, .int (iI q4.1)), (6, .int (iI q2.1)), (0, .ref a0), (1, .ref a1), (2, .ref a2), (3, .ref a3), (4, .ref a4), (5, .int (iI i0))]) hC dL_law_1701 (by decide) rfl ?_
  refine jj_aload_n hC dL_law_1703 rfl 4 rfl ?_
  obtain ⟨q5, hq5, h⟩ := bd_e h
  refine jj_invV hC mvX10_thrown wd1765 wd1766 wd1764 h2 (by decide) rfl (xX10_thrown (OKC.tr hC) h2 hq5) rfl rfl (c_le rfl) (c_le rfl) (by omega) (by omega) dL_law_1704 noXk (po_kI (fun hr5 => ?_))
  refine jj_iload hC dL_law_1707 1 rfl ?_
  refine jj_icmp_eq (tgt := 1714) hC dL_law_1709 rfl hr5 hr2 (fun hc => ?_) (fun hc => ?_)
  · replace h := (if_pos hc).symm.trans h
    refine jj_iload hC dL_law_1714 1 rfl ?_
    refine jj_if_ne (tgt := 1731) hC dL_law_1716 rfl hr2 (fun hc => ?_) (fun hc => ?_)
    · replace h := (if_pos hc).symm.trans h
      refine jj_widen (k' := kk + 2) (n' := 256 * (kk + 2)) (by omega) (by omega) ?_
      refine jj_lv (lv' := [(0, .ref a0), (1, .ref a1), (2, .ref a2), (3, .ref a3), (4, .ref a4), (5, .int (iI i0))]) [2, 3, 4, 5, 6, 7] rfl ?_
      exact hB1731 sz2 S Ln q4.2 R i0 ex2_r hi0 h0 h1 h2 h3 h4 h
    · replace h := (if_neg (fun k => k hc)).symm.trans h
      refine jj_aload_n hC dL_law_1719 rfl 5 rfl ?_
      refine jj_iconst hC dL_law_1720 ?_
      obtain ⟨⟨ha6, hb6⟩, h⟩ := gd_e h
      refine jj_lald hC h3 ha6 hb6 dL_law_1721 (fun hr6 => ?_)
      refine jj_iload hC dL_law_1722 0 rfl ?_
      refine jj_i2l hC dL_law_1724 hr4 ?_
      refine jg_lcmp hC hr6 (r_il hr4) dL_law_1725 ?_
      refine jj_if_eq (tgt := 1731) hC dL_law_1726 rfl i_lcmp_r (fun hc => ?_) (fun hc => ?_)
      · replace h := (if_pos hc).symm.trans h
        refine jj_widen (k' := kk + 2) (n' := 256 * (kk + 2)) (by omega) (by omega) ?_
        refine jj_lv (lv' := [(0, .ref a0), (1, .ref a1), (2, .ref a2), (3, .ref a3), (4, .ref a4), (5, .int (iI i0))]) [2, 3, 4, 5, 6, 7] rfl ?_
        exact hB1731 sz2 S Ln q4.2 R i0 ex2_r hi0 h0 h1 h2 h3 h4 h
      · replace h := (if_neg (hc)).symm.trans h
        cases h
  · replace h := (if_neg (hc)).symm.trans h
    cases h
def fL_c28_B1787 (ad : Nat → Nat) (S1787 Ln1787 : Nat → Nat) (R1787 : gR) (M1787 : gM) (a0 : Nat) (a1 : Nat) (a2 : Nat) (a3 : Nat) (a4 : Nat) (l5_1787 : Int) : Option ((Int × (Nat → Nat) × (Nat → Nat) × gM × gR) ⊕ Unit) :=
  some (.inl (w32 (l5_1787 + 5), S1787, Ln1787, M1787, R1787))
def fL_c28 (ad : Nat → Nat) (sz : Nat) (S Ln : Nat → Nat) (R : gR) (M : gM) (a0 a1 a2 a3 a4 : Nat) (i0 : Int) : Option ((Int × (Nat → Nat) × (Nat → Nat) × gM × gR) ⊕ Unit) :=
  gd ((0 : Int) ≤ (w32 (i0 + 1)) ∧ (w32 (i0 + 1)) < (Ln a0 : Int)) (bd (fL_y ad S Ln R M a1 (M a0 (w32 (i0 + 1))) a3) fun q2 => gd ((0 : Int) ≤ (w32 (i0 + 1)) ∧ (w32 (i0 + 1)) < (Ln a0 : Int)) (bd (fX10_y ad S Ln R q2.2 a2 (q2.2 a0 (w32 (i0 + 1)))) fun q4 => bd (fX10_thrown ad S Ln R q4.2 a2) fun q5 => if q5 = q2.1 then (if ¬ q2.1 = 0 then (fL_c28_B1787 ad S Ln R q4.2 a0 a1 a2 a3 a4 i0) else (gd ((0 : Int) ≤ 0 ∧ 0 < (Ln a3 : Int)) (if (i_lcmp (q4.2 a3 0) q4.1) = 0 then (fL_c28_B1787 ad S Ln R q4.2 a0 a1 a2 a3 a4 i0) else (none)))) else (none)))
theorem xL_c28 {G : gE} {C : gC} {sz kk : Nat} {S Ln : Nat → Nat} {M : gM} {R : gR} {P : gP} (hC : OKC G C RL cL_law 9 (some .boolean) 1400 603072 7198826 P noX) (hkk : kk + 40 ≤ 603072) (hnn : 256 * (kk + 40) ≤ 7198826) {a0 a1 a2 a3 a4 : Nat} {i0 : Int} (h0 : S a0 = 29) (h1 : S a1 = 12) (h2 : S a2 = 13) (h3 : S a3 = 21) (h4 : S a4 = 22) (hi0 : (-2147483648 ≤ i0 ∧ i0 < 2147483648)) {r : (Int × (Nat → Nat) × (Nat → Nat) × gM × gR) ⊕ Unit} (h : fL_c28 G.2.2.2.2 sz S Ln R M a0 a1 a2 a3 a4 i0 = some r) (hJ : ∀ t, r = .inl t → ∀ sz1, ((-2147483648 ≤ t.1 ∧ t.1 < 2147483648) ∧ t.2.1 a0 = 29 ∧ t.2.1 a1 = 12 ∧ t.2.1 a2 = 13 ∧ t.2.1 a3 = 21 ∧ t.2.1 a4 = 22 ∧ Ex2 S Ln t.2.1 t.2.2.1) → JJ G C (kk + 40) (256 * (kk + 40)) sz1 t.2.1 t.2.2.1 t.2.2.2.1 t.2.2.2.2 28 [(0, .ref a0), (1, .ref a1), (2, .ref a2), (3, .ref a3), (4, .ref a4), (5, .int (iI t.1))] []) : JJ G C kk (256 * (kk)) sz S Ln M R 1734 [(0, .ref a0), (1, .ref a1), (2, .ref a2), (3, .ref a3), (4, .ref a4), (5, .int (iI i0))] [] := by
  have hB1787 : ∀ (sz1787 : Nat) (S1787 : (Nat → Nat)) (Ln1787 : (Nat → Nat)) (M1787 : gM) (R1787 : gR) (l5_1787 : Int), Ex2 S Ln S1787 Ln1787 → (-2147483648 ≤ l5_1787 ∧ l5_1787 < 2147483648) → S1787 a0 = 29 → S1787 a1 = 12 → S1787 a2 = 13 → S1787 a3 = 21 → S1787 a4 = 22 → fL_c28_B1787 G.2.2.2.2 S1787 Ln1787 R1787 M1787 a0 a1 a2 a3 a4 l5_1787 = some r → JJ G C (kk + 2) (256 * (kk + 2)) sz1787 S1787 Ln1787 M1787 R1787 1787 [(0, .ref a0), (1, .ref a1), (2, .ref a2), (3, .ref a3), (4, .ref a4), (5, .int (iI l5_1787))] [] := by
    intro sz1787 S1787 Ln1787 M1787 R1787 l5_1787 hx1787 hl5_1787 ha0_1787 ha1_1787 ha2_1787 ha3_1787 ha4_1787 h
    unfold fL_c28_B1787 at h
    refine jj_goto (tgt := 2982) hC dL_law_1787 rfl ?_
    refine jg_iinc (q := 5) (lv' := [(5, .int (iI (w32 (l5_1787 + 5)))), (0, .ref a0), (1, .ref a1), (2, .ref a2), (3, .ref a3), (4, .ref a4)]) hC dL_law_2982 rfl (by decide) rfl ?_
    refine jj_goto (tgt := 28) hC dL_law_2985 rfl ?_
    refine jj_widen (k' := kk + 40) (n' := 256 * (kk + 40)) (by omega) (by omega) ?_
    refine jj_lv (lv' := [(0, .ref a0), (1, .ref a1), (2, .ref a2), (3, .ref a3), (4, .ref a4), (5, .int (iI (w32 (l5_1787 + 5))))]) [1, 2, 3, 4, 5, 0] rfl ?_
    exact hJ _ (Option.some.inj h).symm sz1787 ⟨(w32_r _), ha0_1787, ha1_1787, ha2_1787, ha3_1787, ha4_1787, hx1787⟩
  unfold fL_c28 at h
  refine jj_aload_n hC dL_law_1734 rfl 1 rfl ?_
  refine jj_aload_n hC dL_law_1735 rfl 0 rfl ?_
  refine jj_iload hC dL_law_1736 5 rfl ?_
  refine jj_iconst hC dL_law_1738 ?_
  refine jg_iadd hC dL_law_1739 ?_
  obtain ⟨⟨ha1, hb1⟩, h⟩ := gd_e h
  refine jj_iald29 hC h0 ha1 hb1 dL_law_1740 (fun hr1 => ?_)
  refine jj_aload_n hC dL_law_1741 rfl 3 rfl ?_
  obtain ⟨q2, hq2, h⟩ := bd_e h
  refine jj_invSW hC mvwL_y wd1385 wd1384 (xL_y (OKC.tr hC) h1 hr1 h3 hq2) rfl rfl (c_le rfl) (c_le rfl) (by omega) (by omega) dL_law_1742 (po_kW (fun hr2 hx2 sz2 => ?_))
  refine jj_widen (k' := kk + 2) (n' := 256 * (kk + 2)) (by omega) (by omega) ?_
  refine jj_istore (lv' := [(6, .int (iI q2.1)), (0, .ref a0), (1, .ref a1), (2, .ref a2), (3, .ref a3), (4, .ref a4), (5, .int (iI i0))]) hC dL_law_1745 (by decide) rfl ?_
  refine jj_aload_n hC dL_law_1747 rfl 3 rfl ?_
  refine jj_aload_n hC dL_law_1748 rfl 1 rfl ?_
  refine jj_iload hC dL_law_1749 6 rfl ?_
  refine jj_iconst hC dL_law_1751 ?_
  refine jg_iadd hC dL_law_1752 ?_
  obtain ⟨⟨ha3, hb3⟩, h⟩ := gd_e h
  refine jj_iald29 hC h0 ha3 hb3 dL_law_1753 (fun hr3 => ?_)
  obtain ⟨q4, hq4, h⟩ := bd_e h
  refine jj_invV hC mvX10_y wd2052 wd2053 wd2051 h2 (by decide) rfl (xX10_y (OKC.tr hC) h2 hr3 hq4) rfl rfl (c_le rfl) (c_le rfl) (by omega) (by omega) dL_law_1754 noXk (po_kI (fun hr4 => ?_))
  refine jj_istore (lv' := [(7, .int (iI q4.1)), (6, .int (iI q2.1)), (0, .ref a0), (1, .ref a1), (2, .ref a2), (3, .ref a3), (4, .ref a4), (5, .int (iI i0))]) hC dL_law_1757 (by decide) rfl ?_
  refine jj_aload_n hC dL_law_1759 rfl 4 rfl ?_
  obtain ⟨q5, hq5, h⟩ := bd_e h
  refine jj_invV hC mvX10_thrown wd1765 wd1766 wd1764 h2 (by decide) rfl (xX10_thrown (OKC.tr hC) h2 hq5) rfl rfl (c_le rfl) (c_le rfl) (by omega) (by omega) dL_law_1760 noXk (po_kI (fun hr5 => ?_))
  refine jj_iload hC dL_law_1763 1 rfl ?_
  refine jj_icmp_eq (tgt := 1770) hC dL_law_1765 rfl hr5 hr2 (fun hc => ?_) (fun hc => ?_)
  · replace h := (if_pos hc).symm.trans h
    refine jj_iload hC dL_law_1770 1 rfl ?_
    refine jj_if_ne (tgt := 1787) hC dL_law_1772 rfl hr2 (fun hc => ?_) (fun hc => ?_)
    · replace h := (if_pos hc).symm.trans h
      refine jj_widen (k' := kk + 2) (n' := 256 * (kk + 2)) (by omega) (by omega) ?_
      refine jj_lv (lv' := [(0, .ref a0), (1, .ref a1), (2, .ref a2), (3, .ref a3), (4, .ref a4), (5, .int (iI i0))]) [2, 3, 4, 5, 6, 7] rfl ?_
      exact hB1787 sz2 S Ln q4.2 R i0 ex2_r hi0 h0 h1 h2 h3 h4 h
    · replace h := (if_neg (fun k => k hc)).symm.trans h
      refine jj_aload_n hC dL_law_1775 rfl 5 rfl ?_
      refine jj_iconst hC dL_law_1776 ?_
      obtain ⟨⟨ha6, hb6⟩, h⟩ := gd_e h
      refine jj_lald hC h3 ha6 hb6 dL_law_1777 (fun hr6 => ?_)
      refine jj_iload hC dL_law_1778 0 rfl ?_
      refine jj_i2l hC dL_law_1780 hr4 ?_
      refine jg_lcmp hC hr6 (r_il hr4) dL_law_1781 ?_
      refine jj_if_eq (tgt := 1787) hC dL_law_1782 rfl i_lcmp_r (fun hc => ?_) (fun hc => ?_)
      · replace h := (if_pos hc).symm.trans h
        refine jj_widen (k' := kk + 2) (n' := 256 * (kk + 2)) (by omega) (by omega) ?_
        refine jj_lv (lv' := [(0, .ref a0), (1, .ref a1), (2, .ref a2), (3, .ref a3), (4, .ref a4), (5, .int (iI i0))]) [2, 3, 4, 5, 6, 7] rfl ?_
        exact hB1787 sz2 S Ln q4.2 R i0 ex2_r hi0 h0 h1 h2 h3 h4 h
      · replace h := (if_neg (hc)).symm.trans h
        cases h
  · replace h := (if_neg (hc)).symm.trans h
    cases h
def fL_c29_B1843 (ad : Nat → Nat) (S1843 Ln1843 : Nat → Nat) (R1843 : gR) (M1843 : gM) (a0 : Nat) (a1 : Nat) (a2 : Nat) (a3 : Nat) (a4 : Nat) (l5_1843 : Int) : Option ((Int × (Nat → Nat) × (Nat → Nat) × gM × gR) ⊕ Unit) :=
  some (.inl (w32 (l5_1843 + 5), S1843, Ln1843, M1843, R1843))
def fL_c29 (ad : Nat → Nat) (sz : Nat) (S Ln : Nat → Nat) (R : gR) (M : gM) (a0 a1 a2 a3 a4 : Nat) (i0 : Int) : Option ((Int × (Nat → Nat) × (Nat → Nat) × gM × gR) ⊕ Unit) :=
  gd ((0 : Int) ≤ (w32 (i0 + 1)) ∧ (w32 (i0 + 1)) < (Ln a0 : Int)) (bd (fL_height ad S Ln R M a1 (M a0 (w32 (i0 + 1))) a3) fun q2 => gd ((0 : Int) ≤ (w32 (i0 + 1)) ∧ (w32 (i0 + 1)) < (Ln a0 : Int)) (bd (fX10_height ad S Ln R q2.2 a2 (q2.2 a0 (w32 (i0 + 1)))) fun q4 => bd (fX10_thrown ad S Ln R q4.2 a2) fun q5 => if q5 = q2.1 then (if ¬ q2.1 = 0 then (fL_c29_B1843 ad S Ln R q4.2 a0 a1 a2 a3 a4 i0) else (gd ((0 : Int) ≤ 0 ∧ 0 < (Ln a3 : Int)) (if (i_lcmp (q4.2 a3 0) q4.1) = 0 then (fL_c29_B1843 ad S Ln R q4.2 a0 a1 a2 a3 a4 i0) else (none)))) else (none)))
theorem xL_c29 {G : gE} {C : gC} {sz kk : Nat} {S Ln : Nat → Nat} {M : gM} {R : gR} {P : gP} (hC : OKC G C RL cL_law 9 (some .boolean) 1400 603072 7198826 P noX) (hkk : kk + 40 ≤ 603072) (hnn : 256 * (kk + 40) ≤ 7198826) {a0 a1 a2 a3 a4 : Nat} {i0 : Int} (h0 : S a0 = 29) (h1 : S a1 = 12) (h2 : S a2 = 13) (h3 : S a3 = 21) (h4 : S a4 = 22) (hi0 : (-2147483648 ≤ i0 ∧ i0 < 2147483648)) {r : (Int × (Nat → Nat) × (Nat → Nat) × gM × gR) ⊕ Unit} (h : fL_c29 G.2.2.2.2 sz S Ln R M a0 a1 a2 a3 a4 i0 = some r) (hJ : ∀ t, r = .inl t → ∀ sz1, ((-2147483648 ≤ t.1 ∧ t.1 < 2147483648) ∧ t.2.1 a0 = 29 ∧ t.2.1 a1 = 12 ∧ t.2.1 a2 = 13 ∧ t.2.1 a3 = 21 ∧ t.2.1 a4 = 22 ∧ Ex2 S Ln t.2.1 t.2.2.1) → JJ G C (kk + 40) (256 * (kk + 40)) sz1 t.2.1 t.2.2.1 t.2.2.2.1 t.2.2.2.2 28 [(0, .ref a0), (1, .ref a1), (2, .ref a2), (3, .ref a3), (4, .ref a4), (5, .int (iI t.1))] []) : JJ G C kk (256 * (kk)) sz S Ln M R 1790 [(0, .ref a0), (1, .ref a1), (2, .ref a2), (3, .ref a3), (4, .ref a4), (5, .int (iI i0))] [] := by
  have hB1843 : ∀ (sz1843 : Nat) (S1843 : (Nat → Nat)) (Ln1843 : (Nat → Nat)) (M1843 : gM) (R1843 : gR) (l5_1843 : Int), Ex2 S Ln S1843 Ln1843 → (-2147483648 ≤ l5_1843 ∧ l5_1843 < 2147483648) → S1843 a0 = 29 → S1843 a1 = 12 → S1843 a2 = 13 → S1843 a3 = 21 → S1843 a4 = 22 → fL_c29_B1843 G.2.2.2.2 S1843 Ln1843 R1843 M1843 a0 a1 a2 a3 a4 l5_1843 = some r → JJ G C (kk + 2) (256 * (kk + 2)) sz1843 S1843 Ln1843 M1843 R1843 1843 [(0, .ref a0), (1, .ref a1), (2, .ref a2), (3, .ref a3), (4, .ref a4), (5, .int (iI l5_1843))] [] := by
    intro sz1843 S1843 Ln1843 M1843 R1843 l5_1843 hx1843 hl5_1843 ha0_1843 ha1_1843 ha2_1843 ha3_1843 ha4_1843 h
    unfold fL_c29_B1843 at h
    refine jj_goto (tgt := 2982) hC dL_law_1843 rfl ?_
    refine jg_iinc (q := 5) (lv' := [(5, .int (iI (w32 (l5_1843 + 5)))), (0, .ref a0), (1, .ref a1), (2, .ref a2), (3, .ref a3), (4, .ref a4)]) hC dL_law_2982 rfl (by decide) rfl ?_
    refine jj_goto (tgt := 28) hC dL_law_2985 rfl ?_
    refine jj_widen (k' := kk + 40) (n' := 256 * (kk + 40)) (by omega) (by omega) ?_
    refine jj_lv (lv' := [(0, .ref a0), (1, .ref a1), (2, .ref a2), (3, .ref a3), (4, .ref a4), (5, .int (iI (w32 (l5_1843 + 5))))]) [1, 2, 3, 4, 5, 0] rfl ?_
    exact hJ _ (Option.some.inj h).symm sz1843 ⟨(w32_r _), ha0_1843, ha1_1843, ha2_1843, ha3_1843, ha4_1843, hx1843⟩
  unfold fL_c29 at h
  refine jj_aload_n hC dL_law_1790 rfl 1 rfl ?_
  refine jj_aload_n hC dL_law_1791 rfl 0 rfl ?_
  refine jj_iload hC dL_law_1792 5 rfl ?_
  refine jj_iconst hC dL_law_1794 ?_
  refine jg_iadd hC dL_law_1795 ?_
  obtain ⟨⟨ha1, hb1⟩, h⟩ := gd_e h
  refine jj_iald29 hC h0 ha1 hb1 dL_law_1796 (fun hr1 => ?_)
  refine jj_aload_n hC dL_law_1797 rfl 3 rfl ?_
  obtain ⟨q2, hq2, h⟩ := bd_e h
  refine jj_invSW hC mvwL_height wd1392 wd1391 (xL_height (OKC.tr hC) h1 hr1 h3 hq2) rfl rfl (c_le rfl) (c_le rfl) (by omega) (by omega) dL_law_1798 (po_kW (fun hr2 hx2 sz2 => ?_))
  refine jj_widen (k' := kk + 2) (n' := 256 * (kk + 2)) (by omega) (by omega) ?_
  refine jj_istore (lv' := [(6, .int (iI q2.1)), (0, .ref a0), (1, .ref a1), (2, .ref a2), (3, .ref a3), (4, .ref a4), (5, .int (iI i0))]) hC dL_law_1801 (by decide) rfl ?_
  refine jj_aload_n hC dL_law_1803 rfl 3 rfl ?_
  refine jj_aload_n hC dL_law_1804 rfl 1 rfl ?_
  refine jj_iload hC dL_law_1805 6 rfl ?_
  refine jj_iconst hC dL_law_1807 ?_
  refine jg_iadd hC dL_law_1808 ?_
  obtain ⟨⟨ha3, hb3⟩, h⟩ := gd_e h
  refine jj_iald29 hC h0 ha3 hb3 dL_law_1809 (fun hr3 => ?_)
  obtain ⟨q4, hq4, h⟩ := bd_e h
  refine jj_invV hC mvX10_height wd2056 wd2057 wd2055 h2 (by decide) rfl (xX10_height (OKC.tr hC) h2 hr3 hq4) rfl rfl (c_le rfl) (c_le rfl) (by omega) (by omega) dL_law_1810 noXk (po_kI (fun hr4 => ?_))
  refine jj_istore (lv' := [(7, .int (iI q4.1)), (6, .int (iI q2.1)), (0, .ref a0), (1, .ref a1), (2, .ref a2), (3, .ref a3), (4, .ref a4), (5, .int (iI i0))]) hC dL_law_1813 (by decide) rfl ?_
  refine jj_aload_n hC dL_law_1815 rfl 4 rfl ?_
  obtain ⟨q5, hq5, h⟩ := bd_e h
  refine jj_invV hC mvX10_thrown wd1765 wd1766 wd1764 h2 (by decide) rfl (xX10_thrown (OKC.tr hC) h2 hq5) rfl rfl (c_le rfl) (c_le rfl) (by omega) (by omega) dL_law_1816 noXk (po_kI (fun hr5 => ?_))
  refine jj_iload hC dL_law_1819 1 rfl ?_
  refine jj_icmp_eq (tgt := 1826) hC dL_law_1821 rfl hr5 hr2 (fun hc => ?_) (fun hc => ?_)
  · replace h := (if_pos hc).symm.trans h
    refine jj_iload hC dL_law_1826 1 rfl ?_
    refine jj_if_ne (tgt := 1843) hC dL_law_1828 rfl hr2 (fun hc => ?_) (fun hc => ?_)
    · replace h := (if_pos hc).symm.trans h
      refine jj_widen (k' := kk + 2) (n' := 256 * (kk + 2)) (by omega) (by omega) ?_
      refine jj_lv (lv' := [(0, .ref a0), (1, .ref a1), (2, .ref a2), (3, .ref a3), (4, .ref a4), (5, .int (iI i0))]) [2, 3, 4, 5, 6, 7] rfl ?_
      exact hB1843 sz2 S Ln q4.2 R i0 ex2_r hi0 h0 h1 h2 h3 h4 h
    · replace h := (if_neg (fun k => k hc)).symm.trans h
      refine jj_aload_n hC dL_law_1831 rfl 5 rfl ?_
      refine jj_iconst hC dL_law_1832 ?_
      obtain ⟨⟨ha6, hb6⟩, h⟩ := gd_e h
      refine jj_lald hC h3 ha6 hb6 dL_law_1833 (fun hr6 => ?_)
      refine jj_iload hC dL_law_1834 0 rfl ?_
      refine jj_i2l hC dL_law_1836 hr4 ?_
      refine jg_lcmp hC hr6 (r_il hr4) dL_law_1837 ?_
      refine jj_if_eq (tgt := 1843) hC dL_law_1838 rfl i_lcmp_r (fun hc => ?_) (fun hc => ?_)
      · replace h := (if_pos hc).symm.trans h
        refine jj_widen (k' := kk + 2) (n' := 256 * (kk + 2)) (by omega) (by omega) ?_
        refine jj_lv (lv' := [(0, .ref a0), (1, .ref a1), (2, .ref a2), (3, .ref a3), (4, .ref a4), (5, .int (iI i0))]) [2, 3, 4, 5, 6, 7] rfl ?_
        exact hB1843 sz2 S Ln q4.2 R i0 ex2_r hi0 h0 h1 h2 h3 h4 h
      · replace h := (if_neg (hc)).symm.trans h
        cases h
  · replace h := (if_neg (hc)).symm.trans h
    cases h
def fL_c30_B1899 (ad : Nat → Nat) (S1899 Ln1899 : Nat → Nat) (R1899 : gR) (M1899 : gM) (a0 : Nat) (a1 : Nat) (a2 : Nat) (a3 : Nat) (a4 : Nat) (l5_1899 : Int) : Option ((Int × (Nat → Nat) × (Nat → Nat) × gM × gR) ⊕ Unit) :=
  some (.inl (w32 (l5_1899 + 5), S1899, Ln1899, M1899, R1899))
def fL_c30 (ad : Nat → Nat) (sz : Nat) (S Ln : Nat → Nat) (R : gR) (M : gM) (a0 a1 a2 a3 a4 : Nat) (i0 : Int) : Option ((Int × (Nat → Nat) × (Nat → Nat) × gM × gR) ⊕ Unit) :=
  gd ((0 : Int) ≤ (w32 (i0 + 1)) ∧ (w32 (i0 + 1)) < (Ln a0 : Int)) (bd (fL_minutes ad S Ln R M a1 (M a0 (w32 (i0 + 1))) a3) fun q2 => gd ((0 : Int) ≤ (w32 (i0 + 1)) ∧ (w32 (i0 + 1)) < (Ln a0 : Int)) (bd (fX10_minutes ad S Ln R q2.2 a2 (q2.2 a0 (w32 (i0 + 1)))) fun q4 => bd (fX10_thrown ad S Ln R q4.2 a2) fun q5 => if q5 = q2.1 then (if ¬ q2.1 = 0 then (fL_c30_B1899 ad S Ln R q4.2 a0 a1 a2 a3 a4 i0) else (gd ((0 : Int) ≤ 0 ∧ 0 < (Ln a3 : Int)) (if (i_lcmp (q4.2 a3 0) q4.1) = 0 then (fL_c30_B1899 ad S Ln R q4.2 a0 a1 a2 a3 a4 i0) else (none)))) else (none)))
theorem xL_c30 {G : gE} {C : gC} {sz kk : Nat} {S Ln : Nat → Nat} {M : gM} {R : gR} {P : gP} (hC : OKC G C RL cL_law 9 (some .boolean) 1400 603072 7198826 P noX) (hkk : kk + 40 ≤ 603072) (hnn : 256 * (kk + 40) ≤ 7198826) {a0 a1 a2 a3 a4 : Nat} {i0 : Int} (h0 : S a0 = 29) (h1 : S a1 = 12) (h2 : S a2 = 13) (h3 : S a3 = 21) (h4 : S a4 = 22) (hi0 : (-2147483648 ≤ i0 ∧ i0 < 2147483648)) {r : (Int × (Nat → Nat) × (Nat → Nat) × gM × gR) ⊕ Unit} (h : fL_c30 G.2.2.2.2 sz S Ln R M a0 a1 a2 a3 a4 i0 = some r) (hJ : ∀ t, r = .inl t → ∀ sz1, ((-2147483648 ≤ t.1 ∧ t.1 < 2147483648) ∧ t.2.1 a0 = 29 ∧ t.2.1 a1 = 12 ∧ t.2.1 a2 = 13 ∧ t.2.1 a3 = 21 ∧ t.2.1 a4 = 22 ∧ Ex2 S Ln t.2.1 t.2.2.1) → JJ G C (kk + 40) (256 * (kk + 40)) sz1 t.2.1 t.2.2.1 t.2.2.2.1 t.2.2.2.2 28 [(0, .ref a0), (1, .ref a1), (2, .ref a2), (3, .ref a3), (4, .ref a4), (5, .int (iI t.1))] []) : JJ G C kk (256 * (kk)) sz S Ln M R 1846 [(0, .ref a0), (1, .ref a1), (2, .ref a2), (3, .ref a3), (4, .ref a4), (5, .int (iI i0))] [] := by
  have hB1899 : ∀ (sz1899 : Nat) (S1899 : (Nat → Nat)) (Ln1899 : (Nat → Nat)) (M1899 : gM) (R1899 : gR) (l5_1899 : Int), Ex2 S Ln S1899 Ln1899 → (-2147483648 ≤ l5_1899 ∧ l5_1899 < 2147483648) → S1899 a0 = 29 → S1899 a1 = 12 → S1899 a2 = 13 → S1899 a3 = 21 → S1899 a4 = 22 → fL_c30_B1899 G.2.2.2.2 S1899 Ln1899 R1899 M1899 a0 a1 a2 a3 a4 l5_1899 = some r → JJ G C (kk + 2) (256 * (kk + 2)) sz1899 S1899 Ln1899 M1899 R1899 1899 [(0, .ref a0), (1, .ref a1), (2, .ref a2), (3, .ref a3), (4, .ref a4), (5, .int (iI l5_1899))] [] := by
    intro sz1899 S1899 Ln1899 M1899 R1899 l5_1899 hx1899 hl5_1899 ha0_1899 ha1_1899 ha2_1899 ha3_1899 ha4_1899 h
    unfold fL_c30_B1899 at h
    refine jj_goto (tgt := 2982) hC dL_law_1899 rfl ?_
    refine jg_iinc (q := 5) (lv' := [(5, .int (iI (w32 (l5_1899 + 5)))), (0, .ref a0), (1, .ref a1), (2, .ref a2), (3, .ref a3), (4, .ref a4)]) hC dL_law_2982 rfl (by decide) rfl ?_
    refine jj_goto (tgt := 28) hC dL_law_2985 rfl ?_
    refine jj_widen (k' := kk + 40) (n' := 256 * (kk + 40)) (by omega) (by omega) ?_
    refine jj_lv (lv' := [(0, .ref a0), (1, .ref a1), (2, .ref a2), (3, .ref a3), (4, .ref a4), (5, .int (iI (w32 (l5_1899 + 5))))]) [1, 2, 3, 4, 5, 0] rfl ?_
    exact hJ _ (Option.some.inj h).symm sz1899 ⟨(w32_r _), ha0_1899, ha1_1899, ha2_1899, ha3_1899, ha4_1899, hx1899⟩
  unfold fL_c30 at h
  refine jj_aload_n hC dL_law_1846 rfl 1 rfl ?_
  refine jj_aload_n hC dL_law_1847 rfl 0 rfl ?_
  refine jj_iload hC dL_law_1848 5 rfl ?_
  refine jj_iconst hC dL_law_1850 ?_
  refine jg_iadd hC dL_law_1851 ?_
  obtain ⟨⟨ha1, hb1⟩, h⟩ := gd_e h
  refine jj_iald29 hC h0 ha1 hb1 dL_law_1852 (fun hr1 => ?_)
  refine jj_aload_n hC dL_law_1853 rfl 3 rfl ?_
  obtain ⟨q2, hq2, h⟩ := bd_e h
  refine jj_invSW hC mvwL_minutes wd1399 wd1398 (xL_minutes (OKC.tr hC) h1 hr1 h3 hq2) rfl rfl (c_le rfl) (c_le rfl) (by omega) (by omega) dL_law_1854 (po_kW (fun hr2 hx2 sz2 => ?_))
  refine jj_widen (k' := kk + 2) (n' := 256 * (kk + 2)) (by omega) (by omega) ?_
  refine jj_istore (lv' := [(6, .int (iI q2.1)), (0, .ref a0), (1, .ref a1), (2, .ref a2), (3, .ref a3), (4, .ref a4), (5, .int (iI i0))]) hC dL_law_1857 (by decide) rfl ?_
  refine jj_aload_n hC dL_law_1859 rfl 3 rfl ?_
  refine jj_aload_n hC dL_law_1860 rfl 1 rfl ?_
  refine jj_iload hC dL_law_1861 6 rfl ?_
  refine jj_iconst hC dL_law_1863 ?_
  refine jg_iadd hC dL_law_1864 ?_
  obtain ⟨⟨ha3, hb3⟩, h⟩ := gd_e h
  refine jj_iald29 hC h0 ha3 hb3 dL_law_1865 (fun hr3 => ?_)
  obtain ⟨q4, hq4, h⟩ := bd_e h
  refine jj_invV hC mvX10_minutes wd2060 wd2061 wd2059 h2 (by decide) rfl (xX10_minutes (OKC.tr hC) h2 hr3 hq4) rfl rfl (c_le rfl) (c_le rfl) (by omega) (by omega) dL_law_1866 noXk (po_kI (fun hr4 => ?_))
  refine jj_istore (lv' := [(7, .int (iI q4.1)), (6, .int (iI q2.1)), (0, .ref a0), (1, .ref a1), (2, .ref a2), (3, .ref a3), (4, .ref a4), (5, .int (iI i0))]) hC dL_law_1869 (by decide) rfl ?_
  refine jj_aload_n hC dL_law_1871 rfl 4 rfl ?_
  obtain ⟨q5, hq5, h⟩ := bd_e h
  refine jj_invV hC mvX10_thrown wd1765 wd1766 wd1764 h2 (by decide) rfl (xX10_thrown (OKC.tr hC) h2 hq5) rfl rfl (c_le rfl) (c_le rfl) (by omega) (by omega) dL_law_1872 noXk (po_kI (fun hr5 => ?_))
  refine jj_iload hC dL_law_1875 1 rfl ?_
  refine jj_icmp_eq (tgt := 1882) hC dL_law_1877 rfl hr5 hr2 (fun hc => ?_) (fun hc => ?_)
  · replace h := (if_pos hc).symm.trans h
    refine jj_iload hC dL_law_1882 1 rfl ?_
    refine jj_if_ne (tgt := 1899) hC dL_law_1884 rfl hr2 (fun hc => ?_) (fun hc => ?_)
    · replace h := (if_pos hc).symm.trans h
      refine jj_widen (k' := kk + 2) (n' := 256 * (kk + 2)) (by omega) (by omega) ?_
      refine jj_lv (lv' := [(0, .ref a0), (1, .ref a1), (2, .ref a2), (3, .ref a3), (4, .ref a4), (5, .int (iI i0))]) [2, 3, 4, 5, 6, 7] rfl ?_
      exact hB1899 sz2 S Ln q4.2 R i0 ex2_r hi0 h0 h1 h2 h3 h4 h
    · replace h := (if_neg (fun k => k hc)).symm.trans h
      refine jj_aload_n hC dL_law_1887 rfl 5 rfl ?_
      refine jj_iconst hC dL_law_1888 ?_
      obtain ⟨⟨ha6, hb6⟩, h⟩ := gd_e h
      refine jj_lald hC h3 ha6 hb6 dL_law_1889 (fun hr6 => ?_)
      refine jj_iload hC dL_law_1890 0 rfl ?_
      refine jj_i2l hC dL_law_1892 hr4 ?_
      refine jg_lcmp hC hr6 (r_il hr4) dL_law_1893 ?_
      refine jj_if_eq (tgt := 1899) hC dL_law_1894 rfl i_lcmp_r (fun hc => ?_) (fun hc => ?_)
      · replace h := (if_pos hc).symm.trans h
        refine jj_widen (k' := kk + 2) (n' := 256 * (kk + 2)) (by omega) (by omega) ?_
        refine jj_lv (lv' := [(0, .ref a0), (1, .ref a1), (2, .ref a2), (3, .ref a3), (4, .ref a4), (5, .int (iI i0))]) [2, 3, 4, 5, 6, 7] rfl ?_
        exact hB1899 sz2 S Ln q4.2 R i0 ex2_r hi0 h0 h1 h2 h3 h4 h
      · replace h := (if_neg (hc)).symm.trans h
        cases h
  · replace h := (if_neg (hc)).symm.trans h
    cases h
def fL_c31_B1955 (ad : Nat → Nat) (S1955 Ln1955 : Nat → Nat) (R1955 : gR) (M1955 : gM) (a0 : Nat) (a1 : Nat) (a2 : Nat) (a3 : Nat) (a4 : Nat) (l5_1955 : Int) : Option ((Int × (Nat → Nat) × (Nat → Nat) × gM × gR) ⊕ Unit) :=
  some (.inl (w32 (l5_1955 + 5), S1955, Ln1955, M1955, R1955))
def fL_c31 (ad : Nat → Nat) (sz : Nat) (S Ln : Nat → Nat) (R : gR) (M : gM) (a0 a1 a2 a3 a4 : Nat) (i0 : Int) : Option ((Int × (Nat → Nat) × (Nat → Nat) × gM × gR) ⊕ Unit) :=
  gd ((0 : Int) ≤ (w32 (i0 + 1)) ∧ (w32 (i0 + 1)) < (Ln a0 : Int)) (bd (fL_penalty ad S Ln R M a1 (M a0 (w32 (i0 + 1))) a3) fun q2 => gd ((0 : Int) ≤ (w32 (i0 + 1)) ∧ (w32 (i0 + 1)) < (Ln a0 : Int)) (bd (fX10_penalty ad S Ln R q2.2 a2 (q2.2 a0 (w32 (i0 + 1)))) fun q4 => bd (fX10_thrown ad S Ln R q4.2 a2) fun q5 => if q5 = q2.1 then (if ¬ q2.1 = 0 then (fL_c31_B1955 ad S Ln R q4.2 a0 a1 a2 a3 a4 i0) else (gd ((0 : Int) ≤ 0 ∧ 0 < (Ln a3 : Int)) (if (i_lcmp (q4.2 a3 0) q4.1) = 0 then (fL_c31_B1955 ad S Ln R q4.2 a0 a1 a2 a3 a4 i0) else (none)))) else (none)))
theorem xL_c31 {G : gE} {C : gC} {sz kk : Nat} {S Ln : Nat → Nat} {M : gM} {R : gR} {P : gP} (hC : OKC G C RL cL_law 9 (some .boolean) 1400 603072 7198826 P noX) (hkk : kk + 40 ≤ 603072) (hnn : 256 * (kk + 40) ≤ 7198826) {a0 a1 a2 a3 a4 : Nat} {i0 : Int} (h0 : S a0 = 29) (h1 : S a1 = 12) (h2 : S a2 = 13) (h3 : S a3 = 21) (h4 : S a4 = 22) (hi0 : (-2147483648 ≤ i0 ∧ i0 < 2147483648)) {r : (Int × (Nat → Nat) × (Nat → Nat) × gM × gR) ⊕ Unit} (h : fL_c31 G.2.2.2.2 sz S Ln R M a0 a1 a2 a3 a4 i0 = some r) (hJ : ∀ t, r = .inl t → ∀ sz1, ((-2147483648 ≤ t.1 ∧ t.1 < 2147483648) ∧ t.2.1 a0 = 29 ∧ t.2.1 a1 = 12 ∧ t.2.1 a2 = 13 ∧ t.2.1 a3 = 21 ∧ t.2.1 a4 = 22 ∧ Ex2 S Ln t.2.1 t.2.2.1) → JJ G C (kk + 40) (256 * (kk + 40)) sz1 t.2.1 t.2.2.1 t.2.2.2.1 t.2.2.2.2 28 [(0, .ref a0), (1, .ref a1), (2, .ref a2), (3, .ref a3), (4, .ref a4), (5, .int (iI t.1))] []) : JJ G C kk (256 * (kk)) sz S Ln M R 1902 [(0, .ref a0), (1, .ref a1), (2, .ref a2), (3, .ref a3), (4, .ref a4), (5, .int (iI i0))] [] := by
  have hB1955 : ∀ (sz1955 : Nat) (S1955 : (Nat → Nat)) (Ln1955 : (Nat → Nat)) (M1955 : gM) (R1955 : gR) (l5_1955 : Int), Ex2 S Ln S1955 Ln1955 → (-2147483648 ≤ l5_1955 ∧ l5_1955 < 2147483648) → S1955 a0 = 29 → S1955 a1 = 12 → S1955 a2 = 13 → S1955 a3 = 21 → S1955 a4 = 22 → fL_c31_B1955 G.2.2.2.2 S1955 Ln1955 R1955 M1955 a0 a1 a2 a3 a4 l5_1955 = some r → JJ G C (kk + 2) (256 * (kk + 2)) sz1955 S1955 Ln1955 M1955 R1955 1955 [(0, .ref a0), (1, .ref a1), (2, .ref a2), (3, .ref a3), (4, .ref a4), (5, .int (iI l5_1955))] [] := by
    intro sz1955 S1955 Ln1955 M1955 R1955 l5_1955 hx1955 hl5_1955 ha0_1955 ha1_1955 ha2_1955 ha3_1955 ha4_1955 h
    unfold fL_c31_B1955 at h
    refine jj_goto (tgt := 2982) hC dL_law_1955 rfl ?_
    refine jg_iinc (q := 5) (lv' := [(5, .int (iI (w32 (l5_1955 + 5)))), (0, .ref a0), (1, .ref a1), (2, .ref a2), (3, .ref a3), (4, .ref a4)]) hC dL_law_2982 rfl (by decide) rfl ?_
    refine jj_goto (tgt := 28) hC dL_law_2985 rfl ?_
    refine jj_widen (k' := kk + 40) (n' := 256 * (kk + 40)) (by omega) (by omega) ?_
    refine jj_lv (lv' := [(0, .ref a0), (1, .ref a1), (2, .ref a2), (3, .ref a3), (4, .ref a4), (5, .int (iI (w32 (l5_1955 + 5))))]) [1, 2, 3, 4, 5, 0] rfl ?_
    exact hJ _ (Option.some.inj h).symm sz1955 ⟨(w32_r _), ha0_1955, ha1_1955, ha2_1955, ha3_1955, ha4_1955, hx1955⟩
  unfold fL_c31 at h
  refine jj_aload_n hC dL_law_1902 rfl 1 rfl ?_
  refine jj_aload_n hC dL_law_1903 rfl 0 rfl ?_
  refine jj_iload hC dL_law_1904 5 rfl ?_
  refine jj_iconst hC dL_law_1906 ?_
  refine jg_iadd hC dL_law_1907 ?_
  obtain ⟨⟨ha1, hb1⟩, h⟩ := gd_e h
  refine jj_iald29 hC h0 ha1 hb1 dL_law_1908 (fun hr1 => ?_)
  refine jj_aload_n hC dL_law_1909 rfl 3 rfl ?_
  obtain ⟨q2, hq2, h⟩ := bd_e h
  refine jj_invSW hC mvwL_penalty wd1406 wd1405 (xL_penalty (OKC.tr hC) h1 hr1 h3 hq2) rfl rfl (c_le rfl) (c_le rfl) (by omega) (by omega) dL_law_1910 (po_kW (fun hr2 hx2 sz2 => ?_))
  refine jj_widen (k' := kk + 2) (n' := 256 * (kk + 2)) (by omega) (by omega) ?_
  refine jj_istore (lv' := [(6, .int (iI q2.1)), (0, .ref a0), (1, .ref a1), (2, .ref a2), (3, .ref a3), (4, .ref a4), (5, .int (iI i0))]) hC dL_law_1913 (by decide) rfl ?_
  refine jj_aload_n hC dL_law_1915 rfl 3 rfl ?_
  refine jj_aload_n hC dL_law_1916 rfl 1 rfl ?_
  refine jj_iload hC dL_law_1917 6 rfl ?_
  refine jj_iconst hC dL_law_1919 ?_
  refine jg_iadd hC dL_law_1920 ?_
  obtain ⟨⟨ha3, hb3⟩, h⟩ := gd_e h
  refine jj_iald29 hC h0 ha3 hb3 dL_law_1921 (fun hr3 => ?_)
  obtain ⟨q4, hq4, h⟩ := bd_e h
  refine jj_invV hC mvX10_penalty wd2064 wd2065 wd2063 h2 (by decide) rfl (xX10_penalty (OKC.tr hC) h2 hr3 hq4) rfl rfl (c_le rfl) (c_le rfl) (by omega) (by omega) dL_law_1922 noXk (po_kI (fun hr4 => ?_))
  refine jj_istore (lv' := [(7, .int (iI q4.1)), (6, .int (iI q2.1)), (0, .ref a0), (1, .ref a1), (2, .ref a2), (3, .ref a3), (4, .ref a4), (5, .int (iI i0))]) hC dL_law_1925 (by decide) rfl ?_
  refine jj_aload_n hC dL_law_1927 rfl 4 rfl ?_
  obtain ⟨q5, hq5, h⟩ := bd_e h
  refine jj_invV hC mvX10_thrown wd1765 wd1766 wd1764 h2 (by decide) rfl (xX10_thrown (OKC.tr hC) h2 hq5) rfl rfl (c_le rfl) (c_le rfl) (by omega) (by omega) dL_law_1928 noXk (po_kI (fun hr5 => ?_))
  refine jj_iload hC dL_law_1931 1 rfl ?_
  refine jj_icmp_eq (tgt := 1938) hC dL_law_1933 rfl hr5 hr2 (fun hc => ?_) (fun hc => ?_)
  · replace h := (if_pos hc).symm.trans h
    refine jj_iload hC dL_law_1938 1 rfl ?_
    refine jj_if_ne (tgt := 1955) hC dL_law_1940 rfl hr2 (fun hc => ?_) (fun hc => ?_)
    · replace h := (if_pos hc).symm.trans h
      refine jj_widen (k' := kk + 2) (n' := 256 * (kk + 2)) (by omega) (by omega) ?_
      refine jj_lv (lv' := [(0, .ref a0), (1, .ref a1), (2, .ref a2), (3, .ref a3), (4, .ref a4), (5, .int (iI i0))]) [2, 3, 4, 5, 6, 7] rfl ?_
      exact hB1955 sz2 S Ln q4.2 R i0 ex2_r hi0 h0 h1 h2 h3 h4 h
    · replace h := (if_neg (fun k => k hc)).symm.trans h
      refine jj_aload_n hC dL_law_1943 rfl 5 rfl ?_
      refine jj_iconst hC dL_law_1944 ?_
      obtain ⟨⟨ha6, hb6⟩, h⟩ := gd_e h
      refine jj_lald hC h3 ha6 hb6 dL_law_1945 (fun hr6 => ?_)
      refine jj_iload hC dL_law_1946 0 rfl ?_
      refine jj_i2l hC dL_law_1948 hr4 ?_
      refine jg_lcmp hC hr6 (r_il hr4) dL_law_1949 ?_
      refine jj_if_eq (tgt := 1955) hC dL_law_1950 rfl i_lcmp_r (fun hc => ?_) (fun hc => ?_)
      · replace h := (if_pos hc).symm.trans h
        refine jj_widen (k' := kk + 2) (n' := 256 * (kk + 2)) (by omega) (by omega) ?_
        refine jj_lv (lv' := [(0, .ref a0), (1, .ref a1), (2, .ref a2), (3, .ref a3), (4, .ref a4), (5, .int (iI i0))]) [2, 3, 4, 5, 6, 7] rfl ?_
        exact hB1955 sz2 S Ln q4.2 R i0 ex2_r hi0 h0 h1 h2 h3 h4 h
      · replace h := (if_neg (hc)).symm.trans h
        cases h
  · replace h := (if_neg (hc)).symm.trans h
    cases h
def fL_c32_B2011 (ad : Nat → Nat) (S2011 Ln2011 : Nat → Nat) (R2011 : gR) (M2011 : gM) (a0 : Nat) (a1 : Nat) (a2 : Nat) (a3 : Nat) (a4 : Nat) (l5_2011 : Int) : Option ((Int × (Nat → Nat) × (Nat → Nat) × gM × gR) ⊕ Unit) :=
  some (.inl (w32 (l5_2011 + 5), S2011, Ln2011, M2011, R2011))
def fL_c32 (ad : Nat → Nat) (sz : Nat) (S Ln : Nat → Nat) (R : gR) (M : gM) (a0 a1 a2 a3 a4 : Nat) (i0 : Int) : Option ((Int × (Nat → Nat) × (Nat → Nat) × gM × gR) ⊕ Unit) :=
  gd ((0 : Int) ≤ (w32 (i0 + 1)) ∧ (w32 (i0 + 1)) < (Ln a0 : Int)) (bd (fL_reached ad S Ln R M a1 (M a0 (w32 (i0 + 1))) a3) fun q2 => gd ((0 : Int) ≤ (w32 (i0 + 1)) ∧ (w32 (i0 + 1)) < (Ln a0 : Int)) (bd (fX10_reached ad S Ln R q2.2 a2 (q2.2 a0 (w32 (i0 + 1)))) fun q4 => bd (fX10_thrown ad S Ln R q4.2 a2) fun q5 => if q5 = q2.1 then (if ¬ q2.1 = 0 then (fL_c32_B2011 ad S Ln R q4.2 a0 a1 a2 a3 a4 i0) else (gd ((0 : Int) ≤ 0 ∧ 0 < (Ln a3 : Int)) (if (i_lcmp (q4.2 a3 0) q4.1) = 0 then (fL_c32_B2011 ad S Ln R q4.2 a0 a1 a2 a3 a4 i0) else (none)))) else (none)))
theorem xL_c32 {G : gE} {C : gC} {sz kk : Nat} {S Ln : Nat → Nat} {M : gM} {R : gR} {P : gP} (hC : OKC G C RL cL_law 9 (some .boolean) 1400 603072 7198826 P noX) (hkk : kk + 40 ≤ 603072) (hnn : 256 * (kk + 40) ≤ 7198826) {a0 a1 a2 a3 a4 : Nat} {i0 : Int} (h0 : S a0 = 29) (h1 : S a1 = 12) (h2 : S a2 = 13) (h3 : S a3 = 21) (h4 : S a4 = 22) (hi0 : (-2147483648 ≤ i0 ∧ i0 < 2147483648)) {r : (Int × (Nat → Nat) × (Nat → Nat) × gM × gR) ⊕ Unit} (h : fL_c32 G.2.2.2.2 sz S Ln R M a0 a1 a2 a3 a4 i0 = some r) (hJ : ∀ t, r = .inl t → ∀ sz1, ((-2147483648 ≤ t.1 ∧ t.1 < 2147483648) ∧ t.2.1 a0 = 29 ∧ t.2.1 a1 = 12 ∧ t.2.1 a2 = 13 ∧ t.2.1 a3 = 21 ∧ t.2.1 a4 = 22 ∧ Ex2 S Ln t.2.1 t.2.2.1) → JJ G C (kk + 40) (256 * (kk + 40)) sz1 t.2.1 t.2.2.1 t.2.2.2.1 t.2.2.2.2 28 [(0, .ref a0), (1, .ref a1), (2, .ref a2), (3, .ref a3), (4, .ref a4), (5, .int (iI t.1))] []) : JJ G C kk (256 * (kk)) sz S Ln M R 1958 [(0, .ref a0), (1, .ref a1), (2, .ref a2), (3, .ref a3), (4, .ref a4), (5, .int (iI i0))] [] := by
  have hB2011 : ∀ (sz2011 : Nat) (S2011 : (Nat → Nat)) (Ln2011 : (Nat → Nat)) (M2011 : gM) (R2011 : gR) (l5_2011 : Int), Ex2 S Ln S2011 Ln2011 → (-2147483648 ≤ l5_2011 ∧ l5_2011 < 2147483648) → S2011 a0 = 29 → S2011 a1 = 12 → S2011 a2 = 13 → S2011 a3 = 21 → S2011 a4 = 22 → fL_c32_B2011 G.2.2.2.2 S2011 Ln2011 R2011 M2011 a0 a1 a2 a3 a4 l5_2011 = some r → JJ G C (kk + 1) (256 * (kk + 1)) sz2011 S2011 Ln2011 M2011 R2011 2011 [(0, .ref a0), (1, .ref a1), (2, .ref a2), (3, .ref a3), (4, .ref a4), (5, .int (iI l5_2011))] [] := by
    intro sz2011 S2011 Ln2011 M2011 R2011 l5_2011 hx2011 hl5_2011 ha0_2011 ha1_2011 ha2_2011 ha3_2011 ha4_2011 h
    unfold fL_c32_B2011 at h
    refine jj_goto (tgt := 2982) hC dL_law_2011 rfl ?_
    refine jg_iinc (q := 5) (lv' := [(5, .int (iI (w32 (l5_2011 + 5)))), (0, .ref a0), (1, .ref a1), (2, .ref a2), (3, .ref a3), (4, .ref a4)]) hC dL_law_2982 rfl (by decide) rfl ?_
    refine jj_goto (tgt := 28) hC dL_law_2985 rfl ?_
    refine jj_widen (k' := kk + 40) (n' := 256 * (kk + 40)) (by omega) (by omega) ?_
    refine jj_lv (lv' := [(0, .ref a0), (1, .ref a1), (2, .ref a2), (3, .ref a3), (4, .ref a4), (5, .int (iI (w32 (l5_2011 + 5))))]) [1, 2, 3, 4, 5, 0] rfl ?_
    exact hJ _ (Option.some.inj h).symm sz2011 ⟨(w32_r _), ha0_2011, ha1_2011, ha2_2011, ha3_2011, ha4_2011, hx2011⟩
  unfold fL_c32 at h
  refine jj_aload_n hC dL_law_1958 rfl 1 rfl ?_
  refine jj_aload_n hC dL_law_1959 rfl 0 rfl ?_
  refine jj_iload hC dL_law_1960 5 rfl ?_
  refine jj_iconst hC dL_law_1962 ?_
  refine jg_iadd hC dL_law_1963 ?_
  obtain ⟨⟨ha1, hb1⟩, h⟩ := gd_e h
  refine jj_iald29 hC h0 ha1 hb1 dL_law_1964 (fun hr1 => ?_)
  refine jj_aload_n hC dL_law_1965 rfl 3 rfl ?_
  obtain ⟨q2, hq2, h⟩ := bd_e h
  refine jj_invSW hC mvwL_reached wd1413 wd1412 (xL_reached (OKC.tr hC) h1 hr1 h3 hq2) rfl rfl (c_le rfl) (c_le rfl) (by omega) (by omega) dL_law_1966 (po_kW (fun hr2 hx2 sz2 => ?_))
  refine jj_widen (k' := kk + 1) (n' := 256 * (kk + 1)) (by omega) (by omega) ?_
  refine jj_istore (lv' := [(6, .int (iI q2.1)), (0, .ref a0), (1, .ref a1), (2, .ref a2), (3, .ref a3), (4, .ref a4), (5, .int (iI i0))]) hC dL_law_1969 (by decide) rfl ?_
  refine jj_aload_n hC dL_law_1971 rfl 3 rfl ?_
  refine jj_aload_n hC dL_law_1972 rfl 1 rfl ?_
  refine jj_iload hC dL_law_1973 6 rfl ?_
  refine jj_iconst hC dL_law_1975 ?_
  refine jg_iadd hC dL_law_1976 ?_
  obtain ⟨⟨ha3, hb3⟩, h⟩ := gd_e h
  refine jj_iald29 hC h0 ha3 hb3 dL_law_1977 (fun hr3 => ?_)
  obtain ⟨q4, hq4, h⟩ := bd_e h
  refine jj_invV hC mvX10_reached wd2068 wd2069 wd2067 h2 (by decide) rfl (xX10_reached (OKC.tr hC) h2 hr3 hq4) rfl rfl (c_le rfl) (c_le rfl) (by omega) (by omega) dL_law_1978 noXk (po_kI (fun hr4 => ?_))
  refine jj_istore (lv' := [(7, .int (iI q4.1)), (6, .int (iI q2.1)), (0, .ref a0), (1, .ref a1), (2, .ref a2), (3, .ref a3), (4, .ref a4), (5, .int (iI i0))]) hC dL_law_1981 (by decide) rfl ?_
  refine jj_aload_n hC dL_law_1983 rfl 4 rfl ?_
  obtain ⟨q5, hq5, h⟩ := bd_e h
  refine jj_invV hC mvX10_thrown wd1765 wd1766 wd1764 h2 (by decide) rfl (xX10_thrown (OKC.tr hC) h2 hq5) rfl rfl (c_le rfl) (c_le rfl) (by omega) (by omega) dL_law_1984 noXk (po_kI (fun hr5 => ?_))
  refine jj_iload hC dL_law_1987 1 rfl ?_
  refine jj_icmp_eq (tgt := 1994) hC dL_law_1989 rfl hr5 hr2 (fun hc => ?_) (fun hc => ?_)
  · replace h := (if_pos hc).symm.trans h
    refine jj_iload hC dL_law_1994 1 rfl ?_
    refine jj_if_ne (tgt := 2011) hC dL_law_1996 rfl hr2 (fun hc => ?_) (fun hc => ?_)
    · replace h := (if_pos hc).symm.trans h
      refine jj_widen (k' := kk + 1) (n' := 256 * (kk + 1)) (by omega) (by omega) ?_
      refine jj_lv (lv' := [(0, .ref a0), (1, .ref a1), (2, .ref a2), (3, .ref a3), (4, .ref a4), (5, .int (iI i0))]) [2, 3, 4, 5, 6, 7] rfl ?_
      exact hB2011 sz2 S Ln q4.2 R i0 ex2_r hi0 h0 h1 h2 h3 h4 h
    · replace h := (if_neg (fun k => k hc)).symm.trans h
      refine jj_aload_n hC dL_law_1999 rfl 5 rfl ?_
      refine jj_iconst hC dL_law_2000 ?_
      obtain ⟨⟨ha6, hb6⟩, h⟩ := gd_e h
      refine jj_lald hC h3 ha6 hb6 dL_law_2001 (fun hr6 => ?_)
      refine jj_iload hC dL_law_2002 0 rfl ?_
      refine jj_i2l hC dL_law_2004 hr4 ?_
      refine jg_lcmp hC hr6 (r_il hr4) dL_law_2005 ?_
      refine jj_if_eq (tgt := 2011) hC dL_law_2006 rfl i_lcmp_r (fun hc => ?_) (fun hc => ?_)
      · replace h := (if_pos hc).symm.trans h
        refine jj_widen (k' := kk + 1) (n' := 256 * (kk + 1)) (by omega) (by omega) ?_
        refine jj_lv (lv' := [(0, .ref a0), (1, .ref a1), (2, .ref a2), (3, .ref a3), (4, .ref a4), (5, .int (iI i0))]) [2, 3, 4, 5, 6, 7] rfl ?_
        exact hB2011 sz2 S Ln q4.2 R i0 ex2_r hi0 h0 h1 h2 h3 h4 h
      · replace h := (if_neg (hc)).symm.trans h
        cases h
  · replace h := (if_neg (hc)).symm.trans h
    cases h
def fL_c33_B2067 (ad : Nat → Nat) (S2067 Ln2067 : Nat → Nat) (R2067 : gR) (M2067 : gM) (a0 : Nat) (a1 : Nat) (a2 : Nat) (a3 : Nat) (a4 : Nat) (l5_2067 : Int) : Option ((Int × (Nat → Nat) × (Nat → Nat) × gM × gR) ⊕ Unit) :=
  some (.inl (w32 (l5_2067 + 5), S2067, Ln2067, M2067, R2067))
def fL_c33 (ad : Nat → Nat) (sz : Nat) (S Ln : Nat → Nat) (R : gR) (M : gM) (a0 a1 a2 a3 a4 : Nat) (i0 : Int) : Option ((Int × (Nat → Nat) × (Nat → Nat) × gM × gR) ⊕ Unit) :=
  gd ((0 : Int) ≤ (w32 (i0 + 1)) ∧ (w32 (i0 + 1)) < (Ln a0 : Int)) (bd (fL_remainingDistance ad S Ln R M a1 (M a0 (w32 (i0 + 1))) a3) fun q2 => gd ((0 : Int) ≤ (w32 (i0 + 1)) ∧ (w32 (i0 + 1)) < (Ln a0 : Int)) (bd (fX10_remainingDistance ad S Ln R q2.2 a2 (q2.2 a0 (w32 (i0 + 1)))) fun q4 => bd (fX10_thrown ad S Ln R q4.2 a2) fun q5 => if q5 = q2.1 then (if ¬ q2.1 = 0 then (fL_c33_B2067 ad S Ln R q4.2 a0 a1 a2 a3 a4 i0) else (gd ((0 : Int) ≤ 0 ∧ 0 < (Ln a3 : Int)) (if (i_lcmp (q4.2 a3 0) q4.1) = 0 then (fL_c33_B2067 ad S Ln R q4.2 a0 a1 a2 a3 a4 i0) else (none)))) else (none)))
theorem xL_c33 {G : gE} {C : gC} {sz kk : Nat} {S Ln : Nat → Nat} {M : gM} {R : gR} {P : gP} (hC : OKC G C RL cL_law 9 (some .boolean) 1400 603072 7198826 P noX) (hkk : kk + 40 ≤ 603072) (hnn : 256 * (kk + 40) ≤ 7198826) {a0 a1 a2 a3 a4 : Nat} {i0 : Int} (h0 : S a0 = 29) (h1 : S a1 = 12) (h2 : S a2 = 13) (h3 : S a3 = 21) (h4 : S a4 = 22) (hi0 : (-2147483648 ≤ i0 ∧ i0 < 2147483648)) {r : (Int × (Nat → Nat) × (Nat → Nat) × gM × gR) ⊕ Unit} (h : fL_c33 G.2.2.2.2 sz S Ln R M a0 a1 a2 a3 a4 i0 = some r) (hJ : ∀ t, r = .inl t → ∀ sz1, ((-2147483648 ≤ t.1 ∧ t.1 < 2147483648) ∧ t.2.1 a0 = 29 ∧ t.2.1 a1 = 12 ∧ t.2.1 a2 = 13 ∧ t.2.1 a3 = 21 ∧ t.2.1 a4 = 22 ∧ Ex2 S Ln t.2.1 t.2.2.1) → JJ G C (kk + 40) (256 * (kk + 40)) sz1 t.2.1 t.2.2.1 t.2.2.2.1 t.2.2.2.2 28 [(0, .ref a0), (1, .ref a1), (2, .ref a2), (3, .ref a3), (4, .ref a4), (5, .int (iI t.1))] []) : JJ G C kk (256 * (kk)) sz S Ln M R 2014 [(0, .ref a0), (1, .ref a1), (2, .ref a2), (3, .ref a3), (4, .ref a4), (5, .int (iI i0))] [] := by
  have hB2067 : ∀ (sz2067 : Nat) (S2067 : (Nat → Nat)) (Ln2067 : (Nat → Nat)) (M2067 : gM) (R2067 : gR) (l5_2067 : Int), Ex2 S Ln S2067 Ln2067 → (-2147483648 ≤ l5_2067 ∧ l5_2067 < 2147483648) → S2067 a0 = 29 → S2067 a1 = 12 → S2067 a2 = 13 → S2067 a3 = 21 → S2067 a4 = 22 → fL_c33_B2067 G.2.2.2.2 S2067 Ln2067 R2067 M2067 a0 a1 a2 a3 a4 l5_2067 = some r → JJ G C (kk + 2) (256 * (kk + 2)) sz2067 S2067 Ln2067 M2067 R2067 2067 [(0, .ref a0), (1, .ref a1), (2, .ref a2), (3, .ref a3), (4, .ref a4), (5, .int (iI l5_2067))] [] := by
    intro sz2067 S2067 Ln2067 M2067 R2067 l5_2067 hx2067 hl5_2067 ha0_2067 ha1_2067 ha2_2067 ha3_2067 ha4_2067 h
    unfold fL_c33_B2067 at h
    refine jj_goto (tgt := 2982) hC dL_law_2067 rfl ?_
    refine jg_iinc (q := 5) (lv' := [(5, .int (iI (w32 (l5_2067 + 5)))), (0, .ref a0), (1, .ref a1), (2, .ref a2), (3, .ref a3), (4, .ref a4)]) hC dL_law_2982 rfl (by decide) rfl ?_
    refine jj_goto (tgt := 28) hC dL_law_2985 rfl ?_
    refine jj_widen (k' := kk + 40) (n' := 256 * (kk + 40)) (by omega) (by omega) ?_
    refine jj_lv (lv' := [(0, .ref a0), (1, .ref a1), (2, .ref a2), (3, .ref a3), (4, .ref a4), (5, .int (iI (w32 (l5_2067 + 5))))]) [1, 2, 3, 4, 5, 0] rfl ?_
    exact hJ _ (Option.some.inj h).symm sz2067 ⟨(w32_r _), ha0_2067, ha1_2067, ha2_2067, ha3_2067, ha4_2067, hx2067⟩
  unfold fL_c33 at h
  refine jj_aload_n hC dL_law_2014 rfl 1 rfl ?_
  refine jj_aload_n hC dL_law_2015 rfl 0 rfl ?_
  refine jj_iload hC dL_law_2016 5 rfl ?_
  refine jj_iconst hC dL_law_2018 ?_
  refine jg_iadd hC dL_law_2019 ?_
  obtain ⟨⟨ha1, hb1⟩, h⟩ := gd_e h
  refine jj_iald29 hC h0 ha1 hb1 dL_law_2020 (fun hr1 => ?_)
  refine jj_aload_n hC dL_law_2021 rfl 3 rfl ?_
  obtain ⟨q2, hq2, h⟩ := bd_e h
  refine jj_invSW hC mvwL_remainingDistance wd1420 wd1419 (xL_remainingDistance (OKC.tr hC) h1 hr1 h3 hq2) rfl rfl (c_le rfl) (c_le rfl) (by omega) (by omega) dL_law_2022 (po_kW (fun hr2 hx2 sz2 => ?_))
  refine jj_widen (k' := kk + 2) (n' := 256 * (kk + 2)) (by omega) (by omega) ?_
  refine jj_istore (lv' := [(6, .int (iI q2.1)), (0, .ref a0), (1, .ref a1), (2, .ref a2), (3, .ref a3), (4, .ref a4), (5, .int (iI i0))]) hC dL_law_2025 (by decide) rfl ?_
  refine jj_aload_n hC dL_law_2027 rfl 3 rfl ?_
  refine jj_aload_n hC dL_law_2028 rfl 1 rfl ?_
  refine jj_iload hC dL_law_2029 6 rfl ?_
  refine jj_iconst hC dL_law_2031 ?_
  refine jg_iadd hC dL_law_2032 ?_
  obtain ⟨⟨ha3, hb3⟩, h⟩ := gd_e h
  refine jj_iald29 hC h0 ha3 hb3 dL_law_2033 (fun hr3 => ?_)
  obtain ⟨q4, hq4, h⟩ := bd_e h
  refine jj_invV hC mvX10_remainingDistance wd2072 wd2073 wd2071 h2 (by decide) rfl (xX10_remainingDistance (OKC.tr hC) h2 hr3 hq4) rfl rfl (c_le rfl) (c_le rfl) (by omega) (by omega) dL_law_2034 noXk (po_kI (fun hr4 => ?_))
  refine jj_istore (lv' := [(7, .int (iI q4.1)), (6, .int (iI q2.1)), (0, .ref a0), (1, .ref a1), (2, .ref a2), (3, .ref a3), (4, .ref a4), (5, .int (iI i0))]) hC dL_law_2037 (by decide) rfl ?_
  refine jj_aload_n hC dL_law_2039 rfl 4 rfl ?_
  obtain ⟨q5, hq5, h⟩ := bd_e h
  refine jj_invV hC mvX10_thrown wd1765 wd1766 wd1764 h2 (by decide) rfl (xX10_thrown (OKC.tr hC) h2 hq5) rfl rfl (c_le rfl) (c_le rfl) (by omega) (by omega) dL_law_2040 noXk (po_kI (fun hr5 => ?_))
  refine jj_iload hC dL_law_2043 1 rfl ?_
  refine jj_icmp_eq (tgt := 2050) hC dL_law_2045 rfl hr5 hr2 (fun hc => ?_) (fun hc => ?_)
  · replace h := (if_pos hc).symm.trans h
    refine jj_iload hC dL_law_2050 1 rfl ?_
    refine jj_if_ne (tgt := 2067) hC dL_law_2052 rfl hr2 (fun hc => ?_) (fun hc => ?_)
    · replace h := (if_pos hc).symm.trans h
      refine jj_widen (k' := kk + 2) (n' := 256 * (kk + 2)) (by omega) (by omega) ?_
      refine jj_lv (lv' := [(0, .ref a0), (1, .ref a1), (2, .ref a2), (3, .ref a3), (4, .ref a4), (5, .int (iI i0))]) [2, 3, 4, 5, 6, 7] rfl ?_
      exact hB2067 sz2 S Ln q4.2 R i0 ex2_r hi0 h0 h1 h2 h3 h4 h
    · replace h := (if_neg (fun k => k hc)).symm.trans h
      refine jj_aload_n hC dL_law_2055 rfl 5 rfl ?_
      refine jj_iconst hC dL_law_2056 ?_
      obtain ⟨⟨ha6, hb6⟩, h⟩ := gd_e h
      refine jj_lald hC h3 ha6 hb6 dL_law_2057 (fun hr6 => ?_)
      refine jj_iload hC dL_law_2058 0 rfl ?_
      refine jj_i2l hC dL_law_2060 hr4 ?_
      refine jg_lcmp hC hr6 (r_il hr4) dL_law_2061 ?_
      refine jj_if_eq (tgt := 2067) hC dL_law_2062 rfl i_lcmp_r (fun hc => ?_) (fun hc => ?_)
      · replace h := (if_pos hc).symm.trans h
        refine jj_widen (k' := kk + 2) (n' := 256 * (kk + 2)) (by omega) (by omega) ?_
        refine jj_lv (lv' := [(0, .ref a0), (1, .ref a1), (2, .ref a2), (3, .ref a3), (4, .ref a4), (5, .int (iI i0))]) [2, 3, 4, 5, 6, 7] rfl ?_
        exact hB2067 sz2 S Ln q4.2 R i0 ex2_r hi0 h0 h1 h2 h3 h4 h
      · replace h := (if_neg (hc)).symm.trans h
        cases h
  · replace h := (if_neg (hc)).symm.trans h
    cases h
def fL_c34_B2130 (ad : Nat → Nat) (S2130 Ln2130 : Nat → Nat) (R2130 : gR) (M2130 : gM) (a0 : Nat) (a1 : Nat) (a2 : Nat) (a3 : Nat) (a4 : Nat) (l5_2130 : Int) : Option ((Int × (Nat → Nat) × (Nat → Nat) × gM × gR) ⊕ Unit) :=
  some (.inl (w32 (l5_2130 + 5), S2130, Ln2130, M2130, R2130))
def fL_c34_B2124 (ad : Nat → Nat) (S2124 Ln2124 : Nat → Nat) (R2124 : gR) (M2124 : gM) (a0 : Nat) (a1 : Nat) (a2 : Nat) (a3 : Nat) (a4 : Nat) (l5_2124 : Int) (s0_2124 : Int) (s1_2124 : Int) : Option ((Int × (Nat → Nat) × (Nat → Nat) × gM × gR) ⊕ Unit) :=
  if (i_lcmp s1_2124 s0_2124) = 0 then (fL_c34_B2130 ad S2124 Ln2124 R2124 M2124 a0 a1 a2 a3 a4 l5_2124) else (none)
def fL_c34 (ad : Nat → Nat) (sz : Nat) (S Ln : Nat → Nat) (R : gR) (M : gM) (a0 a1 a2 a3 a4 : Nat) (i0 : Int) : Option ((Int × (Nat → Nat) × (Nat → Nat) × gM × gR) ⊕ Unit) :=
  gd ((0 : Int) ≤ (w32 (i0 + 1)) ∧ (w32 (i0 + 1)) < (Ln a0 : Int)) (bd (fL_canFinish ad S Ln R M a1 (M a0 (w32 (i0 + 1))) a3) fun q2 => gd ((0 : Int) ≤ (w32 (i0 + 1)) ∧ (w32 (i0 + 1)) < (Ln a0 : Int)) (bd (fX10_canFinish ad S Ln R q2.2 a2 (q2.2 a0 (w32 (i0 + 1)))) fun q4 => bd (fX10_thrown ad S Ln R q4.2 a2) fun q5 => if q5 = q2.1 then (if ¬ q2.1 = 0 then (fL_c34_B2130 ad S Ln R q4.2 a0 a1 a2 a3 a4 i0) else (gd ((0 : Int) ≤ 0 ∧ 0 < (Ln a3 : Int)) (if q4.1 = 0 then (fL_c34_B2124 ad S Ln R q4.2 a0 a1 a2 a3 a4 i0 0 (q4.2 a3 0)) else (fL_c34_B2124 ad S Ln R q4.2 a0 a1 a2 a3 a4 i0 1 (q4.2 a3 0))))) else (none)))
theorem xL_c34 {G : gE} {C : gC} {sz kk : Nat} {S Ln : Nat → Nat} {M : gM} {R : gR} {P : gP} (hC : OKC G C RL cL_law 9 (some .boolean) 1400 603072 7198826 P noX) (hkk : kk + 40 ≤ 603072) (hnn : 256 * (kk + 40) ≤ 7198826) {a0 a1 a2 a3 a4 : Nat} {i0 : Int} (h0 : S a0 = 29) (h1 : S a1 = 12) (h2 : S a2 = 13) (h3 : S a3 = 21) (h4 : S a4 = 22) (hi0 : (-2147483648 ≤ i0 ∧ i0 < 2147483648)) {r : (Int × (Nat → Nat) × (Nat → Nat) × gM × gR) ⊕ Unit} (h : fL_c34 G.2.2.2.2 sz S Ln R M a0 a1 a2 a3 a4 i0 = some r) (hJ : ∀ t, r = .inl t → ∀ sz1, ((-2147483648 ≤ t.1 ∧ t.1 < 2147483648) ∧ t.2.1 a0 = 29 ∧ t.2.1 a1 = 12 ∧ t.2.1 a2 = 13 ∧ t.2.1 a3 = 21 ∧ t.2.1 a4 = 22 ∧ Ex2 S Ln t.2.1 t.2.2.1) → JJ G C (kk + 40) (256 * (kk + 40)) sz1 t.2.1 t.2.2.1 t.2.2.2.1 t.2.2.2.2 28 [(0, .ref a0), (1, .ref a1), (2, .ref a2), (3, .ref a3), (4, .ref a4), (5, .int (iI t.1))] []) : JJ G C kk (256 * (kk)) sz S Ln M R 2070 [(0, .ref a0), (1, .ref a1), (2, .ref a2), (3, .ref a3), (4, .ref a4), (5, .int (iI i0))] [] := by
  have hB2130 : ∀ (sz2130 : Nat) (S2130 : (Nat → Nat)) (Ln2130 : (Nat → Nat)) (M2130 : gM) (R2130 : gR) (l5_2130 : Int), Ex2 S Ln S2130 Ln2130 → (-2147483648 ≤ l5_2130 ∧ l5_2130 < 2147483648) → S2130 a0 = 29 → S2130 a1 = 12 → S2130 a2 = 13 → S2130 a3 = 21 → S2130 a4 = 22 → fL_c34_B2130 G.2.2.2.2 S2130 Ln2130 R2130 M2130 a0 a1 a2 a3 a4 l5_2130 = some r → JJ G C (kk + 2) (256 * (kk + 2)) sz2130 S2130 Ln2130 M2130 R2130 2130 [(0, .ref a0), (1, .ref a1), (2, .ref a2), (3, .ref a3), (4, .ref a4), (5, .int (iI l5_2130))] [] := by
    intro sz2130 S2130 Ln2130 M2130 R2130 l5_2130 hx2130 hl5_2130 ha0_2130 ha1_2130 ha2_2130 ha3_2130 ha4_2130 h
    unfold fL_c34_B2130 at h
    refine jj_goto (tgt := 2982) hC dL_law_2130 rfl ?_
    refine jg_iinc (q := 5) (lv' := [(5, .int (iI (w32 (l5_2130 + 5)))), (0, .ref a0), (1, .ref a1), (2, .ref a2), (3, .ref a3), (4, .ref a4)]) hC dL_law_2982 rfl (by decide) rfl ?_
    refine jj_goto (tgt := 28) hC dL_law_2985 rfl ?_
    refine jj_widen (k' := kk + 40) (n' := 256 * (kk + 40)) (by omega) (by omega) ?_
    refine jj_lv (lv' := [(0, .ref a0), (1, .ref a1), (2, .ref a2), (3, .ref a3), (4, .ref a4), (5, .int (iI (w32 (l5_2130 + 5))))]) [1, 2, 3, 4, 5, 0] rfl ?_
    exact hJ _ (Option.some.inj h).symm sz2130 ⟨(w32_r _), ha0_2130, ha1_2130, ha2_2130, ha3_2130, ha4_2130, hx2130⟩
  have hB2124 : ∀ (sz2124 : Nat) (S2124 : (Nat → Nat)) (Ln2124 : (Nat → Nat)) (M2124 : gM) (R2124 : gR) (l5_2124 : Int) (s0_2124 : Int) (s1_2124 : Int), Ex2 S Ln S2124 Ln2124 → (-2147483648 ≤ l5_2124 ∧ l5_2124 < 2147483648) → (-9223372036854775808 ≤ s0_2124 ∧ s0_2124 < 9223372036854775808) → (-9223372036854775808 ≤ s1_2124 ∧ s1_2124 < 9223372036854775808) → S2124 a0 = 29 → S2124 a1 = 12 → S2124 a2 = 13 → S2124 a3 = 21 → S2124 a4 = 22 → fL_c34_B2124 G.2.2.2.2 S2124 Ln2124 R2124 M2124 a0 a1 a2 a3 a4 l5_2124 s0_2124 s1_2124 = some r → JJ G C (kk + 2) (256 * (kk + 2)) sz2124 S2124 Ln2124 M2124 R2124 2124 [(0, .ref a0), (1, .ref a1), (2, .ref a2), (3, .ref a3), (4, .ref a4), (5, .int (iI l5_2124))] [.long (lI s0_2124), .long (lI s1_2124)] := by
    intro sz2124 S2124 Ln2124 M2124 R2124 l5_2124 s0_2124 s1_2124 hx2124 hl5_2124 hs0_2124 hs1_2124 ha0_2124 ha1_2124 ha2_2124 ha3_2124 ha4_2124 h
    unfold fL_c34_B2124 at h
    refine jg_lcmp hC hs1_2124 hs0_2124 dL_law_2124 ?_
    refine jj_if_eq (tgt := 2130) hC dL_law_2125 rfl i_lcmp_r (fun hc => ?_) (fun hc => ?_)
    · replace h := (if_pos hc).symm.trans h
      refine jj_widen (k' := kk + 2) (n' := 256 * (kk + 2)) (by omega) (by omega) ?_
      refine jj_lv (lv' := [(0, .ref a0), (1, .ref a1), (2, .ref a2), (3, .ref a3), (4, .ref a4), (5, .int (iI l5_2124))]) [0, 1, 2, 3, 4, 5] rfl ?_
      exact hB2130 sz2124 S2124 Ln2124 M2124 R2124 l5_2124 hx2124 hl5_2124 ha0_2124 ha1_2124 ha2_2124 ha3_2124 ha4_2124 h
    · replace h := (if_neg (hc)).symm.trans h
      cases h
  unfold fL_c34 at h
  refine jj_aload_n hC dL_law_2070 rfl 1 rfl ?_
  refine jj_aload_n hC dL_law_2071 rfl 0 rfl ?_
  refine jj_iload hC dL_law_2072 5 rfl ?_
  refine jj_iconst hC dL_law_2074 ?_
  refine jg_iadd hC dL_law_2075 ?_
  obtain ⟨⟨ha1, hb1⟩, h⟩ := gd_e h
  refine jj_iald29 hC h0 ha1 hb1 dL_law_2076 (fun hr1 => ?_)
  refine jj_aload_n hC dL_law_2077 rfl 3 rfl ?_
  obtain ⟨q2, hq2, h⟩ := bd_e h
  refine jj_invSW hC mvwL_canFinish wd1433 wd1432 (xL_canFinish (OKC.tr hC) h1 hr1 h3 hq2) rfl rfl (c_le rfl) (c_le rfl) (by omega) (by omega) dL_law_2078 (po_kW (fun hr2 hx2 sz2 => ?_))
  refine jj_widen (k' := kk + 2) (n' := 256 * (kk + 2)) (by omega) (by omega) ?_
  refine jj_istore (lv' := [(6, .int (iI q2.1)), (0, .ref a0), (1, .ref a1), (2, .ref a2), (3, .ref a3), (4, .ref a4), (5, .int (iI i0))]) hC dL_law_2081 (by decide) rfl ?_
  refine jj_aload_n hC dL_law_2083 rfl 3 rfl ?_
  refine jj_aload_n hC dL_law_2084 rfl 1 rfl ?_
  refine jj_iload hC dL_law_2085 6 rfl ?_
  refine jj_iconst hC dL_law_2087 ?_
  refine jg_iadd hC dL_law_2088 ?_
  obtain ⟨⟨ha3, hb3⟩, h⟩ := gd_e h
  refine jj_iald29 hC h0 ha3 hb3 dL_law_2089 (fun hr3 => ?_)
  obtain ⟨q4, hq4, h⟩ := bd_e h
  refine jj_invV hC mvX10_canFinish wd2084 wd2085 wd2083 h2 (by decide) rfl (xX10_canFinish (OKC.tr hC) h2 hr3 hq4) rfl rfl (c_le rfl) (c_le rfl) (by omega) (by omega) dL_law_2090 noXk (po_kZ (fun hr4 => ?_))
  refine jj_istore (lv' := [(7, .int (iI q4.1)), (6, .int (iI q2.1)), (0, .ref a0), (1, .ref a1), (2, .ref a2), (3, .ref a3), (4, .ref a4), (5, .int (iI i0))]) hC dL_law_2093 (by decide) rfl ?_
  refine jj_aload_n hC dL_law_2095 rfl 4 rfl ?_
  obtain ⟨q5, hq5, h⟩ := bd_e h
  refine jj_invV hC mvX10_thrown wd1765 wd1766 wd1764 h2 (by decide) rfl (xX10_thrown (OKC.tr hC) h2 hq5) rfl rfl (c_le rfl) (c_le rfl) (by omega) (by omega) dL_law_2096 noXk (po_kI (fun hr5 => ?_))
  refine jj_iload hC dL_law_2099 1 rfl ?_
  refine jj_icmp_eq (tgt := 2106) hC dL_law_2101 rfl hr5 hr2 (fun hc => ?_) (fun hc => ?_)
  · replace h := (if_pos hc).symm.trans h
    refine jj_iload hC dL_law_2106 1 rfl ?_
    refine jj_if_ne (tgt := 2130) hC dL_law_2108 rfl hr2 (fun hc => ?_) (fun hc => ?_)
    · replace h := (if_pos hc).symm.trans h
      refine jj_widen (k' := kk + 2) (n' := 256 * (kk + 2)) (by omega) (by omega) ?_
      refine jj_lv (lv' := [(0, .ref a0), (1, .ref a1), (2, .ref a2), (3, .ref a3), (4, .ref a4), (5, .int (iI i0))]) [2, 3, 4, 5, 6, 7] rfl ?_
      exact hB2130 sz2 S Ln q4.2 R i0 ex2_r hi0 h0 h1 h2 h3 h4 h
    · replace h := (if_neg (fun k => k hc)).symm.trans h
      refine jj_aload_n hC dL_law_2111 rfl 5 rfl ?_
      refine jj_iconst hC dL_law_2112 ?_
      obtain ⟨⟨ha6, hb6⟩, h⟩ := gd_e h
      refine jj_lald hC h3 ha6 hb6 dL_law_2113 (fun hr6 => ?_)
      refine jj_iload hC dL_law_2114 0 rfl ?_
      refine jj_if_eq (tgt := 2123) hC dL_law_2116 rfl (r_z hr4) (fun hc => ?_) (fun hc => ?_)
      · replace h := (if_pos hc).symm.trans h
        refine jj_lconst (z := 0) hC dL_law_2123 rfl ?_
        refine jj_widen (k' := kk + 2) (n' := 256 * (kk + 2)) (by omega) (by omega) ?_
        refine jj_lv (lv' := [(0, .ref a0), (1, .ref a1), (2, .ref a2), (3, .ref a3), (4, .ref a4), (5, .int (iI i0))]) [2, 3, 4, 5, 6, 7] rfl ?_
        exact hB2124 sz2 S Ln q4.2 R i0 0 (q4.2 a3 0) ex2_r hi0 (show (-9223372036854775808 ≤ (0 : Int) ∧ (0 : Int) < 9223372036854775808) from by decide) hr6 h0 h1 h2 h3 h4 h
      · replace h := (if_neg (hc)).symm.trans h
        refine jj_lconst (z := 1) hC dL_law_2119 rfl ?_
        refine jj_goto (tgt := 2124) hC dL_law_2120 rfl ?_
        refine jj_widen (k' := kk + 2) (n' := 256 * (kk + 2)) (by omega) (by omega) ?_
        refine jj_lv (lv' := [(0, .ref a0), (1, .ref a1), (2, .ref a2), (3, .ref a3), (4, .ref a4), (5, .int (iI i0))]) [2, 3, 4, 5, 6, 7] rfl ?_
        exact hB2124 sz2 S Ln q4.2 R i0 1 (q4.2 a3 0) ex2_r hi0 (show (-9223372036854775808 ≤ (1 : Int) ∧ (1 : Int) < 9223372036854775808) from by decide) hr6 h0 h1 h2 h3 h4 h
  · replace h := (if_neg (hc)).symm.trans h
    cases h
def fL_c35_B2193 (ad : Nat → Nat) (S2193 Ln2193 : Nat → Nat) (R2193 : gR) (M2193 : gM) (a0 : Nat) (a1 : Nat) (a2 : Nat) (a3 : Nat) (a4 : Nat) (l5_2193 : Int) : Option ((Int × (Nat → Nat) × (Nat → Nat) × gM × gR) ⊕ Unit) :=
  some (.inl (w32 (l5_2193 + 5), S2193, Ln2193, M2193, R2193))
def fL_c35_B2187 (ad : Nat → Nat) (S2187 Ln2187 : Nat → Nat) (R2187 : gR) (M2187 : gM) (a0 : Nat) (a1 : Nat) (a2 : Nat) (a3 : Nat) (a4 : Nat) (l5_2187 : Int) (s0_2187 : Int) (s1_2187 : Int) : Option ((Int × (Nat → Nat) × (Nat → Nat) × gM × gR) ⊕ Unit) :=
  if (i_lcmp s1_2187 s0_2187) = 0 then (fL_c35_B2193 ad S2187 Ln2187 R2187 M2187 a0 a1 a2 a3 a4 l5_2187) else (none)
def fL_c35 (ad : Nat → Nat) (sz : Nat) (S Ln : Nat → Nat) (R : gR) (M : gM) (a0 a1 a2 a3 a4 : Nat) (i0 : Int) : Option ((Int × (Nat → Nat) × (Nat → Nat) × gM × gR) ⊕ Unit) :=
  gd ((0 : Int) ≤ (w32 (i0 + 1)) ∧ (w32 (i0 + 1)) < (Ln a0 : Int)) (bd (fL_canFinishBySimulation ad S Ln R M a1 (M a0 (w32 (i0 + 1))) a3) fun q2 => gd ((0 : Int) ≤ (w32 (i0 + 1)) ∧ (w32 (i0 + 1)) < (Ln a0 : Int)) (bd (fX10_canFinishBySimulation ad S Ln R q2.2 a2 (q2.2 a0 (w32 (i0 + 1)))) fun q4 => bd (fX10_thrown ad S Ln R q4.2 a2) fun q5 => if q5 = q2.1 then (if ¬ q2.1 = 0 then (fL_c35_B2193 ad S Ln R q4.2 a0 a1 a2 a3 a4 i0) else (gd ((0 : Int) ≤ 0 ∧ 0 < (Ln a3 : Int)) (if q4.1 = 0 then (fL_c35_B2187 ad S Ln R q4.2 a0 a1 a2 a3 a4 i0 0 (q4.2 a3 0)) else (fL_c35_B2187 ad S Ln R q4.2 a0 a1 a2 a3 a4 i0 1 (q4.2 a3 0))))) else (none)))
theorem xL_c35 {G : gE} {C : gC} {sz kk : Nat} {S Ln : Nat → Nat} {M : gM} {R : gR} {P : gP} (hC : OKC G C RL cL_law 9 (some .boolean) 1400 603072 7198826 P noX) (hkk : kk + 40 ≤ 603072) (hnn : 256 * (kk + 40) ≤ 7198826) {a0 a1 a2 a3 a4 : Nat} {i0 : Int} (h0 : S a0 = 29) (h1 : S a1 = 12) (h2 : S a2 = 13) (h3 : S a3 = 21) (h4 : S a4 = 22) (hi0 : (-2147483648 ≤ i0 ∧ i0 < 2147483648)) {r : (Int × (Nat → Nat) × (Nat → Nat) × gM × gR) ⊕ Unit} (h : fL_c35 G.2.2.2.2 sz S Ln R M a0 a1 a2 a3 a4 i0 = some r) (hJ : ∀ t, r = .inl t → ∀ sz1, ((-2147483648 ≤ t.1 ∧ t.1 < 2147483648) ∧ t.2.1 a0 = 29 ∧ t.2.1 a1 = 12 ∧ t.2.1 a2 = 13 ∧ t.2.1 a3 = 21 ∧ t.2.1 a4 = 22 ∧ Ex2 S Ln t.2.1 t.2.2.1) → JJ G C (kk + 40) (256 * (kk + 40)) sz1 t.2.1 t.2.2.1 t.2.2.2.1 t.2.2.2.2 28 [(0, .ref a0), (1, .ref a1), (2, .ref a2), (3, .ref a3), (4, .ref a4), (5, .int (iI t.1))] []) : JJ G C kk (256 * (kk)) sz S Ln M R 2133 [(0, .ref a0), (1, .ref a1), (2, .ref a2), (3, .ref a3), (4, .ref a4), (5, .int (iI i0))] [] := by
  have hB2193 : ∀ (sz2193 : Nat) (S2193 : (Nat → Nat)) (Ln2193 : (Nat → Nat)) (M2193 : gM) (R2193 : gR) (l5_2193 : Int), Ex2 S Ln S2193 Ln2193 → (-2147483648 ≤ l5_2193 ∧ l5_2193 < 2147483648) → S2193 a0 = 29 → S2193 a1 = 12 → S2193 a2 = 13 → S2193 a3 = 21 → S2193 a4 = 22 → fL_c35_B2193 G.2.2.2.2 S2193 Ln2193 R2193 M2193 a0 a1 a2 a3 a4 l5_2193 = some r → JJ G C (kk + 2) (256 * (kk + 2)) sz2193 S2193 Ln2193 M2193 R2193 2193 [(0, .ref a0), (1, .ref a1), (2, .ref a2), (3, .ref a3), (4, .ref a4), (5, .int (iI l5_2193))] [] := by
    intro sz2193 S2193 Ln2193 M2193 R2193 l5_2193 hx2193 hl5_2193 ha0_2193 ha1_2193 ha2_2193 ha3_2193 ha4_2193 h
    unfold fL_c35_B2193 at h
    refine jj_goto (tgt := 2982) hC dL_law_2193 rfl ?_
    refine jg_iinc (q := 5) (lv' := [(5, .int (iI (w32 (l5_2193 + 5)))), (0, .ref a0), (1, .ref a1), (2, .ref a2), (3, .ref a3), (4, .ref a4)]) hC dL_law_2982 rfl (by decide) rfl ?_
    refine jj_goto (tgt := 28) hC dL_law_2985 rfl ?_
    refine jj_widen (k' := kk + 40) (n' := 256 * (kk + 40)) (by omega) (by omega) ?_
    refine jj_lv (lv' := [(0, .ref a0), (1, .ref a1), (2, .ref a2), (3, .ref a3), (4, .ref a4), (5, .int (iI (w32 (l5_2193 + 5))))]) [1, 2, 3, 4, 5, 0] rfl ?_
    exact hJ _ (Option.some.inj h).symm sz2193 ⟨(w32_r _), ha0_2193, ha1_2193, ha2_2193, ha3_2193, ha4_2193, hx2193⟩
  have hB2187 : ∀ (sz2187 : Nat) (S2187 : (Nat → Nat)) (Ln2187 : (Nat → Nat)) (M2187 : gM) (R2187 : gR) (l5_2187 : Int) (s0_2187 : Int) (s1_2187 : Int), Ex2 S Ln S2187 Ln2187 → (-2147483648 ≤ l5_2187 ∧ l5_2187 < 2147483648) → (-9223372036854775808 ≤ s0_2187 ∧ s0_2187 < 9223372036854775808) → (-9223372036854775808 ≤ s1_2187 ∧ s1_2187 < 9223372036854775808) → S2187 a0 = 29 → S2187 a1 = 12 → S2187 a2 = 13 → S2187 a3 = 21 → S2187 a4 = 22 → fL_c35_B2187 G.2.2.2.2 S2187 Ln2187 R2187 M2187 a0 a1 a2 a3 a4 l5_2187 s0_2187 s1_2187 = some r → JJ G C (kk + 2) (256 * (kk + 2)) sz2187 S2187 Ln2187 M2187 R2187 2187 [(0, .ref a0), (1, .ref a1), (2, .ref a2), (3, .ref a3), (4, .ref a4), (5, .int (iI l5_2187))] [.long (lI s0_2187), .long (lI s1_2187)] := by
    intro sz2187 S2187 Ln2187 M2187 R2187 l5_2187 s0_2187 s1_2187 hx2187 hl5_2187 hs0_2187 hs1_2187 ha0_2187 ha1_2187 ha2_2187 ha3_2187 ha4_2187 h
    unfold fL_c35_B2187 at h
    refine jg_lcmp hC hs1_2187 hs0_2187 dL_law_2187 ?_
    refine jj_if_eq (tgt := 2193) hC dL_law_2188 rfl i_lcmp_r (fun hc => ?_) (fun hc => ?_)
    · replace h := (if_pos hc).symm.trans h
      refine jj_widen (k' := kk + 2) (n' := 256 * (kk + 2)) (by omega) (by omega) ?_
      refine jj_lv (lv' := [(0, .ref a0), (1, .ref a1), (2, .ref a2), (3, .ref a3), (4, .ref a4), (5, .int (iI l5_2187))]) [0, 1, 2, 3, 4, 5] rfl ?_
      exact hB2193 sz2187 S2187 Ln2187 M2187 R2187 l5_2187 hx2187 hl5_2187 ha0_2187 ha1_2187 ha2_2187 ha3_2187 ha4_2187 h
    · replace h := (if_neg (hc)).symm.trans h
      cases h
  unfold fL_c35 at h
  refine jj_aload_n hC dL_law_2133 rfl 1 rfl ?_
  refine jj_aload_n hC dL_law_2134 rfl 0 rfl ?_
  refine jj_iload hC dL_law_2135 5 rfl ?_
  refine jj_iconst hC dL_law_2137 ?_
  refine jg_iadd hC dL_law_2138 ?_
  obtain ⟨⟨ha1, hb1⟩, h⟩ := gd_e h
  refine jj_iald29 hC h0 ha1 hb1 dL_law_2139 (fun hr1 => ?_)
  refine jj_aload_n hC dL_law_2140 rfl 3 rfl ?_
  obtain ⟨q2, hq2, h⟩ := bd_e h
  refine jj_invSW hC mvwL_canFinishBySimulation wd1441 wd1440 (xL_canFinishBySimulation (OKC.tr hC) h1 hr1 h3 hq2) rfl rfl (c_le rfl) (c_le rfl) (by omega) (by omega) dL_law_2141 (po_kW (fun hr2 hx2 sz2 => ?_))
  refine jj_widen (k' := kk + 2) (n' := 256 * (kk + 2)) (by omega) (by omega) ?_
  refine jj_istore (lv' := [(6, .int (iI q2.1)), (0, .ref a0), (1, .ref a1), (2, .ref a2), (3, .ref a3), (4, .ref a4), (5, .int (iI i0))]) hC dL_law_2144 (by decide) rfl ?_
  refine jj_aload_n hC dL_law_2146 rfl 3 rfl ?_
  refine jj_aload_n hC dL_law_2147 rfl 1 rfl ?_
  refine jj_iload hC dL_law_2148 6 rfl ?_
  refine jj_iconst hC dL_law_2150 ?_
  refine jg_iadd hC dL_law_2151 ?_
  obtain ⟨⟨ha3, hb3⟩, h⟩ := gd_e h
  refine jj_iald29 hC h0 ha3 hb3 dL_law_2152 (fun hr3 => ?_)
  obtain ⟨q4, hq4, h⟩ := bd_e h
  refine jj_invV hC mvX10_canFinishBySimulation wd2088 wd2089 wd2087 h2 (by decide) rfl (xX10_canFinishBySimulation (OKC.tr hC) h2 hr3 hq4) rfl rfl (c_le rfl) (c_le rfl) (by omega) (by omega) dL_law_2153 noXk (po_kZ (fun hr4 => ?_))
  refine jj_istore (lv' := [(7, .int (iI q4.1)), (6, .int (iI q2.1)), (0, .ref a0), (1, .ref a1), (2, .ref a2), (3, .ref a3), (4, .ref a4), (5, .int (iI i0))]) hC dL_law_2156 (by decide) rfl ?_
  refine jj_aload_n hC dL_law_2158 rfl 4 rfl ?_
  obtain ⟨q5, hq5, h⟩ := bd_e h
  refine jj_invV hC mvX10_thrown wd1765 wd1766 wd1764 h2 (by decide) rfl (xX10_thrown (OKC.tr hC) h2 hq5) rfl rfl (c_le rfl) (c_le rfl) (by omega) (by omega) dL_law_2159 noXk (po_kI (fun hr5 => ?_))
  refine jj_iload hC dL_law_2162 1 rfl ?_
  refine jj_icmp_eq (tgt := 2169) hC dL_law_2164 rfl hr5 hr2 (fun hc => ?_) (fun hc => ?_)
  · replace h := (if_pos hc).symm.trans h
    refine jj_iload hC dL_law_2169 1 rfl ?_
    refine jj_if_ne (tgt := 2193) hC dL_law_2171 rfl hr2 (fun hc => ?_) (fun hc => ?_)
    · replace h := (if_pos hc).symm.trans h
      refine jj_widen (k' := kk + 2) (n' := 256 * (kk + 2)) (by omega) (by omega) ?_
      refine jj_lv (lv' := [(0, .ref a0), (1, .ref a1), (2, .ref a2), (3, .ref a3), (4, .ref a4), (5, .int (iI i0))]) [2, 3, 4, 5, 6, 7] rfl ?_
      exact hB2193 sz2 S Ln q4.2 R i0 ex2_r hi0 h0 h1 h2 h3 h4 h
    · replace h := (if_neg (fun k => k hc)).symm.trans h
      refine jj_aload_n hC dL_law_2174 rfl 5 rfl ?_
      refine jj_iconst hC dL_law_2175 ?_
      obtain ⟨⟨ha6, hb6⟩, h⟩ := gd_e h
      refine jj_lald hC h3 ha6 hb6 dL_law_2176 (fun hr6 => ?_)
      refine jj_iload hC dL_law_2177 0 rfl ?_
      refine jj_if_eq (tgt := 2186) hC dL_law_2179 rfl (r_z hr4) (fun hc => ?_) (fun hc => ?_)
      · replace h := (if_pos hc).symm.trans h
        refine jj_lconst (z := 0) hC dL_law_2186 rfl ?_
        refine jj_widen (k' := kk + 2) (n' := 256 * (kk + 2)) (by omega) (by omega) ?_
        refine jj_lv (lv' := [(0, .ref a0), (1, .ref a1), (2, .ref a2), (3, .ref a3), (4, .ref a4), (5, .int (iI i0))]) [2, 3, 4, 5, 6, 7] rfl ?_
        exact hB2187 sz2 S Ln q4.2 R i0 0 (q4.2 a3 0) ex2_r hi0 (show (-9223372036854775808 ≤ (0 : Int) ∧ (0 : Int) < 9223372036854775808) from by decide) hr6 h0 h1 h2 h3 h4 h
      · replace h := (if_neg (hc)).symm.trans h
        refine jj_lconst (z := 1) hC dL_law_2182 rfl ?_
        refine jj_goto (tgt := 2187) hC dL_law_2183 rfl ?_
        refine jj_widen (k' := kk + 2) (n' := 256 * (kk + 2)) (by omega) (by omega) ?_
        refine jj_lv (lv' := [(0, .ref a0), (1, .ref a1), (2, .ref a2), (3, .ref a3), (4, .ref a4), (5, .int (iI i0))]) [2, 3, 4, 5, 6, 7] rfl ?_
        exact hB2187 sz2 S Ln q4.2 R i0 1 (q4.2 a3 0) ex2_r hi0 (show (-9223372036854775808 ≤ (1 : Int) ∧ (1 : Int) < 9223372036854775808) from by decide) hr6 h0 h1 h2 h3 h4 h
  · replace h := (if_neg (hc)).symm.trans h
    cases h
def fL_c36_B2249 (ad : Nat → Nat) (S2249 Ln2249 : Nat → Nat) (R2249 : gR) (M2249 : gM) (a0 : Nat) (a1 : Nat) (a2 : Nat) (a3 : Nat) (a4 : Nat) (l5_2249 : Int) : Option ((Int × (Nat → Nat) × (Nat → Nat) × gM × gR) ⊕ Unit) :=
  some (.inl (w32 (l5_2249 + 5), S2249, Ln2249, M2249, R2249))
def fL_c36 (ad : Nat → Nat) (sz : Nat) (S Ln : Nat → Nat) (R : gR) (M : gM) (a0 a1 a2 a3 a4 : Nat) (i0 : Int) : Option ((Int × (Nat → Nat) × (Nat → Nat) × gM × gR) ⊕ Unit) :=
  gd ((0 : Int) ≤ (w32 (i0 + 1)) ∧ (w32 (i0 + 1)) < (Ln a0 : Int)) (bd (fL_achievedDistance ad S Ln R M a1 (M a0 (w32 (i0 + 1))) a3) fun q2 => gd ((0 : Int) ≤ (w32 (i0 + 1)) ∧ (w32 (i0 + 1)) < (Ln a0 : Int)) (bd (fX10_achievedDistance ad S Ln R q2.2 a2 (q2.2 a0 (w32 (i0 + 1)))) fun q4 => bd (fX10_thrown ad S Ln R q4.2 a2) fun q5 => if q5 = q2.1 then (if ¬ q2.1 = 0 then (fL_c36_B2249 ad S Ln R q4.2 a0 a1 a2 a3 a4 i0) else (gd ((0 : Int) ≤ 0 ∧ 0 < (Ln a3 : Int)) (if (i_lcmp (q4.2 a3 0) q4.1) = 0 then (fL_c36_B2249 ad S Ln R q4.2 a0 a1 a2 a3 a4 i0) else (none)))) else (none)))
theorem xL_c36 {G : gE} {C : gC} {sz kk : Nat} {S Ln : Nat → Nat} {M : gM} {R : gR} {P : gP} (hC : OKC G C RL cL_law 9 (some .boolean) 1400 603072 7198826 P noX) (hkk : kk + 40 ≤ 603072) (hnn : 256 * (kk + 40) ≤ 7198826) {a0 a1 a2 a3 a4 : Nat} {i0 : Int} (h0 : S a0 = 29) (h1 : S a1 = 12) (h2 : S a2 = 13) (h3 : S a3 = 21) (h4 : S a4 = 22) (hi0 : (-2147483648 ≤ i0 ∧ i0 < 2147483648)) {r : (Int × (Nat → Nat) × (Nat → Nat) × gM × gR) ⊕ Unit} (h : fL_c36 G.2.2.2.2 sz S Ln R M a0 a1 a2 a3 a4 i0 = some r) (hJ : ∀ t, r = .inl t → ∀ sz1, ((-2147483648 ≤ t.1 ∧ t.1 < 2147483648) ∧ t.2.1 a0 = 29 ∧ t.2.1 a1 = 12 ∧ t.2.1 a2 = 13 ∧ t.2.1 a3 = 21 ∧ t.2.1 a4 = 22 ∧ Ex2 S Ln t.2.1 t.2.2.1) → JJ G C (kk + 40) (256 * (kk + 40)) sz1 t.2.1 t.2.2.1 t.2.2.2.1 t.2.2.2.2 28 [(0, .ref a0), (1, .ref a1), (2, .ref a2), (3, .ref a3), (4, .ref a4), (5, .int (iI t.1))] []) : JJ G C kk (256 * (kk)) sz S Ln M R 2196 [(0, .ref a0), (1, .ref a1), (2, .ref a2), (3, .ref a3), (4, .ref a4), (5, .int (iI i0))] [] := by
  have hB2249 : ∀ (sz2249 : Nat) (S2249 : (Nat → Nat)) (Ln2249 : (Nat → Nat)) (M2249 : gM) (R2249 : gR) (l5_2249 : Int), Ex2 S Ln S2249 Ln2249 → (-2147483648 ≤ l5_2249 ∧ l5_2249 < 2147483648) → S2249 a0 = 29 → S2249 a1 = 12 → S2249 a2 = 13 → S2249 a3 = 21 → S2249 a4 = 22 → fL_c36_B2249 G.2.2.2.2 S2249 Ln2249 R2249 M2249 a0 a1 a2 a3 a4 l5_2249 = some r → JJ G C (kk + 1) (256 * (kk + 1)) sz2249 S2249 Ln2249 M2249 R2249 2249 [(0, .ref a0), (1, .ref a1), (2, .ref a2), (3, .ref a3), (4, .ref a4), (5, .int (iI l5_2249))] [] := by
    intro sz2249 S2249 Ln2249 M2249 R2249 l5_2249 hx2249 hl5_2249 ha0_2249 ha1_2249 ha2_2249 ha3_2249 ha4_2249 h
    unfold fL_c36_B2249 at h
    refine jj_goto (tgt := 2982) hC dL_law_2249 rfl ?_
    refine jg_iinc (q := 5) (lv' := [(5, .int (iI (w32 (l5_2249 + 5)))), (0, .ref a0), (1, .ref a1), (2, .ref a2), (3, .ref a3), (4, .ref a4)]) hC dL_law_2982 rfl (by decide) rfl ?_
    refine jj_goto (tgt := 28) hC dL_law_2985 rfl ?_
    refine jj_widen (k' := kk + 40) (n' := 256 * (kk + 40)) (by omega) (by omega) ?_
    refine jj_lv (lv' := [(0, .ref a0), (1, .ref a1), (2, .ref a2), (3, .ref a3), (4, .ref a4), (5, .int (iI (w32 (l5_2249 + 5))))]) [1, 2, 3, 4, 5, 0] rfl ?_
    exact hJ _ (Option.some.inj h).symm sz2249 ⟨(w32_r _), ha0_2249, ha1_2249, ha2_2249, ha3_2249, ha4_2249, hx2249⟩
  unfold fL_c36 at h
  refine jj_aload_n hC dL_law_2196 rfl 1 rfl ?_
  refine jj_aload_n hC dL_law_2197 rfl 0 rfl ?_
  refine jj_iload hC dL_law_2198 5 rfl ?_
  refine jj_iconst hC dL_law_2200 ?_
  refine jg_iadd hC dL_law_2201 ?_
  obtain ⟨⟨ha1, hb1⟩, h⟩ := gd_e h
  refine jj_iald29 hC h0 ha1 hb1 dL_law_2202 (fun hr1 => ?_)
  refine jj_aload_n hC dL_law_2203 rfl 3 rfl ?_
  obtain ⟨q2, hq2, h⟩ := bd_e h
  refine jj_invSW hC mvwL_achievedDistance wd1449 wd1448 (xL_achievedDistance (OKC.tr hC) h1 hr1 h3 hq2) rfl rfl (c_le rfl) (c_le rfl) (by omega) (by omega) dL_law_2204 (po_kW (fun hr2 hx2 sz2 => ?_))
  refine jj_widen (k' := kk + 1) (n' := 256 * (kk + 1)) (by omega) (by omega) ?_
  refine jj_istore (lv' := [(6, .int (iI q2.1)), (0, .ref a0), (1, .ref a1), (2, .ref a2), (3, .ref a3), (4, .ref a4), (5, .int (iI i0))]) hC dL_law_2207 (by decide) rfl ?_
  refine jj_aload_n hC dL_law_2209 rfl 3 rfl ?_
  refine jj_aload_n hC dL_law_2210 rfl 1 rfl ?_
  refine jj_iload hC dL_law_2211 6 rfl ?_
  refine jj_iconst hC dL_law_2213 ?_
  refine jg_iadd hC dL_law_2214 ?_
  obtain ⟨⟨ha3, hb3⟩, h⟩ := gd_e h
  refine jj_iald29 hC h0 ha3 hb3 dL_law_2215 (fun hr3 => ?_)
  obtain ⟨q4, hq4, h⟩ := bd_e h
  refine jj_invV hC mvX10_achievedDistance wd2093 wd2094 wd2092 h2 (by decide) rfl (xX10_achievedDistance (OKC.tr hC) h2 hr3 hq4) rfl rfl (c_le rfl) (c_le rfl) (by omega) (by omega) dL_law_2216 noXk (po_kI (fun hr4 => ?_))
  refine jj_istore (lv' := [(7, .int (iI q4.1)), (6, .int (iI q2.1)), (0, .ref a0), (1, .ref a1), (2, .ref a2), (3, .ref a3), (4, .ref a4), (5, .int (iI i0))]) hC dL_law_2219 (by decide) rfl ?_
  refine jj_aload_n hC dL_law_2221 rfl 4 rfl ?_
  obtain ⟨q5, hq5, h⟩ := bd_e h
  refine jj_invV hC mvX10_thrown wd1765 wd1766 wd1764 h2 (by decide) rfl (xX10_thrown (OKC.tr hC) h2 hq5) rfl rfl (c_le rfl) (c_le rfl) (by omega) (by omega) dL_law_2222 noXk (po_kI (fun hr5 => ?_))
  refine jj_iload hC dL_law_2225 1 rfl ?_
  refine jj_icmp_eq (tgt := 2232) hC dL_law_2227 rfl hr5 hr2 (fun hc => ?_) (fun hc => ?_)
  · replace h := (if_pos hc).symm.trans h
    refine jj_iload hC dL_law_2232 1 rfl ?_
    refine jj_if_ne (tgt := 2249) hC dL_law_2234 rfl hr2 (fun hc => ?_) (fun hc => ?_)
    · replace h := (if_pos hc).symm.trans h
      refine jj_widen (k' := kk + 1) (n' := 256 * (kk + 1)) (by omega) (by omega) ?_
      refine jj_lv (lv' := [(0, .ref a0), (1, .ref a1), (2, .ref a2), (3, .ref a3), (4, .ref a4), (5, .int (iI i0))]) [2, 3, 4, 5, 6, 7] rfl ?_
      exact hB2249 sz2 S Ln q4.2 R i0 ex2_r hi0 h0 h1 h2 h3 h4 h
    · replace h := (if_neg (fun k => k hc)).symm.trans h
      refine jj_aload_n hC dL_law_2237 rfl 5 rfl ?_
      refine jj_iconst hC dL_law_2238 ?_
      obtain ⟨⟨ha6, hb6⟩, h⟩ := gd_e h
      refine jj_lald hC h3 ha6 hb6 dL_law_2239 (fun hr6 => ?_)
      refine jj_iload hC dL_law_2240 0 rfl ?_
      refine jj_i2l hC dL_law_2242 hr4 ?_
      refine jg_lcmp hC hr6 (r_il hr4) dL_law_2243 ?_
      refine jj_if_eq (tgt := 2249) hC dL_law_2244 rfl i_lcmp_r (fun hc => ?_) (fun hc => ?_)
      · replace h := (if_pos hc).symm.trans h
        refine jj_widen (k' := kk + 1) (n' := 256 * (kk + 1)) (by omega) (by omega) ?_
        refine jj_lv (lv' := [(0, .ref a0), (1, .ref a1), (2, .ref a2), (3, .ref a3), (4, .ref a4), (5, .int (iI i0))]) [2, 3, 4, 5, 6, 7] rfl ?_
        exact hB2249 sz2 S Ln q4.2 R i0 ex2_r hi0 h0 h1 h2 h3 h4 h
      · replace h := (if_neg (hc)).symm.trans h
        cases h
  · replace h := (if_neg (hc)).symm.trans h
    cases h
def fL_c37_B2305 (ad : Nat → Nat) (S2305 Ln2305 : Nat → Nat) (R2305 : gR) (M2305 : gM) (a0 : Nat) (a1 : Nat) (a2 : Nat) (a3 : Nat) (a4 : Nat) (l5_2305 : Int) : Option ((Int × (Nat → Nat) × (Nat → Nat) × gM × gR) ⊕ Unit) :=
  some (.inl (w32 (l5_2305 + 5), S2305, Ln2305, M2305, R2305))
def fL_c37 (ad : Nat → Nat) (sz : Nat) (S Ln : Nat → Nat) (R : gR) (M : gM) (a0 a1 a2 a3 a4 : Nat) (i0 : Int) : Option ((Int × (Nat → Nat) × (Nat → Nat) × gM × gR) ⊕ Unit) :=
  gd ((0 : Int) ≤ (w32 (i0 + 1)) ∧ (w32 (i0 + 1)) < (Ln a0 : Int)) (bd (fL_dayScore ad S Ln R M a1 (M a0 (w32 (i0 + 1))) a3) fun q2 => gd ((0 : Int) ≤ (w32 (i0 + 1)) ∧ (w32 (i0 + 1)) < (Ln a0 : Int)) (bd (fX10_dayScore ad S Ln R q2.2 a2 (q2.2 a0 (w32 (i0 + 1)))) fun q4 => bd (fX10_thrown ad S Ln R q4.2 a2) fun q5 => if q5 = q2.1 then (if ¬ q2.1 = 0 then (fL_c37_B2305 ad S Ln R q4.2 a0 a1 a2 a3 a4 i0) else (gd ((0 : Int) ≤ 0 ∧ 0 < (Ln a3 : Int)) (if (i_lcmp (q4.2 a3 0) q4.1) = 0 then (fL_c37_B2305 ad S Ln R q4.2 a0 a1 a2 a3 a4 i0) else (none)))) else (none)))
theorem xL_c37 {G : gE} {C : gC} {sz kk : Nat} {S Ln : Nat → Nat} {M : gM} {R : gR} {P : gP} (hC : OKC G C RL cL_law 9 (some .boolean) 1400 603072 7198826 P noX) (hkk : kk + 40 ≤ 603072) (hnn : 256 * (kk + 40) ≤ 7198826) {a0 a1 a2 a3 a4 : Nat} {i0 : Int} (h0 : S a0 = 29) (h1 : S a1 = 12) (h2 : S a2 = 13) (h3 : S a3 = 21) (h4 : S a4 = 22) (hi0 : (-2147483648 ≤ i0 ∧ i0 < 2147483648)) {r : (Int × (Nat → Nat) × (Nat → Nat) × gM × gR) ⊕ Unit} (h : fL_c37 G.2.2.2.2 sz S Ln R M a0 a1 a2 a3 a4 i0 = some r) (hJ : ∀ t, r = .inl t → ∀ sz1, ((-2147483648 ≤ t.1 ∧ t.1 < 2147483648) ∧ t.2.1 a0 = 29 ∧ t.2.1 a1 = 12 ∧ t.2.1 a2 = 13 ∧ t.2.1 a3 = 21 ∧ t.2.1 a4 = 22 ∧ Ex2 S Ln t.2.1 t.2.2.1) → JJ G C (kk + 40) (256 * (kk + 40)) sz1 t.2.1 t.2.2.1 t.2.2.2.1 t.2.2.2.2 28 [(0, .ref a0), (1, .ref a1), (2, .ref a2), (3, .ref a3), (4, .ref a4), (5, .int (iI t.1))] []) : JJ G C kk (256 * (kk)) sz S Ln M R 2252 [(0, .ref a0), (1, .ref a1), (2, .ref a2), (3, .ref a3), (4, .ref a4), (5, .int (iI i0))] [] := by
  have hB2305 : ∀ (sz2305 : Nat) (S2305 : (Nat → Nat)) (Ln2305 : (Nat → Nat)) (M2305 : gM) (R2305 : gR) (l5_2305 : Int), Ex2 S Ln S2305 Ln2305 → (-2147483648 ≤ l5_2305 ∧ l5_2305 < 2147483648) → S2305 a0 = 29 → S2305 a1 = 12 → S2305 a2 = 13 → S2305 a3 = 21 → S2305 a4 = 22 → fL_c37_B2305 G.2.2.2.2 S2305 Ln2305 R2305 M2305 a0 a1 a2 a3 a4 l5_2305 = some r → JJ G C (kk + 1) (256 * (kk + 1)) sz2305 S2305 Ln2305 M2305 R2305 2305 [(0, .ref a0), (1, .ref a1), (2, .ref a2), (3, .ref a3), (4, .ref a4), (5, .int (iI l5_2305))] [] := by
    intro sz2305 S2305 Ln2305 M2305 R2305 l5_2305 hx2305 hl5_2305 ha0_2305 ha1_2305 ha2_2305 ha3_2305 ha4_2305 h
    unfold fL_c37_B2305 at h
    refine jj_goto (tgt := 2982) hC dL_law_2305 rfl ?_
    refine jg_iinc (q := 5) (lv' := [(5, .int (iI (w32 (l5_2305 + 5)))), (0, .ref a0), (1, .ref a1), (2, .ref a2), (3, .ref a3), (4, .ref a4)]) hC dL_law_2982 rfl (by decide) rfl ?_
    refine jj_goto (tgt := 28) hC dL_law_2985 rfl ?_
    refine jj_widen (k' := kk + 40) (n' := 256 * (kk + 40)) (by omega) (by omega) ?_
    refine jj_lv (lv' := [(0, .ref a0), (1, .ref a1), (2, .ref a2), (3, .ref a3), (4, .ref a4), (5, .int (iI (w32 (l5_2305 + 5))))]) [1, 2, 3, 4, 5, 0] rfl ?_
    exact hJ _ (Option.some.inj h).symm sz2305 ⟨(w32_r _), ha0_2305, ha1_2305, ha2_2305, ha3_2305, ha4_2305, hx2305⟩
  unfold fL_c37 at h
  refine jj_aload_n hC dL_law_2252 rfl 1 rfl ?_
  refine jj_aload_n hC dL_law_2253 rfl 0 rfl ?_
  refine jj_iload hC dL_law_2254 5 rfl ?_
  refine jj_iconst hC dL_law_2256 ?_
  refine jg_iadd hC dL_law_2257 ?_
  obtain ⟨⟨ha1, hb1⟩, h⟩ := gd_e h
  refine jj_iald29 hC h0 ha1 hb1 dL_law_2258 (fun hr1 => ?_)
  refine jj_aload_n hC dL_law_2259 rfl 3 rfl ?_
  obtain ⟨q2, hq2, h⟩ := bd_e h
  refine jj_invSW hC mvwL_dayScore wd1457 wd1456 (xL_dayScore (OKC.tr hC) h1 hr1 h3 hq2) rfl rfl (c_le rfl) (c_le rfl) (by omega) (by omega) dL_law_2260 (po_kW (fun hr2 hx2 sz2 => ?_))
  refine jj_widen (k' := kk + 1) (n' := 256 * (kk + 1)) (by omega) (by omega) ?_
  refine jj_istore (lv' := [(6, .int (iI q2.1)), (0, .ref a0), (1, .ref a1), (2, .ref a2), (3, .ref a3), (4, .ref a4), (5, .int (iI i0))]) hC dL_law_2263 (by decide) rfl ?_
  refine jj_aload_n hC dL_law_2265 rfl 3 rfl ?_
  refine jj_aload_n hC dL_law_2266 rfl 1 rfl ?_
  refine jj_iload hC dL_law_2267 6 rfl ?_
  refine jj_iconst hC dL_law_2269 ?_
  refine jg_iadd hC dL_law_2270 ?_
  obtain ⟨⟨ha3, hb3⟩, h⟩ := gd_e h
  refine jj_iald29 hC h0 ha3 hb3 dL_law_2271 (fun hr3 => ?_)
  obtain ⟨q4, hq4, h⟩ := bd_e h
  refine jj_invV hC mvX10_dayScore wd2097 wd2098 wd2096 h2 (by decide) rfl (xX10_dayScore (OKC.tr hC) h2 hr3 hq4) rfl rfl (c_le rfl) (c_le rfl) (by omega) (by omega) dL_law_2272 noXk (po_kI (fun hr4 => ?_))
  refine jj_istore (lv' := [(7, .int (iI q4.1)), (6, .int (iI q2.1)), (0, .ref a0), (1, .ref a1), (2, .ref a2), (3, .ref a3), (4, .ref a4), (5, .int (iI i0))]) hC dL_law_2275 (by decide) rfl ?_
  refine jj_aload_n hC dL_law_2277 rfl 4 rfl ?_
  obtain ⟨q5, hq5, h⟩ := bd_e h
  refine jj_invV hC mvX10_thrown wd1765 wd1766 wd1764 h2 (by decide) rfl (xX10_thrown (OKC.tr hC) h2 hq5) rfl rfl (c_le rfl) (c_le rfl) (by omega) (by omega) dL_law_2278 noXk (po_kI (fun hr5 => ?_))
  refine jj_iload hC dL_law_2281 1 rfl ?_
  refine jj_icmp_eq (tgt := 2288) hC dL_law_2283 rfl hr5 hr2 (fun hc => ?_) (fun hc => ?_)
  · replace h := (if_pos hc).symm.trans h
    refine jj_iload hC dL_law_2288 1 rfl ?_
    refine jj_if_ne (tgt := 2305) hC dL_law_2290 rfl hr2 (fun hc => ?_) (fun hc => ?_)
    · replace h := (if_pos hc).symm.trans h
      refine jj_widen (k' := kk + 1) (n' := 256 * (kk + 1)) (by omega) (by omega) ?_
      refine jj_lv (lv' := [(0, .ref a0), (1, .ref a1), (2, .ref a2), (3, .ref a3), (4, .ref a4), (5, .int (iI i0))]) [2, 3, 4, 5, 6, 7] rfl ?_
      exact hB2305 sz2 S Ln q4.2 R i0 ex2_r hi0 h0 h1 h2 h3 h4 h
    · replace h := (if_neg (fun k => k hc)).symm.trans h
      refine jj_aload_n hC dL_law_2293 rfl 5 rfl ?_
      refine jj_iconst hC dL_law_2294 ?_
      obtain ⟨⟨ha6, hb6⟩, h⟩ := gd_e h
      refine jj_lald hC h3 ha6 hb6 dL_law_2295 (fun hr6 => ?_)
      refine jj_iload hC dL_law_2296 0 rfl ?_
      refine jj_i2l hC dL_law_2298 hr4 ?_
      refine jg_lcmp hC hr6 (r_il hr4) dL_law_2299 ?_
      refine jj_if_eq (tgt := 2305) hC dL_law_2300 rfl i_lcmp_r (fun hc => ?_) (fun hc => ?_)
      · replace h := (if_pos hc).symm.trans h
        refine jj_widen (k' := kk + 1) (n' := 256 * (kk + 1)) (by omega) (by omega) ?_
        refine jj_lv (lv' := [(0, .ref a0), (1, .ref a1), (2, .ref a2), (3, .ref a3), (4, .ref a4), (5, .int (iI i0))]) [2, 3, 4, 5, 6, 7] rfl ?_
        exact hB2305 sz2 S Ln q4.2 R i0 ex2_r hi0 h0 h1 h2 h3 h4 h
      · replace h := (if_neg (hc)).symm.trans h
        cases h
  · replace h := (if_neg (hc)).symm.trans h
    cases h
def fL_c38_B2360 (ad : Nat → Nat) (S2360 Ln2360 : Nat → Nat) (R2360 : gR) (M2360 : gM) (a0 : Nat) (a1 : Nat) (a2 : Nat) (a3 : Nat) (a4 : Nat) (l5_2360 : Int) : Option ((Int × (Nat → Nat) × (Nat → Nat) × gM × gR) ⊕ Unit) :=
  some (.inl (w32 (l5_2360 + 5), S2360, Ln2360, M2360, R2360))
def fL_c38 (ad : Nat → Nat) (sz : Nat) (S Ln : Nat → Nat) (R : gR) (M : gM) (a0 a1 a2 a3 a4 : Nat) (i0 : Int) : Option ((Int × (Nat → Nat) × (Nat → Nat) × gM × gR) ⊕ Unit) :=
  gd ((0 : Int) ≤ (w32 (i0 + 1)) ∧ (w32 (i0 + 1)) < (Ln a0 : Int)) (bd (fL_total ad S Ln R M a1 (M a0 (w32 (i0 + 1))) a3) fun q2 => gd ((0 : Int) ≤ (w32 (i0 + 1)) ∧ (w32 (i0 + 1)) < (Ln a0 : Int)) (bd (fX10_total ad S Ln R q2.2 a2 (q2.2 a0 (w32 (i0 + 1)))) fun q4 => bd (fX10_thrown ad S Ln R q4.2 a2) fun q5 => if q5 = q2.1 then (if ¬ q2.1 = 0 then (fL_c38_B2360 ad S Ln R q4.2 a0 a1 a2 a3 a4 i0) else (gd ((0 : Int) ≤ 0 ∧ 0 < (Ln a3 : Int)) (if (i_lcmp (q4.2 a3 0) q4.1) = 0 then (fL_c38_B2360 ad S Ln R q4.2 a0 a1 a2 a3 a4 i0) else (none)))) else (none)))
theorem xL_c38 {G : gE} {C : gC} {sz kk : Nat} {S Ln : Nat → Nat} {M : gM} {R : gR} {P : gP} (hC : OKC G C RL cL_law 9 (some .boolean) 1400 603072 7198826 P noX) (hkk : kk + 40 ≤ 603072) (hnn : 256 * (kk + 40) ≤ 7198826) {a0 a1 a2 a3 a4 : Nat} {i0 : Int} (h0 : S a0 = 29) (h1 : S a1 = 12) (h2 : S a2 = 13) (h3 : S a3 = 21) (h4 : S a4 = 22) (hi0 : (-2147483648 ≤ i0 ∧ i0 < 2147483648)) {r : (Int × (Nat → Nat) × (Nat → Nat) × gM × gR) ⊕ Unit} (h : fL_c38 G.2.2.2.2 sz S Ln R M a0 a1 a2 a3 a4 i0 = some r) (hJ : ∀ t, r = .inl t → ∀ sz1, ((-2147483648 ≤ t.1 ∧ t.1 < 2147483648) ∧ t.2.1 a0 = 29 ∧ t.2.1 a1 = 12 ∧ t.2.1 a2 = 13 ∧ t.2.1 a3 = 21 ∧ t.2.1 a4 = 22 ∧ Ex2 S Ln t.2.1 t.2.2.1) → JJ G C (kk + 40) (256 * (kk + 40)) sz1 t.2.1 t.2.2.1 t.2.2.2.1 t.2.2.2.2 28 [(0, .ref a0), (1, .ref a1), (2, .ref a2), (3, .ref a3), (4, .ref a4), (5, .int (iI t.1))] []) : JJ G C kk (256 * (kk)) sz S Ln M R 2308 [(0, .ref a0), (1, .ref a1), (2, .ref a2), (3, .ref a3), (4, .ref a4), (5, .int (iI i0))] [] := by
  have hB2360 : ∀ (sz2360 : Nat) (S2360 : (Nat → Nat)) (Ln2360 : (Nat → Nat)) (M2360 : gM) (R2360 : gR) (l5_2360 : Int), Ex2 S Ln S2360 Ln2360 → (-2147483648 ≤ l5_2360 ∧ l5_2360 < 2147483648) → S2360 a0 = 29 → S2360 a1 = 12 → S2360 a2 = 13 → S2360 a3 = 21 → S2360 a4 = 22 → fL_c38_B2360 G.2.2.2.2 S2360 Ln2360 R2360 M2360 a0 a1 a2 a3 a4 l5_2360 = some r → JJ G C (kk + 1) (256 * (kk + 1)) sz2360 S2360 Ln2360 M2360 R2360 2360 [(0, .ref a0), (1, .ref a1), (2, .ref a2), (3, .ref a3), (4, .ref a4), (5, .int (iI l5_2360))] [] := by
    intro sz2360 S2360 Ln2360 M2360 R2360 l5_2360 hx2360 hl5_2360 ha0_2360 ha1_2360 ha2_2360 ha3_2360 ha4_2360 h
    unfold fL_c38_B2360 at h
    refine jj_goto (tgt := 2982) hC dL_law_2360 rfl ?_
    refine jg_iinc (q := 5) (lv' := [(5, .int (iI (w32 (l5_2360 + 5)))), (0, .ref a0), (1, .ref a1), (2, .ref a2), (3, .ref a3), (4, .ref a4)]) hC dL_law_2982 rfl (by decide) rfl ?_
    refine jj_goto (tgt := 28) hC dL_law_2985 rfl ?_
    refine jj_widen (k' := kk + 40) (n' := 256 * (kk + 40)) (by omega) (by omega) ?_
    refine jj_lv (lv' := [(0, .ref a0), (1, .ref a1), (2, .ref a2), (3, .ref a3), (4, .ref a4), (5, .int (iI (w32 (l5_2360 + 5))))]) [1, 2, 3, 4, 5, 0] rfl ?_
    exact hJ _ (Option.some.inj h).symm sz2360 ⟨(w32_r _), ha0_2360, ha1_2360, ha2_2360, ha3_2360, ha4_2360, hx2360⟩
  unfold fL_c38 at h
  refine jj_aload_n hC dL_law_2308 rfl 1 rfl ?_
  refine jj_aload_n hC dL_law_2309 rfl 0 rfl ?_
  refine jj_iload hC dL_law_2310 5 rfl ?_
  refine jj_iconst hC dL_law_2312 ?_
  refine jg_iadd hC dL_law_2313 ?_
  obtain ⟨⟨ha1, hb1⟩, h⟩ := gd_e h
  refine jj_iald29 hC h0 ha1 hb1 dL_law_2314 (fun hr1 => ?_)
  refine jj_aload_n hC dL_law_2315 rfl 3 rfl ?_
  obtain ⟨q2, hq2, h⟩ := bd_e h
  refine jj_invSW hC mvwL_total wd1465 wd1464 (xL_total (OKC.tr hC) h1 hr1 h3 hq2) rfl rfl (c_le rfl) (c_le rfl) (by omega) (by omega) dL_law_2316 (po_kW (fun hr2 hx2 sz2 => ?_))
  refine jj_widen (k' := kk + 1) (n' := 256 * (kk + 1)) (by omega) (by omega) ?_
  refine jj_istore (lv' := [(6, .int (iI q2.1)), (0, .ref a0), (1, .ref a1), (2, .ref a2), (3, .ref a3), (4, .ref a4), (5, .int (iI i0))]) hC dL_law_2319 (by decide) rfl ?_
  refine jj_aload_n hC dL_law_2321 rfl 3 rfl ?_
  refine jj_aload_n hC dL_law_2322 rfl 1 rfl ?_
  refine jj_iload hC dL_law_2323 6 rfl ?_
  refine jj_iconst hC dL_law_2325 ?_
  refine jg_iadd hC dL_law_2326 ?_
  obtain ⟨⟨ha3, hb3⟩, h⟩ := gd_e h
  refine jj_iald29 hC h0 ha3 hb3 dL_law_2327 (fun hr3 => ?_)
  obtain ⟨q4, hq4, h⟩ := bd_e h
  refine jj_invV hC mvX10_total wd2101 wd2102 wd2100 h2 (by decide) rfl (xX10_total (OKC.tr hC) h2 hr3 hq4) rfl rfl (c_le rfl) (c_le rfl) (by omega) (by omega) dL_law_2328 noXk (po_kL (fun hr4 => ?_))
  refine jj_lstore (lv' := [(7, .long (lI q4.1)), (6, .int (iI q2.1)), (0, .ref a0), (1, .ref a1), (2, .ref a2), (3, .ref a3), (4, .ref a4), (5, .int (iI i0))]) hC dL_law_2331 (by decide) rfl ?_
  refine jj_aload_n hC dL_law_2333 rfl 4 rfl ?_
  obtain ⟨q5, hq5, h⟩ := bd_e h
  refine jj_invV hC mvX10_thrown wd1765 wd1766 wd1764 h2 (by decide) rfl (xX10_thrown (OKC.tr hC) h2 hq5) rfl rfl (c_le rfl) (c_le rfl) (by omega) (by omega) dL_law_2334 noXk (po_kI (fun hr5 => ?_))
  refine jj_iload hC dL_law_2337 1 rfl ?_
  refine jj_icmp_eq (tgt := 2344) hC dL_law_2339 rfl hr5 hr2 (fun hc => ?_) (fun hc => ?_)
  · replace h := (if_pos hc).symm.trans h
    refine jj_iload hC dL_law_2344 1 rfl ?_
    refine jj_if_ne (tgt := 2360) hC dL_law_2346 rfl hr2 (fun hc => ?_) (fun hc => ?_)
    · replace h := (if_pos hc).symm.trans h
      refine jj_widen (k' := kk + 1) (n' := 256 * (kk + 1)) (by omega) (by omega) ?_
      refine jj_lv (lv' := [(0, .ref a0), (1, .ref a1), (2, .ref a2), (3, .ref a3), (4, .ref a4), (5, .int (iI i0))]) [2, 3, 4, 5, 6, 7] rfl ?_
      exact hB2360 sz2 S Ln q4.2 R i0 ex2_r hi0 h0 h1 h2 h3 h4 h
    · replace h := (if_neg (fun k => k hc)).symm.trans h
      refine jj_aload_n hC dL_law_2349 rfl 5 rfl ?_
      refine jj_iconst hC dL_law_2350 ?_
      obtain ⟨⟨ha6, hb6⟩, h⟩ := gd_e h
      refine jj_lald hC h3 ha6 hb6 dL_law_2351 (fun hr6 => ?_)
      refine jj_lload hC dL_law_2352 0 rfl ?_
      refine jg_lcmp hC hr6 hr4 dL_law_2354 ?_
      refine jj_if_eq (tgt := 2360) hC dL_law_2355 rfl i_lcmp_r (fun hc => ?_) (fun hc => ?_)
      · replace h := (if_pos hc).symm.trans h
        refine jj_widen (k' := kk + 1) (n' := 256 * (kk + 1)) (by omega) (by omega) ?_
        refine jj_lv (lv' := [(0, .ref a0), (1, .ref a1), (2, .ref a2), (3, .ref a3), (4, .ref a4), (5, .int (iI i0))]) [2, 3, 4, 5, 6, 7] rfl ?_
        exact hB2360 sz2 S Ln q4.2 R i0 ex2_r hi0 h0 h1 h2 h3 h4 h
      · replace h := (if_neg (hc)).symm.trans h
        cases h
  · replace h := (if_neg (hc)).symm.trans h
    cases h
def fL_c39_B2416 (ad : Nat → Nat) (S2416 Ln2416 : Nat → Nat) (R2416 : gR) (M2416 : gM) (a0 : Nat) (a1 : Nat) (a2 : Nat) (a3 : Nat) (a4 : Nat) (l5_2416 : Int) : Option ((Int × (Nat → Nat) × (Nat → Nat) × gM × gR) ⊕ Unit) :=
  some (.inl (w32 (l5_2416 + 5), S2416, Ln2416, M2416, R2416))
def fL_c39 (ad : Nat → Nat) (sz : Nat) (S Ln : Nat → Nat) (R : gR) (M : gM) (a0 a1 a2 a3 a4 : Nat) (i0 : Int) : Option ((Int × (Nat → Nat) × (Nat → Nat) × gM × gR) ⊕ Unit) :=
  gd ((0 : Int) ≤ (w32 (i0 + 1)) ∧ (w32 (i0 + 1)) < (Ln a0 : Int)) (bd (fL_pilotAtRank ad S Ln R M a1 (M a0 (w32 (i0 + 1))) a3) fun q2 => gd ((0 : Int) ≤ (w32 (i0 + 1)) ∧ (w32 (i0 + 1)) < (Ln a0 : Int)) (bd (fX10_pilotAtRank ad S Ln R q2.2 a2 (q2.2 a0 (w32 (i0 + 1)))) fun q4 => bd (fX10_thrown ad S Ln R q4.2 a2) fun q5 => if q5 = q2.1 then (if ¬ q2.1 = 0 then (fL_c39_B2416 ad S Ln R q4.2 a0 a1 a2 a3 a4 i0) else (gd ((0 : Int) ≤ 0 ∧ 0 < (Ln a3 : Int)) (if (i_lcmp (q4.2 a3 0) q4.1) = 0 then (fL_c39_B2416 ad S Ln R q4.2 a0 a1 a2 a3 a4 i0) else (none)))) else (none)))
theorem xL_c39 {G : gE} {C : gC} {sz kk : Nat} {S Ln : Nat → Nat} {M : gM} {R : gR} {P : gP} (hC : OKC G C RL cL_law 9 (some .boolean) 1400 603072 7198826 P noX) (hkk : kk + 40 ≤ 603072) (hnn : 256 * (kk + 40) ≤ 7198826) {a0 a1 a2 a3 a4 : Nat} {i0 : Int} (h0 : S a0 = 29) (h1 : S a1 = 12) (h2 : S a2 = 13) (h3 : S a3 = 21) (h4 : S a4 = 22) (hi0 : (-2147483648 ≤ i0 ∧ i0 < 2147483648)) {r : (Int × (Nat → Nat) × (Nat → Nat) × gM × gR) ⊕ Unit} (h : fL_c39 G.2.2.2.2 sz S Ln R M a0 a1 a2 a3 a4 i0 = some r) (hJ : ∀ t, r = .inl t → ∀ sz1, ((-2147483648 ≤ t.1 ∧ t.1 < 2147483648) ∧ t.2.1 a0 = 29 ∧ t.2.1 a1 = 12 ∧ t.2.1 a2 = 13 ∧ t.2.1 a3 = 21 ∧ t.2.1 a4 = 22 ∧ Ex2 S Ln t.2.1 t.2.2.1) → JJ G C (kk + 40) (256 * (kk + 40)) sz1 t.2.1 t.2.2.1 t.2.2.2.1 t.2.2.2.2 28 [(0, .ref a0), (1, .ref a1), (2, .ref a2), (3, .ref a3), (4, .ref a4), (5, .int (iI t.1))] []) : JJ G C kk (256 * (kk)) sz S Ln M R 2363 [(0, .ref a0), (1, .ref a1), (2, .ref a2), (3, .ref a3), (4, .ref a4), (5, .int (iI i0))] [] := by
  have hB2416 : ∀ (sz2416 : Nat) (S2416 : (Nat → Nat)) (Ln2416 : (Nat → Nat)) (M2416 : gM) (R2416 : gR) (l5_2416 : Int), Ex2 S Ln S2416 Ln2416 → (-2147483648 ≤ l5_2416 ∧ l5_2416 < 2147483648) → S2416 a0 = 29 → S2416 a1 = 12 → S2416 a2 = 13 → S2416 a3 = 21 → S2416 a4 = 22 → fL_c39_B2416 G.2.2.2.2 S2416 Ln2416 R2416 M2416 a0 a1 a2 a3 a4 l5_2416 = some r → JJ G C (kk + 1) (256 * (kk + 1)) sz2416 S2416 Ln2416 M2416 R2416 2416 [(0, .ref a0), (1, .ref a1), (2, .ref a2), (3, .ref a3), (4, .ref a4), (5, .int (iI l5_2416))] [] := by
    intro sz2416 S2416 Ln2416 M2416 R2416 l5_2416 hx2416 hl5_2416 ha0_2416 ha1_2416 ha2_2416 ha3_2416 ha4_2416 h
    unfold fL_c39_B2416 at h
    refine jj_goto (tgt := 2982) hC dL_law_2416 rfl ?_
    refine jg_iinc (q := 5) (lv' := [(5, .int (iI (w32 (l5_2416 + 5)))), (0, .ref a0), (1, .ref a1), (2, .ref a2), (3, .ref a3), (4, .ref a4)]) hC dL_law_2982 rfl (by decide) rfl ?_
    refine jj_goto (tgt := 28) hC dL_law_2985 rfl ?_
    refine jj_widen (k' := kk + 40) (n' := 256 * (kk + 40)) (by omega) (by omega) ?_
    refine jj_lv (lv' := [(0, .ref a0), (1, .ref a1), (2, .ref a2), (3, .ref a3), (4, .ref a4), (5, .int (iI (w32 (l5_2416 + 5))))]) [1, 2, 3, 4, 5, 0] rfl ?_
    exact hJ _ (Option.some.inj h).symm sz2416 ⟨(w32_r _), ha0_2416, ha1_2416, ha2_2416, ha3_2416, ha4_2416, hx2416⟩
  unfold fL_c39 at h
  refine jj_aload_n hC dL_law_2363 rfl 1 rfl ?_
  refine jj_aload_n hC dL_law_2364 rfl 0 rfl ?_
  refine jj_iload hC dL_law_2365 5 rfl ?_
  refine jj_iconst hC dL_law_2367 ?_
  refine jg_iadd hC dL_law_2368 ?_
  obtain ⟨⟨ha1, hb1⟩, h⟩ := gd_e h
  refine jj_iald29 hC h0 ha1 hb1 dL_law_2369 (fun hr1 => ?_)
  refine jj_aload_n hC dL_law_2370 rfl 3 rfl ?_
  obtain ⟨q2, hq2, h⟩ := bd_e h
  refine jj_invSW hC mvwL_pilotAtRank wd1472 wd1471 (xL_pilotAtRank (OKC.tr hC) h1 hr1 h3 hq2) rfl rfl (c_le rfl) (c_le rfl) (by omega) (by omega) dL_law_2371 (po_kW (fun hr2 hx2 sz2 => ?_))
  refine jj_widen (k' := kk + 1) (n' := 256 * (kk + 1)) (by omega) (by omega) ?_
  refine jj_istore (lv' := [(6, .int (iI q2.1)), (0, .ref a0), (1, .ref a1), (2, .ref a2), (3, .ref a3), (4, .ref a4), (5, .int (iI i0))]) hC dL_law_2374 (by decide) rfl ?_
  refine jj_aload_n hC dL_law_2376 rfl 3 rfl ?_
  refine jj_aload_n hC dL_law_2377 rfl 1 rfl ?_
  refine jj_iload hC dL_law_2378 6 rfl ?_
  refine jj_iconst hC dL_law_2380 ?_
  refine jg_iadd hC dL_law_2381 ?_
  obtain ⟨⟨ha3, hb3⟩, h⟩ := gd_e h
  refine jj_iald29 hC h0 ha3 hb3 dL_law_2382 (fun hr3 => ?_)
  obtain ⟨q4, hq4, h⟩ := bd_e h
  refine jj_invV hC mvX10_pilotAtRank wd2105 wd2106 wd2104 h2 (by decide) rfl (xX10_pilotAtRank (OKC.tr hC) h2 hr3 hq4) rfl rfl (c_le rfl) (c_le rfl) (by omega) (by omega) dL_law_2383 noXk (po_kI (fun hr4 => ?_))
  refine jj_istore (lv' := [(7, .int (iI q4.1)), (6, .int (iI q2.1)), (0, .ref a0), (1, .ref a1), (2, .ref a2), (3, .ref a3), (4, .ref a4), (5, .int (iI i0))]) hC dL_law_2386 (by decide) rfl ?_
  refine jj_aload_n hC dL_law_2388 rfl 4 rfl ?_
  obtain ⟨q5, hq5, h⟩ := bd_e h
  refine jj_invV hC mvX10_thrown wd1765 wd1766 wd1764 h2 (by decide) rfl (xX10_thrown (OKC.tr hC) h2 hq5) rfl rfl (c_le rfl) (c_le rfl) (by omega) (by omega) dL_law_2389 noXk (po_kI (fun hr5 => ?_))
  refine jj_iload hC dL_law_2392 1 rfl ?_
  refine jj_icmp_eq (tgt := 2399) hC dL_law_2394 rfl hr5 hr2 (fun hc => ?_) (fun hc => ?_)
  · replace h := (if_pos hc).symm.trans h
    refine jj_iload hC dL_law_2399 1 rfl ?_
    refine jj_if_ne (tgt := 2416) hC dL_law_2401 rfl hr2 (fun hc => ?_) (fun hc => ?_)
    · replace h := (if_pos hc).symm.trans h
      refine jj_widen (k' := kk + 1) (n' := 256 * (kk + 1)) (by omega) (by omega) ?_
      refine jj_lv (lv' := [(0, .ref a0), (1, .ref a1), (2, .ref a2), (3, .ref a3), (4, .ref a4), (5, .int (iI i0))]) [2, 3, 4, 5, 6, 7] rfl ?_
      exact hB2416 sz2 S Ln q4.2 R i0 ex2_r hi0 h0 h1 h2 h3 h4 h
    · replace h := (if_neg (fun k => k hc)).symm.trans h
      refine jj_aload_n hC dL_law_2404 rfl 5 rfl ?_
      refine jj_iconst hC dL_law_2405 ?_
      obtain ⟨⟨ha6, hb6⟩, h⟩ := gd_e h
      refine jj_lald hC h3 ha6 hb6 dL_law_2406 (fun hr6 => ?_)
      refine jj_iload hC dL_law_2407 0 rfl ?_
      refine jj_i2l hC dL_law_2409 hr4 ?_
      refine jg_lcmp hC hr6 (r_il hr4) dL_law_2410 ?_
      refine jj_if_eq (tgt := 2416) hC dL_law_2411 rfl i_lcmp_r (fun hc => ?_) (fun hc => ?_)
      · replace h := (if_pos hc).symm.trans h
        refine jj_widen (k' := kk + 1) (n' := 256 * (kk + 1)) (by omega) (by omega) ?_
        refine jj_lv (lv' := [(0, .ref a0), (1, .ref a1), (2, .ref a2), (3, .ref a3), (4, .ref a4), (5, .int (iI i0))]) [2, 3, 4, 5, 6, 7] rfl ?_
        exact hB2416 sz2 S Ln q4.2 R i0 ex2_r hi0 h0 h1 h2 h3 h4 h
      · replace h := (if_neg (hc)).symm.trans h
        cases h
  · replace h := (if_neg (hc)).symm.trans h
    cases h
def fL_c40 (ad : Nat → Nat) (sz : Nat) (S Ln : Nat → Nat) (R : gR) (M : gM) (a0 a1 a2 a3 a4 : Nat) (i0 : Int) : Option ((Int × (Nat → Nat) × (Nat → Nat) × gM × gR) ⊕ Unit) :=
  bd (fX9_days ad S Ln R M a1) fun q1 => bd (fX10_days ad S Ln R M a2) fun q2 => if q1 = q2.1 then (some (.inl (w32 (i0 + 5), S, Ln, q2.2, R))) else (none)
theorem xL_c40 {G : gE} {C : gC} {sz kk : Nat} {S Ln : Nat → Nat} {M : gM} {R : gR} {P : gP} (hC : OKC G C RL cL_law 9 (some .boolean) 1400 603072 7198826 P noX) (hkk : kk + 40 ≤ 603072) (hnn : 256 * (kk + 40) ≤ 7198826) {a0 a1 a2 a3 a4 : Nat} {i0 : Int} (h0 : S a0 = 29) (h1 : S a1 = 12) (h2 : S a2 = 13) (h3 : S a3 = 21) (h4 : S a4 = 22) (hi0 : (-2147483648 ≤ i0 ∧ i0 < 2147483648)) {r : (Int × (Nat → Nat) × (Nat → Nat) × gM × gR) ⊕ Unit} (h : fL_c40 G.2.2.2.2 sz S Ln R M a0 a1 a2 a3 a4 i0 = some r) (hJ : ∀ t, r = .inl t → ∀ sz1, ((-2147483648 ≤ t.1 ∧ t.1 < 2147483648) ∧ t.2.1 a0 = 29 ∧ t.2.1 a1 = 12 ∧ t.2.1 a2 = 13 ∧ t.2.1 a3 = 21 ∧ t.2.1 a4 = 22 ∧ Ex2 S Ln t.2.1 t.2.2.1) → JJ G C (kk + 40) (256 * (kk + 40)) sz1 t.2.1 t.2.2.1 t.2.2.2.1 t.2.2.2.2 28 [(0, .ref a0), (1, .ref a1), (2, .ref a2), (3, .ref a3), (4, .ref a4), (5, .int (iI t.1))] []) : JJ G C kk (256 * (kk)) sz S Ln M R 2419 [(0, .ref a0), (1, .ref a1), (2, .ref a2), (3, .ref a3), (4, .ref a4), (5, .int (iI i0))] [] := by
  unfold fL_c40 at h
  refine jj_aload_n hC dL_law_2419 rfl 1 rfl ?_
  obtain ⟨q1, hq1, h⟩ := bd_e h
  refine jj_invV hC mvX9_days wd453 wd454 wd452 h1 (by decide) rfl (xX9_days (OKC.tr hC) h1 hq1) rfl rfl (c_le rfl) (c_le rfl) (by omega) (by omega) dL_law_2420 noXk (po_kI (fun hr1 => ?_))
  refine jj_aload_n hC dL_law_2423 rfl 2 rfl ?_
  obtain ⟨q2, hq2, h⟩ := bd_e h
  refine jj_invV hC mvX10_days wd2113 wd2114 wd2112 h2 (by decide) rfl (xX10_days (OKC.tr hC) h2 hq2) rfl rfl (c_le rfl) (c_le rfl) (by omega) (by omega) dL_law_2424 noXk (po_kI (fun hr2 => ?_))
  refine jj_icmp_eq (tgt := 2982) hC dL_law_2427 rfl hr1 hr2 (fun hc => ?_) (fun hc => ?_)
  · replace h := (if_pos hc).symm.trans h
    refine jg_iinc (q := 5) (lv' := [(5, .int (iI (w32 (i0 + 5)))), (0, .ref a0), (1, .ref a1), (2, .ref a2), (3, .ref a3), (4, .ref a4)]) hC dL_law_2982 rfl (by decide) rfl ?_
    refine jj_goto (tgt := 28) hC dL_law_2985 rfl ?_
    refine jj_widen (k' := kk + 40) (n' := 256 * (kk + 40)) (by omega) (by omega) ?_
    refine jj_lv (lv' := [(0, .ref a0), (1, .ref a1), (2, .ref a2), (3, .ref a3), (4, .ref a4), (5, .int (iI (w32 (i0 + 5))))]) [1, 2, 3, 4, 5, 0] rfl ?_
    exact hJ _ (Option.some.inj h).symm sz ⟨(w32_r _), h0, h1, h2, h3, h4, ex2_r⟩
  · replace h := (if_neg (hc)).symm.trans h
    cases h
def fL_c41_B2507 (ad : Nat → Nat) (S2507 Ln2507 : Nat → Nat) (R2507 : gR) (M2507 : gM) (a0 : Nat) (a1 : Nat) (a2 : Nat) (a3 : Nat) (a4 : Nat) (l5_2507 : Int) : Option ((Int × (Nat → Nat) × (Nat → Nat) × gM × gR) ⊕ Unit) :=
  some (.inl (w32 (l5_2507 + 5), S2507, Ln2507, M2507, R2507))
def fL_c41 (ad : Nat → Nat) (sz : Nat) (S Ln : Nat → Nat) (R : gR) (M : gM) (a0 a1 a2 a3 a4 : Nat) (i0 : Int) : Option ((Int × (Nat → Nat) × (Nat → Nat) × gM × gR) ⊕ Unit) :=
  gd ((0 : Int) ≤ (w32 (i0 + 1)) ∧ (w32 (i0 + 1)) < (Ln a0 : Int)) (bd (fL_speed ad S Ln R M a1 (M a0 (w32 (i0 + 1))) a4) fun q2 => gd ((0 : Int) ≤ (w32 (i0 + 1)) ∧ (w32 (i0 + 1)) < (Ln a0 : Int)) (bd (fX10_speed ad S Ln R q2.2 a2 (q2.2 a0 (w32 (i0 + 1)))) fun q4 => bd (fX10_thrown ad S Ln R q4.2 a2) fun q5 => if q5 = q2.1 then (if ¬ q2.1 = 0 then (fL_c41_B2507 ad S Ln R q4.2 a0 a1 a2 a3 a4 i0) else (gd ((0 : Int) ≤ 0 ∧ 0 < (Ln a4 : Int)) (gd (FP.f2d q4.1 &&& 0x7fffffffffffffff ≤ 0x7ff0000000000000) (if (i_dcl (dD (q4.2 a4 0)) (FP.f2d q4.1)) = 0 then (fL_c41_B2507 ad S Ln R q4.2 a0 a1 a2 a3 a4 i0) else (none))))) else (none)))
theorem xL_c41 {G : gE} {C : gC} {sz kk : Nat} {S Ln : Nat → Nat} {M : gM} {R : gR} {P : gP} (hC : OKC G C RL cL_law 9 (some .boolean) 1400 603072 7198826 P noX) (hkk : kk + 40 ≤ 603072) (hnn : 256 * (kk + 40) ≤ 7198826) {a0 a1 a2 a3 a4 : Nat} {i0 : Int} (h0 : S a0 = 29) (h1 : S a1 = 12) (h2 : S a2 = 13) (h3 : S a3 = 21) (h4 : S a4 = 22) (hi0 : (-2147483648 ≤ i0 ∧ i0 < 2147483648)) {r : (Int × (Nat → Nat) × (Nat → Nat) × gM × gR) ⊕ Unit} (h : fL_c41 G.2.2.2.2 sz S Ln R M a0 a1 a2 a3 a4 i0 = some r) (hJ : ∀ t, r = .inl t → ∀ sz1, ((-2147483648 ≤ t.1 ∧ t.1 < 2147483648) ∧ t.2.1 a0 = 29 ∧ t.2.1 a1 = 12 ∧ t.2.1 a2 = 13 ∧ t.2.1 a3 = 21 ∧ t.2.1 a4 = 22 ∧ Ex2 S Ln t.2.1 t.2.2.1) → JJ G C (kk + 40) (256 * (kk + 40)) sz1 t.2.1 t.2.2.1 t.2.2.2.1 t.2.2.2.2 28 [(0, .ref a0), (1, .ref a1), (2, .ref a2), (3, .ref a3), (4, .ref a4), (5, .int (iI t.1))] []) : JJ G C kk (256 * (kk)) sz S Ln M R 2432 [(0, .ref a0), (1, .ref a1), (2, .ref a2), (3, .ref a3), (4, .ref a4), (5, .int (iI i0))] [] := by
  have hB2507 : ∀ (sz2507 : Nat) (S2507 : (Nat → Nat)) (Ln2507 : (Nat → Nat)) (M2507 : gM) (R2507 : gR) (l5_2507 : Int), Ex2 S Ln S2507 Ln2507 → (-2147483648 ≤ l5_2507 ∧ l5_2507 < 2147483648) → S2507 a0 = 29 → S2507 a1 = 12 → S2507 a2 = 13 → S2507 a3 = 21 → S2507 a4 = 22 → fL_c41_B2507 G.2.2.2.2 S2507 Ln2507 R2507 M2507 a0 a1 a2 a3 a4 l5_2507 = some r → JJ G C (kk + 2) (256 * (kk + 2)) sz2507 S2507 Ln2507 M2507 R2507 2507 [(0, .ref a0), (1, .ref a1), (2, .ref a2), (3, .ref a3), (4, .ref a4), (5, .int (iI l5_2507))] [] := by
    intro sz2507 S2507 Ln2507 M2507 R2507 l5_2507 hx2507 hl5_2507 ha0_2507 ha1_2507 ha2_2507 ha3_2507 ha4_2507 h
    unfold fL_c41_B2507 at h
    refine jj_goto (tgt := 2982) hC dL_law_2507 rfl ?_
    refine jg_iinc (q := 5) (lv' := [(5, .int (iI (w32 (l5_2507 + 5)))), (0, .ref a0), (1, .ref a1), (2, .ref a2), (3, .ref a3), (4, .ref a4)]) hC dL_law_2982 rfl (by decide) rfl ?_
    refine jj_goto (tgt := 28) hC dL_law_2985 rfl ?_
    refine jj_widen (k' := kk + 40) (n' := 256 * (kk + 40)) (by omega) (by omega) ?_
    refine jj_lv (lv' := [(0, .ref a0), (1, .ref a1), (2, .ref a2), (3, .ref a3), (4, .ref a4), (5, .int (iI (w32 (l5_2507 + 5))))]) [1, 2, 3, 4, 5, 0] rfl ?_
    exact hJ _ (Option.some.inj h).symm sz2507 ⟨(w32_r _), ha0_2507, ha1_2507, ha2_2507, ha3_2507, ha4_2507, hx2507⟩
  unfold fL_c41 at h
  refine jj_aload_n hC dL_law_2432 rfl 1 rfl ?_
  refine jj_aload_n hC dL_law_2433 rfl 0 rfl ?_
  refine jj_iload hC dL_law_2434 5 rfl ?_
  refine jj_iconst hC dL_law_2436 ?_
  refine jg_iadd hC dL_law_2437 ?_
  obtain ⟨⟨ha1, hb1⟩, h⟩ := gd_e h
  refine jj_iald29 hC h0 ha1 hb1 dL_law_2438 (fun hr1 => ?_)
  refine jj_aload hC dL_law_2439 4 rfl ?_
  obtain ⟨q2, hq2, h⟩ := bd_e h
  refine jj_invSW hC mvwL_speed wd1492 wd1491 (xL_speed (OKC.tr hC) h1 hr1 h4 hq2) rfl rfl (c_le rfl) (c_le rfl) (by omega) (by omega) dL_law_2441 (po_kW (fun hr2 hx2 sz2 => ?_))
  refine jj_widen (k' := kk + 2) (n' := 256 * (kk + 2)) (by omega) (by omega) ?_
  refine jj_istore (lv' := [(6, .int (iI q2.1)), (0, .ref a0), (1, .ref a1), (2, .ref a2), (3, .ref a3), (4, .ref a4), (5, .int (iI i0))]) hC dL_law_2444 (by decide) rfl ?_
  refine jj_aload_n hC dL_law_2446 rfl 3 rfl ?_
  refine jj_aload_n hC dL_law_2447 rfl 1 rfl ?_
  refine jj_iload hC dL_law_2448 6 rfl ?_
  refine jj_iconst hC dL_law_2450 ?_
  refine jg_iadd hC dL_law_2451 ?_
  obtain ⟨⟨ha3, hb3⟩, h⟩ := gd_e h
  refine jj_iald29 hC h0 ha3 hb3 dL_law_2452 (fun hr3 => ?_)
  obtain ⟨q4, hq4, h⟩ := bd_e h
  refine jj_invV hC mvX10_speed wd2117 wd2118 wd2116 h2 (by decide) rfl (xX10_speed (OKC.tr hC) h2 hr3 hq4) rfl rfl (c_le rfl) (c_le rfl) (by omega) (by omega) dL_law_2453 noXk (po_kF ?_)
  refine jj_fstore (lv' := [(7, .float q4.1), (6, .int (iI q2.1)), (0, .ref a0), (1, .ref a1), (2, .ref a2), (3, .ref a3), (4, .ref a4), (5, .int (iI i0))]) hC dL_law_2456 (by decide) rfl ?_
  refine jj_aload_n hC dL_law_2458 rfl 4 rfl ?_
  obtain ⟨q5, hq5, h⟩ := bd_e h
  refine jj_invV hC mvX10_thrown wd1765 wd1766 wd1764 h2 (by decide) rfl (xX10_thrown (OKC.tr hC) h2 hq5) rfl rfl (c_le rfl) (c_le rfl) (by omega) (by omega) dL_law_2459 noXk (po_kI (fun hr5 => ?_))
  refine jj_iload hC dL_law_2462 1 rfl ?_
  refine jj_icmp_eq (tgt := 2469) hC dL_law_2464 rfl hr5 hr2 (fun hc => ?_) (fun hc => ?_)
  · replace h := (if_pos hc).symm.trans h
    refine jj_iload hC dL_law_2469 1 rfl ?_
    refine jj_if_ne (tgt := 2507) hC dL_law_2471 rfl hr2 (fun hc => ?_) (fun hc => ?_)
    · replace h := (if_pos hc).symm.trans h
      refine jj_widen (k' := kk + 2) (n' := 256 * (kk + 2)) (by omega) (by omega) ?_
      refine jj_lv (lv' := [(0, .ref a0), (1, .ref a1), (2, .ref a2), (3, .ref a3), (4, .ref a4), (5, .int (iI i0))]) [2, 3, 4, 5, 6, 7] rfl ?_
      exact hB2507 sz2 S Ln q4.2 R i0 ex2_r hi0 h0 h1 h2 h3 h4 h
    · replace h := (if_neg (fun k => k hc)).symm.trans h
      refine jj_aload hC dL_law_2474 6 rfl ?_
      refine jj_iconst hC dL_law_2476 ?_
      obtain ⟨⟨ha6, hb6⟩, h⟩ := gd_e h
      refine jg_dald hC h4 ha6 hb6 dL_law_2477 ?_
      refine jj_fload hC dL_law_2478 0 rfl ?_
      obtain ⟨hg7, h⟩ := gd_e h
      refine jj_f2d hC hg7 dL_law_2480 ?_
      refine jg_dcmpl hC dL_law_2481 ?_
      refine jj_if_eq (tgt := 2507) hC dL_law_2482 rfl i_dcl_r (fun hc => ?_) (fun hc => ?_)
      · replace h := (if_pos hc).symm.trans h
        refine jj_widen (k' := kk + 2) (n' := 256 * (kk + 2)) (by omega) (by omega) ?_
        refine jj_lv (lv' := [(0, .ref a0), (1, .ref a1), (2, .ref a2), (3, .ref a3), (4, .ref a4), (5, .int (iI i0))]) [2, 3, 4, 5, 6, 7] rfl ?_
        exact hB2507 sz2 S Ln q4.2 R i0 ex2_r hi0 h0 h1 h2 h3 h4 h
      · replace h := (if_neg (hc)).symm.trans h
        cases h
  · replace h := (if_neg (hc)).symm.trans h
    cases h
def fL_c42_B2572 (ad : Nat → Nat) (S2572 Ln2572 : Nat → Nat) (R2572 : gR) (M2572 : gM) (a0 : Nat) (a1 : Nat) (a2 : Nat) (a3 : Nat) (a4 : Nat) (l5_2572 : Int) : Option ((Int × (Nat → Nat) × (Nat → Nat) × gM × gR) ⊕ Unit) :=
  some (.inl (w32 (l5_2572 + 5), S2572, Ln2572, M2572, R2572))
def fL_c42 (ad : Nat → Nat) (sz : Nat) (S Ln : Nat → Nat) (R : gR) (M : gM) (a0 a1 a2 a3 a4 : Nat) (i0 : Int) : Option ((Int × (Nat → Nat) × (Nat → Nat) × gM × gR) ⊕ Unit) :=
  bd (fL_meanScore ad S Ln R M a1 a4) fun q1 => bd (fX10_meanScore ad S Ln R q1.2 a2) fun q2 => bd (fX10_thrown ad S Ln R q2.2 a2) fun q3 => if q3 = q1.1 then (if ¬ q1.1 = 0 then (fL_c42_B2572 ad S Ln R q2.2 a0 a1 a2 a3 a4 i0) else (gd ((0 : Int) ≤ 0 ∧ 0 < (Ln a4 : Int)) (if (i_dcl (dD (q2.2 a4 0)) q2.1) = 0 then (fL_c42_B2572 ad S Ln R q2.2 a0 a1 a2 a3 a4 i0) else (none)))) else (none)
theorem xL_c42 {G : gE} {C : gC} {sz kk : Nat} {S Ln : Nat → Nat} {M : gM} {R : gR} {P : gP} (hC : OKC G C RL cL_law 9 (some .boolean) 1400 603072 7198826 P noX) (hkk : kk + 40 ≤ 603072) (hnn : 256 * (kk + 40) ≤ 7198826) {a0 a1 a2 a3 a4 : Nat} {i0 : Int} (h0 : S a0 = 29) (h1 : S a1 = 12) (h2 : S a2 = 13) (h3 : S a3 = 21) (h4 : S a4 = 22) (hi0 : (-2147483648 ≤ i0 ∧ i0 < 2147483648)) {r : (Int × (Nat → Nat) × (Nat → Nat) × gM × gR) ⊕ Unit} (h : fL_c42 G.2.2.2.2 sz S Ln R M a0 a1 a2 a3 a4 i0 = some r) (hJ : ∀ t, r = .inl t → ∀ sz1, ((-2147483648 ≤ t.1 ∧ t.1 < 2147483648) ∧ t.2.1 a0 = 29 ∧ t.2.1 a1 = 12 ∧ t.2.1 a2 = 13 ∧ t.2.1 a3 = 21 ∧ t.2.1 a4 = 22 ∧ Ex2 S Ln t.2.1 t.2.2.1) → JJ G C (kk + 40) (256 * (kk + 40)) sz1 t.2.1 t.2.2.1 t.2.2.2.1 t.2.2.2.2 28 [(0, .ref a0), (1, .ref a1), (2, .ref a2), (3, .ref a3), (4, .ref a4), (5, .int (iI t.1))] []) : JJ G C kk (256 * (kk)) sz S Ln M R 2510 [(0, .ref a0), (1, .ref a1), (2, .ref a2), (3, .ref a3), (4, .ref a4), (5, .int (iI i0))] [] := by
  have hB2572 : ∀ (sz2572 : Nat) (S2572 : (Nat → Nat)) (Ln2572 : (Nat → Nat)) (M2572 : gM) (R2572 : gR) (l5_2572 : Int), Ex2 S Ln S2572 Ln2572 → (-2147483648 ≤ l5_2572 ∧ l5_2572 < 2147483648) → S2572 a0 = 29 → S2572 a1 = 12 → S2572 a2 = 13 → S2572 a3 = 21 → S2572 a4 = 22 → fL_c42_B2572 G.2.2.2.2 S2572 Ln2572 R2572 M2572 a0 a1 a2 a3 a4 l5_2572 = some r → JJ G C (kk + 1) (256 * (kk + 1)) sz2572 S2572 Ln2572 M2572 R2572 2572 [(0, .ref a0), (1, .ref a1), (2, .ref a2), (3, .ref a3), (4, .ref a4), (5, .int (iI l5_2572))] [] := by
    intro sz2572 S2572 Ln2572 M2572 R2572 l5_2572 hx2572 hl5_2572 ha0_2572 ha1_2572 ha2_2572 ha3_2572 ha4_2572 h
    unfold fL_c42_B2572 at h
    refine jj_goto (tgt := 2982) hC dL_law_2572 rfl ?_
    refine jg_iinc (q := 5) (lv' := [(5, .int (iI (w32 (l5_2572 + 5)))), (0, .ref a0), (1, .ref a1), (2, .ref a2), (3, .ref a3), (4, .ref a4)]) hC dL_law_2982 rfl (by decide) rfl ?_
    refine jj_goto (tgt := 28) hC dL_law_2985 rfl ?_
    refine jj_widen (k' := kk + 40) (n' := 256 * (kk + 40)) (by omega) (by omega) ?_
    refine jj_lv (lv' := [(0, .ref a0), (1, .ref a1), (2, .ref a2), (3, .ref a3), (4, .ref a4), (5, .int (iI (w32 (l5_2572 + 5))))]) [1, 2, 3, 4, 5, 0] rfl ?_
    exact hJ _ (Option.some.inj h).symm sz2572 ⟨(w32_r _), ha0_2572, ha1_2572, ha2_2572, ha3_2572, ha4_2572, hx2572⟩
  unfold fL_c42 at h
  refine jj_aload_n hC dL_law_2510 rfl 1 rfl ?_
  refine jj_aload hC dL_law_2511 4 rfl ?_
  obtain ⟨q1, hq1, h⟩ := bd_e h
  refine jj_invSW hC mvwL_meanScore wd1499 wd1498 (xL_meanScore (OKC.tr hC) h1 h4 hq1) rfl rfl (c_le rfl) (c_le rfl) (by omega) (by omega) dL_law_2513 (po_kW (fun hr1 hx1 sz1 => ?_))
  refine jj_widen (k' := kk + 1) (n' := 256 * (kk + 1)) (by omega) (by omega) ?_
  refine jj_istore (lv' := [(6, .int (iI q1.1)), (0, .ref a0), (1, .ref a1), (2, .ref a2), (3, .ref a3), (4, .ref a4), (5, .int (iI i0))]) hC dL_law_2516 (by decide) rfl ?_
  refine jj_aload_n hC dL_law_2518 rfl 3 rfl ?_
  obtain ⟨q2, hq2, h⟩ := bd_e h
  refine jj_invV hC mvX10_meanScore wd2121 wd2122 wd2120 h2 (by decide) rfl (xX10_meanScore (OKC.tr hC) h2 hq2) rfl rfl (c_le rfl) (c_le rfl) (by omega) (by omega) dL_law_2519 noXk (po_kD ?_)
  refine jj_dstore (lv' := [(7, .double q2.1), (6, .int (iI q1.1)), (0, .ref a0), (1, .ref a1), (2, .ref a2), (3, .ref a3), (4, .ref a4), (5, .int (iI i0))]) hC dL_law_2522 (by decide) rfl ?_
  refine jj_aload_n hC dL_law_2524 rfl 4 rfl ?_
  obtain ⟨q3, hq3, h⟩ := bd_e h
  refine jj_invV hC mvX10_thrown wd1765 wd1766 wd1764 h2 (by decide) rfl (xX10_thrown (OKC.tr hC) h2 hq3) rfl rfl (c_le rfl) (c_le rfl) (by omega) (by omega) dL_law_2525 noXk (po_kI (fun hr3 => ?_))
  refine jj_iload hC dL_law_2528 1 rfl ?_
  refine jj_icmp_eq (tgt := 2535) hC dL_law_2530 rfl hr3 hr1 (fun hc => ?_) (fun hc => ?_)
  · replace h := (if_pos hc).symm.trans h
    refine jj_iload hC dL_law_2535 1 rfl ?_
    refine jj_if_ne (tgt := 2572) hC dL_law_2537 rfl hr1 (fun hc => ?_) (fun hc => ?_)
    · replace h := (if_pos hc).symm.trans h
      refine jj_widen (k' := kk + 1) (n' := 256 * (kk + 1)) (by omega) (by omega) ?_
      refine jj_lv (lv' := [(0, .ref a0), (1, .ref a1), (2, .ref a2), (3, .ref a3), (4, .ref a4), (5, .int (iI i0))]) [2, 3, 4, 5, 6, 7] rfl ?_
      exact hB2572 sz1 S Ln q2.2 R i0 ex2_r hi0 h0 h1 h2 h3 h4 h
    · replace h := (if_neg (fun k => k hc)).symm.trans h
      refine jj_aload hC dL_law_2540 6 rfl ?_
      refine jj_iconst hC dL_law_2542 ?_
      obtain ⟨⟨ha4, hb4⟩, h⟩ := gd_e h
      refine jg_dald hC h4 ha4 hb4 dL_law_2543 ?_
      refine jj_dload hC dL_law_2544 0 rfl ?_
      refine jg_dcmpl hC dL_law_2546 ?_
      refine jj_if_eq (tgt := 2572) hC dL_law_2547 rfl i_dcl_r (fun hc => ?_) (fun hc => ?_)
      · replace h := (if_pos hc).symm.trans h
        refine jj_widen (k' := kk + 1) (n' := 256 * (kk + 1)) (by omega) (by omega) ?_
        refine jj_lv (lv' := [(0, .ref a0), (1, .ref a1), (2, .ref a2), (3, .ref a3), (4, .ref a4), (5, .int (iI i0))]) [2, 3, 4, 5, 6, 7] rfl ?_
        exact hB2572 sz1 S Ln q2.2 R i0 ex2_r hi0 h0 h1 h2 h3 h4 h
      · replace h := (if_neg (hc)).symm.trans h
        cases h
  · replace h := (if_neg (hc)).symm.trans h
    cases h
def fL_c43 (ad : Nat → Nat) (sz : Nat) (S Ln : Nat → Nat) (R : gR) (M : gM) (a0 a1 a2 a3 a4 : Nat) (i0 : Int) : Option ((Int × (Nat → Nat) × (Nat → Nat) × gM × gR) ⊕ Unit) :=
  bd (fX9_isConsistent ad S Ln R M a1) fun q1 => bd (fX10_isConsistent ad S Ln R q1.2 a2) fun q2 => if q1.1 = q2.1 then (some (.inl (w32 (i0 + 5), S, Ln, q2.2, R))) else (none)
theorem xL_c43 {G : gE} {C : gC} {sz kk : Nat} {S Ln : Nat → Nat} {M : gM} {R : gR} {P : gP} (hC : OKC G C RL cL_law 9 (some .boolean) 1400 603072 7198826 P noX) (hkk : kk + 40 ≤ 603072) (hnn : 256 * (kk + 40) ≤ 7198826) {a0 a1 a2 a3 a4 : Nat} {i0 : Int} (h0 : S a0 = 29) (h1 : S a1 = 12) (h2 : S a2 = 13) (h3 : S a3 = 21) (h4 : S a4 = 22) (hi0 : (-2147483648 ≤ i0 ∧ i0 < 2147483648)) {r : (Int × (Nat → Nat) × (Nat → Nat) × gM × gR) ⊕ Unit} (h : fL_c43 G.2.2.2.2 sz S Ln R M a0 a1 a2 a3 a4 i0 = some r) (hJ : ∀ t, r = .inl t → ∀ sz1, ((-2147483648 ≤ t.1 ∧ t.1 < 2147483648) ∧ t.2.1 a0 = 29 ∧ t.2.1 a1 = 12 ∧ t.2.1 a2 = 13 ∧ t.2.1 a3 = 21 ∧ t.2.1 a4 = 22 ∧ Ex2 S Ln t.2.1 t.2.2.1) → JJ G C (kk + 40) (256 * (kk + 40)) sz1 t.2.1 t.2.2.1 t.2.2.2.1 t.2.2.2.2 28 [(0, .ref a0), (1, .ref a1), (2, .ref a2), (3, .ref a3), (4, .ref a4), (5, .int (iI t.1))] []) : JJ G C kk (256 * (kk)) sz S Ln M R 2575 [(0, .ref a0), (1, .ref a1), (2, .ref a2), (3, .ref a3), (4, .ref a4), (5, .int (iI i0))] [] := by
  unfold fL_c43 at h
  refine jj_aload_n hC dL_law_2575 rfl 1 rfl ?_
  obtain ⟨q1, hq1, h⟩ := bd_e h
  refine jj_invV hC mvX9_isConsistent wd457 wd458 wd456 h1 (by decide) rfl (xX9_isConsistent (OKC.tr hC) h1 hq1) rfl rfl (c_le rfl) (c_le rfl) (by omega) (by omega) dL_law_2576 noXk (po_kZ (fun hr1 => ?_))
  refine jj_aload_n hC dL_law_2579 rfl 2 rfl ?_
  obtain ⟨q2, hq2, h⟩ := bd_e h
  refine jj_invV hC mvX10_isConsistent wd2125 wd2126 wd2124 h2 (by decide) rfl (xX10_isConsistent (OKC.tr hC) h2 hq2) rfl rfl (c_le rfl) (c_le rfl) (by omega) (by omega) dL_law_2580 noXk (po_kZ (fun hr2 => ?_))
  refine jj_icmp_eq (tgt := 2982) hC dL_law_2583 rfl (r_z hr1) (r_z hr2) (fun hc => ?_) (fun hc => ?_)
  · replace h := (if_pos hc).symm.trans h
    refine jg_iinc (q := 5) (lv' := [(5, .int (iI (w32 (i0 + 5)))), (0, .ref a0), (1, .ref a1), (2, .ref a2), (3, .ref a3), (4, .ref a4)]) hC dL_law_2982 rfl (by decide) rfl ?_
    refine jj_goto (tgt := 28) hC dL_law_2985 rfl ?_
    refine jj_widen (k' := kk + 40) (n' := 256 * (kk + 40)) (by omega) (by omega) ?_
    refine jj_lv (lv' := [(0, .ref a0), (1, .ref a1), (2, .ref a2), (3, .ref a3), (4, .ref a4), (5, .int (iI (w32 (i0 + 5))))]) [1, 2, 3, 4, 5, 0] rfl ?_
    exact hJ _ (Option.some.inj h).symm sz ⟨(w32_r _), h0, h1, h2, h3, h4, ex2_r⟩
  · replace h := (if_neg (hc)).symm.trans h
    cases h
def fL_c44_B2643 (ad : Nat → Nat) (S2643 Ln2643 : Nat → Nat) (R2643 : gR) (M2643 : gM) (a0 : Nat) (a1 : Nat) (a2 : Nat) (a3 : Nat) (a4 : Nat) (l5_2643 : Int) : Option ((Int × (Nat → Nat) × (Nat → Nat) × gM × gR) ⊕ Unit) :=
  some (.inl (w32 (l5_2643 + 5), S2643, Ln2643, M2643, R2643))
def fL_c44 (ad : Nat → Nat) (sz : Nat) (S Ln : Nat → Nat) (R : gR) (M : gM) (a0 a1 a2 a3 a4 : Nat) (i0 : Int) : Option ((Int × (Nat → Nat) × (Nat → Nat) × gM × gR) ⊕ Unit) :=
  gd ((0 : Int) ≤ (w32 (i0 + 1)) ∧ (w32 (i0 + 1)) < (Ln a0 : Int)) (bd (fL_append ad S Ln R M a1 (i_i2c (M a0 (w32 (i0 + 1)))) a3) fun q2 => gd ((0 : Int) ≤ (w32 (i0 + 1)) ∧ (w32 (i0 + 1)) < (Ln a0 : Int)) (bd (fX10_append ad S Ln R q2.2 a2 (i_i2c (q2.2 a0 (w32 (i0 + 1))))) fun q4 => bd (fX10_thrown ad S Ln R q4.2 a2) fun q5 => if q5 = q2.1 then (if ¬ q2.1 = 0 then (fL_c44_B2643 ad S Ln R q4.2 a0 a1 a2 a3 a4 i0) else (gd ((0 : Int) ≤ 0 ∧ 0 < (Ln a3 : Int)) (if (i_lcmp (q4.2 a3 0) q4.1) = 0 then (fL_c44_B2643 ad S Ln R q4.2 a0 a1 a2 a3 a4 i0) else (none)))) else (none)))
theorem xL_c44 {G : gE} {C : gC} {sz kk : Nat} {S Ln : Nat → Nat} {M : gM} {R : gR} {P : gP} (hC : OKC G C RL cL_law 9 (some .boolean) 1400 603072 7198826 P noX) (hkk : kk + 40 ≤ 603072) (hnn : 256 * (kk + 40) ≤ 7198826) {a0 a1 a2 a3 a4 : Nat} {i0 : Int} (h0 : S a0 = 29) (h1 : S a1 = 12) (h2 : S a2 = 13) (h3 : S a3 = 21) (h4 : S a4 = 22) (hi0 : (-2147483648 ≤ i0 ∧ i0 < 2147483648)) {r : (Int × (Nat → Nat) × (Nat → Nat) × gM × gR) ⊕ Unit} (h : fL_c44 G.2.2.2.2 sz S Ln R M a0 a1 a2 a3 a4 i0 = some r) (hJ : ∀ t, r = .inl t → ∀ sz1, ((-2147483648 ≤ t.1 ∧ t.1 < 2147483648) ∧ t.2.1 a0 = 29 ∧ t.2.1 a1 = 12 ∧ t.2.1 a2 = 13 ∧ t.2.1 a3 = 21 ∧ t.2.1 a4 = 22 ∧ Ex2 S Ln t.2.1 t.2.2.1) → JJ G C (kk + 40) (256 * (kk + 40)) sz1 t.2.1 t.2.2.1 t.2.2.2.1 t.2.2.2.2 28 [(0, .ref a0), (1, .ref a1), (2, .ref a2), (3, .ref a3), (4, .ref a4), (5, .int (iI t.1))] []) : JJ G C kk (256 * (kk)) sz S Ln M R 2588 [(0, .ref a0), (1, .ref a1), (2, .ref a2), (3, .ref a3), (4, .ref a4), (5, .int (iI i0))] [] := by
  have hB2643 : ∀ (sz2643 : Nat) (S2643 : (Nat → Nat)) (Ln2643 : (Nat → Nat)) (M2643 : gM) (R2643 : gR) (l5_2643 : Int), Ex2 S Ln S2643 Ln2643 → (-2147483648 ≤ l5_2643 ∧ l5_2643 < 2147483648) → S2643 a0 = 29 → S2643 a1 = 12 → S2643 a2 = 13 → S2643 a3 = 21 → S2643 a4 = 22 → fL_c44_B2643 G.2.2.2.2 S2643 Ln2643 R2643 M2643 a0 a1 a2 a3 a4 l5_2643 = some r → JJ G C (kk + 1) (256 * (kk + 1)) sz2643 S2643 Ln2643 M2643 R2643 2643 [(0, .ref a0), (1, .ref a1), (2, .ref a2), (3, .ref a3), (4, .ref a4), (5, .int (iI l5_2643))] [] := by
    intro sz2643 S2643 Ln2643 M2643 R2643 l5_2643 hx2643 hl5_2643 ha0_2643 ha1_2643 ha2_2643 ha3_2643 ha4_2643 h
    unfold fL_c44_B2643 at h
    refine jj_goto (tgt := 2982) hC dL_law_2643 rfl ?_
    refine jg_iinc (q := 5) (lv' := [(5, .int (iI (w32 (l5_2643 + 5)))), (0, .ref a0), (1, .ref a1), (2, .ref a2), (3, .ref a3), (4, .ref a4)]) hC dL_law_2982 rfl (by decide) rfl ?_
    refine jj_goto (tgt := 28) hC dL_law_2985 rfl ?_
    refine jj_widen (k' := kk + 40) (n' := 256 * (kk + 40)) (by omega) (by omega) ?_
    refine jj_lv (lv' := [(0, .ref a0), (1, .ref a1), (2, .ref a2), (3, .ref a3), (4, .ref a4), (5, .int (iI (w32 (l5_2643 + 5))))]) [1, 2, 3, 4, 5, 0] rfl ?_
    exact hJ _ (Option.some.inj h).symm sz2643 ⟨(w32_r _), ha0_2643, ha1_2643, ha2_2643, ha3_2643, ha4_2643, hx2643⟩
  unfold fL_c44 at h
  refine jj_aload_n hC dL_law_2588 rfl 1 rfl ?_
  refine jj_aload_n hC dL_law_2589 rfl 0 rfl ?_
  refine jj_iload hC dL_law_2590 5 rfl ?_
  refine jj_iconst hC dL_law_2592 ?_
  refine jg_iadd hC dL_law_2593 ?_
  obtain ⟨⟨ha1, hb1⟩, h⟩ := gd_e h
  refine jj_iald29 hC h0 ha1 hb1 dL_law_2594 (fun hr1 => ?_)
  refine jg_i2c hC dL_law_2595 ?_
  refine jj_aload_n hC dL_law_2596 rfl 3 rfl ?_
  obtain ⟨q2, hq2, h⟩ := bd_e h
  refine jj_invSW hC mvwL_append wd1527 wd1526 (xL_append (OKC.tr hC) h1 (i_i2c_r _) h3 hq2) rfl rfl (c_le rfl) (c_le rfl) (by omega) (by omega) dL_law_2597 (po_kW (fun hr2 hx2 sz2 => ?_))
  refine jj_widen (k' := kk + 1) (n' := 256 * (kk + 1)) (by omega) (by omega) ?_
  refine jj_istore (lv' := [(6, .int (iI q2.1)), (0, .ref a0), (1, .ref a1), (2, .ref a2), (3, .ref a3), (4, .ref a4), (5, .int (iI i0))]) hC dL_law_2600 (by decide) rfl ?_
  refine jj_aload_n hC dL_law_2602 rfl 3 rfl ?_
  refine jj_aload_n hC dL_law_2603 rfl 1 rfl ?_
  refine jj_iload hC dL_law_2604 6 rfl ?_
  refine jj_iconst hC dL_law_2606 ?_
  refine jg_iadd hC dL_law_2607 ?_
  obtain ⟨⟨ha3, hb3⟩, h⟩ := gd_e h
  refine jj_iald29 hC h0 ha3 hb3 dL_law_2608 (fun hr3 => ?_)
  refine jg_i2c hC dL_law_2609 ?_
  obtain ⟨q4, hq4, h⟩ := bd_e h
  refine jj_invV hC mvX10_append wd2151 wd2152 wd2150 h2 (by decide) rfl (xX10_append (OKC.tr hC) h2 (i_i2c_r _) hq4) rfl rfl (c_le rfl) (c_le rfl) (by omega) (by omega) dL_law_2610 noXk (po_kI (fun hr4 => ?_))
  refine jj_istore (lv' := [(7, .int (iI q4.1)), (6, .int (iI q2.1)), (0, .ref a0), (1, .ref a1), (2, .ref a2), (3, .ref a3), (4, .ref a4), (5, .int (iI i0))]) hC dL_law_2613 (by decide) rfl ?_
  refine jj_aload_n hC dL_law_2615 rfl 4 rfl ?_
  obtain ⟨q5, hq5, h⟩ := bd_e h
  refine jj_invV hC mvX10_thrown wd1765 wd1766 wd1764 h2 (by decide) rfl (xX10_thrown (OKC.tr hC) h2 hq5) rfl rfl (c_le rfl) (c_le rfl) (by omega) (by omega) dL_law_2616 noXk (po_kI (fun hr5 => ?_))
  refine jj_iload hC dL_law_2619 1 rfl ?_
  refine jj_icmp_eq (tgt := 2626) hC dL_law_2621 rfl hr5 hr2 (fun hc => ?_) (fun hc => ?_)
  · replace h := (if_pos hc).symm.trans h
    refine jj_iload hC dL_law_2626 1 rfl ?_
    refine jj_if_ne (tgt := 2643) hC dL_law_2628 rfl hr2 (fun hc => ?_) (fun hc => ?_)
    · replace h := (if_pos hc).symm.trans h
      refine jj_widen (k' := kk + 1) (n' := 256 * (kk + 1)) (by omega) (by omega) ?_
      refine jj_lv (lv' := [(0, .ref a0), (1, .ref a1), (2, .ref a2), (3, .ref a3), (4, .ref a4), (5, .int (iI i0))]) [2, 3, 4, 5, 6, 7] rfl ?_
      exact hB2643 sz2 S Ln q4.2 R i0 ex2_r hi0 h0 h1 h2 h3 h4 h
    · replace h := (if_neg (fun k => k hc)).symm.trans h
      refine jj_aload_n hC dL_law_2631 rfl 5 rfl ?_
      refine jj_iconst hC dL_law_2632 ?_
      obtain ⟨⟨ha6, hb6⟩, h⟩ := gd_e h
      refine jj_lald hC h3 ha6 hb6 dL_law_2633 (fun hr6 => ?_)
      refine jj_iload hC dL_law_2634 0 rfl ?_
      refine jj_i2l hC dL_law_2636 hr4 ?_
      refine jg_lcmp hC hr6 (r_il hr4) dL_law_2637 ?_
      refine jj_if_eq (tgt := 2643) hC dL_law_2638 rfl i_lcmp_r (fun hc => ?_) (fun hc => ?_)
      · replace h := (if_pos hc).symm.trans h
        refine jj_widen (k' := kk + 1) (n' := 256 * (kk + 1)) (by omega) (by omega) ?_
        refine jj_lv (lv' := [(0, .ref a0), (1, .ref a1), (2, .ref a2), (3, .ref a3), (4, .ref a4), (5, .int (iI i0))]) [2, 3, 4, 5, 6, 7] rfl ?_
        exact hB2643 sz2 S Ln q4.2 R i0 ex2_r hi0 h0 h1 h2 h3 h4 h
      · replace h := (if_neg (hc)).symm.trans h
        cases h
  · replace h := (if_neg (hc)).symm.trans h
    cases h
def fL_c45_B2687 (ad : Nat → Nat) (S2687 Ln2687 : Nat → Nat) (R2687 : gR) (M2687 : gM) (a0 : Nat) (a1 : Nat) (a2 : Nat) (a3 : Nat) (a4 : Nat) (l5_2687 : Int) : Option ((Int × (Nat → Nat) × (Nat → Nat) × gM × gR) ⊕ Unit) :=
  some (.inl (w32 (l5_2687 + 5), S2687, Ln2687, M2687, R2687))
def fL_c45 (ad : Nat → Nat) (sz : Nat) (S Ln : Nat → Nat) (R : gR) (M : gM) (a0 a1 a2 a3 a4 : Nat) (i0 : Int) : Option ((Int × (Nat → Nat) × (Nat → Nat) × gM × gR) ⊕ Unit) :=
  bd (fL_run ad S Ln R M a1 a3) fun q1 => bd (fX10_run ad S Ln q1.2.2 q1.2.1 a2) fun q2 => bd (fX10_thrown ad S Ln q1.2.2 q2.2 a2) fun q3 => if q3 = q1.1 then (if ¬ q1.1 = 0 then (fL_c45_B2687 ad S Ln q1.2.2 q2.2 a0 a1 a2 a3 a4 i0) else (gd ((0 : Int) ≤ 0 ∧ 0 < (Ln a3 : Int)) (if (i_lcmp (q2.2 a3 0) q2.1) = 0 then (fL_c45_B2687 ad S Ln q1.2.2 q2.2 a0 a1 a2 a3 a4 i0) else (none)))) else (none)
theorem xL_c45 {G : gE} {C : gC} {sz kk : Nat} {S Ln : Nat → Nat} {M : gM} {R : gR} {P : gP} (hC : OKC G C RL cL_law 9 (some .boolean) 1400 603072 7198826 P noX) (hkk : kk + 40 ≤ 603072) (hnn : 256 * (kk + 40) ≤ 7198826) {a0 a1 a2 a3 a4 : Nat} {i0 : Int} (h0 : S a0 = 29) (h1 : S a1 = 12) (h2 : S a2 = 13) (h3 : S a3 = 21) (h4 : S a4 = 22) (hi0 : (-2147483648 ≤ i0 ∧ i0 < 2147483648)) {r : (Int × (Nat → Nat) × (Nat → Nat) × gM × gR) ⊕ Unit} (h : fL_c45 G.2.2.2.2 sz S Ln R M a0 a1 a2 a3 a4 i0 = some r) (hJ : ∀ t, r = .inl t → ∀ sz1, ((-2147483648 ≤ t.1 ∧ t.1 < 2147483648) ∧ t.2.1 a0 = 29 ∧ t.2.1 a1 = 12 ∧ t.2.1 a2 = 13 ∧ t.2.1 a3 = 21 ∧ t.2.1 a4 = 22 ∧ Ex2 S Ln t.2.1 t.2.2.1) → JJ G C (kk + 40) (256 * (kk + 40)) sz1 t.2.1 t.2.2.1 t.2.2.2.1 t.2.2.2.2 28 [(0, .ref a0), (1, .ref a1), (2, .ref a2), (3, .ref a3), (4, .ref a4), (5, .int (iI t.1))] []) : JJ G C kk (256 * (kk)) sz S Ln M R 2646 [(0, .ref a0), (1, .ref a1), (2, .ref a2), (3, .ref a3), (4, .ref a4), (5, .int (iI i0))] [] := by
  have hB2687 : ∀ (sz2687 : Nat) (S2687 : (Nat → Nat)) (Ln2687 : (Nat → Nat)) (M2687 : gM) (R2687 : gR) (l5_2687 : Int), Ex2 S Ln S2687 Ln2687 → (-2147483648 ≤ l5_2687 ∧ l5_2687 < 2147483648) → S2687 a0 = 29 → S2687 a1 = 12 → S2687 a2 = 13 → S2687 a3 = 21 → S2687 a4 = 22 → fL_c45_B2687 G.2.2.2.2 S2687 Ln2687 R2687 M2687 a0 a1 a2 a3 a4 l5_2687 = some r → JJ G C (kk + 1) (256 * (kk + 1)) sz2687 S2687 Ln2687 M2687 R2687 2687 [(0, .ref a0), (1, .ref a1), (2, .ref a2), (3, .ref a3), (4, .ref a4), (5, .int (iI l5_2687))] [] := by
    intro sz2687 S2687 Ln2687 M2687 R2687 l5_2687 hx2687 hl5_2687 ha0_2687 ha1_2687 ha2_2687 ha3_2687 ha4_2687 h
    unfold fL_c45_B2687 at h
    refine jj_goto (tgt := 2982) hC dL_law_2687 rfl ?_
    refine jg_iinc (q := 5) (lv' := [(5, .int (iI (w32 (l5_2687 + 5)))), (0, .ref a0), (1, .ref a1), (2, .ref a2), (3, .ref a3), (4, .ref a4)]) hC dL_law_2982 rfl (by decide) rfl ?_
    refine jj_goto (tgt := 28) hC dL_law_2985 rfl ?_
    refine jj_widen (k' := kk + 40) (n' := 256 * (kk + 40)) (by omega) (by omega) ?_
    refine jj_lv (lv' := [(0, .ref a0), (1, .ref a1), (2, .ref a2), (3, .ref a3), (4, .ref a4), (5, .int (iI (w32 (l5_2687 + 5))))]) [1, 2, 3, 4, 5, 0] rfl ?_
    exact hJ _ (Option.some.inj h).symm sz2687 ⟨(w32_r _), ha0_2687, ha1_2687, ha2_2687, ha3_2687, ha4_2687, hx2687⟩
  unfold fL_c45 at h
  refine jj_aload_n hC dL_law_2646 rfl 1 rfl ?_
  refine jj_aload_n hC dL_law_2647 rfl 3 rfl ?_
  obtain ⟨q1, hq1, h⟩ := bd_e h
  refine jj_invSW hC mvwL_run wd1544 wd1543 (xL_run (OKC.tr hC) h1 h3 hq1) rfl rfl (c_le rfl) (c_le rfl) (by omega) (by omega) dL_law_2648 (po_kW (fun hr1 hx1 sz1 => ?_))
  refine jj_widen (k' := kk + 1) (n' := 256 * (kk + 1)) (by omega) (by omega) ?_
  refine jj_istore (lv' := [(6, .int (iI q1.1)), (0, .ref a0), (1, .ref a1), (2, .ref a2), (3, .ref a3), (4, .ref a4), (5, .int (iI i0))]) hC dL_law_2651 (by decide) rfl ?_
  refine jj_aload_n hC dL_law_2653 rfl 3 rfl ?_
  obtain ⟨q2, hq2, h⟩ := bd_e h
  refine jj_invV hC mvX10_run wd2155 wd2156 wd2154 h2 (by decide) rfl (xX10_run (OKC.tr hC) h2 hq2) rfl rfl (c_le rfl) (c_le rfl) (by omega) (by omega) dL_law_2654 noXk (po_kI (fun hr2 => ?_))
  refine jj_istore (lv' := [(7, .int (iI q2.1)), (6, .int (iI q1.1)), (0, .ref a0), (1, .ref a1), (2, .ref a2), (3, .ref a3), (4, .ref a4), (5, .int (iI i0))]) hC dL_law_2657 (by decide) rfl ?_
  refine jj_aload_n hC dL_law_2659 rfl 4 rfl ?_
  obtain ⟨q3, hq3, h⟩ := bd_e h
  refine jj_invV hC mvX10_thrown wd1765 wd1766 wd1764 h2 (by decide) rfl (xX10_thrown (OKC.tr hC) h2 hq3) rfl rfl (c_le rfl) (c_le rfl) (by omega) (by omega) dL_law_2660 noXk (po_kI (fun hr3 => ?_))
  refine jj_iload hC dL_law_2663 1 rfl ?_
  refine jj_icmp_eq (tgt := 2670) hC dL_law_2665 rfl hr3 hr1 (fun hc => ?_) (fun hc => ?_)
  · replace h := (if_pos hc).symm.trans h
    refine jj_iload hC dL_law_2670 1 rfl ?_
    refine jj_if_ne (tgt := 2687) hC dL_law_2672 rfl hr1 (fun hc => ?_) (fun hc => ?_)
    · replace h := (if_pos hc).symm.trans h
      refine jj_widen (k' := kk + 1) (n' := 256 * (kk + 1)) (by omega) (by omega) ?_
      refine jj_lv (lv' := [(0, .ref a0), (1, .ref a1), (2, .ref a2), (3, .ref a3), (4, .ref a4), (5, .int (iI i0))]) [2, 3, 4, 5, 6, 7] rfl ?_
      exact hB2687 sz1 S Ln q2.2 q1.2.2 i0 ex2_r hi0 h0 h1 h2 h3 h4 h
    · replace h := (if_neg (fun k => k hc)).symm.trans h
      refine jj_aload_n hC dL_law_2675 rfl 5 rfl ?_
      refine jj_iconst hC dL_law_2676 ?_
      obtain ⟨⟨ha4, hb4⟩, h⟩ := gd_e h
      refine jj_lald hC h3 ha4 hb4 dL_law_2677 (fun hr4 => ?_)
      refine jj_iload hC dL_law_2678 0 rfl ?_
      refine jj_i2l hC dL_law_2680 hr2 ?_
      refine jg_lcmp hC hr4 (r_il hr2) dL_law_2681 ?_
      refine jj_if_eq (tgt := 2687) hC dL_law_2682 rfl i_lcmp_r (fun hc => ?_) (fun hc => ?_)
      · replace h := (if_pos hc).symm.trans h
        refine jj_widen (k' := kk + 1) (n' := 256 * (kk + 1)) (by omega) (by omega) ?_
        refine jj_lv (lv' := [(0, .ref a0), (1, .ref a1), (2, .ref a2), (3, .ref a3), (4, .ref a4), (5, .int (iI i0))]) [2, 3, 4, 5, 6, 7] rfl ?_
        exact hB2687 sz1 S Ln q2.2 q1.2.2 i0 ex2_r hi0 h0 h1 h2 h3 h4 h
      · replace h := (if_neg (hc)).symm.trans h
        cases h
  · replace h := (if_neg (hc)).symm.trans h
    cases h
def fL_c46_B2731 (ad : Nat → Nat) (S2731 Ln2731 : Nat → Nat) (R2731 : gR) (M2731 : gM) (a0 : Nat) (a1 : Nat) (a2 : Nat) (a3 : Nat) (a4 : Nat) (l5_2731 : Int) : Option ((Int × (Nat → Nat) × (Nat → Nat) × gM × gR) ⊕ Unit) :=
  some (.inl (w32 (l5_2731 + 5), S2731, Ln2731, M2731, R2731))
def fL_c46 (ad : Nat → Nat) (sz : Nat) (S Ln : Nat → Nat) (R : gR) (M : gM) (a0 a1 a2 a3 a4 : Nat) (i0 : Int) : Option ((Int × (Nat → Nat) × (Nat → Nat) × gM × gR) ⊕ Unit) :=
  bd (fL_errorPosition ad S Ln R M a1 a3) fun q1 => bd (fX10_errorPosition ad S Ln R q1.2 a2) fun q2 => bd (fX10_thrown ad S Ln R q2.2 a2) fun q3 => if q3 = q1.1 then (if ¬ q1.1 = 0 then (fL_c46_B2731 ad S Ln R q2.2 a0 a1 a2 a3 a4 i0) else (gd ((0 : Int) ≤ 0 ∧ 0 < (Ln a3 : Int)) (if (i_lcmp (q2.2 a3 0) q2.1) = 0 then (fL_c46_B2731 ad S Ln R q2.2 a0 a1 a2 a3 a4 i0) else (none)))) else (none)
theorem xL_c46 {G : gE} {C : gC} {sz kk : Nat} {S Ln : Nat → Nat} {M : gM} {R : gR} {P : gP} (hC : OKC G C RL cL_law 9 (some .boolean) 1400 603072 7198826 P noX) (hkk : kk + 40 ≤ 603072) (hnn : 256 * (kk + 40) ≤ 7198826) {a0 a1 a2 a3 a4 : Nat} {i0 : Int} (h0 : S a0 = 29) (h1 : S a1 = 12) (h2 : S a2 = 13) (h3 : S a3 = 21) (h4 : S a4 = 22) (hi0 : (-2147483648 ≤ i0 ∧ i0 < 2147483648)) {r : (Int × (Nat → Nat) × (Nat → Nat) × gM × gR) ⊕ Unit} (h : fL_c46 G.2.2.2.2 sz S Ln R M a0 a1 a2 a3 a4 i0 = some r) (hJ : ∀ t, r = .inl t → ∀ sz1, ((-2147483648 ≤ t.1 ∧ t.1 < 2147483648) ∧ t.2.1 a0 = 29 ∧ t.2.1 a1 = 12 ∧ t.2.1 a2 = 13 ∧ t.2.1 a3 = 21 ∧ t.2.1 a4 = 22 ∧ Ex2 S Ln t.2.1 t.2.2.1) → JJ G C (kk + 40) (256 * (kk + 40)) sz1 t.2.1 t.2.2.1 t.2.2.2.1 t.2.2.2.2 28 [(0, .ref a0), (1, .ref a1), (2, .ref a2), (3, .ref a3), (4, .ref a4), (5, .int (iI t.1))] []) : JJ G C kk (256 * (kk)) sz S Ln M R 2690 [(0, .ref a0), (1, .ref a1), (2, .ref a2), (3, .ref a3), (4, .ref a4), (5, .int (iI i0))] [] := by
  have hB2731 : ∀ (sz2731 : Nat) (S2731 : (Nat → Nat)) (Ln2731 : (Nat → Nat)) (M2731 : gM) (R2731 : gR) (l5_2731 : Int), Ex2 S Ln S2731 Ln2731 → (-2147483648 ≤ l5_2731 ∧ l5_2731 < 2147483648) → S2731 a0 = 29 → S2731 a1 = 12 → S2731 a2 = 13 → S2731 a3 = 21 → S2731 a4 = 22 → fL_c46_B2731 G.2.2.2.2 S2731 Ln2731 R2731 M2731 a0 a1 a2 a3 a4 l5_2731 = some r → JJ G C (kk + 1) (256 * (kk + 1)) sz2731 S2731 Ln2731 M2731 R2731 2731 [(0, .ref a0), (1, .ref a1), (2, .ref a2), (3, .ref a3), (4, .ref a4), (5, .int (iI l5_2731))] [] := by
    intro sz2731 S2731 Ln2731 M2731 R2731 l5_2731 hx2731 hl5_2731 ha0_2731 ha1_2731 ha2_2731 ha3_2731 ha4_2731 h
    unfold fL_c46_B2731 at h
    refine jj_goto (tgt := 2982) hC dL_law_2731 rfl ?_
    refine jg_iinc (q := 5) (lv' := [(5, .int (iI (w32 (l5_2731 + 5)))), (0, .ref a0), (1, .ref a1), (2, .ref a2), (3, .ref a3), (4, .ref a4)]) hC dL_law_2982 rfl (by decide) rfl ?_
    refine jj_goto (tgt := 28) hC dL_law_2985 rfl ?_
    refine jj_widen (k' := kk + 40) (n' := 256 * (kk + 40)) (by omega) (by omega) ?_
    refine jj_lv (lv' := [(0, .ref a0), (1, .ref a1), (2, .ref a2), (3, .ref a3), (4, .ref a4), (5, .int (iI (w32 (l5_2731 + 5))))]) [1, 2, 3, 4, 5, 0] rfl ?_
    exact hJ _ (Option.some.inj h).symm sz2731 ⟨(w32_r _), ha0_2731, ha1_2731, ha2_2731, ha3_2731, ha4_2731, hx2731⟩
  unfold fL_c46 at h
  refine jj_aload_n hC dL_law_2690 rfl 1 rfl ?_
  refine jj_aload_n hC dL_law_2691 rfl 3 rfl ?_
  obtain ⟨q1, hq1, h⟩ := bd_e h
  refine jj_invSW hC mvwL_errorPosition wd1631 wd1630 (xL_errorPosition (OKC.tr hC) h1 h3 hq1) rfl rfl (c_le rfl) (c_le rfl) (by omega) (by omega) dL_law_2692 (po_kW (fun hr1 hx1 sz1 => ?_))
  refine jj_widen (k' := kk + 1) (n' := 256 * (kk + 1)) (by omega) (by omega) ?_
  refine jj_istore (lv' := [(6, .int (iI q1.1)), (0, .ref a0), (1, .ref a1), (2, .ref a2), (3, .ref a3), (4, .ref a4), (5, .int (iI i0))]) hC dL_law_2695 (by decide) rfl ?_
  refine jj_aload_n hC dL_law_2697 rfl 3 rfl ?_
  obtain ⟨q2, hq2, h⟩ := bd_e h
  refine jj_invV hC mvX10_errorPosition wd2221 wd2222 wd2220 h2 (by decide) rfl (xX10_errorPosition (OKC.tr hC) h2 hq2) rfl rfl (c_le rfl) (c_le rfl) (by omega) (by omega) dL_law_2698 noXk (po_kI (fun hr2 => ?_))
  refine jj_istore (lv' := [(7, .int (iI q2.1)), (6, .int (iI q1.1)), (0, .ref a0), (1, .ref a1), (2, .ref a2), (3, .ref a3), (4, .ref a4), (5, .int (iI i0))]) hC dL_law_2701 (by decide) rfl ?_
  refine jj_aload_n hC dL_law_2703 rfl 4 rfl ?_
  obtain ⟨q3, hq3, h⟩ := bd_e h
  refine jj_invV hC mvX10_thrown wd1765 wd1766 wd1764 h2 (by decide) rfl (xX10_thrown (OKC.tr hC) h2 hq3) rfl rfl (c_le rfl) (c_le rfl) (by omega) (by omega) dL_law_2704 noXk (po_kI (fun hr3 => ?_))
  refine jj_iload hC dL_law_2707 1 rfl ?_
  refine jj_icmp_eq (tgt := 2714) hC dL_law_2709 rfl hr3 hr1 (fun hc => ?_) (fun hc => ?_)
  · replace h := (if_pos hc).symm.trans h
    refine jj_iload hC dL_law_2714 1 rfl ?_
    refine jj_if_ne (tgt := 2731) hC dL_law_2716 rfl hr1 (fun hc => ?_) (fun hc => ?_)
    · replace h := (if_pos hc).symm.trans h
      refine jj_widen (k' := kk + 1) (n' := 256 * (kk + 1)) (by omega) (by omega) ?_
      refine jj_lv (lv' := [(0, .ref a0), (1, .ref a1), (2, .ref a2), (3, .ref a3), (4, .ref a4), (5, .int (iI i0))]) [2, 3, 4, 5, 6, 7] rfl ?_
      exact hB2731 sz1 S Ln q2.2 R i0 ex2_r hi0 h0 h1 h2 h3 h4 h
    · replace h := (if_neg (fun k => k hc)).symm.trans h
      refine jj_aload_n hC dL_law_2719 rfl 5 rfl ?_
      refine jj_iconst hC dL_law_2720 ?_
      obtain ⟨⟨ha4, hb4⟩, h⟩ := gd_e h
      refine jj_lald hC h3 ha4 hb4 dL_law_2721 (fun hr4 => ?_)
      refine jj_iload hC dL_law_2722 0 rfl ?_
      refine jj_i2l hC dL_law_2724 hr2 ?_
      refine jg_lcmp hC hr4 (r_il hr2) dL_law_2725 ?_
      refine jj_if_eq (tgt := 2731) hC dL_law_2726 rfl i_lcmp_r (fun hc => ?_) (fun hc => ?_)
      · replace h := (if_pos hc).symm.trans h
        refine jj_widen (k' := kk + 1) (n' := 256 * (kk + 1)) (by omega) (by omega) ?_
        refine jj_lv (lv' := [(0, .ref a0), (1, .ref a1), (2, .ref a2), (3, .ref a3), (4, .ref a4), (5, .int (iI i0))]) [2, 3, 4, 5, 6, 7] rfl ?_
        exact hB2731 sz1 S Ln q2.2 R i0 ex2_r hi0 h0 h1 h2 h3 h4 h
      · replace h := (if_neg (hc)).symm.trans h
        cases h
  · replace h := (if_neg (hc)).symm.trans h
    cases h
def fL_c47_B2775 (ad : Nat → Nat) (S2775 Ln2775 : Nat → Nat) (R2775 : gR) (M2775 : gM) (a0 : Nat) (a1 : Nat) (a2 : Nat) (a3 : Nat) (a4 : Nat) (l5_2775 : Int) : Option ((Int × (Nat → Nat) × (Nat → Nat) × gM × gR) ⊕ Unit) :=
  some (.inl (w32 (l5_2775 + 5), S2775, Ln2775, M2775, R2775))
def fL_c47 (ad : Nat → Nat) (sz : Nat) (S Ln : Nat → Nat) (R : gR) (M : gM) (a0 a1 a2 a3 a4 : Nat) (i0 : Int) : Option ((Int × (Nat → Nat) × (Nat → Nat) × gM × gR) ⊕ Unit) :=
  bd (fL_failedCommand ad S Ln R M a1 a3) fun q1 => bd (fX10_failedCommand ad S Ln R q1.2 a2) fun q2 => bd (fX10_thrown ad S Ln R q2.2 a2) fun q3 => if q3 = q1.1 then (if ¬ q1.1 = 0 then (fL_c47_B2775 ad S Ln R q2.2 a0 a1 a2 a3 a4 i0) else (gd ((0 : Int) ≤ 0 ∧ 0 < (Ln a3 : Int)) (if (i_lcmp (q2.2 a3 0) q2.1) = 0 then (fL_c47_B2775 ad S Ln R q2.2 a0 a1 a2 a3 a4 i0) else (none)))) else (none)
theorem xL_c47 {G : gE} {C : gC} {sz kk : Nat} {S Ln : Nat → Nat} {M : gM} {R : gR} {P : gP} (hC : OKC G C RL cL_law 9 (some .boolean) 1400 603072 7198826 P noX) (hkk : kk + 40 ≤ 603072) (hnn : 256 * (kk + 40) ≤ 7198826) {a0 a1 a2 a3 a4 : Nat} {i0 : Int} (h0 : S a0 = 29) (h1 : S a1 = 12) (h2 : S a2 = 13) (h3 : S a3 = 21) (h4 : S a4 = 22) (hi0 : (-2147483648 ≤ i0 ∧ i0 < 2147483648)) {r : (Int × (Nat → Nat) × (Nat → Nat) × gM × gR) ⊕ Unit} (h : fL_c47 G.2.2.2.2 sz S Ln R M a0 a1 a2 a3 a4 i0 = some r) (hJ : ∀ t, r = .inl t → ∀ sz1, ((-2147483648 ≤ t.1 ∧ t.1 < 2147483648) ∧ t.2.1 a0 = 29 ∧ t.2.1 a1 = 12 ∧ t.2.1 a2 = 13 ∧ t.2.1 a3 = 21 ∧ t.2.1 a4 = 22 ∧ Ex2 S Ln t.2.1 t.2.2.1) → JJ G C (kk + 40) (256 * (kk + 40)) sz1 t.2.1 t.2.2.1 t.2.2.2.1 t.2.2.2.2 28 [(0, .ref a0), (1, .ref a1), (2, .ref a2), (3, .ref a3), (4, .ref a4), (5, .int (iI t.1))] []) : JJ G C kk (256 * (kk)) sz S Ln M R 2734 [(0, .ref a0), (1, .ref a1), (2, .ref a2), (3, .ref a3), (4, .ref a4), (5, .int (iI i0))] [] := by
  have hB2775 : ∀ (sz2775 : Nat) (S2775 : (Nat → Nat)) (Ln2775 : (Nat → Nat)) (M2775 : gM) (R2775 : gR) (l5_2775 : Int), Ex2 S Ln S2775 Ln2775 → (-2147483648 ≤ l5_2775 ∧ l5_2775 < 2147483648) → S2775 a0 = 29 → S2775 a1 = 12 → S2775 a2 = 13 → S2775 a3 = 21 → S2775 a4 = 22 → fL_c47_B2775 G.2.2.2.2 S2775 Ln2775 R2775 M2775 a0 a1 a2 a3 a4 l5_2775 = some r → JJ G C (kk + 1) (256 * (kk + 1)) sz2775 S2775 Ln2775 M2775 R2775 2775 [(0, .ref a0), (1, .ref a1), (2, .ref a2), (3, .ref a3), (4, .ref a4), (5, .int (iI l5_2775))] [] := by
    intro sz2775 S2775 Ln2775 M2775 R2775 l5_2775 hx2775 hl5_2775 ha0_2775 ha1_2775 ha2_2775 ha3_2775 ha4_2775 h
    unfold fL_c47_B2775 at h
    refine jj_goto (tgt := 2982) hC dL_law_2775 rfl ?_
    refine jg_iinc (q := 5) (lv' := [(5, .int (iI (w32 (l5_2775 + 5)))), (0, .ref a0), (1, .ref a1), (2, .ref a2), (3, .ref a3), (4, .ref a4)]) hC dL_law_2982 rfl (by decide) rfl ?_
    refine jj_goto (tgt := 28) hC dL_law_2985 rfl ?_
    refine jj_widen (k' := kk + 40) (n' := 256 * (kk + 40)) (by omega) (by omega) ?_
    refine jj_lv (lv' := [(0, .ref a0), (1, .ref a1), (2, .ref a2), (3, .ref a3), (4, .ref a4), (5, .int (iI (w32 (l5_2775 + 5))))]) [1, 2, 3, 4, 5, 0] rfl ?_
    exact hJ _ (Option.some.inj h).symm sz2775 ⟨(w32_r _), ha0_2775, ha1_2775, ha2_2775, ha3_2775, ha4_2775, hx2775⟩
  unfold fL_c47 at h
  refine jj_aload_n hC dL_law_2734 rfl 1 rfl ?_
  refine jj_aload_n hC dL_law_2735 rfl 3 rfl ?_
  obtain ⟨q1, hq1, h⟩ := bd_e h
  refine jj_invSW hC mvwL_failedCommand wd1639 wd1638 (xL_failedCommand (OKC.tr hC) h1 h3 hq1) rfl rfl (c_le rfl) (c_le rfl) (by omega) (by omega) dL_law_2736 (po_kW (fun hr1 hx1 sz1 => ?_))
  refine jj_widen (k' := kk + 1) (n' := 256 * (kk + 1)) (by omega) (by omega) ?_
  refine jj_istore (lv' := [(6, .int (iI q1.1)), (0, .ref a0), (1, .ref a1), (2, .ref a2), (3, .ref a3), (4, .ref a4), (5, .int (iI i0))]) hC dL_law_2739 (by decide) rfl ?_
  refine jj_aload_n hC dL_law_2741 rfl 3 rfl ?_
  obtain ⟨q2, hq2, h⟩ := bd_e h
  refine jj_invV hC mvX10_failedCommand wd2225 wd2226 wd2224 h2 (by decide) rfl (xX10_failedCommand (OKC.tr hC) h2 hq2) rfl rfl (c_le rfl) (c_le rfl) (by omega) (by omega) dL_law_2742 noXk (po_kI (fun hr2 => ?_))
  refine jj_istore (lv' := [(7, .int (iI q2.1)), (6, .int (iI q1.1)), (0, .ref a0), (1, .ref a1), (2, .ref a2), (3, .ref a3), (4, .ref a4), (5, .int (iI i0))]) hC dL_law_2745 (by decide) rfl ?_
  refine jj_aload_n hC dL_law_2747 rfl 4 rfl ?_
  obtain ⟨q3, hq3, h⟩ := bd_e h
  refine jj_invV hC mvX10_thrown wd1765 wd1766 wd1764 h2 (by decide) rfl (xX10_thrown (OKC.tr hC) h2 hq3) rfl rfl (c_le rfl) (c_le rfl) (by omega) (by omega) dL_law_2748 noXk (po_kI (fun hr3 => ?_))
  refine jj_iload hC dL_law_2751 1 rfl ?_
  refine jj_icmp_eq (tgt := 2758) hC dL_law_2753 rfl hr3 hr1 (fun hc => ?_) (fun hc => ?_)
  · replace h := (if_pos hc).symm.trans h
    refine jj_iload hC dL_law_2758 1 rfl ?_
    refine jj_if_ne (tgt := 2775) hC dL_law_2760 rfl hr1 (fun hc => ?_) (fun hc => ?_)
    · replace h := (if_pos hc).symm.trans h
      refine jj_widen (k' := kk + 1) (n' := 256 * (kk + 1)) (by omega) (by omega) ?_
      refine jj_lv (lv' := [(0, .ref a0), (1, .ref a1), (2, .ref a2), (3, .ref a3), (4, .ref a4), (5, .int (iI i0))]) [2, 3, 4, 5, 6, 7] rfl ?_
      exact hB2775 sz1 S Ln q2.2 R i0 ex2_r hi0 h0 h1 h2 h3 h4 h
    · replace h := (if_neg (fun k => k hc)).symm.trans h
      refine jj_aload_n hC dL_law_2763 rfl 5 rfl ?_
      refine jj_iconst hC dL_law_2764 ?_
      obtain ⟨⟨ha4, hb4⟩, h⟩ := gd_e h
      refine jj_lald hC h3 ha4 hb4 dL_law_2765 (fun hr4 => ?_)
      refine jj_iload hC dL_law_2766 0 rfl ?_
      refine jj_i2l hC dL_law_2768 hr2 ?_
      refine jg_lcmp hC hr4 (r_il hr2) dL_law_2769 ?_
      refine jj_if_eq (tgt := 2775) hC dL_law_2770 rfl i_lcmp_r (fun hc => ?_) (fun hc => ?_)
      · replace h := (if_pos hc).symm.trans h
        refine jj_widen (k' := kk + 1) (n' := 256 * (kk + 1)) (by omega) (by omega) ?_
        refine jj_lv (lv' := [(0, .ref a0), (1, .ref a1), (2, .ref a2), (3, .ref a3), (4, .ref a4), (5, .int (iI i0))]) [2, 3, 4, 5, 6, 7] rfl ?_
        exact hB2775 sz1 S Ln q2.2 R i0 ex2_r hi0 h0 h1 h2 h3 h4 h
      · replace h := (if_neg (hc)).symm.trans h
        cases h
  · replace h := (if_neg (hc)).symm.trans h
    cases h
def fL_c48_B2831 (ad : Nat → Nat) (S2831 Ln2831 : Nat → Nat) (R2831 : gR) (M2831 : gM) (a0 : Nat) (a1 : Nat) (a2 : Nat) (a3 : Nat) (a4 : Nat) (l5_2831 : Int) : Option ((Int × (Nat → Nat) × (Nat → Nat) × gM × gR) ⊕ Unit) :=
  some (.inl (w32 (l5_2831 + 5), S2831, Ln2831, M2831, R2831))
def fL_c48 (ad : Nat → Nat) (sz : Nat) (S Ln : Nat → Nat) (R : gR) (M : gM) (a0 a1 a2 a3 a4 : Nat) (i0 : Int) : Option ((Int × (Nat → Nat) × (Nat → Nat) × gM × gR) ⊕ Unit) :=
  gd ((0 : Int) ≤ (w32 (i0 + 1)) ∧ (w32 (i0 + 1)) < (Ln a0 : Int)) (bd (fL_writePilot ad sz S Ln R M a1 (M a0 (w32 (i0 + 1))) a3) fun q2 => gd ((0 : Int) ≤ (w32 (i0 + 1)) ∧ (w32 (i0 + 1)) < (q2.2.2.1 a0 : Int)) (bd (fX10_writePilot ad q2.2.1 q2.2.2.1 q2.2.2.2.2 q2.2.2.2.1 a2 (q2.2.2.2.1 a0 (w32 (i0 + 1)))) fun q4 => bd (fX10_thrown ad q2.2.1 q2.2.2.1 q2.2.2.2.2 q4.2 a2) fun q5 => if q5 = q2.1 then (if ¬ q2.1 = 0 then (fL_c48_B2831 ad q2.2.1 q2.2.2.1 q2.2.2.2.2 q4.2 a0 a1 a2 a3 a4 i0) else (gd ((0 : Int) ≤ 0 ∧ 0 < (q2.2.2.1 a3 : Int)) (if (i_lcmp (q4.2 a3 0) q4.1) = 0 then (fL_c48_B2831 ad q2.2.1 q2.2.2.1 q2.2.2.2.2 q4.2 a0 a1 a2 a3 a4 i0) else (none)))) else (none)))
theorem xL_c48 {G : gE} {C : gC} {sz kk : Nat} {S Ln : Nat → Nat} {M : gM} {R : gR} {P : gP} (hC : OKC G C RL cL_law 9 (some .boolean) 1400 603072 7198826 P noX) (hkk : kk + 40 ≤ 603072) (hnn : 256 * (kk + 40) ≤ 7198826) {a0 a1 a2 a3 a4 : Nat} {i0 : Int} (h0 : S a0 = 29) (h1 : S a1 = 12) (h2 : S a2 = 13) (h3 : S a3 = 21) (h4 : S a4 = 22) (hi0 : (-2147483648 ≤ i0 ∧ i0 < 2147483648)) {r : (Int × (Nat → Nat) × (Nat → Nat) × gM × gR) ⊕ Unit} (h : fL_c48 G.2.2.2.2 sz S Ln R M a0 a1 a2 a3 a4 i0 = some r) (hJ : ∀ t, r = .inl t → ∀ sz1, ((-2147483648 ≤ t.1 ∧ t.1 < 2147483648) ∧ t.2.1 a0 = 29 ∧ t.2.1 a1 = 12 ∧ t.2.1 a2 = 13 ∧ t.2.1 a3 = 21 ∧ t.2.1 a4 = 22 ∧ Ex2 S Ln t.2.1 t.2.2.1) → JJ G C (kk + 40) (256 * (kk + 40)) sz1 t.2.1 t.2.2.1 t.2.2.2.1 t.2.2.2.2 28 [(0, .ref a0), (1, .ref a1), (2, .ref a2), (3, .ref a3), (4, .ref a4), (5, .int (iI t.1))] []) : JJ G C kk (256 * (kk)) sz S Ln M R 2778 [(0, .ref a0), (1, .ref a1), (2, .ref a2), (3, .ref a3), (4, .ref a4), (5, .int (iI i0))] [] := by
  have hB2831 : ∀ (sz2831 : Nat) (S2831 : (Nat → Nat)) (Ln2831 : (Nat → Nat)) (M2831 : gM) (R2831 : gR) (l5_2831 : Int), Ex2 S Ln S2831 Ln2831 → (-2147483648 ≤ l5_2831 ∧ l5_2831 < 2147483648) → S2831 a0 = 29 → S2831 a1 = 12 → S2831 a2 = 13 → S2831 a3 = 21 → S2831 a4 = 22 → fL_c48_B2831 G.2.2.2.2 S2831 Ln2831 R2831 M2831 a0 a1 a2 a3 a4 l5_2831 = some r → JJ G C (kk + 15) (256 * (kk + 15)) sz2831 S2831 Ln2831 M2831 R2831 2831 [(0, .ref a0), (1, .ref a1), (2, .ref a2), (3, .ref a3), (4, .ref a4), (5, .int (iI l5_2831))] [] := by
    intro sz2831 S2831 Ln2831 M2831 R2831 l5_2831 hx2831 hl5_2831 ha0_2831 ha1_2831 ha2_2831 ha3_2831 ha4_2831 h
    unfold fL_c48_B2831 at h
    refine jj_goto (tgt := 2982) hC dL_law_2831 rfl ?_
    refine jg_iinc (q := 5) (lv' := [(5, .int (iI (w32 (l5_2831 + 5)))), (0, .ref a0), (1, .ref a1), (2, .ref a2), (3, .ref a3), (4, .ref a4)]) hC dL_law_2982 rfl (by decide) rfl ?_
    refine jj_goto (tgt := 28) hC dL_law_2985 rfl ?_
    refine jj_widen (k' := kk + 40) (n' := 256 * (kk + 40)) (by omega) (by omega) ?_
    refine jj_lv (lv' := [(0, .ref a0), (1, .ref a1), (2, .ref a2), (3, .ref a3), (4, .ref a4), (5, .int (iI (w32 (l5_2831 + 5))))]) [1, 2, 3, 4, 5, 0] rfl ?_
    exact hJ _ (Option.some.inj h).symm sz2831 ⟨(w32_r _), ha0_2831, ha1_2831, ha2_2831, ha3_2831, ha4_2831, hx2831⟩
  unfold fL_c48 at h
  refine jj_aload_n hC dL_law_2778 rfl 1 rfl ?_
  refine jj_aload_n hC dL_law_2779 rfl 0 rfl ?_
  refine jj_iload hC dL_law_2780 5 rfl ?_
  refine jj_iconst hC dL_law_2782 ?_
  refine jg_iadd hC dL_law_2783 ?_
  obtain ⟨⟨ha1, hb1⟩, h⟩ := gd_e h
  refine jj_iald29 hC h0 ha1 hb1 dL_law_2784 (fun hr1 => ?_)
  refine jj_aload_n hC dL_law_2785 rfl 3 rfl ?_
  obtain ⟨q2, hq2, h⟩ := bd_e h
  refine jj_invSW hC mvwL_writePilot wd1647 wd1646 (xL_writePilot (OKC.tr hC) h1 hr1 h3 hq2) rfl rfl (c_le rfl) (c_le rfl) (by omega) (by omega) dL_law_2786 (po_kW (fun hr2 hx2 sz2 => ?_))
  refine jj_widen (k' := kk + 15) (n' := 256 * (kk + 15)) (by omega) (by omega) ?_
  refine jj_istore (lv' := [(6, .int (iI q2.1)), (0, .ref a0), (1, .ref a1), (2, .ref a2), (3, .ref a3), (4, .ref a4), (5, .int (iI i0))]) hC dL_law_2789 (by decide) rfl ?_
  refine jj_aload_n hC dL_law_2791 rfl 3 rfl ?_
  refine jj_aload_n hC dL_law_2792 rfl 1 rfl ?_
  refine jj_iload hC dL_law_2793 6 rfl ?_
  refine jj_iconst hC dL_law_2795 ?_
  refine jg_iadd hC dL_law_2796 ?_
  obtain ⟨⟨ha3, hb3⟩, h⟩ := gd_e h
  refine jj_iald29 hC (ex2_s hx2 h0 (by decide)) ha3 hb3 dL_law_2797 (fun hr3 => ?_)
  obtain ⟨q4, hq4, h⟩ := bd_e h
  refine jj_invV hC mvX10_writePilot wd2129 wd2130 wd2128 (ex2_s hx2 h2 (by decide)) (by decide) rfl (xX10_writePilot (OKC.tr hC) (ex2_s hx2 h2 (by decide)) hr3 hq4) rfl rfl (c_le rfl) (c_le rfl) (by omega) (by omega) dL_law_2798 noXk (po_kI (fun hr4 => ?_))
  refine jj_istore (lv' := [(7, .int (iI q4.1)), (6, .int (iI q2.1)), (0, .ref a0), (1, .ref a1), (2, .ref a2), (3, .ref a3), (4, .ref a4), (5, .int (iI i0))]) hC dL_law_2801 (by decide) rfl ?_
  refine jj_aload_n hC dL_law_2803 rfl 4 rfl ?_
  obtain ⟨q5, hq5, h⟩ := bd_e h
  refine jj_invV hC mvX10_thrown wd1765 wd1766 wd1764 (ex2_s hx2 h2 (by decide)) (by decide) rfl (xX10_thrown (OKC.tr hC) (ex2_s hx2 h2 (by decide)) hq5) rfl rfl (c_le rfl) (c_le rfl) (by omega) (by omega) dL_law_2804 noXk (po_kI (fun hr5 => ?_))
  refine jj_iload hC dL_law_2807 1 rfl ?_
  refine jj_icmp_eq (tgt := 2814) hC dL_law_2809 rfl hr5 hr2 (fun hc => ?_) (fun hc => ?_)
  · replace h := (if_pos hc).symm.trans h
    refine jj_iload hC dL_law_2814 1 rfl ?_
    refine jj_if_ne (tgt := 2831) hC dL_law_2816 rfl hr2 (fun hc => ?_) (fun hc => ?_)
    · replace h := (if_pos hc).symm.trans h
      refine jj_widen (k' := kk + 15) (n' := 256 * (kk + 15)) (by omega) (by omega) ?_
      refine jj_lv (lv' := [(0, .ref a0), (1, .ref a1), (2, .ref a2), (3, .ref a3), (4, .ref a4), (5, .int (iI i0))]) [2, 3, 4, 5, 6, 7] rfl ?_
      exact hB2831 sz2 q2.2.1 q2.2.2.1 q4.2 q2.2.2.2.2 i0 (ex2_t ex2_r hx2) hi0 (ex2_s hx2 h0 (by decide)) (ex2_s hx2 h1 (by decide)) (ex2_s hx2 h2 (by decide)) (ex2_s hx2 h3 (by decide)) (ex2_s hx2 h4 (by decide)) h
    · replace h := (if_neg (fun k => k hc)).symm.trans h
      refine jj_aload_n hC dL_law_2819 rfl 5 rfl ?_
      refine jj_iconst hC dL_law_2820 ?_
      obtain ⟨⟨ha6, hb6⟩, h⟩ := gd_e h
      refine jj_lald hC (ex2_s hx2 h3 (by decide)) ha6 hb6 dL_law_2821 (fun hr6 => ?_)
      refine jj_iload hC dL_law_2822 0 rfl ?_
      refine jj_i2l hC dL_law_2824 hr4 ?_
      refine jg_lcmp hC hr6 (r_il hr4) dL_law_2825 ?_
      refine jj_if_eq (tgt := 2831) hC dL_law_2826 rfl i_lcmp_r (fun hc => ?_) (fun hc => ?_)
      · replace h := (if_pos hc).symm.trans h
        refine jj_widen (k' := kk + 15) (n' := 256 * (kk + 15)) (by omega) (by omega) ?_
        refine jj_lv (lv' := [(0, .ref a0), (1, .ref a1), (2, .ref a2), (3, .ref a3), (4, .ref a4), (5, .int (iI i0))]) [2, 3, 4, 5, 6, 7] rfl ?_
        exact hB2831 sz2 q2.2.1 q2.2.2.1 q4.2 q2.2.2.2.2 i0 (ex2_t ex2_r hx2) hi0 (ex2_s hx2 h0 (by decide)) (ex2_s hx2 h1 (by decide)) (ex2_s hx2 h2 (by decide)) (ex2_s hx2 h3 (by decide)) (ex2_s hx2 h4 (by decide)) h
      · replace h := (if_neg (hc)).symm.trans h
        cases h
  · replace h := (if_neg (hc)).symm.trans h
    cases h
def fL_c49 (ad : Nat → Nat) (sz : Nat) (S Ln : Nat → Nat) (R : gR) (M : gM) (a0 a1 a2 a3 a4 : Nat) (i0 : Int) : Option ((Int × (Nat → Nat) × (Nat → Nat) × gM × gR) ⊕ Unit) :=
  bd (fX9_writeTask ad sz S Ln R M a1) fun q1 => bd (fX10_writeTask ad q1.2.2.1 q1.2.2.2.1 q1.2.2.2.2.2 q1.2.2.2.2.1 a2) fun q2 => if q1.1 = q2.1 then (some (.inl (w32 (i0 + 5), q1.2.2.1, q1.2.2.2.1, q2.2, q1.2.2.2.2.2))) else (none)
theorem xL_c49 {G : gE} {C : gC} {sz kk : Nat} {S Ln : Nat → Nat} {M : gM} {R : gR} {P : gP} (hC : OKC G C RL cL_law 9 (some .boolean) 1400 603072 7198826 P noX) (hkk : kk + 40 ≤ 603072) (hnn : 256 * (kk + 40) ≤ 7198826) {a0 a1 a2 a3 a4 : Nat} {i0 : Int} (h0 : S a0 = 29) (h1 : S a1 = 12) (h2 : S a2 = 13) (h3 : S a3 = 21) (h4 : S a4 = 22) (hi0 : (-2147483648 ≤ i0 ∧ i0 < 2147483648)) {r : (Int × (Nat → Nat) × (Nat → Nat) × gM × gR) ⊕ Unit} (h : fL_c49 G.2.2.2.2 sz S Ln R M a0 a1 a2 a3 a4 i0 = some r) (hJ : ∀ t, r = .inl t → ∀ sz1, ((-2147483648 ≤ t.1 ∧ t.1 < 2147483648) ∧ t.2.1 a0 = 29 ∧ t.2.1 a1 = 12 ∧ t.2.1 a2 = 13 ∧ t.2.1 a3 = 21 ∧ t.2.1 a4 = 22 ∧ Ex2 S Ln t.2.1 t.2.2.1) → JJ G C (kk + 40) (256 * (kk + 40)) sz1 t.2.1 t.2.2.1 t.2.2.2.1 t.2.2.2.2 28 [(0, .ref a0), (1, .ref a1), (2, .ref a2), (3, .ref a3), (4, .ref a4), (5, .int (iI t.1))] []) : JJ G C kk (256 * (kk)) sz S Ln M R 2834 [(0, .ref a0), (1, .ref a1), (2, .ref a2), (3, .ref a3), (4, .ref a4), (5, .int (iI i0))] [] := by
  unfold fL_c49 at h
  refine jj_aload_n hC dL_law_2834 rfl 1 rfl ?_
  obtain ⟨q1, hq1, h⟩ := bd_e h
  refine jj_invV hC mvX9_writeTask wd576 wd577 wd575 h1 (by decide) rfl (xX9_writeTask (OKC.tr hC) h1 hq1) rfl rfl (c_le rfl) (c_le rfl) (by omega) (by omega) dL_law_2835 noXk (poX_k (fun hx1 => po_kI (fun hr1 => ?_)))
  refine jj_widen (k' := kk + 37) (n' := 256 * (kk + 37)) (by omega) (by omega) ?_
  refine jj_aload_n hC dL_law_2838 rfl 2 rfl ?_
  obtain ⟨q2, hq2, h⟩ := bd_e h
  refine jj_invV hC mvX10_writeTask wd2143 wd2144 wd2142 (ext_s hx1 h2 (by decide)) (by decide) rfl (xX10_writeTask (OKC.tr hC) (ext_s hx1 h2 (by decide)) hq2) rfl rfl (c_le rfl) (c_le rfl) (by omega) (by omega) dL_law_2839 noXk (po_kI (fun hr2 => ?_))
  refine jj_icmp_eq (tgt := 2982) hC dL_law_2842 rfl hr1 hr2 (fun hc => ?_) (fun hc => ?_)
  · replace h := (if_pos hc).symm.trans h
    refine jg_iinc (q := 5) (lv' := [(5, .int (iI (w32 (i0 + 5)))), (0, .ref a0), (1, .ref a1), (2, .ref a2), (3, .ref a3), (4, .ref a4)]) hC dL_law_2982 rfl (by decide) rfl ?_
    refine jj_goto (tgt := 28) hC dL_law_2985 rfl ?_
    refine jj_widen (k' := kk + 40) (n' := 256 * (kk + 40)) (by omega) (by omega) ?_
    refine jj_lv (lv' := [(0, .ref a0), (1, .ref a1), (2, .ref a2), (3, .ref a3), (4, .ref a4), (5, .int (iI (w32 (i0 + 5))))]) [1, 2, 3, 4, 5, 0] rfl ?_
    exact hJ _ (Option.some.inj h).symm q1.2.1 ⟨(w32_r _), (ext_s hx1 h0 (by decide)), (ext_s hx1 h1 (by decide)), (ext_s hx1 h2 (by decide)), (ext_s hx1 h3 (by decide)), (ext_s hx1 h4 (by decide)), (ex2_t ex2_r hx1.2)⟩
  · replace h := (if_neg (hc)).symm.trans h
    cases h
def fL_c50_B2900 (ad : Nat → Nat) (S2900 Ln2900 : Nat → Nat) (R2900 : gR) (M2900 : gM) (a0 : Nat) (a1 : Nat) (a2 : Nat) (a3 : Nat) (a4 : Nat) (l5_2900 : Int) : Option ((Int × (Nat → Nat) × (Nat → Nat) × gM × gR) ⊕ Unit) :=
  some (.inl (w32 (l5_2900 + 5), S2900, Ln2900, M2900, R2900))
def fL_c50 (ad : Nat → Nat) (sz : Nat) (S Ln : Nat → Nat) (R : gR) (M : gM) (a0 a1 a2 a3 a4 : Nat) (i0 : Int) : Option ((Int × (Nat → Nat) × (Nat → Nat) × gM × gR) ⊕ Unit) :=
  gd ((0 : Int) ≤ (w32 (i0 + 1)) ∧ (w32 (i0 + 1)) < (Ln a0 : Int)) (bd (fL_outputAt ad S Ln R M a1 (M a0 (w32 (i0 + 1))) a3) fun q2 => gd ((0 : Int) ≤ (w32 (i0 + 1)) ∧ (w32 (i0 + 1)) < (Ln a0 : Int)) (bd (fX10_outputAt ad S Ln R q2.2 a2 (q2.2 a0 (w32 (i0 + 1)))) fun q4 => bd (fX10_thrown ad S Ln R q4.2 a2) fun q5 => if q5 = q2.1 then (if ¬ q2.1 = 0 then (fL_c50_B2900 ad S Ln R q4.2 a0 a1 a2 a3 a4 i0) else (gd ((0 : Int) ≤ 0 ∧ 0 < (Ln a3 : Int)) (if (i_lcmp (q4.2 a3 0) q4.1) = 0 then (fL_c50_B2900 ad S Ln R q4.2 a0 a1 a2 a3 a4 i0) else (none)))) else (none)))
theorem xL_c50 {G : gE} {C : gC} {sz kk : Nat} {S Ln : Nat → Nat} {M : gM} {R : gR} {P : gP} (hC : OKC G C RL cL_law 9 (some .boolean) 1400 603072 7198826 P noX) (hkk : kk + 40 ≤ 603072) (hnn : 256 * (kk + 40) ≤ 7198826) {a0 a1 a2 a3 a4 : Nat} {i0 : Int} (h0 : S a0 = 29) (h1 : S a1 = 12) (h2 : S a2 = 13) (h3 : S a3 = 21) (h4 : S a4 = 22) (hi0 : (-2147483648 ≤ i0 ∧ i0 < 2147483648)) {r : (Int × (Nat → Nat) × (Nat → Nat) × gM × gR) ⊕ Unit} (h : fL_c50 G.2.2.2.2 sz S Ln R M a0 a1 a2 a3 a4 i0 = some r) (hJ : ∀ t, r = .inl t → ∀ sz1, ((-2147483648 ≤ t.1 ∧ t.1 < 2147483648) ∧ t.2.1 a0 = 29 ∧ t.2.1 a1 = 12 ∧ t.2.1 a2 = 13 ∧ t.2.1 a3 = 21 ∧ t.2.1 a4 = 22 ∧ Ex2 S Ln t.2.1 t.2.2.1) → JJ G C (kk + 40) (256 * (kk + 40)) sz1 t.2.1 t.2.2.1 t.2.2.2.1 t.2.2.2.2 28 [(0, .ref a0), (1, .ref a1), (2, .ref a2), (3, .ref a3), (4, .ref a4), (5, .int (iI t.1))] []) : JJ G C kk (256 * (kk)) sz S Ln M R 2847 [(0, .ref a0), (1, .ref a1), (2, .ref a2), (3, .ref a3), (4, .ref a4), (5, .int (iI i0))] [] := by
  have hB2900 : ∀ (sz2900 : Nat) (S2900 : (Nat → Nat)) (Ln2900 : (Nat → Nat)) (M2900 : gM) (R2900 : gR) (l5_2900 : Int), Ex2 S Ln S2900 Ln2900 → (-2147483648 ≤ l5_2900 ∧ l5_2900 < 2147483648) → S2900 a0 = 29 → S2900 a1 = 12 → S2900 a2 = 13 → S2900 a3 = 21 → S2900 a4 = 22 → fL_c50_B2900 G.2.2.2.2 S2900 Ln2900 R2900 M2900 a0 a1 a2 a3 a4 l5_2900 = some r → JJ G C (kk + 1) (256 * (kk + 1)) sz2900 S2900 Ln2900 M2900 R2900 2900 [(0, .ref a0), (1, .ref a1), (2, .ref a2), (3, .ref a3), (4, .ref a4), (5, .int (iI l5_2900))] [] := by
    intro sz2900 S2900 Ln2900 M2900 R2900 l5_2900 hx2900 hl5_2900 ha0_2900 ha1_2900 ha2_2900 ha3_2900 ha4_2900 h
    unfold fL_c50_B2900 at h
    refine jj_goto (tgt := 2982) hC dL_law_2900 rfl ?_
    refine jg_iinc (q := 5) (lv' := [(5, .int (iI (w32 (l5_2900 + 5)))), (0, .ref a0), (1, .ref a1), (2, .ref a2), (3, .ref a3), (4, .ref a4)]) hC dL_law_2982 rfl (by decide) rfl ?_
    refine jj_goto (tgt := 28) hC dL_law_2985 rfl ?_
    refine jj_widen (k' := kk + 40) (n' := 256 * (kk + 40)) (by omega) (by omega) ?_
    refine jj_lv (lv' := [(0, .ref a0), (1, .ref a1), (2, .ref a2), (3, .ref a3), (4, .ref a4), (5, .int (iI (w32 (l5_2900 + 5))))]) [1, 2, 3, 4, 5, 0] rfl ?_
    exact hJ _ (Option.some.inj h).symm sz2900 ⟨(w32_r _), ha0_2900, ha1_2900, ha2_2900, ha3_2900, ha4_2900, hx2900⟩
  unfold fL_c50 at h
  refine jj_aload_n hC dL_law_2847 rfl 1 rfl ?_
  refine jj_aload_n hC dL_law_2848 rfl 0 rfl ?_
  refine jj_iload hC dL_law_2849 5 rfl ?_
  refine jj_iconst hC dL_law_2851 ?_
  refine jg_iadd hC dL_law_2852 ?_
  obtain ⟨⟨ha1, hb1⟩, h⟩ := gd_e h
  refine jj_iald29 hC h0 ha1 hb1 dL_law_2853 (fun hr1 => ?_)
  refine jj_aload_n hC dL_law_2854 rfl 3 rfl ?_
  obtain ⟨q2, hq2, h⟩ := bd_e h
  refine jj_invSW hC mvwL_outputAt wd1666 wd1665 (xL_outputAt (OKC.tr hC) h1 hr1 h3 hq2) rfl rfl (c_le rfl) (c_le rfl) (by omega) (by omega) dL_law_2855 (po_kW (fun hr2 hx2 sz2 => ?_))
  refine jj_widen (k' := kk + 1) (n' := 256 * (kk + 1)) (by omega) (by omega) ?_
  refine jj_istore (lv' := [(6, .int (iI q2.1)), (0, .ref a0), (1, .ref a1), (2, .ref a2), (3, .ref a3), (4, .ref a4), (5, .int (iI i0))]) hC dL_law_2858 (by decide) rfl ?_
  refine jj_aload_n hC dL_law_2860 rfl 3 rfl ?_
  refine jj_aload_n hC dL_law_2861 rfl 1 rfl ?_
  refine jj_iload hC dL_law_2862 6 rfl ?_
  refine jj_iconst hC dL_law_2864 ?_
  refine jg_iadd hC dL_law_2865 ?_
  obtain ⟨⟨ha3, hb3⟩, h⟩ := gd_e h
  refine jj_iald29 hC h0 ha3 hb3 dL_law_2866 (fun hr3 => ?_)
  obtain ⟨q4, hq4, h⟩ := bd_e h
  refine jj_invV hC mvX10_outputAt wd2147 wd2148 wd2146 h2 (by decide) rfl (xX10_outputAt (OKC.tr hC) h2 hr3 hq4) rfl rfl (c_le rfl) (c_le rfl) (by omega) (by omega) dL_law_2867 noXk (po_kC (fun hr4 => ?_))
  refine jj_istore (lv' := [(7, .int (iI q4.1)), (6, .int (iI q2.1)), (0, .ref a0), (1, .ref a1), (2, .ref a2), (3, .ref a3), (4, .ref a4), (5, .int (iI i0))]) hC dL_law_2870 (by decide) rfl ?_
  refine jj_aload_n hC dL_law_2872 rfl 4 rfl ?_
  obtain ⟨q5, hq5, h⟩ := bd_e h
  refine jj_invV hC mvX10_thrown wd1765 wd1766 wd1764 h2 (by decide) rfl (xX10_thrown (OKC.tr hC) h2 hq5) rfl rfl (c_le rfl) (c_le rfl) (by omega) (by omega) dL_law_2873 noXk (po_kI (fun hr5 => ?_))
  refine jj_iload hC dL_law_2876 1 rfl ?_
  refine jj_icmp_eq (tgt := 2883) hC dL_law_2878 rfl hr5 hr2 (fun hc => ?_) (fun hc => ?_)
  · replace h := (if_pos hc).symm.trans h
    refine jj_iload hC dL_law_2883 1 rfl ?_
    refine jj_if_ne (tgt := 2900) hC dL_law_2885 rfl hr2 (fun hc => ?_) (fun hc => ?_)
    · replace h := (if_pos hc).symm.trans h
      refine jj_widen (k' := kk + 1) (n' := 256 * (kk + 1)) (by omega) (by omega) ?_
      refine jj_lv (lv' := [(0, .ref a0), (1, .ref a1), (2, .ref a2), (3, .ref a3), (4, .ref a4), (5, .int (iI i0))]) [2, 3, 4, 5, 6, 7] rfl ?_
      exact hB2900 sz2 S Ln q4.2 R i0 ex2_r hi0 h0 h1 h2 h3 h4 h
    · replace h := (if_neg (fun k => k hc)).symm.trans h
      refine jj_aload_n hC dL_law_2888 rfl 5 rfl ?_
      refine jj_iconst hC dL_law_2889 ?_
      obtain ⟨⟨ha6, hb6⟩, h⟩ := gd_e h
      refine jj_lald hC h3 ha6 hb6 dL_law_2890 (fun hr6 => ?_)
      refine jj_iload hC dL_law_2891 0 rfl ?_
      refine jj_i2l hC dL_law_2893 (r_c hr4) ?_
      refine jg_lcmp hC hr6 (r_il (r_c hr4)) dL_law_2894 ?_
      refine jj_if_eq (tgt := 2900) hC dL_law_2895 rfl i_lcmp_r (fun hc => ?_) (fun hc => ?_)
      · replace h := (if_pos hc).symm.trans h
        refine jj_widen (k' := kk + 1) (n' := 256 * (kk + 1)) (by omega) (by omega) ?_
        refine jj_lv (lv' := [(0, .ref a0), (1, .ref a1), (2, .ref a2), (3, .ref a3), (4, .ref a4), (5, .int (iI i0))]) [2, 3, 4, 5, 6, 7] rfl ?_
        exact hB2900 sz2 S Ln q4.2 R i0 ex2_r hi0 h0 h1 h2 h3 h4 h
      · replace h := (if_neg (hc)).symm.trans h
        cases h
  · replace h := (if_neg (hc)).symm.trans h
    cases h
def fL_c51_B2944 (ad : Nat → Nat) (S2944 Ln2944 : Nat → Nat) (R2944 : gR) (M2944 : gM) (a0 : Nat) (a1 : Nat) (a2 : Nat) (a3 : Nat) (a4 : Nat) (l5_2944 : Int) : Option ((Int × (Nat → Nat) × (Nat → Nat) × gM × gR) ⊕ Unit) :=
  some (.inl (w32 (l5_2944 + 5), S2944, Ln2944, M2944, R2944))
def fL_c51 (ad : Nat → Nat) (sz : Nat) (S Ln : Nat → Nat) (R : gR) (M : gM) (a0 a1 a2 a3 a4 : Nat) (i0 : Int) : Option ((Int × (Nat → Nat) × (Nat → Nat) × gM × gR) ⊕ Unit) :=
  bd (fL_undo ad S Ln R M a1 a3) fun q1 => bd (fX10_undo ad S Ln R q1.2 a2) fun q2 => bd (fX10_thrown ad S Ln R q2.2 a2) fun q3 => if q3 = q1.1 then (if ¬ q1.1 = 0 then (fL_c51_B2944 ad S Ln R q2.2 a0 a1 a2 a3 a4 i0) else (gd ((0 : Int) ≤ 0 ∧ 0 < (Ln a3 : Int)) (if (i_lcmp (q2.2 a3 0) q2.1) = 0 then (fL_c51_B2944 ad S Ln R q2.2 a0 a1 a2 a3 a4 i0) else (none)))) else (none)
theorem xL_c51 {G : gE} {C : gC} {sz kk : Nat} {S Ln : Nat → Nat} {M : gM} {R : gR} {P : gP} (hC : OKC G C RL cL_law 9 (some .boolean) 1400 603072 7198826 P noX) (hkk : kk + 40 ≤ 603072) (hnn : 256 * (kk + 40) ≤ 7198826) {a0 a1 a2 a3 a4 : Nat} {i0 : Int} (h0 : S a0 = 29) (h1 : S a1 = 12) (h2 : S a2 = 13) (h3 : S a3 = 21) (h4 : S a4 = 22) (hi0 : (-2147483648 ≤ i0 ∧ i0 < 2147483648)) {r : (Int × (Nat → Nat) × (Nat → Nat) × gM × gR) ⊕ Unit} (h : fL_c51 G.2.2.2.2 sz S Ln R M a0 a1 a2 a3 a4 i0 = some r) (hJ : ∀ t, r = .inl t → ∀ sz1, ((-2147483648 ≤ t.1 ∧ t.1 < 2147483648) ∧ t.2.1 a0 = 29 ∧ t.2.1 a1 = 12 ∧ t.2.1 a2 = 13 ∧ t.2.1 a3 = 21 ∧ t.2.1 a4 = 22 ∧ Ex2 S Ln t.2.1 t.2.2.1) → JJ G C (kk + 40) (256 * (kk + 40)) sz1 t.2.1 t.2.2.1 t.2.2.2.1 t.2.2.2.2 28 [(0, .ref a0), (1, .ref a1), (2, .ref a2), (3, .ref a3), (4, .ref a4), (5, .int (iI t.1))] []) : JJ G C kk (256 * (kk)) sz S Ln M R 2903 [(0, .ref a0), (1, .ref a1), (2, .ref a2), (3, .ref a3), (4, .ref a4), (5, .int (iI i0))] [] := by
  have hB2944 : ∀ (sz2944 : Nat) (S2944 : (Nat → Nat)) (Ln2944 : (Nat → Nat)) (M2944 : gM) (R2944 : gR) (l5_2944 : Int), Ex2 S Ln S2944 Ln2944 → (-2147483648 ≤ l5_2944 ∧ l5_2944 < 2147483648) → S2944 a0 = 29 → S2944 a1 = 12 → S2944 a2 = 13 → S2944 a3 = 21 → S2944 a4 = 22 → fL_c51_B2944 G.2.2.2.2 S2944 Ln2944 R2944 M2944 a0 a1 a2 a3 a4 l5_2944 = some r → JJ G C (kk + 1) (256 * (kk + 1)) sz2944 S2944 Ln2944 M2944 R2944 2944 [(0, .ref a0), (1, .ref a1), (2, .ref a2), (3, .ref a3), (4, .ref a4), (5, .int (iI l5_2944))] [] := by
    intro sz2944 S2944 Ln2944 M2944 R2944 l5_2944 hx2944 hl5_2944 ha0_2944 ha1_2944 ha2_2944 ha3_2944 ha4_2944 h
    unfold fL_c51_B2944 at h
    refine jj_goto (tgt := 2982) hC dL_law_2944 rfl ?_
    refine jg_iinc (q := 5) (lv' := [(5, .int (iI (w32 (l5_2944 + 5)))), (0, .ref a0), (1, .ref a1), (2, .ref a2), (3, .ref a3), (4, .ref a4)]) hC dL_law_2982 rfl (by decide) rfl ?_
    refine jj_goto (tgt := 28) hC dL_law_2985 rfl ?_
    refine jj_widen (k' := kk + 40) (n' := 256 * (kk + 40)) (by omega) (by omega) ?_
    refine jj_lv (lv' := [(0, .ref a0), (1, .ref a1), (2, .ref a2), (3, .ref a3), (4, .ref a4), (5, .int (iI (w32 (l5_2944 + 5))))]) [1, 2, 3, 4, 5, 0] rfl ?_
    exact hJ _ (Option.some.inj h).symm sz2944 ⟨(w32_r _), ha0_2944, ha1_2944, ha2_2944, ha3_2944, ha4_2944, hx2944⟩
  unfold fL_c51 at h
  refine jj_aload_n hC dL_law_2903 rfl 1 rfl ?_
  refine jj_aload_n hC dL_law_2904 rfl 3 rfl ?_
  obtain ⟨q1, hq1, h⟩ := bd_e h
  refine jj_invSW hC mvwL_undo wd1684 wd1683 (xL_undo (OKC.tr hC) h1 h3 hq1) rfl rfl (c_le rfl) (c_le rfl) (by omega) (by omega) dL_law_2905 (po_kW (fun hr1 hx1 sz1 => ?_))
  refine jj_widen (k' := kk + 1) (n' := 256 * (kk + 1)) (by omega) (by omega) ?_
  refine jj_istore (lv' := [(6, .int (iI q1.1)), (0, .ref a0), (1, .ref a1), (2, .ref a2), (3, .ref a3), (4, .ref a4), (5, .int (iI i0))]) hC dL_law_2908 (by decide) rfl ?_
  refine jj_aload_n hC dL_law_2910 rfl 3 rfl ?_
  obtain ⟨q2, hq2, h⟩ := bd_e h
  refine jj_invV hC mvX10_undo wd2229 wd2230 wd2228 h2 (by decide) rfl (xX10_undo (OKC.tr hC) h2 hq2) rfl rfl (c_le rfl) (c_le rfl) (by omega) (by omega) dL_law_2911 noXk (po_kI (fun hr2 => ?_))
  refine jj_istore (lv' := [(7, .int (iI q2.1)), (6, .int (iI q1.1)), (0, .ref a0), (1, .ref a1), (2, .ref a2), (3, .ref a3), (4, .ref a4), (5, .int (iI i0))]) hC dL_law_2914 (by decide) rfl ?_
  refine jj_aload_n hC dL_law_2916 rfl 4 rfl ?_
  obtain ⟨q3, hq3, h⟩ := bd_e h
  refine jj_invV hC mvX10_thrown wd1765 wd1766 wd1764 h2 (by decide) rfl (xX10_thrown (OKC.tr hC) h2 hq3) rfl rfl (c_le rfl) (c_le rfl) (by omega) (by omega) dL_law_2917 noXk (po_kI (fun hr3 => ?_))
  refine jj_iload hC dL_law_2920 1 rfl ?_
  refine jj_icmp_eq (tgt := 2927) hC dL_law_2922 rfl hr3 hr1 (fun hc => ?_) (fun hc => ?_)
  · replace h := (if_pos hc).symm.trans h
    refine jj_iload hC dL_law_2927 1 rfl ?_
    refine jj_if_ne (tgt := 2944) hC dL_law_2929 rfl hr1 (fun hc => ?_) (fun hc => ?_)
    · replace h := (if_pos hc).symm.trans h
      refine jj_widen (k' := kk + 1) (n' := 256 * (kk + 1)) (by omega) (by omega) ?_
      refine jj_lv (lv' := [(0, .ref a0), (1, .ref a1), (2, .ref a2), (3, .ref a3), (4, .ref a4), (5, .int (iI i0))]) [2, 3, 4, 5, 6, 7] rfl ?_
      exact hB2944 sz1 S Ln q2.2 R i0 ex2_r hi0 h0 h1 h2 h3 h4 h
    · replace h := (if_neg (fun k => k hc)).symm.trans h
      refine jj_aload_n hC dL_law_2932 rfl 5 rfl ?_
      refine jj_iconst hC dL_law_2933 ?_
      obtain ⟨⟨ha4, hb4⟩, h⟩ := gd_e h
      refine jj_lald hC h3 ha4 hb4 dL_law_2934 (fun hr4 => ?_)
      refine jj_iload hC dL_law_2935 0 rfl ?_
      refine jj_i2l hC dL_law_2937 hr2 ?_
      refine jg_lcmp hC hr4 (r_il hr2) dL_law_2938 ?_
      refine jj_if_eq (tgt := 2944) hC dL_law_2939 rfl i_lcmp_r (fun hc => ?_) (fun hc => ?_)
      · replace h := (if_pos hc).symm.trans h
        refine jj_widen (k' := kk + 1) (n' := 256 * (kk + 1)) (by omega) (by omega) ?_
        refine jj_lv (lv' := [(0, .ref a0), (1, .ref a1), (2, .ref a2), (3, .ref a3), (4, .ref a4), (5, .int (iI i0))]) [2, 3, 4, 5, 6, 7] rfl ?_
        exact hB2944 sz1 S Ln q2.2 R i0 ex2_r hi0 h0 h1 h2 h3 h4 h
      · replace h := (if_neg (hc)).symm.trans h
        cases h
  · replace h := (if_neg (hc)).symm.trans h
    cases h
def fL_c52 (ad : Nat → Nat) (sz : Nat) (S Ln : Nat → Nat) (R : gR) (M : gM) (a0 a1 a2 a3 a4 : Nat) (i0 : Int) : Option ((Int × (Nat → Nat) × (Nat → Nat) × gM × gR) ⊕ Unit) :=
  bd (fX9_save ad S Ln R M a1) fun q1 => bd (fX10_save ad S Ln R q1 a2) fun q2 => some (.inl (w32 (i0 + 5), S, Ln, q2, R))
theorem xL_c52 {G : gE} {C : gC} {sz kk : Nat} {S Ln : Nat → Nat} {M : gM} {R : gR} {P : gP} (hC : OKC G C RL cL_law 9 (some .boolean) 1400 603072 7198826 P noX) (hkk : kk + 40 ≤ 603072) (hnn : 256 * (kk + 40) ≤ 7198826) {a0 a1 a2 a3 a4 : Nat} {i0 : Int} (h0 : S a0 = 29) (h1 : S a1 = 12) (h2 : S a2 = 13) (h3 : S a3 = 21) (h4 : S a4 = 22) (hi0 : (-2147483648 ≤ i0 ∧ i0 < 2147483648)) {r : (Int × (Nat → Nat) × (Nat → Nat) × gM × gR) ⊕ Unit} (h : fL_c52 G.2.2.2.2 sz S Ln R M a0 a1 a2 a3 a4 i0 = some r) (hJ : ∀ t, r = .inl t → ∀ sz1, ((-2147483648 ≤ t.1 ∧ t.1 < 2147483648) ∧ t.2.1 a0 = 29 ∧ t.2.1 a1 = 12 ∧ t.2.1 a2 = 13 ∧ t.2.1 a3 = 21 ∧ t.2.1 a4 = 22 ∧ Ex2 S Ln t.2.1 t.2.2.1) → JJ G C (kk + 40) (256 * (kk + 40)) sz1 t.2.1 t.2.2.1 t.2.2.2.1 t.2.2.2.2 28 [(0, .ref a0), (1, .ref a1), (2, .ref a2), (3, .ref a3), (4, .ref a4), (5, .int (iI t.1))] []) : JJ G C kk (256 * (kk)) sz S Ln M R 2947 [(0, .ref a0), (1, .ref a1), (2, .ref a2), (3, .ref a3), (4, .ref a4), (5, .int (iI i0))] [] := by
  unfold fL_c52 at h
  refine jj_aload_n hC dL_law_2947 rfl 1 rfl ?_
  obtain ⟨q1, hq1, h⟩ := bd_e h
  refine jj_invV hC mvX9_save wd949 wd950 wd948 h1 (by decide) rfl (xX9_save (OKC.tr hC) h1 hq1) rfl rfl (c_le rfl) (c_le rfl) (by omega) (by omega) dL_law_2948 noXk (po_kV ?_)
  refine jj_aload_n hC dL_law_2951 rfl 2 rfl ?_
  obtain ⟨q2, hq2, h⟩ := bd_e h
  refine jj_invV hC mvX10_save wd2233 wd2234 wd2232 h2 (by decide) rfl (xX10_save (OKC.tr hC) h2 hq2) rfl rfl (c_le rfl) (c_le rfl) (by omega) (by omega) dL_law_2952 noXk (po_kV ?_)
  refine jj_goto (tgt := 2982) hC dL_law_2955 rfl ?_
  refine jg_iinc (q := 5) (lv' := [(5, .int (iI (w32 (i0 + 5)))), (0, .ref a0), (1, .ref a1), (2, .ref a2), (3, .ref a3), (4, .ref a4)]) hC dL_law_2982 rfl (by decide) rfl ?_
  refine jj_goto (tgt := 28) hC dL_law_2985 rfl ?_
  refine jj_widen (k' := kk + 40) (n' := 256 * (kk + 40)) (by omega) (by omega) ?_
  refine jj_lv (lv' := [(0, .ref a0), (1, .ref a1), (2, .ref a2), (3, .ref a3), (4, .ref a4), (5, .int (iI (w32 (i0 + 5))))]) [1, 2, 3, 4, 5, 0] rfl ?_
  exact hJ _ (Option.some.inj h).symm sz ⟨(w32_r _), h0, h1, h2, h3, h4, ex2_r⟩
def fL_c53 (ad : Nat → Nat) (sz : Nat) (S Ln : Nat → Nat) (R : gR) (M : gM) (a0 a1 a2 a3 a4 : Nat) (i0 : Int) : Option ((Int × (Nat → Nat) × (Nat → Nat) × gM × gR) ⊕ Unit) :=
  bd (fL_restore ad S Ln R M a1) fun q1 => bd (fX10_restore ad S Ln R q1.2 a2) fun q2 => bd (fX10_thrown ad S Ln R q2 a2) fun q3 => if q3 = q1.1 then (some (.inl (w32 (i0 + 5), S, Ln, q2, R))) else (none)
theorem xL_c53 {G : gE} {C : gC} {sz kk : Nat} {S Ln : Nat → Nat} {M : gM} {R : gR} {P : gP} (hC : OKC G C RL cL_law 9 (some .boolean) 1400 603072 7198826 P noX) (hkk : kk + 40 ≤ 603072) (hnn : 256 * (kk + 40) ≤ 7198826) {a0 a1 a2 a3 a4 : Nat} {i0 : Int} (h0 : S a0 = 29) (h1 : S a1 = 12) (h2 : S a2 = 13) (h3 : S a3 = 21) (h4 : S a4 = 22) (hi0 : (-2147483648 ≤ i0 ∧ i0 < 2147483648)) {r : (Int × (Nat → Nat) × (Nat → Nat) × gM × gR) ⊕ Unit} (h : fL_c53 G.2.2.2.2 sz S Ln R M a0 a1 a2 a3 a4 i0 = some r) (hJ : ∀ t, r = .inl t → ∀ sz1, ((-2147483648 ≤ t.1 ∧ t.1 < 2147483648) ∧ t.2.1 a0 = 29 ∧ t.2.1 a1 = 12 ∧ t.2.1 a2 = 13 ∧ t.2.1 a3 = 21 ∧ t.2.1 a4 = 22 ∧ Ex2 S Ln t.2.1 t.2.2.1) → JJ G C (kk + 40) (256 * (kk + 40)) sz1 t.2.1 t.2.2.1 t.2.2.2.1 t.2.2.2.2 28 [(0, .ref a0), (1, .ref a1), (2, .ref a2), (3, .ref a3), (4, .ref a4), (5, .int (iI t.1))] []) : JJ G C kk (256 * (kk)) sz S Ln M R 2958 [(0, .ref a0), (1, .ref a1), (2, .ref a2), (3, .ref a3), (4, .ref a4), (5, .int (iI i0))] [] := by
  unfold fL_c53 at h
  refine jj_aload_n hC dL_law_2958 rfl 1 rfl ?_
  obtain ⟨q1, hq1, h⟩ := bd_e h
  refine jj_invSW hC mvwL_restore wd1696 wd1695 (xL_restore (OKC.tr hC) h1 hq1) rfl rfl (c_le rfl) (c_le rfl) (by omega) (by omega) dL_law_2959 (po_kW (fun hr1 hx1 sz1 => ?_))
  refine jj_widen (k' := kk + 1) (n' := 256 * (kk + 1)) (by omega) (by omega) ?_
  refine jj_istore (lv' := [(6, .int (iI q1.1)), (0, .ref a0), (1, .ref a1), (2, .ref a2), (3, .ref a3), (4, .ref a4), (5, .int (iI i0))]) hC dL_law_2962 (by decide) rfl ?_
  refine jj_aload_n hC dL_law_2964 rfl 3 rfl ?_
  obtain ⟨q2, hq2, h⟩ := bd_e h
  refine jj_invV hC mvX10_restore wd2237 wd2238 wd2236 h2 (by decide) rfl (xX10_restore (OKC.tr hC) h2 hq2) rfl rfl (c_le rfl) (c_le rfl) (by omega) (by omega) dL_law_2965 noXk (po_kV ?_)
  refine jj_aload_n hC dL_law_2968 rfl 3 rfl ?_
  obtain ⟨q3, hq3, h⟩ := bd_e h
  refine jj_invV hC mvX10_thrown wd1765 wd1766 wd1764 h2 (by decide) rfl (xX10_thrown (OKC.tr hC) h2 hq3) rfl rfl (c_le rfl) (c_le rfl) (by omega) (by omega) dL_law_2969 noXk (po_kI (fun hr3 => ?_))
  refine jj_iload hC dL_law_2972 0 rfl ?_
  refine jj_icmp_eq (tgt := 2979) hC dL_law_2974 rfl hr3 hr1 (fun hc => ?_) (fun hc => ?_)
  · replace h := (if_pos hc).symm.trans h
    refine jj_goto (tgt := 2982) hC dL_law_2979 rfl ?_
    refine jg_iinc (q := 6) (lv' := [(5, .int (iI (w32 (i0 + 5)))), (6, .int (iI q1.1)), (0, .ref a0), (1, .ref a1), (2, .ref a2), (3, .ref a3), (4, .ref a4)]) hC dL_law_2982 rfl (by decide) rfl ?_
    refine jj_goto (tgt := 28) hC dL_law_2985 rfl ?_
    refine jj_widen (k' := kk + 40) (n' := 256 * (kk + 40)) (by omega) (by omega) ?_
    refine jj_lv (lv' := [(0, .ref a0), (1, .ref a1), (2, .ref a2), (3, .ref a3), (4, .ref a4), (5, .int (iI (w32 (i0 + 5))))]) [2, 3, 4, 5, 6, 0] rfl ?_
    exact hJ _ (Option.some.inj h).symm sz1 ⟨(w32_r _), h0, h1, h2, h3, h4, ex2_r⟩
  · replace h := (if_neg (hc)).symm.trans h
    cases h
def fL_c54 (ad : Nat → Nat) (sz : Nat) (S Ln : Nat → Nat) (R : gR) (M : gM) (a0 a1 a2 a3 a4 : Nat) (i0 : Int) : Option ((Int × (Nat → Nat) × (Nat → Nat) × gM × gR) ⊕ Unit) :=
  some (.inl (w32 (i0 + 5), S, Ln, M, R))
theorem xL_c54 {G : gE} {C : gC} {sz kk : Nat} {S Ln : Nat → Nat} {M : gM} {R : gR} {P : gP} (hC : OKC G C RL cL_law 9 (some .boolean) 1400 603072 7198826 P noX) (hkk : kk + 40 ≤ 603072) (hnn : 256 * (kk + 40) ≤ 7198826) {a0 a1 a2 a3 a4 : Nat} {i0 : Int} (h0 : S a0 = 29) (h1 : S a1 = 12) (h2 : S a2 = 13) (h3 : S a3 = 21) (h4 : S a4 = 22) (hi0 : (-2147483648 ≤ i0 ∧ i0 < 2147483648)) {r : (Int × (Nat → Nat) × (Nat → Nat) × gM × gR) ⊕ Unit} (h : fL_c54 G.2.2.2.2 sz S Ln R M a0 a1 a2 a3 a4 i0 = some r) (hJ : ∀ t, r = .inl t → ∀ sz1, ((-2147483648 ≤ t.1 ∧ t.1 < 2147483648) ∧ t.2.1 a0 = 29 ∧ t.2.1 a1 = 12 ∧ t.2.1 a2 = 13 ∧ t.2.1 a3 = 21 ∧ t.2.1 a4 = 22 ∧ Ex2 S Ln t.2.1 t.2.2.1) → JJ G C (kk + 40) (256 * (kk + 40)) sz1 t.2.1 t.2.2.1 t.2.2.2.1 t.2.2.2.2 28 [(0, .ref a0), (1, .ref a1), (2, .ref a2), (3, .ref a3), (4, .ref a4), (5, .int (iI t.1))] []) : JJ G C kk (256 * (kk)) sz S Ln M R 2982 [(0, .ref a0), (1, .ref a1), (2, .ref a2), (3, .ref a3), (4, .ref a4), (5, .int (iI i0))] [] := by
  unfold fL_c54 at h
  refine jg_iinc (q := 5) (lv' := [(5, .int (iI (w32 (i0 + 5)))), (0, .ref a0), (1, .ref a1), (2, .ref a2), (3, .ref a3), (4, .ref a4)]) hC dL_law_2982 rfl (by decide) rfl ?_
  refine jj_goto (tgt := 28) hC dL_law_2985 rfl ?_
  refine jj_widen (k' := kk + 40) (n' := 256 * (kk + 40)) (by omega) (by omega) ?_
  refine jj_lv (lv' := [(0, .ref a0), (1, .ref a1), (2, .ref a2), (3, .ref a3), (4, .ref a4), (5, .int (iI (w32 (i0 + 5))))]) [1, 2, 3, 4, 5, 0] rfl ?_
  exact hJ _ (Option.some.inj h).symm sz ⟨(w32_r _), h0, h1, h2, h3, h4, ex2_r⟩
