def fL_s0 (ad : Nat → Nat) (sz : Nat) (S Ln : Nat → Nat) (R : gR) (M : gM) (a0 : Nat) : Option ((Nat × (Nat → Nat) × (Nat → Nat) × gM × gR)) :=
  bd (fL_begun ad sz S Ln R M a0) fun q1 => bd (fL_isWell ad q1.2.1 q1.2.2.1 q1.2.2.2.2 q1.2.2.2.1 q1.1) fun q2 => if ¬ q2.1 = 0 then (some (q1.1, q1.2.1, q1.2.2.1, q2.2, q1.2.2.2.2)) else (none)
set_option maxRecDepth 100000 in
set_option maxHeartbeats 4000000 in
theorem xL_s0 {G : gE} {C : gC} {sz kk : Nat} {S Ln : Nat → Nat} {M : gM} {R : gR} {P : gP} (hC : OKC G C RL cL_law 5 (some .boolean) 1400 600312 7291746 P noX) (hkk : kk + 500 ≤ 600312) (hnn : 256 * (kk + 500) ≤ 7291746) {a0 : Nat} (ha0 : S a0 = 29) {r : (Nat × (Nat → Nat) × (Nat → Nat) × gM × gR)} (h : fL_s0 G.2.2.2.2 sz S Ln R M a0 = some r) (hJ20 : ∀ t, r = t → ∀ sz1, (t.2.1 t.1 = 12 ∧ t.2.1 a0 = 29 ∧ Ex2 S Ln t.2.1 t.2.2.1) → JJ G C (kk + 500) (256 * (kk + 500)) sz1 t.2.1 t.2.2.1 t.2.2.2.1 t.2.2.2.2 20 [(0, .ref a0), (1, .ref t.1), (2, .int (iI 0))] []) : JJ G C kk (256 * (kk)) sz S Ln M R 0 [(0, .ref a0)] [] := by
  unfold fL_s0 at h
  refine jj_aload_n hC dL_law_0 rfl 0 rfl ?_
  obtain ⟨q1, hq1, h⟩ := bd_e h
  refine jj_invS hC mvL_begun wd883 wd882 (xL_begun (OKC.tr hC) ha0 hq1) rfl rfl (c_le rfl) (c_le rfl) (by omega) (by omega) dL_law_1 noXk (po_kWA (fun hr1 hx1 sz1 => ?_))
  refine jj_widen (k' := kk + 416) (n' := 256 * (kk + 416)) (by omega) (by omega) ?_
  refine jj_astore_n (lv' := [(1, .ref q1.1), (0, .ref a0)]) hC dL_law_4 rfl (by decide) rfl ?_
  refine jj_aload_n hC dL_law_5 rfl 0 rfl ?_
  refine jj_ifnull hC dL_law_6 ?_
  refine jj_aload_n hC dL_law_9 rfl 0 rfl ?_
  obtain ⟨q2, hq2, h⟩ := bd_e h
  refine jj_invS hC mvL_isWell wd1476 wd1475 (xL_isWell (OKC.tr hC) hr1 hq2) rfl rfl (c_le rfl) (c_le rfl) (by omega) (by omega) dL_law_10 noXk (po_kWZ (fun hr2 hx2 sz2 => ?_))
  refine jj_widen (k' := kk + 434) (n' := 256 * (kk + 434)) (by omega) (by omega) ?_
  refine jj_if_ne (tgt := 18) hC dL_law_13 rfl (r_z hr2) (fun hc => ?_) (fun hc => ?_)
  · replace h := (if_pos hc).symm.trans h
    refine jj_iconst hC dL_law_18 ?_
    refine jj_istore_n (lv' := [(2, .int (iI 0)), (1, .ref q1.1), (0, .ref a0)]) hC dL_law_19 rfl (by decide) rfl ?_
    refine jj_widen (k' := kk + 500) (n' := 256 * (kk + 500)) (by omega) (by omega) ?_
    refine jj_lv (lv' := [(0, .ref a0), (1, .ref q1.1), (2, .int (iI 0))]) [2, 1, 0] rfl ?_
    exact hJ20 _ (Option.some.inj h).symm sz2 ⟨hr1, (ex2_s hx1 ha0 (by decide)), (ex2_t ex2_r hx1)⟩
  · replace h := (if_neg (fun k => k hc)).symm.trans h
    cases h
def fL_s1 (ad : Nat → Nat) (sz : Nat) (S Ln : Nat → Nat) (R : gR) (M : gM) (a0 : Nat) (a1 : Nat) (i2 : Int) : Option ((Nat × Int × (Nat → Nat) × (Nat → Nat) × gM × gR) ⊕ ((Nat × Int × (Nat → Nat) × (Nat → Nat) × gM × gR) ⊕ (((Nat → Nat) × (Nat → Nat) × gM × gR)))) :=
  if 9 ≤ i2 then (some (.inr (.inr (S, Ln, M, R)))) else (bd (fL_seen ad sz S Ln R M a1) fun q1 => bd (fL_acts ad q1.2.1 q1.2.2.1 q1.2.2.2.1 q1.2.2.2.2.2 q1.2.2.2.2.1 a1 a0 (w32 (40 + (w32 (4 * i2))))) fun q2 => bd (fL_isWell ad q2.2.1 q2.2.2.1 q2.2.2.2.2 q2.2.2.2.1 a1) fun q3 => if q3.1 = 0 then (none) else (if q2.1 = (-900009) then (none) else (if (-900000) < q2.1 then (some (.inr (.inl (q1.1, q2.1, q2.2.1, q2.2.2.1, q3.2, q2.2.2.2.2)))) else (some (.inl (q1.1, q2.1, q2.2.1, q2.2.2.1, q3.2, q2.2.2.2.2))))))
set_option maxRecDepth 100000 in
set_option maxHeartbeats 4000000 in
theorem xL_s1 {G : gE} {C : gC} {sz kk : Nat} {S Ln : Nat → Nat} {M : gM} {R : gR} {P : gP} (hC : OKC G C RL cL_law 5 (some .boolean) 1400 600312 7291746 P noX) (hkk : kk + 300 ≤ 600312) (hnn : 256 * (kk + 300) ≤ 7291746) {a0 : Nat} (ha0 : S a0 = 29) {a1 : Nat} (ha1 : S a1 = 12) {i2 : Int} (hi2 : (-2147483648 ≤ i2 ∧ i2 < 2147483648)) {r : (Nat × Int × (Nat → Nat) × (Nat → Nat) × gM × gR) ⊕ ((Nat × Int × (Nat → Nat) × (Nat → Nat) × gM × gR) ⊕ (((Nat → Nat) × (Nat → Nat) × gM × gR)))} (h : fL_s1 G.2.2.2.2 sz S Ln R M a0 a1 i2 = some r) (hJ66 : ∀ t, r = .inl t → ∀ sz1, (t.2.2.1 t.1 = 20 ∧ (-2147483648 ≤ t.2.1 ∧ t.2.1 < 2147483648) ∧ t.2.2.1 a0 = 29 ∧ t.2.2.1 a1 = 12 ∧ Ex2 S Ln t.2.2.1 t.2.2.2.1) → JJ G C (kk + 300) (256 * (kk + 300)) sz1 t.2.2.1 t.2.2.2.1 t.2.2.2.2.1 t.2.2.2.2.2 66 [(0, .ref a0), (1, .ref a1), (2, .int (iI i2)), (3, .ref t.1), (4, .int (iI t.2.1))] []) (hJ79 : ∀ t, r = .inr (.inl t) → ∀ sz1, (t.2.2.1 t.1 = 20 ∧ (-2147483648 ≤ t.2.1 ∧ t.2.1 < 2147483648) ∧ t.2.2.1 a0 = 29 ∧ t.2.2.1 a1 = 12 ∧ Ex2 S Ln t.2.2.1 t.2.2.2.1) → JJ G C (kk + 300) (256 * (kk + 300)) sz1 t.2.2.1 t.2.2.2.1 t.2.2.2.2.1 t.2.2.2.2.2 79 [(0, .ref a0), (1, .ref a1), (2, .int (iI i2)), (3, .ref t.1), (4, .int (iI t.2.1))] []) (hJ125 : ∀ t, r = .inr (.inr t) → ∀ sz1, (t.1 a1 = 12 ∧ Ex2 S Ln t.1 t.2.1) → JJ G C (kk + 300) (256 * (kk + 300)) sz1 t.1 t.2.1 t.2.2.1 t.2.2.2 125 [(1, .ref a1)] []) : JJ G C kk (256 * (kk)) sz S Ln M R 20 [(0, .ref a0), (1, .ref a1), (2, .int (iI i2))] [] := by
  unfold fL_s1 at h
  refine jj_iload_n hC dL_law_20 rfl 2 rfl ?_
  refine jj_bipush hC dL_law_21 (by decide) ?_
  refine jj_icmp_ge (tgt := 125) hC dL_law_23 rfl hi2 (show (-2147483648 ≤ (9 : Int) ∧ (9 : Int) < 2147483648) from by decide) (fun hc => ?_) (fun hc => ?_)
  · replace h := (if_pos hc).symm.trans h
    refine jj_widen (k' := kk + 300) (n' := 256 * (kk + 300)) (by omega) (by omega) ?_
    refine jj_lv (lv' := [(1, .ref a1)]) [1] rfl ?_
    exact hJ125 _ (Option.some.inj h).symm sz ⟨ha1, ex2_r⟩
  · replace h := (if_neg (Int.not_le.mpr hc)).symm.trans h
    refine jj_aload_n hC dL_law_26 rfl 1 rfl ?_
    obtain ⟨q1, hq1, h⟩ := bd_e h
    refine jj_invS hC mvL_seen wd1386 wd1385 (xL_seen (OKC.tr hC) ha1 hq1) rfl rfl (c_le rfl) (c_le rfl) (by omega) (by omega) dL_law_27 noXk (poX_k (fun hx1 => po_kA (fun hr1 => ?_)))
    refine jj_widen (k' := kk + 1) (n' := 256 * (kk + 1)) (by omega) (by omega) ?_
    refine jj_astore_n (lv' := [(3, .ref q1.1), (0, .ref a0), (1, .ref a1), (2, .int (iI i2))]) hC dL_law_30 rfl (by decide) rfl ?_
    refine jj_aload_n hC dL_law_31 rfl 2 rfl ?_
    refine jj_aload_n hC dL_law_32 rfl 1 rfl ?_
    refine jj_bipush hC dL_law_33 (by decide) ?_
    refine jj_iconst hC dL_law_35 ?_
    refine jj_iload_n hC dL_law_36 rfl 3 rfl ?_
    refine jg_imul hC dL_law_37 ?_
    refine jg_iadd hC dL_law_38 ?_
    obtain ⟨q2, hq2, h⟩ := bd_e h
    refine jj_invS hC mvL_acts wd1216 wd1215 (xL_acts (OKC.tr hC) (ext_s hx1 ha1 (by decide)) (ext_s hx1 ha0 (by decide)) (w32_r _) hq2) rfl rfl (c_le rfl) (c_le rfl) (by omega) (by omega) dL_law_39 noXk (po_kW (fun hr2 hx2 sz2 => ?_))
    refine jj_widen (k' := kk + 39) (n' := 256 * (kk + 39)) (by omega) (by omega) ?_
    refine jj_istore (lv' := [(4, .int (iI q2.1)), (3, .ref q1.1), (0, .ref a0), (1, .ref a1), (2, .int (iI i2))]) hC dL_law_42 (by decide) rfl ?_
    refine jj_aload_n hC dL_law_44 rfl 3 rfl ?_
    obtain ⟨q3, hq3, h⟩ := bd_e h
    refine jj_invS hC mvL_isWell wd1476 wd1475 (xL_isWell (OKC.tr hC) (ex2_s hx2 (ext_s hx1 ha1 (by decide)) (by decide)) hq3) rfl rfl (c_le rfl) (c_le rfl) (by omega) (by omega) dL_law_45 noXk (po_kWZ (fun hr3 hx3 sz3 => ?_))
    refine jj_widen (k' := kk + 57) (n' := 256 * (kk + 57)) (by omega) (by omega) ?_
    refine jj_if_eq (tgt := 77) hC dL_law_48 rfl (r_z hr3) (fun hc => ?_) (fun hc => ?_)
    · replace h := (if_pos hc).symm.trans h
      cases h
    · replace h := (if_neg (hc)).symm.trans h
      refine jj_iload hC dL_law_51 0 rfl ?_
      refine jj_ldcI (v := (-900009)) hC rfl wd1243 dL_law_53 ?_
      refine jj_icmp_eq (tgt := 77) hC dL_law_55 rfl hr2 (show (-2147483648 ≤ ((-900009) : Int) ∧ ((-900009) : Int) < 2147483648) from by decide) (fun hc => ?_) (fun hc => ?_)
      · replace h := (if_pos hc).symm.trans h
        cases h
      · replace h := (if_neg (hc)).symm.trans h
        refine jj_iload hC dL_law_58 0 rfl ?_
        refine jj_ldcwI (v := (-900000)) hC rfl wd1566 dL_law_60 ?_
        refine jj_icmp_gt (tgt := 79) hC dL_law_63 rfl hr2 (show (-2147483648 ≤ ((-900000) : Int) ∧ ((-900000) : Int) < 2147483648) from by decide) (fun hc => ?_) (fun hc => ?_)
        · replace h := (if_pos hc).symm.trans h
          refine jj_widen (k' := kk + 300) (n' := 256 * (kk + 300)) (by omega) (by omega) ?_
          refine jj_lv (lv' := [(0, .ref a0), (1, .ref a1), (2, .int (iI i2)), (3, .ref q1.1), (4, .int (iI q2.1))]) [2, 3, 4, 1, 0] rfl ?_
          exact hJ79 _ (Option.some.inj h).symm sz3 ⟨(ex2_s hx2 hr1 (by decide)), hr2, (ex2_s hx2 (ext_s hx1 ha0 (by decide)) (by decide)), (ex2_s hx2 (ext_s hx1 ha1 (by decide)) (by decide)), (ex2_t (ex2_t ex2_r hx1.2) hx2)⟩
        · replace h := (if_neg (Int.not_lt.mpr hc)).symm.trans h
          refine jj_widen (k' := kk + 300) (n' := 256 * (kk + 300)) (by omega) (by omega) ?_
          refine jj_lv (lv' := [(0, .ref a0), (1, .ref a1), (2, .int (iI i2)), (3, .ref q1.1), (4, .int (iI q2.1))]) [2, 3, 4, 1, 0] rfl ?_
          exact hJ66 _ (Option.some.inj h).symm sz3 ⟨(ex2_s hx2 hr1 (by decide)), hr2, (ex2_s hx2 (ext_s hx1 ha0 (by decide)) (by decide)), (ex2_s hx2 (ext_s hx1 ha1 (by decide)) (by decide)), (ex2_t (ex2_t ex2_r hx1.2) hx2)⟩
def fL_s2 (ad : Nat → Nat) (sz : Nat) (S Ln : Nat → Nat) (R : gR) (M : gM) (a0 : Nat) (a1 : Nat) (i2 : Int) (a3 : Nat) (i4 : Int) : Option (((Nat → Nat) × (Nat → Nat) × gM × gR)) :=
  bd (fL_seen ad sz S Ln R M a1) fun q1 => bd (fL_areAlike ad q1.2.2.1 q1.2.2.2.1 q1.2.2.2.2.2 q1.2.2.2.2.1 a3 q1.1) fun q2 => if ¬ q2 = 0 then (some (q1.2.2.1, q1.2.2.2.1, q1.2.2.2.2.1, q1.2.2.2.2.2)) else (none)
set_option maxRecDepth 100000 in
set_option maxHeartbeats 4000000 in
theorem xL_s2 {G : gE} {C : gC} {sz kk : Nat} {S Ln : Nat → Nat} {M : gM} {R : gR} {P : gP} (hC : OKC G C RL cL_law 5 (some .boolean) 1400 600312 7291746 P noX) (hkk : kk + 100 ≤ 600312) (hnn : 256 * (kk + 100) ≤ 7291746) {a0 : Nat} (ha0 : S a0 = 29) {a1 : Nat} (ha1 : S a1 = 12) {i2 : Int} (hi2 : (-2147483648 ≤ i2 ∧ i2 < 2147483648)) {a3 : Nat} (ha3 : S a3 = 20) {i4 : Int} (hi4 : (-2147483648 ≤ i4 ∧ i4 < 2147483648)) {r : ((Nat → Nat) × (Nat → Nat) × gM × gR)} (h : fL_s2 G.2.2.2.2 sz S Ln R M a0 a1 i2 a3 i4 = some r) (hJ79 : ∀ t, r = t → ∀ sz1, (t.1 a0 = 29 ∧ t.1 a1 = 12 ∧ t.1 a3 = 20 ∧ Ex2 S Ln t.1 t.2.1) → JJ G C (kk + 100) (256 * (kk + 100)) sz1 t.1 t.2.1 t.2.2.1 t.2.2.2 79 [(0, .ref a0), (1, .ref a1), (2, .int (iI i2)), (3, .ref a3), (4, .int (iI i4))] []) : JJ G C kk (256 * (kk)) sz S Ln M R 66 [(0, .ref a0), (1, .ref a1), (2, .int (iI i2)), (3, .ref a3), (4, .int (iI i4))] [] := by
  unfold fL_s2 at h
  refine jj_aload_n hC dL_law_66 rfl 3 rfl ?_
  refine jj_aload_n hC dL_law_67 rfl 1 rfl ?_
  obtain ⟨q1, hq1, h⟩ := bd_e h
  refine jj_invS hC mvL_seen wd1386 wd1385 (xL_seen (OKC.tr hC) ha1 hq1) rfl rfl (c_le rfl) (c_le rfl) (by omega) (by omega) dL_law_68 noXk (poX_k (fun hx1 => po_kA (fun hr1 => ?_)))
  refine jj_widen (k' := kk + 1) (n' := 256 * (kk + 1)) (by omega) (by omega) ?_
  obtain ⟨q2, hq2, h⟩ := bd_e h
  refine jj_invS hC mvL_areAlike wd1473 wd1472 (xL_areAlike (OKC.tr hC) (ext_s hx1 ha3 (by decide)) hr1 hq2) rfl rfl (c_le rfl) (c_le rfl) (by omega) (by omega) dL_law_71 noXk (po_kZ (fun hr2 => ?_))
  refine jj_if_ne (tgt := 79) hC dL_law_74 rfl (r_z hr2) (fun hc => ?_) (fun hc => ?_)
  · replace h := (if_pos hc).symm.trans h
    refine jj_widen (k' := kk + 100) (n' := 256 * (kk + 100)) (by omega) (by omega) ?_
    refine jj_lv (lv' := [(0, .ref a0), (1, .ref a1), (2, .int (iI i2)), (3, .ref a3), (4, .int (iI i4))]) [0, 1, 2, 3, 4] rfl ?_
    exact hJ79 _ (Option.some.inj h).symm q1.2.1 ⟨(ext_s hx1 ha0 (by decide)), (ext_s hx1 ha1 (by decide)), (ext_s hx1 ha3 (by decide)), (ex2_t ex2_r hx1.2)⟩
  · replace h := (if_neg (fun k => k hc)).symm.trans h
    cases h
def fL_s3 (ad : Nat → Nat) (sz : Nat) (S Ln : Nat → Nat) (R : gR) (M : gM) (a0 : Nat) (a1 : Nat) (i2 : Int) (a3 : Nat) (i4 : Int) : Option ((Int × (Nat → Nat) × (Nat → Nat) × gM × gR) ⊕ (((Nat → Nat) × (Nat → Nat) × gM × gR))) :=
  if i4 ≤ (-900000) then (some (.inl (w32 (i2 + 1), S, Ln, M, R))) else (bd (fL_in ad S Ln R M a0 (w32 (77 + i2)) 5) fun q1 => if ¬ q1 = 0 then (some (.inl (w32 (i2 + 1), S, Ln, M, R))) else (bd (fL_undo ad S Ln R M a1) fun q2 => if q2.1 < 0 then (none) else (some (.inr (S, Ln, q2.2, R)))))
set_option maxRecDepth 100000 in
set_option maxHeartbeats 4000000 in
theorem xL_s3 {G : gE} {C : gC} {sz kk : Nat} {S Ln : Nat → Nat} {M : gM} {R : gR} {P : gP} (hC : OKC G C RL cL_law 5 (some .boolean) 1400 600312 7291746 P noX) (hkk : kk + 100 ≤ 600312) (hnn : 256 * (kk + 100) ≤ 7291746) {a0 : Nat} (ha0 : S a0 = 29) {a1 : Nat} (ha1 : S a1 = 12) {i2 : Int} (hi2 : (-2147483648 ≤ i2 ∧ i2 < 2147483648)) {a3 : Nat} (ha3 : S a3 = 20) {i4 : Int} (hi4 : (-2147483648 ≤ i4 ∧ i4 < 2147483648)) {r : (Int × (Nat → Nat) × (Nat → Nat) × gM × gR) ⊕ (((Nat → Nat) × (Nat → Nat) × gM × gR))} (h : fL_s3 G.2.2.2.2 sz S Ln R M a0 a1 i2 a3 i4 = some r) (hJ20 : ∀ t, r = .inl t → ∀ sz1, ((-2147483648 ≤ t.1 ∧ t.1 < 2147483648) ∧ t.2.1 a0 = 29 ∧ t.2.1 a1 = 12 ∧ Ex2 S Ln t.2.1 t.2.2.1) → JJ G C (kk + 100) (256 * (kk + 100)) sz1 t.2.1 t.2.2.1 t.2.2.2.1 t.2.2.2.2 20 [(0, .ref a0), (1, .ref a1), (2, .int (iI t.1))] []) (hJ106 : ∀ t, r = .inr t → ∀ sz1, (t.1 a0 = 29 ∧ t.1 a1 = 12 ∧ t.1 a3 = 20 ∧ Ex2 S Ln t.1 t.2.1) → JJ G C (kk + 100) (256 * (kk + 100)) sz1 t.1 t.2.1 t.2.2.1 t.2.2.2 106 [(0, .ref a0), (1, .ref a1), (2, .int (iI i2)), (3, .ref a3)] []) : JJ G C kk (256 * (kk)) sz S Ln M R 79 [(0, .ref a0), (1, .ref a1), (2, .int (iI i2)), (3, .ref a3), (4, .int (iI i4))] [] := by
  unfold fL_s3 at h
  refine jj_iload hC dL_law_79 4 rfl ?_
  refine jj_ldcwI (v := (-900000)) hC rfl wd1566 dL_law_81 ?_
  refine jj_icmp_le (tgt := 119) hC dL_law_84 rfl hi4 (show (-2147483648 ≤ ((-900000) : Int) ∧ ((-900000) : Int) < 2147483648) from by decide) (fun hc => ?_) (fun hc => ?_)
  · replace h := (if_pos hc).symm.trans h
    refine jg_iinc (q := 2) (lv' := [(2, .int (iI (w32 (i2 + 1)))), (0, .ref a0), (1, .ref a1), (3, .ref a3), (4, .int (iI i4))]) hC dL_law_119 rfl (by decide) rfl ?_
    refine jj_goto (tgt := 20) hC dL_law_122 rfl ?_
    refine jj_widen (k' := kk + 100) (n' := 256 * (kk + 100)) (by omega) (by omega) ?_
    refine jj_lv (lv' := [(0, .ref a0), (1, .ref a1), (2, .int (iI (w32 (i2 + 1))))]) [1, 2, 0] rfl ?_
    exact hJ20 _ (Option.some.inj h).symm sz ⟨(w32_r _), ha0, ha1, ex2_r⟩
  · replace h := (if_neg (Int.not_le.mpr hc)).symm.trans h
    refine jj_aload_n hC dL_law_87 rfl 0 rfl ?_
    refine jj_bipush hC dL_law_88 (by decide) ?_
    refine jj_iload_n hC dL_law_90 rfl 2 rfl ?_
    refine jg_iadd hC dL_law_91 ?_
    refine jj_iconst hC dL_law_92 ?_
    obtain ⟨q1, hq1, h⟩ := bd_e h
    refine jj_invS hC mvL_in wd874 wd873 (xL_in (OKC.tr hC) ha0 (w32_r _) (show (-2147483648 ≤ (5 : Int) ∧ (5 : Int) < 2147483648) from by decide) hq1) rfl rfl (c_le rfl) (c_le rfl) (by omega) (by omega) dL_law_93 noXk (po_kI (fun hr1 => ?_))
    refine jj_if_ne (tgt := 119) hC dL_law_96 rfl hr1 (fun hc => ?_) (fun hc => ?_)
    · replace h := (if_pos hc).symm.trans h
      refine jg_iinc (q := 2) (lv' := [(2, .int (iI (w32 (i2 + 1)))), (0, .ref a0), (1, .ref a1), (3, .ref a3), (4, .int (iI i4))]) hC dL_law_119 rfl (by decide) rfl ?_
      refine jj_goto (tgt := 20) hC dL_law_122 rfl ?_
      refine jj_widen (k' := kk + 100) (n' := 256 * (kk + 100)) (by omega) (by omega) ?_
      refine jj_lv (lv' := [(0, .ref a0), (1, .ref a1), (2, .int (iI (w32 (i2 + 1))))]) [1, 2, 0] rfl ?_
      exact hJ20 _ (Option.some.inj h).symm sz ⟨(w32_r _), ha0, ha1, ex2_r⟩
    · replace h := (if_neg (fun k => k hc)).symm.trans h
      refine jj_aload_n hC dL_law_99 rfl 1 rfl ?_
      obtain ⟨q2, hq2, h⟩ := bd_e h
      refine jj_invSW hC mvwL_undo wd854 wd853 (xL_undo (OKC.tr hC) ha1 hq2) rfl rfl (c_le rfl) (c_le rfl) (by omega) (by omega) dL_law_100 (po_kW (fun hr2 hx2 sz2 => ?_))
      refine jj_widen (k' := kk + 1) (n' := 256 * (kk + 1)) (by omega) (by omega) ?_
      refine jj_if_lt (tgt := 117) hC dL_law_103 rfl hr2 (fun hc => ?_) (fun hc => ?_)
      · replace h := (if_pos hc).symm.trans h
        cases h
      · replace h := (if_neg (Int.not_lt.mpr hc)).symm.trans h
        refine jj_widen (k' := kk + 100) (n' := 256 * (kk + 100)) (by omega) (by omega) ?_
        refine jj_lv (lv' := [(0, .ref a0), (1, .ref a1), (2, .int (iI i2)), (3, .ref a3)]) [0, 1, 2, 3] rfl ?_
        exact hJ106 _ (Option.some.inj h).symm sz2 ⟨ha0, ha1, ha3, ex2_r⟩
def fL_s4 (ad : Nat → Nat) (sz : Nat) (S Ln : Nat → Nat) (R : gR) (M : gM) (a0 : Nat) (a1 : Nat) (i2 : Int) (a3 : Nat) : Option ((Int × (Nat → Nat) × (Nat → Nat) × gM × gR)) :=
  bd (fL_seen ad sz S Ln R M a1) fun q1 => bd (fL_areAlike ad q1.2.2.1 q1.2.2.2.1 q1.2.2.2.2.2 q1.2.2.2.2.1 a3 q1.1) fun q2 => if ¬ q2 = 0 then (some (w32 (i2 + 1), q1.2.2.1, q1.2.2.2.1, q1.2.2.2.2.1, q1.2.2.2.2.2)) else (none)
set_option maxRecDepth 100000 in
set_option maxHeartbeats 4000000 in
theorem xL_s4 {G : gE} {C : gC} {sz kk : Nat} {S Ln : Nat → Nat} {M : gM} {R : gR} {P : gP} (hC : OKC G C RL cL_law 5 (some .boolean) 1400 600312 7291746 P noX) (hkk : kk + 100 ≤ 600312) (hnn : 256 * (kk + 100) ≤ 7291746) {a0 : Nat} (ha0 : S a0 = 29) {a1 : Nat} (ha1 : S a1 = 12) {i2 : Int} (hi2 : (-2147483648 ≤ i2 ∧ i2 < 2147483648)) {a3 : Nat} (ha3 : S a3 = 20) {r : (Int × (Nat → Nat) × (Nat → Nat) × gM × gR)} (h : fL_s4 G.2.2.2.2 sz S Ln R M a0 a1 i2 a3 = some r) (hJ20 : ∀ t, r = t → ∀ sz1, ((-2147483648 ≤ t.1 ∧ t.1 < 2147483648) ∧ t.2.1 a0 = 29 ∧ t.2.1 a1 = 12 ∧ Ex2 S Ln t.2.1 t.2.2.1) → JJ G C (kk + 100) (256 * (kk + 100)) sz1 t.2.1 t.2.2.1 t.2.2.2.1 t.2.2.2.2 20 [(0, .ref a0), (1, .ref a1), (2, .int (iI t.1))] []) : JJ G C kk (256 * (kk)) sz S Ln M R 106 [(0, .ref a0), (1, .ref a1), (2, .int (iI i2)), (3, .ref a3)] [] := by
  unfold fL_s4 at h
  refine jj_aload_n hC dL_law_106 rfl 3 rfl ?_
  refine jj_aload_n hC dL_law_107 rfl 1 rfl ?_
  obtain ⟨q1, hq1, h⟩ := bd_e h
  refine jj_invS hC mvL_seen wd1386 wd1385 (xL_seen (OKC.tr hC) ha1 hq1) rfl rfl (c_le rfl) (c_le rfl) (by omega) (by omega) dL_law_108 noXk (poX_k (fun hx1 => po_kA (fun hr1 => ?_)))
  refine jj_widen (k' := kk + 1) (n' := 256 * (kk + 1)) (by omega) (by omega) ?_
  obtain ⟨q2, hq2, h⟩ := bd_e h
  refine jj_invS hC mvL_areAlike wd1473 wd1472 (xL_areAlike (OKC.tr hC) (ext_s hx1 ha3 (by decide)) hr1 hq2) rfl rfl (c_le rfl) (c_le rfl) (by omega) (by omega) dL_law_111 noXk (po_kZ (fun hr2 => ?_))
  refine jj_if_ne (tgt := 119) hC dL_law_114 rfl (r_z hr2) (fun hc => ?_) (fun hc => ?_)
  · replace h := (if_pos hc).symm.trans h
    refine jg_iinc (q := 2) (lv' := [(2, .int (iI (w32 (i2 + 1)))), (0, .ref a0), (1, .ref a1), (3, .ref a3)]) hC dL_law_119 rfl (by decide) rfl ?_
    refine jj_goto (tgt := 20) hC dL_law_122 rfl ?_
    refine jj_widen (k' := kk + 100) (n' := 256 * (kk + 100)) (by omega) (by omega) ?_
    refine jj_lv (lv' := [(0, .ref a0), (1, .ref a1), (2, .int (iI (w32 (i2 + 1))))]) [1, 2, 0] rfl ?_
    exact hJ20 _ (Option.some.inj h).symm q1.2.1 ⟨(w32_r _), (ext_s hx1 ha0 (by decide)), (ext_s hx1 ha1 (by decide)), (ex2_t ex2_r hx1.2)⟩
  · replace h := (if_neg (fun k => k hc)).symm.trans h
    cases h
def fL_s5 (ad : Nat → Nat) (sz : Nat) (S Ln : Nat → Nat) (R : gR) (M : gM) (a1 : Nat) : Option ((Nat × Int × (Nat → Nat) × (Nat → Nat) × gM × gR)) :=
  bd (fL_seen ad sz S Ln R M a1) fun q1 => bd (fX9_save ad q1.2.2.1 q1.2.2.2.1 q1.2.2.2.2.2 q1.2.2.2.2.1 a1) fun q2 => bd (fL_strongestThermal ad q1.2.2.1 q1.2.2.2.1 q1.2.2.2.2.2 q2 a1 5 5) fun q3 => bd (fL_pilotAtRank ad q1.2.2.1 q1.2.2.2.1 q1.2.2.2.2.2 q2 a1 0) fun q4 => some (q1.1, w32 (q3 + q4.1), q1.2.2.1, q1.2.2.2.1, q4.2, q1.2.2.2.2.2)
set_option maxRecDepth 100000 in
set_option maxHeartbeats 4000000 in
theorem xL_s5 {G : gE} {C : gC} {sz kk : Nat} {S Ln : Nat → Nat} {M : gM} {R : gR} {P : gP} (hC : OKC G C RL cL_law 5 (some .boolean) 1400 600312 7291746 P noX) (hkk : kk + 100 ≤ 600312) (hnn : 256 * (kk + 100) ≤ 7291746) {a1 : Nat} (ha1 : S a1 = 12) {r : (Nat × Int × (Nat → Nat) × (Nat → Nat) × gM × gR)} (h : fL_s5 G.2.2.2.2 sz S Ln R M a1 = some r) (hJ146 : ∀ t, r = t → ∀ sz1, (t.2.2.1 t.1 = 20 ∧ (-2147483648 ≤ t.2.1 ∧ t.2.1 < 2147483648) ∧ t.2.2.1 a1 = 12 ∧ Ex2 S Ln t.2.2.1 t.2.2.2.1) → JJ G C (kk + 100) (256 * (kk + 100)) sz1 t.2.2.1 t.2.2.2.1 t.2.2.2.2.1 t.2.2.2.2.2 146 [(1, .ref a1), (2, .ref t.1)] [.int (iI t.2.1)]) : JJ G C kk (256 * (kk)) sz S Ln M R 125 [(1, .ref a1)] [] := by
  unfold fL_s5 at h
  refine jj_aload_n hC dL_law_125 rfl 0 rfl ?_
  obtain ⟨q1, hq1, h⟩ := bd_e h
  refine jj_invS hC mvL_seen wd1386 wd1385 (xL_seen (OKC.tr hC) ha1 hq1) rfl rfl (c_le rfl) (c_le rfl) (by omega) (by omega) dL_law_126 noXk (poX_k (fun hx1 => po_kA (fun hr1 => ?_)))
  refine jj_widen (k' := kk + 1) (n' := 256 * (kk + 1)) (by omega) (by omega) ?_
  refine jj_astore_n (lv' := [(2, .ref q1.1), (1, .ref a1)]) hC dL_law_129 rfl (by decide) rfl ?_
  refine jj_aload_n hC dL_law_130 rfl 1 rfl ?_
  obtain ⟨q2, hq2, h⟩ := bd_e h
  refine jj_invV hC mvX9_save wd507 wd508 wd506 (ext_s hx1 ha1 (by decide)) (by decide) rfl (xX9_save (OKC.tr hC) (ext_s hx1 ha1 (by decide)) hq2) rfl rfl (c_le rfl) (c_le rfl) (by omega) (by omega) dL_law_131 noXk (po_kV ?_)
  refine jj_aload_n hC dL_law_134 rfl 1 rfl ?_
  refine jj_iconst hC dL_law_135 ?_
  refine jj_iconst hC dL_law_136 ?_
  obtain ⟨q3, hq3, h⟩ := bd_e h
  refine jj_invSW hC mvwL_strongestThermal wd783 wd782 (xL_strongestThermal (OKC.tr hC) (ext_s hx1 ha1 (by decide)) (show (-2147483648 ≤ (5 : Int) ∧ (5 : Int) < 2147483648) from by decide) (show (-2147483648 ≤ (5 : Int) ∧ (5 : Int) < 2147483648) from by decide) hq3) rfl rfl (c_le rfl) (c_le rfl) (by omega) (by omega) dL_law_137 (po_kW (fun hr3 hx3 sz3 => ?_))
  refine jj_widen (k' := kk + 3) (n' := 256 * (kk + 3)) (by omega) (by omega) ?_
  refine jj_aload_n hC dL_law_140 rfl 1 rfl ?_
  refine jj_iconst hC dL_law_141 ?_
  obtain ⟨q4, hq4, h⟩ := bd_e h
  refine jj_invSW hC mvwL_pilotAtRank wd834 wd833 (xL_pilotAtRank (OKC.tr hC) (ext_s hx1 ha1 (by decide)) (show (-2147483648 ≤ (0 : Int) ∧ (0 : Int) < 2147483648) from by decide) hq4) rfl rfl (c_le rfl) (c_le rfl) (by omega) (by omega) dL_law_142 (po_kW (fun hr4 hx4 sz4 => ?_))
  refine jj_widen (k' := kk + 4) (n' := 256 * (kk + 4)) (by omega) (by omega) ?_
  refine jg_iadd hC dL_law_145 ?_
  refine jj_widen (k' := kk + 100) (n' := 256 * (kk + 100)) (by omega) (by omega) ?_
  refine jj_lv (lv' := [(1, .ref a1), (2, .ref q1.1)]) [1, 0] rfl ?_
  exact hJ146 _ (Option.some.inj h).symm sz4 ⟨hr1, (w32_r _), (ext_s hx1 ha1 (by decide)), (ex2_t ex2_r hx1.2)⟩
def fL_s6 (ad : Nat → Nat) (sz : Nat) (S Ln : Nat → Nat) (R : gR) (M : gM) (a1 : Nat) (a2 : Nat) (j0 : Int) : Option ((Int × (Nat → Nat) × (Nat → Nat) × gM × gR)) :=
  bd (fX9_writeTask ad sz S Ln R M a1) fun q1 => bd (fX9_writePilot ad q1.2.1 q1.2.2.1 q1.2.2.2.1 q1.2.2.2.2.2 q1.2.2.2.2.1 a1 0) fun q2 => Sum.elim (fun v2 => bd (fL_remainingDistance ad v2.2.2.1 v2.2.2.2.1 v2.2.2.2.2.2 v2.2.2.2.2.1 a1 0) fun q3 => some (w32 ((w32 ((w32 (j0 + q1.1)) + v2.1)) + q3), v2.2.2.1, v2.2.2.2.1, v2.2.2.2.2.1, v2.2.2.2.2.2)) (fun e2 => none) q2
set_option maxRecDepth 100000 in
set_option maxHeartbeats 4000000 in
theorem xL_s6 {G : gE} {C : gC} {sz kk : Nat} {S Ln : Nat → Nat} {M : gM} {R : gR} {P : gP} (hC : OKC G C RL cL_law 5 (some .boolean) 1400 600312 7291746 P noX) (hkk : kk + 200 ≤ 600312) (hnn : 256 * (kk + 200) ≤ 7291746) {a1 : Nat} (ha1 : S a1 = 12) {a2 : Nat} (ha2 : S a2 = 20) {j0 : Int} (hj0 : (-2147483648 ≤ j0 ∧ j0 < 2147483648)) {r : (Int × (Nat → Nat) × (Nat → Nat) × gM × gR)} (h : fL_s6 G.2.2.2.2 sz S Ln R M a1 a2 j0 = some r) (hJ164 : ∀ t, r = t → ∀ sz1, ((-2147483648 ≤ t.1 ∧ t.1 < 2147483648) ∧ t.2.1 a1 = 12 ∧ t.2.1 a2 = 20 ∧ Ex2 S Ln t.2.1 t.2.2.1) → JJ G C (kk + 200) (256 * (kk + 200)) sz1 t.2.1 t.2.2.1 t.2.2.2.1 t.2.2.2.2 164 [(1, .ref a1), (2, .ref a2), (3, .int (iI t.1))] []) : JJ G C kk (256 * (kk)) sz S Ln M R 146 [(1, .ref a1), (2, .ref a2)] [.int (iI j0)] := by
  unfold fL_s6 at h
  refine jj_aload_n hC dL_law_146 rfl 0 rfl ?_
  obtain ⟨q1, hq1, h⟩ := bd_e h
  refine jj_invV hC mvX9_writeTask wd503 wd504 wd502 ha1 (by decide) rfl (xX9_writeTask (OKC.tr hC) ha1 hq1) rfl rfl (c_le rfl) (c_le rfl) (by omega) (by omega) dL_law_147 noXk (poX_k (fun hx1 => po_kI (fun hr1 => ?_)))
  refine jj_widen (k' := kk + 37) (n' := 256 * (kk + 37)) (by omega) (by omega) ?_
  refine jg_iadd hC dL_law_150 ?_
  refine jj_aload_n hC dL_law_151 rfl 0 rfl ?_
  refine jj_iconst hC dL_law_152 ?_
  obtain ⟨q2, hq2, h⟩ := bd_e h
  obtain ⟨v2, hv2, h⟩ := el_n h
  subst hv2
  refine jj_invV hC mvX9_writePilot wd57 wd58 wd56 (ext_s hx1 ha1 (by decide)) (by decide) rfl (xX9_writePilot_n (OKC.tr hC) (ext_s hx1 ha1 (by decide)) (show (-2147483648 ≤ (0 : Int) ∧ (0 : Int) < 2147483648) from by decide) hq2) rfl rfl (c_le rfl) (c_le rfl) (by omega) (by omega) dL_law_153 noXk (poX_k (fun hx2 => po_kI (fun hr2 => ?_)))
  refine jj_widen (k' := kk + 51) (n' := 256 * (kk + 51)) (by omega) (by omega) ?_
  refine jg_iadd hC dL_law_156 ?_
  refine jj_aload_n hC dL_law_157 rfl 0 rfl ?_
  refine jj_iconst hC dL_law_158 ?_
  obtain ⟨q3, hq3, h⟩ := bd_e h
  refine jj_invSW hC mvwL_remainingDistance wd817 wd816 (xL_remainingDistance (OKC.tr hC) (ext_s hx2 (ext_s hx1 ha1 (by decide)) (by decide)) (show (-2147483648 ≤ (0 : Int) ∧ (0 : Int) < 2147483648) from by decide) hq3) rfl rfl (c_le rfl) (c_le rfl) (by omega) (by omega) dL_law_159 (po_kW (fun hr3 hx3 sz3 => ?_))
  refine jj_widen (k' := kk + 53) (n' := 256 * (kk + 53)) (by omega) (by omega) ?_
  refine jg_iadd hC dL_law_162 ?_
  refine jj_istore_n (lv' := [(3, .int (iI (w32 ((w32 ((w32 (j0 + q1.1)) + v2.1)) + q3)))), (1, .ref a1), (2, .ref a2)]) hC dL_law_163 rfl (by decide) rfl ?_
  refine jj_widen (k' := kk + 200) (n' := 256 * (kk + 200)) (by omega) (by omega) ?_
  refine jj_lv (lv' := [(1, .ref a1), (2, .ref a2), (3, .int (iI (w32 ((w32 ((w32 (j0 + q1.1)) + v2.1)) + q3))))]) [1, 2, 0] rfl ?_
  exact hJ164 _ (Option.some.inj h).symm sz3 ⟨(w32_r _), (ext_s hx2 (ext_s hx1 ha1 (by decide)) (by decide)), (ext_s hx2 (ext_s hx1 ha2 (by decide)) (by decide)), (ex2_t (ex2_t ex2_r hx1.2) hx2.2)⟩
def fL_s7 (ad : Nat → Nat) (sz : Nat) (S Ln : Nat → Nat) (R : gR) (M : gM) (a1 : Nat) (a2 : Nat) (i3 : Int) : Option (((Nat → Nat) × (Nat → Nat) × gM × gR)) :=
  bd (fL_seen ad sz S Ln R M a1) fun q1 => bd (fL_areAlike ad q1.2.2.1 q1.2.2.2.1 q1.2.2.2.2.2 q1.2.2.2.2.1 a2 q1.1) fun q2 => if ¬ q2 = 0 then (bd (fL_launch ad q1.2.2.1 q1.2.2.2.1 q1.2.2.2.2.2 q1.2.2.2.2.1 a1 3) fun q3 => bd (fL_fly ad q1.2.2.1 q1.2.2.2.1 q3.2.2 q3.2.1 a1 0 1 3) fun q4 => bd (fL_setCloudBase ad q1.2.2.1 q1.2.2.2.1 q4.2.2 q4.2.1 a1 900) fun q5 => bd (fL_addPilot ad q1.2.2.1 q1.2.2.2.1 q5.2.2 q5.2.1 a1 30) fun q6 => bd (fL_endDay ad q1.2.2.1 q1.2.2.2.1 q6.2.2 q6.2.1 a1) fun q7 => if (w32 (i3 + (w32 ((w32 ((w32 ((w32 (q3.1 + q4.1)) + q5.1)) + q6.1)) + q7.1)))) ≤ (-90000000) then (none) else (bd (fL_restore ad q1.2.2.1 q1.2.2.2.1 q7.2.2 q7.2.1 a1) fun q8 => if ¬ q8.1 = 0 then (none) else (some (q1.2.2.1, q1.2.2.2.1, q8.2, q7.2.2)))) else (none)
set_option maxRecDepth 100000 in
set_option maxHeartbeats 4000000 in
theorem xL_s7 {G : gE} {C : gC} {sz kk : Nat} {S Ln : Nat → Nat} {M : gM} {R : gR} {P : gP} (hC : OKC G C RL cL_law 5 (some .boolean) 1400 600312 7291746 P noX) (hkk : kk + 100 ≤ 600312) (hnn : 256 * (kk + 100) ≤ 7291746) {a1 : Nat} (ha1 : S a1 = 12) {a2 : Nat} (ha2 : S a2 = 20) {i3 : Int} (hi3 : (-2147483648 ≤ i3 ∧ i3 < 2147483648)) {r : ((Nat → Nat) × (Nat → Nat) × gM × gR)} (h : fL_s7 G.2.2.2.2 sz S Ln R M a1 a2 i3 = some r) (hJ226 : ∀ t, r = t → ∀ sz1, (t.1 a1 = 12 ∧ t.1 a2 = 20 ∧ Ex2 S Ln t.1 t.2.1) → JJ G C (kk + 100) (256 * (kk + 100)) sz1 t.1 t.2.1 t.2.2.1 t.2.2.2 226 [(1, .ref a1), (2, .ref a2)] []) : JJ G C kk (256 * (kk)) sz S Ln M R 164 [(1, .ref a1), (2, .ref a2), (3, .int (iI i3))] [] := by
  unfold fL_s7 at h
  refine jj_aload_n hC dL_law_164 rfl 1 rfl ?_
  refine jj_aload_n hC dL_law_165 rfl 0 rfl ?_
  obtain ⟨q1, hq1, h⟩ := bd_e h
  refine jj_invS hC mvL_seen wd1386 wd1385 (xL_seen (OKC.tr hC) ha1 hq1) rfl rfl (c_le rfl) (c_le rfl) (by omega) (by omega) dL_law_166 noXk (poX_k (fun hx1 => po_kA (fun hr1 => ?_)))
  refine jj_widen (k' := kk + 1) (n' := 256 * (kk + 1)) (by omega) (by omega) ?_
  obtain ⟨q2, hq2, h⟩ := bd_e h
  refine jj_invS hC mvL_areAlike wd1473 wd1472 (xL_areAlike (OKC.tr hC) (ext_s hx1 ha2 (by decide)) hr1 hq2) rfl rfl (c_le rfl) (c_le rfl) (by omega) (by omega) dL_law_169 noXk (po_kZ (fun hr2 => ?_))
  refine jj_if_ne (tgt := 177) hC dL_law_172 rfl (r_z hr2) (fun hc => ?_) (fun hc => ?_)
  · replace h := (if_pos hc).symm.trans h
    refine jj_iload_n hC dL_law_177 rfl 2 rfl ?_
    refine jj_aload_n hC dL_law_178 rfl 0 rfl ?_
    refine jj_iconst hC dL_law_179 ?_
    obtain ⟨q3, hq3, h⟩ := bd_e h
    refine jj_invSW hC mvwL_launch wd631 wd630 (xL_launch (OKC.tr hC) (ext_s hx1 ha1 (by decide)) (show (-2147483648 ≤ (3 : Int) ∧ (3 : Int) < 2147483648) from by decide) hq3) rfl rfl (c_le rfl) (c_le rfl) (by omega) (by omega) dL_law_180 (po_kW (fun hr3 hx3 sz3 => ?_))
    refine jj_widen (k' := kk + 2) (n' := 256 * (kk + 2)) (by omega) (by omega) ?_
    refine jj_aload_n hC dL_law_183 rfl 0 rfl ?_
    refine jj_iconst hC dL_law_184 ?_
    refine jj_iconst hC dL_law_185 ?_
    refine jj_iconst hC dL_law_186 ?_
    obtain ⟨q4, hq4, h⟩ := bd_e h
    refine jj_invSW hC mvwL_fly wd672 wd671 (xL_fly (OKC.tr hC) (ext_s hx1 ha1 (by decide)) (show (-2147483648 ≤ (0 : Int) ∧ (0 : Int) < 2147483648) from by decide) (show (-2147483648 ≤ (1 : Int) ∧ (1 : Int) < 2147483648) from by decide) (show (-2147483648 ≤ (3 : Int) ∧ (3 : Int) < 2147483648) from by decide) hq4) rfl rfl (c_le rfl) (c_le rfl) (by omega) (by omega) dL_law_187 (po_kW (fun hr4 hx4 sz4 => ?_))
    refine jj_widen (k' := kk + 3) (n' := 256 * (kk + 3)) (by omega) (by omega) ?_
    refine jg_iadd hC dL_law_190 ?_
    refine jj_aload_n hC dL_law_191 rfl 0 rfl ?_
    refine jj_sipush hC dL_law_192 (by decide) ?_
    obtain ⟨q5, hq5, h⟩ := bd_e h
    refine jj_invSW hC mvwL_setCloudBase wd534 wd533 (xL_setCloudBase (OKC.tr hC) (ext_s hx1 ha1 (by decide)) (show (-2147483648 ≤ (900 : Int) ∧ (900 : Int) < 2147483648) from by decide) hq5) rfl rfl (c_le rfl) (c_le rfl) (by omega) (by omega) dL_law_195 (po_kW (fun hr5 hx5 sz5 => ?_))
    refine jj_widen (k' := kk + 4) (n' := 256 * (kk + 4)) (by omega) (by omega) ?_
    refine jg_iadd hC dL_law_198 ?_
    refine jj_aload_n hC dL_law_199 rfl 0 rfl ?_
    refine jj_bipush hC dL_law_200 (by decide) ?_
    obtain ⟨q6, hq6, h⟩ := bd_e h
    refine jj_invSW hC mvwL_addPilot wd556 wd555 (xL_addPilot (OKC.tr hC) (ext_s hx1 ha1 (by decide)) (show (-2147483648 ≤ (30 : Int) ∧ (30 : Int) < 2147483648) from by decide) hq6) rfl rfl (c_le rfl) (c_le rfl) (by omega) (by omega) dL_law_202 (po_kW (fun hr6 hx6 sz6 => ?_))
    refine jj_widen (k' := kk + 5) (n' := 256 * (kk + 5)) (by omega) (by omega) ?_
    refine jg_iadd hC dL_law_205 ?_
    refine jj_aload_n hC dL_law_206 rfl 0 rfl ?_
    obtain ⟨q7, hq7, h⟩ := bd_e h
    refine jj_invSW hC mvwL_endDay wd735 wd734 (xL_endDay (OKC.tr hC) (ext_s hx1 ha1 (by decide)) hq7) rfl rfl (c_le rfl) (c_le rfl) (by omega) (by omega) dL_law_207 (po_kW (fun hr7 hx7 sz7 => ?_))
    refine jj_widen (k' := kk + 6) (n' := 256 * (kk + 6)) (by omega) (by omega) ?_
    refine jg_iadd hC dL_law_210 ?_
    refine jg_iadd hC dL_law_211 ?_
    refine jj_istore_n (lv' := [(3, .int (iI (w32 (i3 + (w32 ((w32 ((w32 ((w32 (q3.1 + q4.1)) + q5.1)) + q6.1)) + q7.1)))))), (1, .ref a1), (2, .ref a2)]) hC dL_law_212 rfl (by decide) rfl ?_
    refine jj_iload_n hC dL_law_213 rfl 0 rfl ?_
    refine jj_ldcI (v := (-90000000)) hC rfl wd1214 dL_law_214 ?_
    refine jj_icmp_le (tgt := 250) hC dL_law_216 rfl (w32_r _) (show (-2147483648 ≤ ((-90000000) : Int) ∧ ((-90000000) : Int) < 2147483648) from by decide) (fun hc => ?_) (fun hc => ?_)
    · replace h := (if_pos hc).symm.trans h
      cases h
    · replace h := (if_neg (Int.not_le.mpr hc)).symm.trans h
      refine jj_aload_n hC dL_law_219 rfl 1 rfl ?_
      obtain ⟨q8, hq8, h⟩ := bd_e h
      refine jj_invSW hC mvwL_restore wd866 wd865 (xL_restore (OKC.tr hC) (ext_s hx1 ha1 (by decide)) hq8) rfl rfl (c_le rfl) (c_le rfl) (by omega) (by omega) dL_law_220 (po_kW (fun hr8 hx8 sz8 => ?_))
      refine jj_widen (k' := kk + 7) (n' := 256 * (kk + 7)) (by omega) (by omega) ?_
      refine jj_if_ne (tgt := 250) hC dL_law_223 rfl hr8 (fun hc => ?_) (fun hc => ?_)
      · replace h := (if_pos hc).symm.trans h
        cases h
      · replace h := (if_neg (fun k => k hc)).symm.trans h
        refine jj_widen (k' := kk + 100) (n' := 256 * (kk + 100)) (by omega) (by omega) ?_
        refine jj_lv (lv' := [(1, .ref a1), (2, .ref a2)]) [1, 2] rfl ?_
        exact hJ226 _ (Option.some.inj h).symm sz8 ⟨(ext_s hx1 ha1 (by decide)), (ext_s hx1 ha2 (by decide)), (ex2_t ex2_r hx1.2)⟩
  · replace h := (if_neg (fun k => k hc)).symm.trans h
    cases h
def fL_s8 (ad : Nat → Nat) (sz : Nat) (S Ln : Nat → Nat) (R : gR) (M : gM) (a1 : Nat) (a2 : Nat) : Option (((Nat → Nat) × (Nat → Nat) × gM × gR)) :=
  bd (fL_seen ad sz S Ln R M a1) fun q1 => bd (fL_areAlike ad q1.2.2.1 q1.2.2.2.1 q1.2.2.2.2.2 q1.2.2.2.2.1 a2 q1.1) fun q2 => if q2 = 0 then (none) else (bd (fL_undo ad q1.2.2.1 q1.2.2.2.1 q1.2.2.2.2.2 q1.2.2.2.2.1 a1) fun q3 => if ¬ q3.1 = (-900001) then (none) else (some (q1.2.2.1, q1.2.2.2.1, q3.2, q1.2.2.2.2.2)))
set_option maxRecDepth 100000 in
set_option maxHeartbeats 4000000 in
theorem xL_s8 {G : gE} {C : gC} {sz kk : Nat} {S Ln : Nat → Nat} {M : gM} {R : gR} {P : gP} (hC : OKC G C RL cL_law 5 (some .boolean) 1400 600312 7291746 P noX) (hkk : kk + 100 ≤ 600312) (hnn : 256 * (kk + 100) ≤ 7291746) {a1 : Nat} (ha1 : S a1 = 12) {a2 : Nat} (ha2 : S a2 = 20) {r : ((Nat → Nat) × (Nat → Nat) × gM × gR)} (h : fL_s8 G.2.2.2.2 sz S Ln R M a1 a2 = some r) (hJ246 : ∀ t, r = t → ∀ sz1, (Ex2 S Ln t.1 t.2.1) → JJ G C (kk + 100) (256 * (kk + 100)) sz1 t.1 t.2.1 t.2.2.1 t.2.2.2 246 [] []) : JJ G C kk (256 * (kk)) sz S Ln M R 226 [(1, .ref a1), (2, .ref a2)] [] := by
  unfold fL_s8 at h
  refine jj_aload_n hC dL_law_226 rfl 1 rfl ?_
  refine jj_aload_n hC dL_law_227 rfl 0 rfl ?_
  obtain ⟨q1, hq1, h⟩ := bd_e h
  refine jj_invS hC mvL_seen wd1386 wd1385 (xL_seen (OKC.tr hC) ha1 hq1) rfl rfl (c_le rfl) (c_le rfl) (by omega) (by omega) dL_law_228 noXk (poX_k (fun hx1 => po_kA (fun hr1 => ?_)))
  refine jj_widen (k' := kk + 1) (n' := 256 * (kk + 1)) (by omega) (by omega) ?_
  obtain ⟨q2, hq2, h⟩ := bd_e h
  refine jj_invS hC mvL_areAlike wd1473 wd1472 (xL_areAlike (OKC.tr hC) (ext_s hx1 ha2 (by decide)) hr1 hq2) rfl rfl (c_le rfl) (c_le rfl) (by omega) (by omega) dL_law_231 noXk (po_kZ (fun hr2 => ?_))
  refine jj_if_eq (tgt := 250) hC dL_law_234 rfl (r_z hr2) (fun hc => ?_) (fun hc => ?_)
  · replace h := (if_pos hc).symm.trans h
    cases h
  · replace h := (if_neg (hc)).symm.trans h
    refine jj_aload_n hC dL_law_237 rfl 0 rfl ?_
    obtain ⟨q3, hq3, h⟩ := bd_e h
    refine jj_invSW hC mvwL_undo wd854 wd853 (xL_undo (OKC.tr hC) (ext_s hx1 ha1 (by decide)) hq3) rfl rfl (c_le rfl) (c_le rfl) (by omega) (by omega) dL_law_238 (po_kW (fun hr3 hx3 sz3 => ?_))
    refine jj_widen (k' := kk + 2) (n' := 256 * (kk + 2)) (by omega) (by omega) ?_
    refine jj_ldcI (v := (-900001)) hC rfl wd554 dL_law_241 ?_
    refine jj_icmp_ne (tgt := 250) hC dL_law_243 rfl hr3 (show (-2147483648 ≤ ((-900001) : Int) ∧ ((-900001) : Int) < 2147483648) from by decide) (fun hc => ?_) (fun hc => ?_)
    · replace h := (if_pos hc).symm.trans h
      cases h
    · replace h := (if_neg (fun k => k hc)).symm.trans h
      refine jj_widen (k' := kk + 100) (n' := 256 * (kk + 100)) (by omega) (by omega) ?_
      refine jj_lv (lv' := []) [] rfl ?_
      exact hJ246 _ (Option.some.inj h).symm sz3 (ex2_t ex2_r hx1.2)
