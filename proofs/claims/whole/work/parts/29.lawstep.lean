theorem wd113 : Cond.classLink RL 8 RX9 ∈ gW := gW_in 113 (by decide +kernel) (by decide +kernel)
theorem wd114 : Cond.instantiable RX9 9 ∈ gW := gW_in 114 (by decide +kernel) (by decide +kernel)
theorem hd12 {ad : Nat → Nat} : ∀ j, j < 9 → gm_val ad (gm_fty 12 j) (if gm_fty 12 j = 3 then -1 else 0) none = defaultValue (tyX9 j)
  | 0, _ => rfl
  | 1, _ => rfl
  | 2, _ => rfl
  | 3, _ => rfl
  | 4, _ => rfl
  | 5, _ => rfl
  | 6, _ => rfl
  | 7, _ => rfl
  | 8, _ => rfl
  | j + 9, h => absurd h (by omega)
theorem wd117 : Cond.code yX9_init cX9_init 1 none ∈ gW := gW_in 117 (by decide +kernel) (by decide +kernel)
theorem mvX9_init : MV yX9_init cX9_init 1 none 0 := ⟨wd117, wd78, by decide +kernel, by decide +kernel, by decide +kernel, by decide⟩
theorem wd116 : Cond.instanceMethod yX9_init ∈ gW := gW_in 116 (by decide +kernel) (by decide +kernel)
theorem wd115 : Cond.methodLink RL 165 yX9_init ∈ gW := gW_in 115 (by decide +kernel) (by decide +kernel)
theorem wd1703 : Cond.classLink RL 166 RX10 ∈ gW := gW_in 1703 (by decide +kernel) (by decide +kernel)
theorem wd1704 : Cond.instantiable RX10 18 ∈ gW := gW_in 1704 (by decide +kernel) (by decide +kernel)
theorem hd13 {ad : Nat → Nat} : ∀ j, j < 18 → gm_val ad (gm_fty 13 j) (if gm_fty 13 j = 3 then -1 else 0) none = defaultValue (tyX10 j)
  | 0, _ => rfl
  | 1, _ => rfl
  | 2, _ => rfl
  | 3, _ => rfl
  | 4, _ => rfl
  | 5, _ => rfl
  | 6, _ => rfl
  | 7, _ => rfl
  | 8, _ => rfl
  | 9, _ => rfl
  | 10, _ => rfl
  | 11, _ => rfl
  | 12, _ => rfl
  | 13, _ => rfl
  | 14, _ => rfl
  | 15, _ => rfl
  | 16, _ => rfl
  | 17, _ => rfl
  | j + 18, h => absurd h (by omega)
theorem wd1707 : Cond.code yX10_init cX10_init 1 none ∈ gW := gW_in 1707 (by decide +kernel) (by decide +kernel)
theorem mvX10_init : MV yX10_init cX10_init 1 none 0 := ⟨wd1707, wd92, by decide +kernel, by decide +kernel, by decide +kernel, by decide⟩
theorem wd1706 : Cond.instanceMethod yX10_init ∈ gW := gW_in 1706 (by decide +kernel) (by decide +kernel)
theorem wd1705 : Cond.methodLink RL 168 yX10_init ∈ gW := gW_in 1705 (by decide +kernel) (by decide +kernel)
theorem wd2240 : Cond.arrayClass .double ∈ gW := gW_in 2240 (by decide +kernel) (by decide +kernel)
theorem dL_law_0 : decode cL_law 0 = .ok (.new 8, 3) := by decide +kernel
theorem dL_law_3 : decode cL_law 3 = .ok (.dup, 1) := by decide +kernel
theorem dL_law_4 : decode cL_law 4 = .ok (.invokespecial 165, 3) := by decide +kernel
theorem dL_law_7 : decode cL_law 7 = .ok (.astore_n 1, 1) := by decide +kernel
theorem dL_law_8 : decode cL_law 8 = .ok (.new 166, 3) := by decide +kernel
theorem dL_law_11 : decode cL_law 11 = .ok (.dup, 1) := by decide +kernel
theorem dL_law_12 : decode cL_law 12 = .ok (.invokespecial 168, 3) := by decide +kernel
theorem dL_law_15 : decode cL_law 15 = .ok (.astore_n 2, 1) := by decide +kernel
theorem dL_law_16 : decode cL_law 16 = .ok (.iconst 1, 1) := by decide +kernel
theorem dL_law_17 : decode cL_law 17 = .ok (.newarray .long, 2) := by decide +kernel
theorem dL_law_19 : decode cL_law 19 = .ok (.astore_n 3, 1) := by decide +kernel
theorem dL_law_20 : decode cL_law 20 = .ok (.iconst 1, 1) := by decide +kernel
theorem dL_law_21 : decode cL_law 21 = .ok (.newarray .double, 2) := by decide +kernel
theorem dL_law_23 : decode cL_law 23 = .ok (.astore 4, 2) := by decide +kernel
theorem dL_law_25 : decode cL_law 25 = .ok (.iconst 0, 1) := by decide +kernel
theorem dL_law_26 : decode cL_law 26 = .ok (.istore 5, 2) := by decide +kernel
theorem dL_law_28 : decode cL_law 28 = .ok (.iload 5, 2) := by decide +kernel
theorem dL_law_30 : decode cL_law 30 = .ok (.aload_n 0, 1) := by decide +kernel
theorem dL_law_31 : decode cL_law 31 = .ok (.arraylength, 1) := by decide +kernel
theorem dL_law_32 : decode cL_law 32 = .ok (.iconst 5, 1) := by decide +kernel
theorem dL_law_33 : decode cL_law 33 = .ok (.isub, 1) := by decide +kernel
theorem dL_law_34 : decode cL_law 34 = .ok (.if_icmp .gt 2954, 3) := by decide +kernel
theorem dL_law_37 : decode cL_law 37 = .ok (.aload_n 0, 1) := by decide +kernel
theorem dL_law_38 : decode cL_law 38 = .ok (.iload 5, 2) := by decide +kernel
theorem dL_law_40 : decode cL_law 40 = .ok (.iaload, 1) := by decide +kernel
theorem dL_law_41 : decode cL_law 41 = .ok (.bipush 63, 2) := by decide +kernel
theorem dL_law_43 : decode cL_law 43 = .ok (.iand, 1) := by decide +kernel
theorem dL_law_44 : decode cL_law 44 = .ok (.tableswitch 2938 0 53 #[232, 300, 356, 400, 480, 536, 628, 684, 740, 820, 888, 932, 945, 1013, 1026, 1082, 1095, 1163, 1176, 1251, 1307, 1363, 1376, 1389, 1452, 1515, 1578, 1634, 1690, 1746, 1802, 1858, 1914, 1970, 2026, 2089, 2152, 2208, 2264, 2319, 2375, 2388, 2466, 2531, 2544, 2602, 2646, 2690, 2734, 2790, 2803, 2859, 2903, 2914], 232) := by decide +kernel
theorem dL_law_2988 : decode cL_law 2988 = .ok (.iconst 1, 1) := by decide +kernel
theorem dL_law_2989 : decode cL_law 2989 = .ok (.ireturn, 1) := by decide +kernel
def fL_pre (ad : Nat → Nat) (sz : Nat) (S Ln : Nat → Nat) (R : gR) (M : gM) (a0 : Nat) : Option (Nat × Nat × Nat × Nat × Nat × (Nat → Nat) × (Nat → Nat) × gM × gR) :=
  nam (ua S sz 12) fun S1 => nam (ua Ln sz 0) fun Ln1 => nam (ua M sz (gN 12)) fun M1 => nam (ua R sz gNo) fun R1 => bd (fX9_init ad (sz + 1) S1 Ln1 R1 M1 sz) fun q2 => nam (ua q2.2.1 q2.1 13) fun S3 => nam (ua q2.2.2.1 q2.1 0) fun Ln3 => nam (ua q2.2.2.2.1 q2.1 (gN 13)) fun M3 => nam (ua q2.2.2.2.2 q2.1 gNo) fun R3 => bd (fX10_init ad (q2.1 + 1) S3 Ln3 R3 M3 q2.1) fun q4 => nam (ua q4.2.1 q4.1 21) fun S5 => nam (ua q4.2.2.1 q4.1 (1 : Int).toNat) fun Ln5 => nam (ua q4.2.2.2.1 q4.1 gNz) fun M5 => nam (ua q4.2.2.2.2 q4.1 gNo) fun R5 => nam (ua S5 (q4.1 + 1) 22) fun S6 => nam (ua Ln5 (q4.1 + 1) (1 : Int).toNat) fun Ln6 => nam (ua M5 (q4.1 + 1) gNz) fun M6 => nam (ua R5 (q4.1 + 1) gNo) fun R6 => some (sz, q2.1, q4.1, q4.1 + 1, q4.1 + 1 + 1, S6, Ln6, M6, R6)
theorem xL_pre {G : gE} {C : gC} {sz : Nat} {S Ln : Nat → Nat} {M : gM} {R : gR} {P : gP} (hC : OKC G C RL cL_law 9 (some .boolean) 1400 603072 7198826 P noX) {a0 : Nat} (h0 : S a0 = 29) {r : Nat × Nat × Nat × Nat × Nat × (Nat → Nat) × (Nat → Nat) × gM × gR} (h : fL_pre G.2.2.2.2 sz S Ln R M a0 = some r) (hJ : r.2.2.2.2.2.1 a0 = 29 ∧ r.2.2.2.2.2.1 r.1 = 12 ∧ r.2.2.2.2.2.1 r.2.1 = 13 ∧ r.2.2.2.2.2.1 r.2.2.1 = 21 ∧ r.2.2.2.2.2.1 r.2.2.2.1 = 22 ∧ Ext sz S Ln r.2.2.2.2.1 r.2.2.2.2.2.1 r.2.2.2.2.2.2.1 → JJ G C 400 102400 r.2.2.2.2.1 r.2.2.2.2.2.1 r.2.2.2.2.2.2.1 r.2.2.2.2.2.2.2.1 r.2.2.2.2.2.2.2.2 28 [(0, .ref a0), (1, .ref r.1), (2, .ref r.2.1), (3, .ref r.2.2.1), (4, .ref r.2.2.2.1), (5, .int (iI 0))] []) : JJ G C 0 0 sz S Ln M R 0 [(0, .ref a0)] [] := by
  unfold fL_pre at h
  obtain ⟨S1, hS91, h⟩ := nam_e h
  obtain ⟨Ln1, hLn91, h⟩ := nam_e h
  obtain ⟨M1, hM91, h⟩ := nam_e h
  obtain ⟨R1, hR91, h⟩ := nam_e h
  refine jj_newO hC kfX9 hd12 wd113 wd114 wd78 (by decide) (by omega) (by omega) dL_law_0 (fun hx1 => ?_)
  rw [hS91, hLn91] at hx1
  refine jj_mem hS91 hLn91 hM91 hR91 ?_
  refine jj_widen (k' := 1) (n' := 256) (by omega) (by omega) ?_
  refine jj_dup hC dL_law_3 rfl ?_
  obtain ⟨q2, hq2, h⟩ := bd_e h
  refine jj_invI hC mvX9_init rfl wd116 wd115 (xX9_init (OKC.tr hC) (show S1 sz = 12 by rw [← hS91]; exact ua_s) hq2) rfl rfl (c_le rfl) (c_le rfl) (by omega) (by omega) dL_law_4 (poX_k (fun hx2 => po_kV ?_))
  refine jj_widen (k' := 372) (n' := 95232) (by omega) (by omega) ?_
  refine jj_astore_n (lv' := [(1, .ref sz), (0, .ref a0)]) hC dL_law_7 rfl (by decide) rfl ?_
  obtain ⟨S3, hS93, h⟩ := nam_e h
  obtain ⟨Ln3, hLn93, h⟩ := nam_e h
  obtain ⟨M3, hM93, h⟩ := nam_e h
  obtain ⟨R3, hR93, h⟩ := nam_e h
  refine jj_newO hC kfX10 hd13 wd1703 wd1704 wd92 (by decide) (by omega) (by omega) dL_law_8 (fun hx3 => ?_)
  rw [hS93, hLn93] at hx3
  refine jj_mem hS93 hLn93 hM93 hR93 ?_
  refine jj_widen (k' := 373) (n' := 95488) (by omega) (by omega) ?_
  refine jj_dup hC dL_law_11 rfl ?_
  obtain ⟨q4, hq4, h⟩ := bd_e h
  refine jj_invI hC mvX10_init rfl wd1706 wd1705 (xX10_init (OKC.tr hC) (show S3 q2.1 = 13 by rw [← hS93]; exact ua_s) hq4) rfl rfl (c_le rfl) (c_le rfl) (by omega) (by omega) dL_law_12 (poX_k (fun hx4 => po_kV ?_))
  refine jj_widen (k' := 384) (n' := 98304) (by omega) (by omega) ?_
  refine jj_astore_n (lv' := [(2, .ref q2.1), (1, .ref sz), (0, .ref a0)]) hC dL_law_15 rfl (by decide) rfl ?_
  refine jj_iconst hC dL_law_16 ?_
  obtain ⟨S5, hS95, h⟩ := nam_e h
  obtain ⟨Ln5, hLn95, h⟩ := nam_e h
  obtain ⟨M5, hM95, h⟩ := nam_e h
  obtain ⟨R5, hR95, h⟩ := nam_e h
  refine jj_newN (t := 1) (at' := .long) hC 1 (by decide) rfl (fun C h => by cases h) (fun j => rfl) (fun j => (show (-9223372036854775808 ≤ (0 : Int) ∧ (0 : Int) < 9223372036854775808) from by decide)) wd269 (by decide) (by decide) (by decide) (by decide) (by decide) (by omega) (by omega) dL_law_17 (fun hx5 => ?_)
  rw [hS95, hLn95] at hx5
  refine jj_mem hS95 hLn95 hM95 hR95 ?_
  refine jj_widen (k' := 385) (n' := 98560) (by omega) (by omega) ?_
  refine jj_astore_n (lv' := [(3, .ref q4.1), (2, .ref q2.1), (1, .ref sz), (0, .ref a0)]) hC dL_law_19 rfl (by decide) rfl ?_
  refine jj_iconst hC dL_law_20 ?_
  obtain ⟨S6, hS96, h⟩ := nam_e h
  obtain ⟨Ln6, hLn96, h⟩ := nam_e h
  obtain ⟨M6, hM96, h⟩ := nam_e h
  obtain ⟨R6, hR96, h⟩ := nam_e h
  refine jj_newN (t := 2) (at' := .double) hC 1 (by decide) rfl (fun C h => by cases h) (fun j => rfl) (fun j => (show (-9223372036854775808 ≤ (0 : Int) ∧ (0 : Int) < 9223372036854775808) from by decide)) wd2240 (by decide) (by decide) (by decide) (by decide) (by decide) (by omega) (by omega) dL_law_21 (fun hx6 => ?_)
  rw [hS96, hLn96] at hx6
  refine jj_mem hS96 hLn96 hM96 hR96 ?_
  refine jj_widen (k' := 386) (n' := 98816) (by omega) (by omega) ?_
  refine jj_astore (lv' := [(4, .ref (q4.1 + 1)), (3, .ref q4.1), (2, .ref q2.1), (1, .ref sz), (0, .ref a0)]) hC dL_law_23 (by decide) rfl ?_
  refine jj_iconst hC dL_law_25 ?_
  refine jj_istore (lv' := [(5, .int (iI 0)), (4, .ref (q4.1 + 1)), (3, .ref q4.1), (2, .ref q2.1), (1, .ref sz), (0, .ref a0)]) hC dL_law_26 (by decide) rfl ?_
  cases h
  refine jj_widen (k' := 400) (n' := 102400) (by omega) (by omega) ?_
  refine jj_lv (lv' := [(0, .ref a0), (1, .ref sz), (2, .ref q2.1), (3, .ref q4.1), (4, .ref (q4.1 + 1)), (5, .int (iI 0))]) [5, 4, 3, 2, 1, 0] rfl ?_
  exact hJ ⟨(ext_s hx6 (ext_s hx5 (ext_s hx4 (ext_s hx3 (ext_s hx2 (ext_s hx1 h0 (by decide)) (by decide)) (by decide)) (by decide)) (by decide)) (by decide)), (ext_s hx6 (ext_s hx5 (ext_s hx4 (ext_s hx3 (ext_s hx2 (show S1 sz = 12 by rw [← hS91]; exact ua_s) (by decide)) (by decide)) (by decide)) (by decide)) (by decide)), (ext_s hx6 (ext_s hx5 (ext_s hx4 (show S3 q2.1 = 13 by rw [← hS93]; exact ua_s) (by decide)) (by decide)) (by decide)), (ext_s hx6 (show S5 q4.1 = 21 by rw [← hS95]; exact ua_s) (by decide)), (show S6 (q4.1 + 1) = 22 by rw [← hS96]; exact ua_s), (ext_t (ext_t (ext_t (ext_t (ext_t hx1 hx2) hx3) hx4) hx5) hx6)⟩
def fL_step (ad : Nat → Nat) (sz : Nat) (S Ln : Nat → Nat) (R : gR) (M : gM) (a0 a1 a2 a3 a4 : Nat) (i0 : Int) : Option ((Int × (Nat → Nat) × (Nat → Nat) × gM × gR) ⊕ Unit) :=
  if (w32 ((Ln a0 : Int) - 5)) < i0 then (some (.inr ())) else (gd ((0 : Int) ≤ i0 ∧ i0 < (Ln a0 : Int)) (if (i_and (M a0 i0) 63) = 0 then (fL_c0 ad sz S Ln R M a0 a1 a2 a3 a4 i0) else (if (i_and (M a0 i0) 63) = 1 then (fL_c1 ad sz S Ln R M a0 a1 a2 a3 a4 i0) else (if (i_and (M a0 i0) 63) = 2 then (fL_c2 ad sz S Ln R M a0 a1 a2 a3 a4 i0) else (if (i_and (M a0 i0) 63) = 3 then (fL_c3 ad sz S Ln R M a0 a1 a2 a3 a4 i0) else (if (i_and (M a0 i0) 63) = 4 then (fL_c4 ad sz S Ln R M a0 a1 a2 a3 a4 i0) else (if (i_and (M a0 i0) 63) = 5 then (fL_c5 ad sz S Ln R M a0 a1 a2 a3 a4 i0) else (if (i_and (M a0 i0) 63) = 6 then (fL_c6 ad sz S Ln R M a0 a1 a2 a3 a4 i0) else (if (i_and (M a0 i0) 63) = 7 then (fL_c7 ad sz S Ln R M a0 a1 a2 a3 a4 i0) else (if (i_and (M a0 i0) 63) = 8 then (fL_c8 ad sz S Ln R M a0 a1 a2 a3 a4 i0) else (if (i_and (M a0 i0) 63) = 9 then (fL_c9 ad sz S Ln R M a0 a1 a2 a3 a4 i0) else (if (i_and (M a0 i0) 63) = 10 then (fL_c10 ad sz S Ln R M a0 a1 a2 a3 a4 i0) else (if (i_and (M a0 i0) 63) = 11 then (fL_c11 ad sz S Ln R M a0 a1 a2 a3 a4 i0) else (if (i_and (M a0 i0) 63) = 12 then (fL_c12 ad sz S Ln R M a0 a1 a2 a3 a4 i0) else (if (i_and (M a0 i0) 63) = 13 then (fL_c13 ad sz S Ln R M a0 a1 a2 a3 a4 i0) else (if (i_and (M a0 i0) 63) = 14 then (fL_c14 ad sz S Ln R M a0 a1 a2 a3 a4 i0) else (if (i_and (M a0 i0) 63) = 15 then (fL_c15 ad sz S Ln R M a0 a1 a2 a3 a4 i0) else (if (i_and (M a0 i0) 63) = 16 then (fL_c16 ad sz S Ln R M a0 a1 a2 a3 a4 i0) else (if (i_and (M a0 i0) 63) = 17 then (fL_c17 ad sz S Ln R M a0 a1 a2 a3 a4 i0) else (if (i_and (M a0 i0) 63) = 18 then (fL_c18 ad sz S Ln R M a0 a1 a2 a3 a4 i0) else (if (i_and (M a0 i0) 63) = 19 then (fL_c19 ad sz S Ln R M a0 a1 a2 a3 a4 i0) else (if (i_and (M a0 i0) 63) = 20 then (fL_c20 ad sz S Ln R M a0 a1 a2 a3 a4 i0) else (if (i_and (M a0 i0) 63) = 21 then (fL_c21 ad sz S Ln R M a0 a1 a2 a3 a4 i0) else (if (i_and (M a0 i0) 63) = 22 then (fL_c22 ad sz S Ln R M a0 a1 a2 a3 a4 i0) else (if (i_and (M a0 i0) 63) = 23 then (fL_c23 ad sz S Ln R M a0 a1 a2 a3 a4 i0) else (if (i_and (M a0 i0) 63) = 24 then (fL_c24 ad sz S Ln R M a0 a1 a2 a3 a4 i0) else (if (i_and (M a0 i0) 63) = 25 then (fL_c25 ad sz S Ln R M a0 a1 a2 a3 a4 i0) else (if (i_and (M a0 i0) 63) = 26 then (fL_c26 ad sz S Ln R M a0 a1 a2 a3 a4 i0) else (if (i_and (M a0 i0) 63) = 27 then (fL_c27 ad sz S Ln R M a0 a1 a2 a3 a4 i0) else (if (i_and (M a0 i0) 63) = 28 then (fL_c28 ad sz S Ln R M a0 a1 a2 a3 a4 i0) else (if (i_and (M a0 i0) 63) = 29 then (fL_c29 ad sz S Ln R M a0 a1 a2 a3 a4 i0) else (if (i_and (M a0 i0) 63) = 30 then (fL_c30 ad sz S Ln R M a0 a1 a2 a3 a4 i0) else (if (i_and (M a0 i0) 63) = 31 then (fL_c31 ad sz S Ln R M a0 a1 a2 a3 a4 i0) else (if (i_and (M a0 i0) 63) = 32 then (fL_c32 ad sz S Ln R M a0 a1 a2 a3 a4 i0) else (if (i_and (M a0 i0) 63) = 33 then (fL_c33 ad sz S Ln R M a0 a1 a2 a3 a4 i0) else (if (i_and (M a0 i0) 63) = 34 then (fL_c34 ad sz S Ln R M a0 a1 a2 a3 a4 i0) else (if (i_and (M a0 i0) 63) = 35 then (fL_c35 ad sz S Ln R M a0 a1 a2 a3 a4 i0) else (if (i_and (M a0 i0) 63) = 36 then (fL_c36 ad sz S Ln R M a0 a1 a2 a3 a4 i0) else (if (i_and (M a0 i0) 63) = 37 then (fL_c37 ad sz S Ln R M a0 a1 a2 a3 a4 i0) else (if (i_and (M a0 i0) 63) = 38 then (fL_c38 ad sz S Ln R M a0 a1 a2 a3 a4 i0) else (if (i_and (M a0 i0) 63) = 39 then (fL_c39 ad sz S Ln R M a0 a1 a2 a3 a4 i0) else (if (i_and (M a0 i0) 63) = 40 then (fL_c40 ad sz S Ln R M a0 a1 a2 a3 a4 i0) else (if (i_and (M a0 i0) 63) = 41 then (fL_c41 ad sz S Ln R M a0 a1 a2 a3 a4 i0) else (if (i_and (M a0 i0) 63) = 42 then (fL_c42 ad sz S Ln R M a0 a1 a2 a3 a4 i0) else (if (i_and (M a0 i0) 63) = 43 then (fL_c43 ad sz S Ln R M a0 a1 a2 a3 a4 i0) else (if (i_and (M a0 i0) 63) = 44 then (fL_c44 ad sz S Ln R M a0 a1 a2 a3 a4 i0) else (if (i_and (M a0 i0) 63) = 45 then (fL_c45 ad sz S Ln R M a0 a1 a2 a3 a4 i0) else (if (i_and (M a0 i0) 63) = 46 then (fL_c46 ad sz S Ln R M a0 a1 a2 a3 a4 i0) else (if (i_and (M a0 i0) 63) = 47 then (fL_c47 ad sz S Ln R M a0 a1 a2 a3 a4 i0) else (if (i_and (M a0 i0) 63) = 48 then (fL_c48 ad sz S Ln R M a0 a1 a2 a3 a4 i0) else (if (i_and (M a0 i0) 63) = 49 then (fL_c49 ad sz S Ln R M a0 a1 a2 a3 a4 i0) else (if (i_and (M a0 i0) 63) = 50 then (fL_c50 ad sz S Ln R M a0 a1 a2 a3 a4 i0) else (if (i_and (M a0 i0) 63) = 51 then (fL_c51 ad sz S Ln R M a0 a1 a2 a3 a4 i0) else (if (i_and (M a0 i0) 63) = 52 then (fL_c52 ad sz S Ln R M a0 a1 a2 a3 a4 i0) else (if (i_and (M a0 i0) 63) = 53 then (fL_c53 ad sz S Ln R M a0 a1 a2 a3 a4 i0) else (fL_c54 ad sz S Ln R M a0 a1 a2 a3 a4 i0))))))))))))))))))))))))))))))))))))))))))))))))))))))))
set_option maxRecDepth 100000 in
set_option maxHeartbeats 8000000 in
theorem xL_step {G : gE} {C : gC} {sz kk : Nat} {S Ln : Nat → Nat} {M : gM} {R : gR} {P : gP} (hC : OKC G C RL cL_law 9 (some .boolean) 1400 603072 7198826 P noX) (hkk : kk + 40 ≤ 603072) (hnn : 256 * (kk + 40) ≤ 7198826) {a0 a1 a2 a3 a4 : Nat} {i0 : Int} (h0 : S a0 = 29) (h1 : S a1 = 12) (h2 : S a2 = 13) (h3 : S a3 = 21) (h4 : S a4 = 22) (hi0 : (-2147483648 ≤ i0 ∧ i0 < 2147483648)) {r : (Int × (Nat → Nat) × (Nat → Nat) × gM × gR) ⊕ Unit} (h : fL_step G.2.2.2.2 sz S Ln R M a0 a1 a2 a3 a4 i0 = some r) (hJ : ∀ t, r = .inl t → ∀ sz1, ((-2147483648 ≤ t.1 ∧ t.1 < 2147483648) ∧ t.2.1 a0 = 29 ∧ t.2.1 a1 = 12 ∧ t.2.1 a2 = 13 ∧ t.2.1 a3 = 21 ∧ t.2.1 a4 = 22 ∧ Ex2 S Ln t.2.1 t.2.2.1) → JJ G C (kk + 40) (256 * (kk + 40)) sz1 t.2.1 t.2.2.1 t.2.2.2.1 t.2.2.2.2 28 [(0, .ref a0), (1, .ref a1), (2, .ref a2), (3, .ref a3), (4, .ref a4), (5, .int (iI t.1))] []) (hE : r = .inr () → JJ G C kk (256 * (kk)) sz S Ln M R 2988 [] []) : JJ G C kk (256 * (kk)) sz S Ln M R 28 [(0, .ref a0), (1, .ref a1), (2, .ref a2), (3, .ref a3), (4, .ref a4), (5, .int (iI i0))] [] := by
  unfold fL_step at h
  refine jj_iload hC dL_law_28 5 rfl ?_
  refine jj_aload_n hC dL_law_30 rfl 0 rfl ?_
  refine jj_alen29 hC h0 dL_law_31 (fun hr1 => ?_)
  refine jj_iconst hC dL_law_32 ?_
  refine jg_isub hC dL_law_33 ?_
  refine jj_icmp_gt (tgt := 2988) hC dL_law_34 rfl hi0 (w32_r _) (fun hc => ?_) (fun hc => ?_)
  · replace h := (if_pos hc).symm.trans h
    refine jj_lv (lv' := []) [] rfl ?_
    exact hE (Option.some.inj h).symm
  · replace h := (if_neg (Int.not_lt.mpr hc)).symm.trans h
    refine jj_aload_n hC dL_law_37 rfl 0 rfl ?_
    refine jj_iload hC dL_law_38 5 rfl ?_
    obtain ⟨⟨ha2, hb2⟩, h⟩ := gd_e h
    refine jj_iald29 hC h0 ha2 hb2 dL_law_40 (fun hr2 => ?_)
    refine jj_bipush hC dL_law_41 (by decide) ?_
    refine jg_iand hC dL_law_43 ?_
    by_cases hc3_0 : (i_and (M a0 i0) 63) = 0
    · replace h := (if_pos hc3_0).symm.trans h
      refine jj_tblIn (tgt := 276) hC dL_law_44 (iI_rng _) (by rw [hc3_0]; decide) (by rw [hc3_0]; decide) (by rw [hc3_0]; rfl) rfl ?_
      exact xL_c0 hC hkk hnn h0 h1 h2 h3 h4 hi0 h hJ
    replace h := (if_neg hc3_0).symm.trans h
    by_cases hc3_1 : (i_and (M a0 i0) 63) = 1
    · replace h := (if_pos hc3_1).symm.trans h
      refine jj_tblIn (tgt := 344) hC dL_law_44 (iI_rng _) (by rw [hc3_1]; decide) (by rw [hc3_1]; decide) (by rw [hc3_1]; rfl) rfl ?_
      exact xL_c1 hC hkk hnn h0 h1 h2 h3 h4 hi0 h hJ
    replace h := (if_neg hc3_1).symm.trans h
    by_cases hc3_2 : (i_and (M a0 i0) 63) = 2
    · replace h := (if_pos hc3_2).symm.trans h
      refine jj_tblIn (tgt := 400) hC dL_law_44 (iI_rng _) (by rw [hc3_2]; decide) (by rw [hc3_2]; decide) (by rw [hc3_2]; rfl) rfl ?_
      exact xL_c2 hC hkk hnn h0 h1 h2 h3 h4 hi0 h hJ
    replace h := (if_neg hc3_2).symm.trans h
    by_cases hc3_3 : (i_and (M a0 i0) 63) = 3
    · replace h := (if_pos hc3_3).symm.trans h
      refine jj_tblIn (tgt := 444) hC dL_law_44 (iI_rng _) (by rw [hc3_3]; decide) (by rw [hc3_3]; decide) (by rw [hc3_3]; rfl) rfl ?_
      exact xL_c3 hC hkk hnn h0 h1 h2 h3 h4 hi0 h hJ
    replace h := (if_neg hc3_3).symm.trans h
    by_cases hc3_4 : (i_and (M a0 i0) 63) = 4
    · replace h := (if_pos hc3_4).symm.trans h
      refine jj_tblIn (tgt := 524) hC dL_law_44 (iI_rng _) (by rw [hc3_4]; decide) (by rw [hc3_4]; decide) (by rw [hc3_4]; rfl) rfl ?_
      exact xL_c4 hC hkk hnn h0 h1 h2 h3 h4 hi0 h hJ
    replace h := (if_neg hc3_4).symm.trans h
    by_cases hc3_5 : (i_and (M a0 i0) 63) = 5
    · replace h := (if_pos hc3_5).symm.trans h
      refine jj_tblIn (tgt := 580) hC dL_law_44 (iI_rng _) (by rw [hc3_5]; decide) (by rw [hc3_5]; decide) (by rw [hc3_5]; rfl) rfl ?_
      exact xL_c5 hC hkk hnn h0 h1 h2 h3 h4 hi0 h hJ
    replace h := (if_neg hc3_5).symm.trans h
    by_cases hc3_6 : (i_and (M a0 i0) 63) = 6
    · replace h := (if_pos hc3_6).symm.trans h
      refine jj_tblIn (tgt := 672) hC dL_law_44 (iI_rng _) (by rw [hc3_6]; decide) (by rw [hc3_6]; decide) (by rw [hc3_6]; rfl) rfl ?_
      exact xL_c6 hC hkk hnn h0 h1 h2 h3 h4 hi0 h hJ
    replace h := (if_neg hc3_6).symm.trans h
    by_cases hc3_7 : (i_and (M a0 i0) 63) = 7
    · replace h := (if_pos hc3_7).symm.trans h
      refine jj_tblIn (tgt := 728) hC dL_law_44 (iI_rng _) (by rw [hc3_7]; decide) (by rw [hc3_7]; decide) (by rw [hc3_7]; rfl) rfl ?_
      exact xL_c7 hC hkk hnn h0 h1 h2 h3 h4 hi0 h hJ
    replace h := (if_neg hc3_7).symm.trans h
    by_cases hc3_8 : (i_and (M a0 i0) 63) = 8
    · replace h := (if_pos hc3_8).symm.trans h
      refine jj_tblIn (tgt := 784) hC dL_law_44 (iI_rng _) (by rw [hc3_8]; decide) (by rw [hc3_8]; decide) (by rw [hc3_8]; rfl) rfl ?_
      exact xL_c8 hC hkk hnn h0 h1 h2 h3 h4 hi0 h hJ
    replace h := (if_neg hc3_8).symm.trans h
    by_cases hc3_9 : (i_and (M a0 i0) 63) = 9
    · replace h := (if_pos hc3_9).symm.trans h
      refine jj_tblIn (tgt := 864) hC dL_law_44 (iI_rng _) (by rw [hc3_9]; decide) (by rw [hc3_9]; decide) (by rw [hc3_9]; rfl) rfl ?_
      exact xL_c9 hC hkk hnn h0 h1 h2 h3 h4 hi0 h hJ
    replace h := (if_neg hc3_9).symm.trans h
    by_cases hc3_10 : (i_and (M a0 i0) 63) = 10
    · replace h := (if_pos hc3_10).symm.trans h
      refine jj_tblIn (tgt := 932) hC dL_law_44 (iI_rng _) (by rw [hc3_10]; decide) (by rw [hc3_10]; decide) (by rw [hc3_10]; rfl) rfl ?_
      exact xL_c10 hC hkk hnn h0 h1 h2 h3 h4 hi0 h hJ
    replace h := (if_neg hc3_10).symm.trans h
    by_cases hc3_11 : (i_and (M a0 i0) 63) = 11
    · replace h := (if_pos hc3_11).symm.trans h
      refine jj_tblIn (tgt := 976) hC dL_law_44 (iI_rng _) (by rw [hc3_11]; decide) (by rw [hc3_11]; decide) (by rw [hc3_11]; rfl) rfl ?_
      exact xL_c11 hC hkk hnn h0 h1 h2 h3 h4 hi0 h hJ
    replace h := (if_neg hc3_11).symm.trans h
    by_cases hc3_12 : (i_and (M a0 i0) 63) = 12
    · replace h := (if_pos hc3_12).symm.trans h
      refine jj_tblIn (tgt := 989) hC dL_law_44 (iI_rng _) (by rw [hc3_12]; decide) (by rw [hc3_12]; decide) (by rw [hc3_12]; rfl) rfl ?_
      exact xL_c12 hC hkk hnn h0 h1 h2 h3 h4 hi0 h hJ
    replace h := (if_neg hc3_12).symm.trans h
    by_cases hc3_13 : (i_and (M a0 i0) 63) = 13
    · replace h := (if_pos hc3_13).symm.trans h
      refine jj_tblIn (tgt := 1057) hC dL_law_44 (iI_rng _) (by rw [hc3_13]; decide) (by rw [hc3_13]; decide) (by rw [hc3_13]; rfl) rfl ?_
      exact xL_c13 hC hkk hnn h0 h1 h2 h3 h4 hi0 h hJ
    replace h := (if_neg hc3_13).symm.trans h
    by_cases hc3_14 : (i_and (M a0 i0) 63) = 14
    · replace h := (if_pos hc3_14).symm.trans h
      refine jj_tblIn (tgt := 1070) hC dL_law_44 (iI_rng _) (by rw [hc3_14]; decide) (by rw [hc3_14]; decide) (by rw [hc3_14]; rfl) rfl ?_
      exact xL_c14 hC hkk hnn h0 h1 h2 h3 h4 hi0 h hJ
    replace h := (if_neg hc3_14).symm.trans h
    by_cases hc3_15 : (i_and (M a0 i0) 63) = 15
    · replace h := (if_pos hc3_15).symm.trans h
      refine jj_tblIn (tgt := 1126) hC dL_law_44 (iI_rng _) (by rw [hc3_15]; decide) (by rw [hc3_15]; decide) (by rw [hc3_15]; rfl) rfl ?_
      exact xL_c15 hC hkk hnn h0 h1 h2 h3 h4 hi0 h hJ
    replace h := (if_neg hc3_15).symm.trans h
    by_cases hc3_16 : (i_and (M a0 i0) 63) = 16
    · replace h := (if_pos hc3_16).symm.trans h
      refine jj_tblIn (tgt := 1139) hC dL_law_44 (iI_rng _) (by rw [hc3_16]; decide) (by rw [hc3_16]; decide) (by rw [hc3_16]; rfl) rfl ?_
      exact xL_c16 hC hkk hnn h0 h1 h2 h3 h4 hi0 h hJ
    replace h := (if_neg hc3_16).symm.trans h
    by_cases hc3_17 : (i_and (M a0 i0) 63) = 17
    · replace h := (if_pos hc3_17).symm.trans h
      refine jj_tblIn (tgt := 1207) hC dL_law_44 (iI_rng _) (by rw [hc3_17]; decide) (by rw [hc3_17]; decide) (by rw [hc3_17]; rfl) rfl ?_
      exact xL_c17 hC hkk hnn h0 h1 h2 h3 h4 hi0 h hJ
    replace h := (if_neg hc3_17).symm.trans h
    by_cases hc3_18 : (i_and (M a0 i0) 63) = 18
    · replace h := (if_pos hc3_18).symm.trans h
      refine jj_tblIn (tgt := 1220) hC dL_law_44 (iI_rng _) (by rw [hc3_18]; decide) (by rw [hc3_18]; decide) (by rw [hc3_18]; rfl) rfl ?_
      exact xL_c18 hC hkk hnn h0 h1 h2 h3 h4 hi0 h hJ
    replace h := (if_neg hc3_18).symm.trans h
    by_cases hc3_19 : (i_and (M a0 i0) 63) = 19
    · replace h := (if_pos hc3_19).symm.trans h
      refine jj_tblIn (tgt := 1295) hC dL_law_44 (iI_rng _) (by rw [hc3_19]; decide) (by rw [hc3_19]; decide) (by rw [hc3_19]; rfl) rfl ?_
      exact xL_c19 hC hkk hnn h0 h1 h2 h3 h4 hi0 h hJ
    replace h := (if_neg hc3_19).symm.trans h
    by_cases hc3_20 : (i_and (M a0 i0) 63) = 20
    · replace h := (if_pos hc3_20).symm.trans h
      refine jj_tblIn (tgt := 1351) hC dL_law_44 (iI_rng _) (by rw [hc3_20]; decide) (by rw [hc3_20]; decide) (by rw [hc3_20]; rfl) rfl ?_
      exact xL_c20 hC hkk hnn h0 h1 h2 h3 h4 hi0 h hJ
    replace h := (if_neg hc3_20).symm.trans h
    by_cases hc3_21 : (i_and (M a0 i0) 63) = 21
    · replace h := (if_pos hc3_21).symm.trans h
      refine jj_tblIn (tgt := 1407) hC dL_law_44 (iI_rng _) (by rw [hc3_21]; decide) (by rw [hc3_21]; decide) (by rw [hc3_21]; rfl) rfl ?_
      exact xL_c21 hC hkk hnn h0 h1 h2 h3 h4 hi0 h hJ
    replace h := (if_neg hc3_21).symm.trans h
    by_cases hc3_22 : (i_and (M a0 i0) 63) = 22
    · replace h := (if_pos hc3_22).symm.trans h
      refine jj_tblIn (tgt := 1420) hC dL_law_44 (iI_rng _) (by rw [hc3_22]; decide) (by rw [hc3_22]; decide) (by rw [hc3_22]; rfl) rfl ?_
      exact xL_c22 hC hkk hnn h0 h1 h2 h3 h4 hi0 h hJ
    replace h := (if_neg hc3_22).symm.trans h
    by_cases hc3_23 : (i_and (M a0 i0) 63) = 23
    · replace h := (if_pos hc3_23).symm.trans h
      refine jj_tblIn (tgt := 1433) hC dL_law_44 (iI_rng _) (by rw [hc3_23]; decide) (by rw [hc3_23]; decide) (by rw [hc3_23]; rfl) rfl ?_
      exact xL_c23 hC hkk hnn h0 h1 h2 h3 h4 hi0 h hJ
    replace h := (if_neg hc3_23).symm.trans h
    by_cases hc3_24 : (i_and (M a0 i0) 63) = 24
    · replace h := (if_pos hc3_24).symm.trans h
      refine jj_tblIn (tgt := 1496) hC dL_law_44 (iI_rng _) (by rw [hc3_24]; decide) (by rw [hc3_24]; decide) (by rw [hc3_24]; rfl) rfl ?_
      exact xL_c24 hC hkk hnn h0 h1 h2 h3 h4 hi0 h hJ
    replace h := (if_neg hc3_24).symm.trans h
    by_cases hc3_25 : (i_and (M a0 i0) 63) = 25
    · replace h := (if_pos hc3_25).symm.trans h
      refine jj_tblIn (tgt := 1559) hC dL_law_44 (iI_rng _) (by rw [hc3_25]; decide) (by rw [hc3_25]; decide) (by rw [hc3_25]; rfl) rfl ?_
      exact xL_c25 hC hkk hnn h0 h1 h2 h3 h4 hi0 h hJ
    replace h := (if_neg hc3_25).symm.trans h
    by_cases hc3_26 : (i_and (M a0 i0) 63) = 26
    · replace h := (if_pos hc3_26).symm.trans h
      refine jj_tblIn (tgt := 1622) hC dL_law_44 (iI_rng _) (by rw [hc3_26]; decide) (by rw [hc3_26]; decide) (by rw [hc3_26]; rfl) rfl ?_
      exact xL_c26 hC hkk hnn h0 h1 h2 h3 h4 hi0 h hJ
    replace h := (if_neg hc3_26).symm.trans h
    by_cases hc3_27 : (i_and (M a0 i0) 63) = 27
    · replace h := (if_pos hc3_27).symm.trans h
      refine jj_tblIn (tgt := 1678) hC dL_law_44 (iI_rng _) (by rw [hc3_27]; decide) (by rw [hc3_27]; decide) (by rw [hc3_27]; rfl) rfl ?_
      exact xL_c27 hC hkk hnn h0 h1 h2 h3 h4 hi0 h hJ
    replace h := (if_neg hc3_27).symm.trans h
    by_cases hc3_28 : (i_and (M a0 i0) 63) = 28
    · replace h := (if_pos hc3_28).symm.trans h
      refine jj_tblIn (tgt := 1734) hC dL_law_44 (iI_rng _) (by rw [hc3_28]; decide) (by rw [hc3_28]; decide) (by rw [hc3_28]; rfl) rfl ?_
      exact xL_c28 hC hkk hnn h0 h1 h2 h3 h4 hi0 h hJ
    replace h := (if_neg hc3_28).symm.trans h
    by_cases hc3_29 : (i_and (M a0 i0) 63) = 29
    · replace h := (if_pos hc3_29).symm.trans h
      refine jj_tblIn (tgt := 1790) hC dL_law_44 (iI_rng _) (by rw [hc3_29]; decide) (by rw [hc3_29]; decide) (by rw [hc3_29]; rfl) rfl ?_
      exact xL_c29 hC hkk hnn h0 h1 h2 h3 h4 hi0 h hJ
    replace h := (if_neg hc3_29).symm.trans h
    by_cases hc3_30 : (i_and (M a0 i0) 63) = 30
    · replace h := (if_pos hc3_30).symm.trans h
      refine jj_tblIn (tgt := 1846) hC dL_law_44 (iI_rng _) (by rw [hc3_30]; decide) (by rw [hc3_30]; decide) (by rw [hc3_30]; rfl) rfl ?_
      exact xL_c30 hC hkk hnn h0 h1 h2 h3 h4 hi0 h hJ
    replace h := (if_neg hc3_30).symm.trans h
    by_cases hc3_31 : (i_and (M a0 i0) 63) = 31
    · replace h := (if_pos hc3_31).symm.trans h
      refine jj_tblIn (tgt := 1902) hC dL_law_44 (iI_rng _) (by rw [hc3_31]; decide) (by rw [hc3_31]; decide) (by rw [hc3_31]; rfl) rfl ?_
      exact xL_c31 hC hkk hnn h0 h1 h2 h3 h4 hi0 h hJ
    replace h := (if_neg hc3_31).symm.trans h
    by_cases hc3_32 : (i_and (M a0 i0) 63) = 32
    · replace h := (if_pos hc3_32).symm.trans h
      refine jj_tblIn (tgt := 1958) hC dL_law_44 (iI_rng _) (by rw [hc3_32]; decide) (by rw [hc3_32]; decide) (by rw [hc3_32]; rfl) rfl ?_
      exact xL_c32 hC hkk hnn h0 h1 h2 h3 h4 hi0 h hJ
    replace h := (if_neg hc3_32).symm.trans h
    by_cases hc3_33 : (i_and (M a0 i0) 63) = 33
    · replace h := (if_pos hc3_33).symm.trans h
      refine jj_tblIn (tgt := 2014) hC dL_law_44 (iI_rng _) (by rw [hc3_33]; decide) (by rw [hc3_33]; decide) (by rw [hc3_33]; rfl) rfl ?_
      exact xL_c33 hC hkk hnn h0 h1 h2 h3 h4 hi0 h hJ
    replace h := (if_neg hc3_33).symm.trans h
    by_cases hc3_34 : (i_and (M a0 i0) 63) = 34
    · replace h := (if_pos hc3_34).symm.trans h
      refine jj_tblIn (tgt := 2070) hC dL_law_44 (iI_rng _) (by rw [hc3_34]; decide) (by rw [hc3_34]; decide) (by rw [hc3_34]; rfl) rfl ?_
      exact xL_c34 hC hkk hnn h0 h1 h2 h3 h4 hi0 h hJ
    replace h := (if_neg hc3_34).symm.trans h
    by_cases hc3_35 : (i_and (M a0 i0) 63) = 35
    · replace h := (if_pos hc3_35).symm.trans h
      refine jj_tblIn (tgt := 2133) hC dL_law_44 (iI_rng _) (by rw [hc3_35]; decide) (by rw [hc3_35]; decide) (by rw [hc3_35]; rfl) rfl ?_
      exact xL_c35 hC hkk hnn h0 h1 h2 h3 h4 hi0 h hJ
    replace h := (if_neg hc3_35).symm.trans h
    by_cases hc3_36 : (i_and (M a0 i0) 63) = 36
    · replace h := (if_pos hc3_36).symm.trans h
      refine jj_tblIn (tgt := 2196) hC dL_law_44 (iI_rng _) (by rw [hc3_36]; decide) (by rw [hc3_36]; decide) (by rw [hc3_36]; rfl) rfl ?_
      exact xL_c36 hC hkk hnn h0 h1 h2 h3 h4 hi0 h hJ
    replace h := (if_neg hc3_36).symm.trans h
    by_cases hc3_37 : (i_and (M a0 i0) 63) = 37
    · replace h := (if_pos hc3_37).symm.trans h
      refine jj_tblIn (tgt := 2252) hC dL_law_44 (iI_rng _) (by rw [hc3_37]; decide) (by rw [hc3_37]; decide) (by rw [hc3_37]; rfl) rfl ?_
      exact xL_c37 hC hkk hnn h0 h1 h2 h3 h4 hi0 h hJ
    replace h := (if_neg hc3_37).symm.trans h
    by_cases hc3_38 : (i_and (M a0 i0) 63) = 38
    · replace h := (if_pos hc3_38).symm.trans h
      refine jj_tblIn (tgt := 2308) hC dL_law_44 (iI_rng _) (by rw [hc3_38]; decide) (by rw [hc3_38]; decide) (by rw [hc3_38]; rfl) rfl ?_
      exact xL_c38 hC hkk hnn h0 h1 h2 h3 h4 hi0 h hJ
    replace h := (if_neg hc3_38).symm.trans h
    by_cases hc3_39 : (i_and (M a0 i0) 63) = 39
    · replace h := (if_pos hc3_39).symm.trans h
      refine jj_tblIn (tgt := 2363) hC dL_law_44 (iI_rng _) (by rw [hc3_39]; decide) (by rw [hc3_39]; decide) (by rw [hc3_39]; rfl) rfl ?_
      exact xL_c39 hC hkk hnn h0 h1 h2 h3 h4 hi0 h hJ
    replace h := (if_neg hc3_39).symm.trans h
    by_cases hc3_40 : (i_and (M a0 i0) 63) = 40
    · replace h := (if_pos hc3_40).symm.trans h
      refine jj_tblIn (tgt := 2419) hC dL_law_44 (iI_rng _) (by rw [hc3_40]; decide) (by rw [hc3_40]; decide) (by rw [hc3_40]; rfl) rfl ?_
      exact xL_c40 hC hkk hnn h0 h1 h2 h3 h4 hi0 h hJ
    replace h := (if_neg hc3_40).symm.trans h
    by_cases hc3_41 : (i_and (M a0 i0) 63) = 41
    · replace h := (if_pos hc3_41).symm.trans h
      refine jj_tblIn (tgt := 2432) hC dL_law_44 (iI_rng _) (by rw [hc3_41]; decide) (by rw [hc3_41]; decide) (by rw [hc3_41]; rfl) rfl ?_
      exact xL_c41 hC hkk hnn h0 h1 h2 h3 h4 hi0 h hJ
    replace h := (if_neg hc3_41).symm.trans h
    by_cases hc3_42 : (i_and (M a0 i0) 63) = 42
    · replace h := (if_pos hc3_42).symm.trans h
      refine jj_tblIn (tgt := 2510) hC dL_law_44 (iI_rng _) (by rw [hc3_42]; decide) (by rw [hc3_42]; decide) (by rw [hc3_42]; rfl) rfl ?_
      exact xL_c42 hC hkk hnn h0 h1 h2 h3 h4 hi0 h hJ
    replace h := (if_neg hc3_42).symm.trans h
    by_cases hc3_43 : (i_and (M a0 i0) 63) = 43
    · replace h := (if_pos hc3_43).symm.trans h
      refine jj_tblIn (tgt := 2575) hC dL_law_44 (iI_rng _) (by rw [hc3_43]; decide) (by rw [hc3_43]; decide) (by rw [hc3_43]; rfl) rfl ?_
      exact xL_c43 hC hkk hnn h0 h1 h2 h3 h4 hi0 h hJ
    replace h := (if_neg hc3_43).symm.trans h
    by_cases hc3_44 : (i_and (M a0 i0) 63) = 44
    · replace h := (if_pos hc3_44).symm.trans h
      refine jj_tblIn (tgt := 2588) hC dL_law_44 (iI_rng _) (by rw [hc3_44]; decide) (by rw [hc3_44]; decide) (by rw [hc3_44]; rfl) rfl ?_
      exact xL_c44 hC hkk hnn h0 h1 h2 h3 h4 hi0 h hJ
    replace h := (if_neg hc3_44).symm.trans h
    by_cases hc3_45 : (i_and (M a0 i0) 63) = 45
    · replace h := (if_pos hc3_45).symm.trans h
      refine jj_tblIn (tgt := 2646) hC dL_law_44 (iI_rng _) (by rw [hc3_45]; decide) (by rw [hc3_45]; decide) (by rw [hc3_45]; rfl) rfl ?_
      exact xL_c45 hC hkk hnn h0 h1 h2 h3 h4 hi0 h hJ
    replace h := (if_neg hc3_45).symm.trans h
    by_cases hc3_46 : (i_and (M a0 i0) 63) = 46
    · replace h := (if_pos hc3_46).symm.trans h
      refine jj_tblIn (tgt := 2690) hC dL_law_44 (iI_rng _) (by rw [hc3_46]; decide) (by rw [hc3_46]; decide) (by rw [hc3_46]; rfl) rfl ?_
      exact xL_c46 hC hkk hnn h0 h1 h2 h3 h4 hi0 h hJ
    replace h := (if_neg hc3_46).symm.trans h
    by_cases hc3_47 : (i_and (M a0 i0) 63) = 47
    · replace h := (if_pos hc3_47).symm.trans h
      refine jj_tblIn (tgt := 2734) hC dL_law_44 (iI_rng _) (by rw [hc3_47]; decide) (by rw [hc3_47]; decide) (by rw [hc3_47]; rfl) rfl ?_
      exact xL_c47 hC hkk hnn h0 h1 h2 h3 h4 hi0 h hJ
    replace h := (if_neg hc3_47).symm.trans h
    by_cases hc3_48 : (i_and (M a0 i0) 63) = 48
    · replace h := (if_pos hc3_48).symm.trans h
      refine jj_tblIn (tgt := 2778) hC dL_law_44 (iI_rng _) (by rw [hc3_48]; decide) (by rw [hc3_48]; decide) (by rw [hc3_48]; rfl) rfl ?_
      exact xL_c48 hC hkk hnn h0 h1 h2 h3 h4 hi0 h hJ
    replace h := (if_neg hc3_48).symm.trans h
    by_cases hc3_49 : (i_and (M a0 i0) 63) = 49
    · replace h := (if_pos hc3_49).symm.trans h
      refine jj_tblIn (tgt := 2834) hC dL_law_44 (iI_rng _) (by rw [hc3_49]; decide) (by rw [hc3_49]; decide) (by rw [hc3_49]; rfl) rfl ?_
      exact xL_c49 hC hkk hnn h0 h1 h2 h3 h4 hi0 h hJ
    replace h := (if_neg hc3_49).symm.trans h
    by_cases hc3_50 : (i_and (M a0 i0) 63) = 50
    · replace h := (if_pos hc3_50).symm.trans h
      refine jj_tblIn (tgt := 2847) hC dL_law_44 (iI_rng _) (by rw [hc3_50]; decide) (by rw [hc3_50]; decide) (by rw [hc3_50]; rfl) rfl ?_
      exact xL_c50 hC hkk hnn h0 h1 h2 h3 h4 hi0 h hJ
    replace h := (if_neg hc3_50).symm.trans h
    by_cases hc3_51 : (i_and (M a0 i0) 63) = 51
    · replace h := (if_pos hc3_51).symm.trans h
      refine jj_tblIn (tgt := 2903) hC dL_law_44 (iI_rng _) (by rw [hc3_51]; decide) (by rw [hc3_51]; decide) (by rw [hc3_51]; rfl) rfl ?_
      exact xL_c51 hC hkk hnn h0 h1 h2 h3 h4 hi0 h hJ
    replace h := (if_neg hc3_51).symm.trans h
    by_cases hc3_52 : (i_and (M a0 i0) 63) = 52
    · replace h := (if_pos hc3_52).symm.trans h
      refine jj_tblIn (tgt := 2947) hC dL_law_44 (iI_rng _) (by rw [hc3_52]; decide) (by rw [hc3_52]; decide) (by rw [hc3_52]; rfl) rfl ?_
      exact xL_c52 hC hkk hnn h0 h1 h2 h3 h4 hi0 h hJ
    replace h := (if_neg hc3_52).symm.trans h
    by_cases hc3_53 : (i_and (M a0 i0) 63) = 53
    · replace h := (if_pos hc3_53).symm.trans h
      refine jj_tblIn (tgt := 2958) hC dL_law_44 (iI_rng _) (by rw [hc3_53]; decide) (by rw [hc3_53]; decide) (by rw [hc3_53]; rfl) rfl ?_
      exact xL_c53 hC hkk hnn h0 h1 h2 h3 h4 hi0 h hJ
    replace h := (if_neg hc3_53).symm.trans h
    refine jj_tblOut (tgt := 2982) hC dL_law_44 (iI_rng _) (by omega) rfl ?_
    exact xL_c54 hC hkk hnn h0 h1 h2 h3 h4 hi0 h hJ
