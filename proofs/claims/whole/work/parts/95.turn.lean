/-! PURE: what holds at the head of the law's loop; one turn of it -/
def WI (ad S Ln : Nat → Nat) (R : gR) (M : gM) (e o : Nat) (b : Int) : Prop := ∃ (π : Int → Nat) (y : Nat), HY S Ln R M e o (o + 310) (o + 319) π b ∧ EI M o (o + 310) ∧ LyT S Ln R o (o + 289) ∧ SCR M (o + 289) (o + 310) ∧ TXL S Ln R M o (o + 310) (o + 308) y ∧ (y = o + 309 ∨ o + 321 ≤ y) ∧ (CST ad S Ln R M ∧ AD ad o) ∧ S e = 29 ∧ S (o + 319) = 21 ∧ S (o + 319 + 1) = 22
theorem LyT.f2 {S S' Ln Ln' : Nat → Nat} {R R' : gR} {o t : Nat} (hT : LyT S Ln R o t) (h : ∀ q, t ≤ q → q < t + 19 → S' q = S q ∧ Ln' q = Ln q) (r : ∀ q, q = o ∨ q = t ∨ q = t + 3 → R' q = R q) : LyT S' Ln' R' o t := by
  obtain ⟨a1, ⟨a2, a3, a4, a5⟩, ⟨a6, a7, a8⟩, a9, a10⟩ := hT
  refine ⟨by rw [r o (Or.inl rfl)]; exact a1, ⟨?_, ?_, ?_, ?_⟩, ⟨?_, ?_, ?_⟩, by rw [r t (Or.inr (Or.inl rfl))]; exact a9, fun i hi => ?_⟩
  · rw [(h _ (by omega) (by omega)).1]; exact a2
  · rw [(h _ (by omega) (by omega)).1]; exact a3
  · rw [(h _ (by omega) (by omega)).1]; exact a4
  · rw [(h _ (by omega) (by omega)).1]; exact a5
  · rw [(h _ (by omega) (by omega)).2]; exact a6
  · rw [(h _ (by omega) (by omega)).2]; exact a7
  · rw [(h _ (by omega) (by omega)).2]; exact a8
  · rw [r (t + 3) (Or.inr (Or.inr rfl)), (h (t + 4 + i) (by omega) (by omega)).1, (h (t + 4 + i) (by omega) (by omega)).2]; exact a10 i hi
section PWI
variable {ad S S' Ln Ln' : Nat → Nat} {R R' : gR} {M M' : gM} {e o m a x y sz : Nat} {π : Int → Nat} {b : Int}
theorem TXL.txt (h : TXL S Ln R M o m x y) : TXT S Ln R M o m x y := by
  obtain ⟨h5, l, ⟨⟨a1, a2, a3, a4⟩, ⟨c1, c3⟩, ⟨d1, d2⟩, hc⟩, ⟨l1, l2⟩, l3⟩ := h
  refine ⟨⟨h5, a1, a2, a3⟩, ⟨c1, by rw [c3, l1]⟩, by omega, fun i i0 i1 => ?_⟩
  have hi : i.toNat < l.length := by omega
  obtain ⟨k1, k2, k3⟩ := hc i.toNat hi
  have k4 := l2 i.toNat hi
  rw [show ((i.toNat : Nat) : Int) = i by omega] at k1 k4
  rw [k1, k4]
  exact ⟨rfl, k2, k3⟩
theorem TXL.fr (h : TXL S Ln R M o m x y) (hr : R' o = R o ∧ R' x = R x) (hx : M' x = M x) (hy : M' y = M y) (h6 : M' (m + 6) = M (m + 6)) (h12 : M' m 12 = M m 12) : TXL S Ln R' M' o m x y := by
  obtain ⟨h5, l, ⟨⟨a1, a2, a3, a4⟩, c, d, hc⟩, ⟨l1, l2⟩, l3⟩ := h
  exact ⟨by rw [hr.1]; exact h5, l, ⟨⟨a1, by rw [hr.2]; exact a2, a3, a4⟩, by rw [hx]; exact c, d, fun i hi => by rw [hy]; exact hc i hi⟩, ⟨by rw [h12]; exact l1, fun i hi => by rw [h6]; exact l2 i hi⟩, l3⟩
theorem SCR.fr {t : Nat} (h : SCR M t m) (h0 : M' t = M t) (h1 : M' (t + 1) = M (t + 1)) (h2 : M' m 15 = M m 15) (h3 : M' (m + 7) = M (m + 7)) : SCR M' t m := by
  unfold SCR
  rw [h0, h1, h2, h3]
  exact h
theorem EI.fr (h : EI M o m) (h0 : M' o 7 = M o 7 ∧ M' o 8 = M o 8) (h1 : M' m 6 = M m 6 ∧ M' m 7 = M m 7) : EI M' o m := by
  unfold EI
  rw [h0.1, h0.2, h1.1, h1.2]
  exact h
theorem w_okt (hW : WI ad S Ln R M e o b) (hb : b + 16 ≤ 10000) (h : OKT S Ln R M o (o + 310) (o + 319) b R' M') : WI ad S Ln R' M' e o (b + 15) := by
  obtain ⟨π, y, ⟨hO, hM, hd, hla, he, hN, hb'⟩, hE, hT, hS, hX, hy, ⟨hC, hA⟩, hk⟩ := hW
  obtain ⟨⟨π1, k1, k2⟩, k3, k4, k5, k6⟩ := h
  refine ⟨π1, y, ⟨k1, hM.fr (k3 _ (by omega)), hd, hla, he, k2.mono (by omega) (by omega), by omega⟩, hE.fr ⟨k5 7 (by decide), k5 8 (by decide)⟩ ⟨k6 6 (by decide) (by decide) (by decide), k6 7 (by decide) (by decide) (by decide)⟩, hT.f2 (fun q _ _ => ⟨rfl, rfl⟩) (fun q hq => k3 q (by omega)), hS.fr (k4 _ (by omega) (by omega) (by omega)) (k4 _ (by omega) (by omega) (by omega)) (k6 15 (by decide) (by decide) (by decide)) (k4 _ (by omega) (by omega) (by omega)),
    hX.fr ⟨k3 _ (by omega), k3 _ (by omega)⟩ (k4 _ (by omega) (by omega) (by omega)) (k4 _ (by omega) (by omega) (by omega)) (k4 _ (by omega) (by omega) (by omega)) (k6 12 (by decide) (by decide) (by decide)), hy, ⟨hC.fr hA (fun q hq => ⟨rfl, rfl, k4 q (by omega) (by omega) (by omega), k3 q (by omega)⟩), hA⟩, hk⟩
theorem w_oks (hW : WI ad S Ln R M e o b) (hb : b + 16 ≤ 10000) (h : OKS S Ln R M o (o + 310) (o + 319) b R' M') : WI ad S Ln R' M' e o (b + 15) := w_okt hW hb (h.t ⟨by omega, by omega⟩)
theorem w_app (hW : WI ad S Ln R M e o b) (hb : b + 16 ≤ 10000) (π : Int → Nat) (hO : LyO S Ln R o π) (h1 : INV M' o (o + 310) π (b + 1)) (h2 : SCR M' (o + 289) (o + 310)) (h3 : ∀ c, c ≠ o + 289 → c ≠ o + 289 + 1 → c ≠ o + 310 → c ≠ o + 310 + 7 → c ≠ o + 319 → M' c = M c) (h5 : ∀ k, k ≠ 5 → k ≠ 15 → M' (o + 310) k = M (o + 310) k) : WI ad S Ln R M' e o (b + 15) := by
  obtain ⟨π0, y, ⟨-, hM, hd, hla, he, hN, hb'⟩, hE, hT, hS, hX, hy, ⟨hC, hA⟩, hk⟩ := hW
  have ho := h3 o (by omega) (by omega) (by omega) (by omega) (by omega)
  exact ⟨π, y, ⟨hO, hM, hd, hla, he, h1.mono (by omega) (by omega), by omega⟩, hE.fr (by rw [ho]; exact ⟨rfl, rfl⟩) ⟨h5 6 (by decide) (by decide), h5 7 (by decide) (by decide)⟩, hT, h2,
    hX.fr ⟨rfl, rfl⟩ (h3 _ (by omega) (by omega) (by omega) (by omega) (by omega)) (h3 _ (by omega) (by omega) (by omega) (by omega) (by omega)) (h3 _ (by omega) (by omega) (by omega) (by omega) (by omega)) (h5 12 (by decide) (by decide)), hy, ⟨hC.fr hA (fun q hq => ⟨rfl, rfl, h3 q (by omega) (by omega) (by omega) (by omega) (by omega), rfl⟩), hA⟩, hk⟩
theorem w_okr (hW : WI ad S Ln R M e o b) (hb : b + 16 ≤ 10000) (h : OKR S Ln R M o (o + 310) (o + 319) (o + 289) b R' M') : WI ad S Ln R' M' e o (b + 15) := by
  obtain ⟨π, y, ⟨hO, hM, hd, hla, he, hN, hb'⟩, hE, hT, hS, hX, hy, ⟨hC, hA⟩, hk⟩ := hW
  obtain ⟨⟨π1, k1, k2⟩, k3, k4, k5, k6, k7⟩ := h
  exact ⟨π1, y, ⟨k1, hM.fr (k5 _ (by omega)), hd, hla, he, k2, by omega⟩, k4, hT.f2 (fun q _ _ => ⟨rfl, rfl⟩) (fun q hq => k5 q (by omega)), k3,
    hX.fr ⟨k5 _ (by omega), k5 _ (by omega)⟩ (k6 _ (by omega) (by omega)) (k6 _ (by omega) (by omega)) (k6 _ (by omega) (by omega)) k7, hy, ⟨hC.fr hA (fun q hq => ⟨rfl, rfl, k6 q (by omega) (by omega), k5 q (by omega)⟩), hA⟩, hk⟩
theorem w_okw {y' : Nat} (hO : LyO S Ln R o π) (hM : LyM S Ln R (o + 310)) (hla : Ln (o + 319) = 1 ∧ Ln (o + 319 + 1) = 1) (he : e < o) (hN : INV M o (o + 310) π b) (hE : EI M o (o + 310)) (hT : LyT S Ln R o (o + 289)) (hS : SCR M (o + 289) (o + 310)) (hy : y = o + 309 ∨ o + 321 ≤ y) (hC : CST ad S Ln R M) (hA : AD ad o) (hk : S e = 29 ∧ S (o + 319) = 21 ∧ S (o + 319 + 1) = 22) (hsz : o + 321 ≤ sz) (hb : b + 16 ≤ 10000)
    (h : OKW sz S Ln R M o (o + 310) (o + 319) (o + 308) y S' Ln' R' M' y') : WI ad S' Ln' R' M' e o (b + 15) ∧ Ln' e = Ln e := by
  obtain ⟨k1, k2, k3, k4, k5, k6⟩ := h
  have hS1 : ∀ q, q < sz → S' q = S q := fun q hq => (k1 q hq).1
  have hL1 : ∀ q, q < sz → Ln' q = Ln q := fun q hq => (k1 q hq).2
  have hm1 : ∀ q, q < sz → q ≠ o + 308 → q ≠ y → q ≠ o + 310 → q ≠ o + 316 → q ≠ o + 319 → M' q = M q := fun q q0 q1 q2 q3 q4 q5 => k2 q q0 q1 q2 q3 (by omega) q5
  have hO' : LyO S' Ln' R' o π := hO.f2 (fun q hq => k1 q (by omega)) (fun q hq => k3 q (by omega) (by omega))
  refine ⟨⟨π, y', ⟨hO', hM.f2 (fun q _ hq => k1 q (by omega)) (k3 _ (by omega) (by omega)), ⟨by omega, by omega⟩, by rw [hL1 _ (by omega), hL1 _ (by omega)]; exact hla, he, ?_, by omega⟩, hE.fr ?_ ⟨k4 6 (by decide) (by decide), k4 7 (by decide) (by decide)⟩, hT.f2 (fun q _ hq => k1 q (by omega)) (fun q hq => k3 q (by omega) (by omega)), hS.fr (hm1 _ (by omega) (by omega) (by omega) (by omega) (by omega) (by omega)) (hm1 _ (by omega) (by omega) (by omega) (by omega) (by omega) (by omega)) (k4 15 (by decide) (by decide)) (hm1 _ (by omega) (by omega) (by omega) (by omega) (by omega) (by omega)), k6, by omega, ⟨hC.fr hA (fun q hq => ⟨hS1 q (by omega), hL1 q (by omega), hm1 q (by omega) (by omega) (by omega) (by omega) (by omega) (by omega), k3 q (by omega) (by omega)⟩), hA⟩, ?_⟩, hL1 e (by omega)⟩
  · refine (inv_g (M := M) hO hN (fun j _ _ => by rw [hm1 _ (by omega) (by omega) (by omega) (by omega) (by omega) (by omega)]) (hN.1.fr (fun q q0 q1 => hm1 q (by omega) (by omega) (by omega) (by omega) (by omega) (by omega)) hN.2.1.1.2.2.2.1.2) (k4 4 (by decide) (by decide)) (k4 9 (by decide) (by decide)) (by rw [hm1 o (by omega) (by omega) (by omega) (by omega) (by omega) (by omega)]) (hm1 _ (by omega) (by omega) (by omega) (by omega) (by omega) (by omega)) (hm1 _ (by omega) (by omega) (by omega) (by omega) (by omega) (by omega)) (fun c hc => hm1 c (by omega) (by omega) (by omega) (by omega) (by omega) (by omega))).mono (by omega) (by omega)
  · rw [hm1 o (by omega) (by omega) (by omega) (by omega) (by omega) (by omega)]; exact ⟨rfl, rfl⟩
  · rw [hS1 e (by omega), hS1 _ (by omega), hS1 _ (by omega)]; exact hk
/-- a turn -/
theorem w_step (hW : WI ad S Ln R M e o b) (hb : b + 16 ≤ 10000) (hlt : ∀ q, S q ≠ 0 → q < sz) {i0 : Int} (hi : 0 ≤ i0 ∧ i0 + 5 ≤ (Ln e : Int) ∧ (Ln e : Int) ≤ 1000000) :
    ∃ S' Ln' M' R', fL_step ad sz S Ln R M e o (o + 310) (o + 319) (o + 319 + 1) i0 = some (.inl (i0 + 5, S', Ln', M', R')) ∧ WI ad S' Ln' R' M' e o (b + 15) ∧ Ln' e = Ln e := by
  have hW9 := hW
  obtain ⟨π, y, hY, hE, hT, hS, hX, hy, ⟨hC, hA⟩, hk⟩ := hW
  have hY9 := hY
  obtain ⟨hO, hM, hd, hla, he, hN, hb'⟩ := hY
  have hsz : o + 321 ≤ sz := by
    have := hlt (o + 319 + 1) (by rw [hk.2.2]; decide)
    omega
  have h5 : w32 (i0 + 5) = i0 + 5 := w32_i (by omega) (by omega)
  have fs : ∀ {F : Option ((Int × (Nat → Nat) × (Nat → Nat) × gM × gR) ⊕ Unit)}, (∃ M' R', F = some (.inl (w32 (i0 + 5), S, Ln, M', R')) ∧ OKS S Ln R M o (o + 310) (o + 319) b R' M') → ∃ S' Ln' M' R', F = some (.inl (i0 + 5, S', Ln', M', R')) ∧ WI ad S' Ln' R' M' e o (b + 15) ∧ Ln' e = Ln e := by
    rintro F ⟨M', R', e1, e2⟩
    exact ⟨S, Ln, M', R', by rw [e1, h5], w_oks hW9 hb e2, rfl⟩
  have ft : ∀ {F : Option ((Int × (Nat → Nat) × (Nat → Nat) × gM × gR) ⊕ Unit)}, (∃ M' R', F = some (.inl (w32 (i0 + 5), S, Ln, M', R')) ∧ OKT S Ln R M o (o + 310) (o + 319) b R' M') → ∃ S' Ln' M' R', F = some (.inl (i0 + 5, S', Ln', M', R')) ∧ WI ad S' Ln' R' M' e o (b + 15) ∧ Ln' e = Ln e := by
    rintro F ⟨M', R', e1, e2⟩
    exact ⟨S, Ln, M', R', by rw [e1, h5], w_okt hW9 hb e2, rfl⟩
  have fw : ∀ {F : Option ((Int × (Nat → Nat) × (Nat → Nat) × gM × gR) ⊕ Unit)}, (∃ S' Ln' M' R' y', F = some (.inl (w32 (i0 + 5), S', Ln', M', R')) ∧ OKW sz S Ln R M o (o + 310) (o + 319) (o + 308) y S' Ln' R' M' y') → ∃ S' Ln' M' R', F = some (.inl (i0 + 5, S', Ln', M', R')) ∧ WI ad S' Ln' R' M' e o (b + 15) ∧ Ln' e = Ln e := by
    rintro F ⟨S', Ln', M', R', y', e1, e2⟩
    exact ⟨S', Ln', M', R', by rw [e1, h5], w_okw hO hM hla he hN hE hT hS hy hC hA hk hsz hb e2⟩
  unfold fL_step
  rw [w32_i (z := (Ln e : Int) - 5) (by omega) (by omega), if_neg (by omega), gd_t (by omega)]
  generalize i_and (M e i0) 63 = z
  by_cases c0 : z = 0
  · rw [if_pos c0]; exact fs (k_c0 hY9 hi)
  rw [if_neg c0]
  by_cases c1 : z = 1
  · rw [if_pos c1]; exact fs (k_c1 hY9 hi)
  rw [if_neg c1]
  by_cases c2 : z = 2
  · rw [if_pos c2]; exact fs (k_c2 hY9 hi)
  rw [if_neg c2]
  by_cases c3 : z = 3
  · rw [if_pos c3]; exact fs (k_c3 hY9 hi)
  rw [if_neg c3]
  by_cases c4 : z = 4
  · rw [if_pos c4]; exact fs (k_c4 hY9 hi)
  rw [if_neg c4]
  by_cases c5 : z = 5
  · rw [if_pos c5]; exact fs (k_c5 hY9 hi)
  rw [if_neg c5]
  by_cases c6 : z = 6
  · rw [if_pos c6]; exact fs (k_c6 hY9 hi)
  rw [if_neg c6]
  by_cases c7 : z = 7
  · rw [if_pos c7]; exact fs (k_c7 hY9 hi)
  rw [if_neg c7]
  by_cases c8 : z = 8
  · rw [if_pos c8]; exact fs (k_c8 hY9 hi)
  rw [if_neg c8]
  by_cases c9 : z = 9
  · rw [if_pos c9]; exact fs (k_c9 hY9 hi)
  rw [if_neg c9]
  by_cases c10 : z = 10
  · rw [if_pos c10]; exact fs (k_c10 hY9 hi)
  rw [if_neg c10]
  by_cases c11 : z = 11
  · rw [if_pos c11]; exact fs (k_c11 hY9)
  rw [if_neg c11]
  by_cases c12 : z = 12
  · rw [if_pos c12]; exact fs (k_c12 hY9 hi)
  rw [if_neg c12]
  by_cases c13 : z = 13
  · rw [if_pos c13]; exact fs (k_c13 hY9)
  rw [if_neg c13]
  by_cases c14 : z = 14
  · rw [if_pos c14]; exact fs (k_c14 hY9 hi)
  rw [if_neg c14]
  by_cases c15 : z = 15
  · rw [if_pos c15]; exact fs (k_c15 hY9)
  rw [if_neg c15]
  by_cases c16 : z = 16
  · rw [if_pos c16]; exact fs (k_c16 hY9 hi)
  rw [if_neg c16]
  by_cases c17 : z = 17
  · rw [if_pos c17]; exact fs (k_c17 hY9)
  rw [if_neg c17]
  by_cases c18 : z = 18
  · rw [if_pos c18]; exact fs (k_c18 hY9 hi)
  rw [if_neg c18]
  by_cases c19 : z = 19
  · rw [if_pos c19]; exact fs (k_c19 hY9 hi)
  rw [if_neg c19]
  by_cases c20 : z = 20
  · rw [if_pos c20]; exact fs (k_c20 hY9 hi)
  rw [if_neg c20]
  by_cases c21 : z = 21
  · rw [if_pos c21]; exact fs (k_c21 hY9)
  rw [if_neg c21]
  by_cases c22 : z = 22
  · rw [if_pos c22]; exact fs (k_c22 hY9)
  rw [if_neg c22]
  by_cases c23 : z = 23
  · rw [if_pos c23]; exact fs (k_c23 hY9 hi)
  rw [if_neg c23]
  by_cases c24 : z = 24
  · rw [if_pos c24]; exact fs (k_c24 hY9 hi)
  rw [if_neg c24]
  by_cases c25 : z = 25
  · rw [if_pos c25]; exact fs (k_c25 hY9 hi)
  rw [if_neg c25]
  by_cases c26 : z = 26
  · rw [if_pos c26]; exact fs (k_c26 hY9 hi)
  rw [if_neg c26]
  by_cases c27 : z = 27
  · rw [if_pos c27]; exact fs (k_c27 hY9 hi)
  rw [if_neg c27]
  by_cases c28 : z = 28
  · rw [if_pos c28]; exact fs (k_c28 hY9 hi)
  rw [if_neg c28]
  by_cases c29 : z = 29
  · rw [if_pos c29]; exact fs (k_c29 hY9 hi)
  rw [if_neg c29]
  by_cases c30 : z = 30
  · rw [if_pos c30]; exact fs (k_c30 hY9 hi)
  rw [if_neg c30]
  by_cases c31 : z = 31
  · rw [if_pos c31]; exact fs (k_c31 hY9 hi)
  rw [if_neg c31]
  by_cases c32 : z = 32
  · rw [if_pos c32]; exact fs (k_c32 hY9 hi)
  rw [if_neg c32]
  by_cases c33 : z = 33
  · rw [if_pos c33]; exact fs (k_c33 hY9 hi)
  rw [if_neg c33]
  by_cases c34 : z = 34
  · rw [if_pos c34]; exact fs (k_c34 hY9 hi)
  rw [if_neg c34]
  by_cases c35 : z = 35
  · rw [if_pos c35]; exact fs (k_c35 hY9 hi)
  rw [if_neg c35]
  by_cases c36 : z = 36
  · rw [if_pos c36]; exact fs (k_c36 hY9 hi)
  rw [if_neg c36]
  by_cases c37 : z = 37
  · rw [if_pos c37]; exact fs (k_c37 hY9 hi)
  rw [if_neg c37]
  by_cases c38 : z = 38
  · rw [if_pos c38]; exact fs (k_c38 hY9 hi)
  rw [if_neg c38]
  by_cases c39 : z = 39
  · rw [if_pos c39]; exact fs (k_c39 hY9 hi)
  rw [if_neg c39]
  by_cases c40 : z = 40
  · rw [if_pos c40]; exact fs (k_c40 hY9)
  rw [if_neg c40]
  by_cases c41 : z = 41
  · rw [if_pos c41]; exact fs (k_c41 hY9 hi)
  rw [if_neg c41]
  by_cases c42 : z = 42
  · rw [if_pos c42]; exact fs (k_c42 hY9)
  rw [if_neg c42]
  by_cases c43 : z = 43
  · rw [if_pos c43]; exact fs (k_c43 hY9)
  rw [if_neg c43]
  by_cases c44 : z = 44
  · rw [if_pos c44]
    obtain ⟨M', e1, e2, e3, e4, e5, e6⟩ := k_c44 (ad := ad) (sz := sz) hY9 hT ⟨by omega, by omega⟩ hS hi
    exact ⟨S, Ln, M', R, by rw [e1, h5], w_app hW9 hb π hO e2 e3 e4 e6, rfl⟩
  rw [if_neg c44]
  by_cases c45 : z = 45
  · rw [if_pos c45]
    obtain ⟨M', R', e1, e2⟩ := k_c45 (ad := ad) (sz := sz) (i0 := i0) hY9 (by omega) hT ⟨by omega, by omega⟩ hS hE hC hA
    exact ⟨S, Ln, M', R', by rw [e1, h5], w_okr hW9 hb e2, rfl⟩
  rw [if_neg c45]
  by_cases c46 : z = 46
  · rw [if_pos c46]; exact fs (k_c46 hY9 hE)
  rw [if_neg c46]
  by_cases c47 : z = 47
  · rw [if_pos c47]; exact fs (k_c47 hY9 hE)
  rw [if_neg c47]
  by_cases c48 : z = 48
  · rw [if_pos c48]; exact fw (k_c48 hY9 hX hC hA hlt ⟨by omega, by omega⟩ ⟨by omega, by omega⟩ (by omega) hi)
  rw [if_neg c48]
  by_cases c49 : z = 49
  · rw [if_pos c49]; exact fw (k_c49 hY9 hX hC hA hlt ⟨by omega, by omega⟩ ⟨by omega, by omega⟩ (by omega))
  rw [if_neg c49]
  by_cases c50 : z = 50
  · rw [if_pos c50]; exact fs (k_c50 hY9 hX.txt hi)
  rw [if_neg c50]
  by_cases c51 : z = 51
  · rw [if_pos c51]; exact ft (k_c51 hY9)
  rw [if_neg c51]
  by_cases c52 : z = 52
  · rw [if_pos c52]; exact ft (k_c52 hY9)
  rw [if_neg c52]
  by_cases c53 : z = 53
  · rw [if_pos c53]; exact ft (k_c53 hY9)
  rw [if_neg c53]
  exact fs (k_c54 hY9)
/-- the last turn is over -/
theorem w_end {i0 : Int} (hi : (Ln e : Int) - 5 < i0) (hl : (Ln e : Int) ≤ 1000000) {a0 a1 a2 a3 : Nat} : fL_step ad sz S Ln R M e a0 a1 a2 a3 i0 = some (.inr ()) := by
  unfold fL_step
  rw [w32_i (by omega) (by omega), if_pos hi]
/-- the loop begins -/
theorem w_start (e : Nat) (he : e < o) (h29 : S e = 29) (hC : CST ad S Ln R M) (hA : AD ad o) : ∃ S' Ln' M' R', fL_pre ad o S Ln R M e = some (o, o + 310, o + 319, o + 319 + 1, o + 321, S', Ln', M', R') ∧ WI ad S' Ln' R' M' e o 0 ∧ Ln' e = Ln e := by
  obtain ⟨S', Ln', M', R', e1, e2, e3, e4, e5, e6, e7, e8, e9, e10⟩ := pre_ok (ad := ad) (S := S) (Ln := Ln) (R := R) (M := M) e he
  obtain ⟨a1, a2, a3, a4, a5, a6, a7⟩ := e6
  refine ⟨S', Ln', M', R', e1, ⟨pi0 (o + 79), o + 309, e2, e3, e4, e5, ⟨a1, [], ⟨⟨a2, a5, a3, by omega⟩, ⟨a6, a7⟩, ⟨Nat.zero_le _, by rw [a4]; decide⟩, fun i hi => absurd hi (Nat.not_lt_zero _)⟩, ⟨e7, fun i hi => absurd hi (Nat.not_lt_zero _)⟩, Nat.zero_le _⟩, Or.inl rfl, ⟨hC.fr hA (fun q hq => e8 q hq), hA⟩, by rw [(e8 e he).1]; exact h29, e9, e10⟩, (e8 e he).2.1⟩
end PWI
