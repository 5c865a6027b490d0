/-! PURE: what is refused, in the class -/
def rcA (t : Int) : Int := if t = 0 then 4 else if t = 1 then 6 else 7
def rcB (t : Int) : Int := if t = 0 then 4 else if t = 1 then 5 else if t = 2 then 7 else 8
def rcC (t : Int) : Int := if t = 0 then 4 else t + 4
def rcD (t : Int) : Int := if t = 0 then 4 else 7
section PRE
variable {ad S Ln : Nat → Nat} {R : gR} {M : gM} {a : Nat} {v : gV} {b : Int}
theorem s_rPoint (hL : LyS S Ln R a) (hR : RpS M a v) (hI : IvS b v) (x y : Int) : fX8_refusalOfPoint ad S Ln R M a x y = some (rcA (tPt v x y)) := by
  have i8 := hI.1.1
  unfold fX8_refusalOfPoint tPt
  rw [x_coord, bd_s]
  by_cases hx : 0 ≤ x ∧ x ≤ 60
  · rw [bI_t hx, if_neg (by decide), x_coord, bd_s]
    by_cases hy : 0 ≤ y ∧ y ≤ 60
    · rw [bI_t hy, if_pos (by decide), s_c hL, hR.1.1, if_pos (show (0 ≤ x ∧ x ≤ 60) ∧ 0 ≤ y ∧ y ≤ 60 from ⟨hx, hy⟩)]
      by_cases h : v 0 < 8
      · rw [if_pos h, if_neg (show ¬ v 0 = 8 by omega)]; rfl
      · rw [if_neg h, if_pos (show v 0 = 8 by omega)]; rfl
    · rw [bI_f hy, if_neg (by decide), if_neg (fun q => hy q.2)]; rfl
  · rw [bI_f hx, if_pos rfl, if_neg (fun q => hx q.1)]; rfl
theorem s_rStop (hL : LyS S Ln R a) (hR : RpS M a v) (hI : IvS b v) (i : Int) : fX8_refusalOfStop ad S Ln R M a i = some (rcB (tSt v i)) := by
  have i6 := hI.1.2.1
  unfold fX8_refusalOfStop tSt
  rw [s_c hL, c_hasPoint hR.1, bd_s]
  by_cases hi : 0 ≤ i ∧ i < v 0
  · rw [bI_t hi, if_pos (by decide), s_allWaiting hL hR hI, bd_s, if_pos hi]
    by_cases hp : pln v
    · rw [bI_t hp, if_neg (by decide), s_c hL, hR.1.2.1]
      by_cases h6 : v 1 < 6
      · rw [if_pos h6, s_c hL, c_endsAt hL.2.2.1 hR.1 hI.1 hi.1 hi.2, bd_s, if_pos (show (1 : Int) = 1 ∧ v 1 ≠ 6 from ⟨rfl, by omega⟩)]
        by_cases hz : 0 < v 1 ∧ apt v (v (22 + v 1)) i = 0
        · rw [bI_t hz, if_neg (by decide), if_pos hz]; rfl
        · rw [bI_f hz, if_pos rfl, if_neg hz]; rfl
      · rw [if_neg h6, if_neg (fun q => by omega)]; rfl
    · rw [bI_f hp, if_pos rfl, if_neg (fun q => absurd q.1 (by decide))]; rfl
  · rw [bI_f hi, if_neg (by decide), if_neg hi]; rfl
theorem s_rThermal (hL : LyS S Ln R a) (hR : RpS M a v) (hI : IvS b v) (x y s : Int) : fX8_refusalOfThermal ad S Ln R M a x y s = some (rcA (tTh v x y s)) := by
  have i6 := hI.2.1.1
  unfold fX8_refusalOfThermal tTh
  rw [x_coord, bd_s]
  by_cases hx : 0 ≤ x ∧ x ≤ 60
  · rw [bI_t hx, if_neg (by decide), x_coord, bd_s]
    by_cases hy : 0 ≤ y ∧ y ≤ 60
    · rw [bI_t hy, if_neg (by decide)]
      by_cases h1 : s < 1
      · rw [if_pos h1, if_neg (by omega)]; rfl
      · rw [if_neg h1]
        by_cases h5 : s ≤ 5
        · rw [if_pos h5, s_a hL, hR.2.1.1, if_pos (show ((0 ≤ x ∧ x ≤ 60) ∧ 0 ≤ y ∧ y ≤ 60) ∧ 1 ≤ s ∧ s ≤ 5 from ⟨⟨hx, hy⟩, by omega, h5⟩)]
          by_cases h : v 2 < 6
          · rw [if_pos h, if_neg (show ¬ v 2 = 6 by omega)]; rfl
          · rw [if_neg h, if_pos (show v 2 = 6 by omega)]; rfl
        · rw [if_neg h5, if_neg (by omega)]; rfl
    · rw [bI_f hy, if_pos rfl, if_neg (fun q => hy q.1.2)]; rfl
  · rw [bI_f hx, if_pos rfl, if_neg (fun q => hx q.1.1)]; rfl
theorem s_rArea (hL : LyS S Ln R a) (hR : RpS M a v) (hI : IvS b v) (x y X Y : Int) : fX8_refusalOfArea ad S Ln R M a x y X Y = some (rcA (tAr v x y X Y)) := by
  have i6 := hI.2.2.1.1
  unfold fX8_refusalOfArea tAr
  rw [x_coord, bd_s]
  by_cases hx : 0 ≤ x ∧ x ≤ 60
  · rw [bI_t hx, if_neg (by decide), x_coord, bd_s]
    by_cases hy : 0 ≤ y ∧ y ≤ 60
    · rw [bI_t hy, if_pos (by decide)]
      by_cases h1 : X < x
      · rw [if_pos h1, if_neg (by omega)]; rfl
      rw [if_neg h1]
      by_cases h2 : 60 < X
      · rw [if_pos h2, if_neg (by omega)]; rfl
      rw [if_neg h2]
      by_cases h3 : Y < y
      · rw [if_pos h3, if_neg (by omega)]; rfl
      rw [if_neg h3]
      by_cases h5 : Y ≤ 60
      · rw [if_pos h5, s_b hL, hR.2.2.1.1, if_pos (show ((0 ≤ x ∧ x ≤ 60) ∧ 0 ≤ y ∧ y ≤ 60) ∧ (x ≤ X ∧ X ≤ 60) ∧ y ≤ Y ∧ Y ≤ 60 from ⟨⟨hx, hy⟩, ⟨by omega, by omega⟩, by omega, h5⟩)]
        by_cases h : v 3 < 3
        · rw [if_pos h, if_neg (show ¬ v 3 = 3 by omega)]; rfl
        · rw [if_neg h, if_pos (show v 3 = 3 by omega)]; rfl
      · rw [if_neg h5, if_neg (by omega)]; rfl
    · rw [bI_f hy, if_neg (by decide), if_neg (fun q => hy q.1.2)]; rfl
  · rw [bI_f hx, if_pos rfl, if_neg (fun q => hx q.1.1)]; rfl
theorem s_rPilot (hR : RpS M a v) (hI : IvS b v) (r : Int) : fX8_refusalOfPilot ad S Ln R M a r = some (rcA (tPl v r)) := by
  have i6 := hI.2.2.2.1
  unfold fX8_refusalOfPilot tPl
  by_cases h1 : r < 20
  · rw [if_pos h1, if_neg (by omega)]; rfl
  rw [if_neg h1]
  by_cases h5 : r ≤ 60
  · rw [if_pos h5, hR.2.2.2.1, if_pos (show 20 ≤ r ∧ r ≤ 60 from ⟨by omega, h5⟩)]
    by_cases h : v 4 < 6
    · rw [if_pos h, if_neg (show ¬ v 4 = 6 by omega)]; rfl
    · rw [if_neg h, if_pos (show v 4 = 6 by omega)]; rfl
  · rw [if_neg h5, if_neg (by omega)]; rfl
theorem s_rLaunch (hL : LyS S Ln R a) (hR : RpS M a v) (hI : IvS b v) (p : Int) : fX8_refusalOfLaunch ad S Ln R M a p = some (rcB (tLaunch v p)) := by
  have i6 := hI.2.2.2.1
  unfold fX8_refusalOfLaunch tLaunch
  rw [s_hasPilot hR, bd_s]
  by_cases hp : 0 ≤ p ∧ p < v 4
  · have hu := hI.2.2.2.2.2.2 p hp.1 hp.2
    rw [bI_t hp, if_pos (by decide), s_g hL hp.1 (by omega), s_u hR hp.1 hp.2 (by decide) (by decide), gd_t hu.2.1.1, if_pos hp]
    by_cases h1 : gl v p 1 = 0
    · rw [if_pos h1, s_c hL, hR.1.2.1, if_pos h1]
      by_cases h2 : 2 ≤ v 1
      · rw [if_pos h2, if_pos h2]; rfl
      · rw [if_neg h2, if_neg h2]; rfl
    · rw [if_neg h1, if_neg h1]; rfl
  · rw [bI_f hp, if_neg (by decide), if_neg hp]; rfl
theorem s_rFlight (hL : LyS S Ln R a) (hR : RpS M a v) (hI : IvS b v) (p d n : Int) : fX8_refusalOfFlight ad S Ln R M a p d n = some (rcC (tFly v p d n)) := by
  have i6 := hI.2.2.2.1
  unfold fX8_refusalOfFlight tFly
  rw [s_hasPilot hR, bd_s]
  by_cases hp : 0 ≤ p ∧ p < v 4
  · have hu := hI.2.2.2.2.2.2 p hp.1 hp.2
    obtain ⟨f0, f1, ⟨f2, f3⟩, f4, f5, f6, f7, f8, q⟩ := id hu
    rw [bI_t hp, if_pos (by decide), if_pos hp]
    by_cases h1 : d < 0
    · rw [if_pos h1, if_neg (show ¬ ((0 ≤ d ∧ d ≤ 3) ∧ 1 ≤ n ∧ n ≤ 60) by omega)]; rfl
    rw [if_neg h1]
    by_cases h2 : 3 < d
    · rw [if_pos h2, if_neg (show ¬ ((0 ≤ d ∧ d ≤ 3) ∧ 1 ≤ n ∧ n ≤ 60) by omega)]; rfl
    rw [if_neg h2]
    by_cases h3 : n < 1
    · rw [if_pos h3, if_neg (show ¬ ((0 ≤ d ∧ d ≤ 3) ∧ 1 ≤ n ∧ n ≤ 60) by omega)]; rfl
    rw [if_neg h3]
    by_cases h4 : n ≤ 60
    · have har : (0 ≤ d ∧ d ≤ 3) ∧ 1 ≤ n ∧ n ≤ 60 := by omega
      rw [if_pos h4, s_g hL hp.1 (by omega), s_u hR hp.1 hp.2 (by decide) (by decide), gd_t f1.1, if_pos har]
      by_cases hf : gl v p 1 = 1
      · have mx := mul_st (n := n) (by omega) h4 (stX_b d)
        have mY := mul_st (n := n) (by omega) h4 (stY_b d)
        rw [if_pos hf, x_east, bd_s, x_north, bd_s, s_u hR hp.1 hp.2 (by decide) (by decide), s_u hR hp.1 hp.2 (k := 3) (by decide) (by decide), Int.mul_comm (stX d), Int.mul_comm (stY d), w32_i (z := n * stX d) (by omega) (by omega), w32_i (z := n * stY d) (by omega) (by omega), w32_i (z := gl v p 2 + n * stX d) (by omega) (by omega), w32_i (z := gl v p 3 + n * stY d) (by omega) (by omega), x_coord, bd_s, if_pos hf]
        by_cases hx : 0 ≤ gl v p 2 + n * stX d ∧ gl v p 2 + n * stX d ≤ 60
        · rw [bI_t hx, if_neg (by decide), x_coord, bd_s]
          by_cases hy : 0 ≤ gl v p 3 + n * stY d ∧ gl v p 3 + n * stY d ≤ 60
          · rw [bI_t hy, if_neg (by decide), if_pos ⟨hx, hy⟩]; rfl
          · rw [bI_f hy, if_pos rfl, if_neg (fun q => hy q.2)]; rfl
        · rw [bI_f hx, if_pos rfl, if_neg (fun q => hx q.1)]; rfl
      · rw [if_neg hf, if_neg hf]; rfl
    · rw [if_neg h4, if_neg (show ¬ ((0 ≤ d ∧ d ≤ 3) ∧ 1 ≤ n ∧ n ≤ 60) by omega)]; rfl
  · rw [bI_f hp, if_neg (by decide), if_neg hp]; rfl
theorem s_rClimb (hL : LyS S Ln R a) (hR : RpS M a v) (hI : IvS b v) (p n : Int) : fX8_refusalOfClimb ad S Ln R M a p n = some (rcC (tClimb v p n)) := by
  have i6 := hI.2.2.2.1
  have hA := hI.2.1
  unfold fX8_refusalOfClimb tClimb
  rw [s_hasPilot hR, bd_s]
  by_cases hp : 0 ≤ p ∧ p < v 4
  · have hu := hI.2.2.2.2.2.2 p hp.1 hp.2
    obtain ⟨f0, f1, ⟨f2, f3⟩, f4, f5, f6, f7, f8, q⟩ := id hu
    have hst := str_b hA (x := gl v p 2) (y := gl v p 3) (v 2).toNat (by have := hA.1; omega)
    rw [bI_t hp, if_pos (by decide), if_pos hp]
    by_cases h1 : n < 1
    · rw [if_pos h1, if_neg (show ¬ (1 ≤ n ∧ n ≤ 30) by omega)]; rfl
    rw [if_neg h1]
    by_cases h2 : n ≤ 30
    · rw [if_pos h2, s_g hL hp.1 (by omega), s_u hR hp.1 hp.2 (by decide) (by decide), gd_t f1.1, if_pos (show 1 ≤ n ∧ n ≤ 30 by omega)]
      by_cases hf : gl v p 1 = 1
      · rw [if_pos hf, s_a hL, s_u hR hp.1 hp.2 (by decide) (by decide), s_u hR hp.1 hp.2 (k := 3) (by decide) (by decide), a_strongest hL.2.2.2.1 hR.2.1 hA (by omega) (by omega) (by omega) (by omega), bd_s, if_pos hf]
        unfold fX8_refusalOfClimb_B71
        by_cases hz : str v (gl v p 2) (gl v p 3) (v 2).toNat = 0
        · rw [if_pos (show str v (gl v p 2) (gl v p 3) (v 2).toNat ≤ 0 by omega), if_pos rfl, if_pos hz]; rfl
        · rw [if_neg (show ¬ str v (gl v p 2) (gl v p 3) (v 2).toNat ≤ 0 by omega), if_neg (by decide), if_neg hz]; rfl
      · rw [if_neg hf, if_neg hf]; rfl
    · rw [if_neg h2, if_neg (show ¬ (1 ≤ n ∧ n ≤ 30) by omega)]; rfl
  · rw [bI_f hp, if_neg (by decide), if_neg hp]; rfl
theorem s_rEnd (hL : LyS S Ln R a) (hR : RpS M a v) (hI : IvS b v) : fX8_refusalOfEnd ad S Ln R M a = some (rcD (tEnd v)) := by
  unfold fX8_refusalOfEnd
  rw [s_allWaiting hL hR hI, bd_s]
  by_cases hp : pln v
  · have ht : tEnd v = 1 := bI_t (Or.inl hp)
    rw [bI_t hp, if_pos (by decide), ht]
    unfold fX8_refusalOfEnd_B17 fX8_refusalOfEnd_B22
    rw [if_neg (by decide)]; rfl
  · rw [bI_f hp, if_neg (by decide), s_count hL hR hI, bd_s]
    by_cases h1 : 0 < inP v 1 (v 4).toNat
    · have ht : tEnd v = 1 := bI_t (Or.inr h1)
      rw [if_neg (by omega), ht]
      unfold fX8_refusalOfEnd_B17 fX8_refusalOfEnd_B22
      rw [if_neg (by decide)]; rfl
    · have ht : tEnd v = 0 := bI_f (fun q => q.elim hp h1)
      rw [if_pos (by omega), ht]
      unfold fX8_refusalOfEnd_B22
      rw [if_pos rfl]; rfl
end PRE
