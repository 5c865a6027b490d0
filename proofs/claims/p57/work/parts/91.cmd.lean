/-! PURE: one command of a program -/
noncomputable def cT (v : gV) : Nat → List Int → Int
  | 0, [x, y] => tPt v x y
  | 1, [i] => tSt v i
  | 2, [x, y, s] => tTh v x y s
  | 3, [x, y, X, Y] => tAr v x y X Y
  | 4, [r] => tPl v r
  | 5, [p] => tLaunch v p
  | 6, [p, d, k] => tFly v p d k
  | 7, [p, k] => tClimb v p k
  | 8, [] => tEnd v
  | _, _ => 0
def cN (v : gV) : Nat → List Int → gV → Prop
  | 0, [x, y], w => w = ptR v x y
  | 1, [i], w => w = stR v i
  | 2, [x, y, s], w => w = thR v x y s
  | 3, [x, y, X, Y], w => w = arR v x y X Y
  | 4, [r], w => w = plR v r
  | 5, [p], w => w = sU v p (toU (gl v p) (v (7 + 2 * v 23)) (v (8 + 2 * v 23)))
  | 6, [p, d, k], w => w = sU v p (kmN v (gl v p) d k.toNat)
  | 7, [p, k], w => w = sU v p (rsH (gl v p) (str v (gl v p 2) (gl v p 3) (v 2).toNat) k (v 5))
  | 8, [], w => mE v w ∧ w 4 = v 4 ∧ w 6 = v 6 + 1 ∧ ∀ p k : Int, 0 ≤ p → 0 ≤ k → k < 9 → gl w p k = if p < v 4 then clU v p k else gl v p k
  | _, _, _ => False
theorem l_0 {l : List Int} (h : l.length = 0) : l = [] := List.length_eq_zero_iff.mp h
theorem l_1 {l : List Int} (h : l.length = 1) : ∃ a, l = [a] := by
  match l, h with
  | [a], _ => exact ⟨a, rfl⟩
theorem l_2 {l : List Int} (h : l.length = 2) : ∃ a b, l = [a, b] := by
  match l, h with
  | [a, b], _ => exact ⟨a, b, rfl⟩
theorem l_3 {l : List Int} (h : l.length = 3) : ∃ a b c, l = [a, b, c] := by
  match l, h with
  | [a, b, c], _ => exact ⟨a, b, c, rfl⟩
theorem l_4 {l : List Int} (h : l.length = 4) : ∃ a b c d, l = [a, b, c, d] := by
  match l, h with
  | [a, b, c, d], _ => exact ⟨a, b, c, d, rfl⟩
/-- a command has one of nine forms -/
theorem cmd_c {P : Nat → List Int → Prop} {k : Nat} {l : List Int} (hk : k < 9) (hl : l.length = slL (kS k)) (h0 : ∀ x y, P 0 [x, y]) (h1 : ∀ i, P 1 [i]) (h2 : ∀ x y s, P 2 [x, y, s]) (h3 : ∀ x y X Y, P 3 [x, y, X, Y]) (h4 : ∀ r, P 4 [r]) (h5 : ∀ p, P 5 [p]) (h6 : ∀ p d k, P 6 [p, d, k]) (h7 : ∀ p k, P 7 [p, k]) (h8 : P 8 []) : P k l := by
  have hc : k = 0 ∨ k = 1 ∨ k = 2 ∨ k = 3 ∨ k = 4 ∨ k = 5 ∨ k = 6 ∨ k = 7 ∨ k = 8 := by omega
  rcases hc with rfl | rfl | rfl | rfl | rfl | rfl | rfl | rfl | rfl
  · obtain ⟨a, b, rfl⟩ := l_2 hl; exact h0 a b
  · obtain ⟨a, rfl⟩ := l_1 hl; exact h1 a
  · obtain ⟨a, b, c, rfl⟩ := l_3 hl; exact h2 a b c
  · obtain ⟨a, b, c, d, rfl⟩ := l_4 hl; exact h3 a b c d
  · obtain ⟨a, rfl⟩ := l_1 hl; exact h4 a
  · obtain ⟨a, rfl⟩ := l_1 hl; exact h5 a
  · obtain ⟨a, b, c, rfl⟩ := l_3 hl; exact h6 a b c
  · obtain ⟨a, b, rfl⟩ := l_2 hl; exact h7 a b
  · obtain rfl := l_0 hl; exact h8
theorem cN_iv {v w : gV} {b : Int} (hI : IvS b v) (hZ : IvZ v) (hb : b + 1 ≤ 10000) {k : Nat} {l : List Int} (hk : k < 9) (hl : l.length = slL (kS k)) (ht : cT v k l = 0) (hw : cN v k l w) : IvS (b + 1) w ∧ IvZ w := by
  revert ht hw
  refine cmd_c (P := fun k l => cT v k l = 0 → cN v k l w → IvS (b + 1) w ∧ IvZ w) hk hl ?_ ?_ ?_ ?_ ?_ ?_ ?_ ?_ ?_
  · exact fun x y ht hw => (P_addPoint hI hZ hb x y ht w hw).2
  · exact fun i ht hw => (P_addTaskPoint hI hZ hb i ht w hw).2
  · exact fun x y s ht hw => (P_addThermal hI hZ hb x y s ht w hw).2
  · exact fun x y X Y ht hw => (P_addArea hI hZ hb x y X Y ht w hw).2
  · exact fun r ht hw => (P_addPilot hI hZ hb r ht w hw).2
  · exact fun p ht hw => (P_launch hI hZ hb p ht w hw).2
  · exact fun p d k ht hw => (P_fly hI hZ hb p d k ht w hw).2
  · exact fun p k ht hw => (P_climb hI hZ hb p k ht w hw).2
  · exact fun ht hw => (P_endDay hI hZ hb ht w hw).2
section PCM
variable {ad S Ln : Nat → Nat} {R : gR} {M : gM} {o m t : Nat} {π : Int → Nat} {b : Int} {v : gV}
theorem o_4 {α : Type} {f : Nat → Option α} (hT : LyT S Ln R o t) : rf S (R o 4) 10 f = f t := rf_o hT.1 hT.2.1.1
theorem t_n {α : Type} {f : Nat → Option α} (hT : LyT S Ln R o t) {q : Int} (q0 : 0 ≤ q) (q1 : q < 15) : (rf S (R t 3) 25 fun b2 => gd ((0 : Int) ≤ q ∧ q < (Ln b2 : Int)) (rf S (R b2 q) 20 f)) = f (t + 4 + q.toNat) := by
  obtain ⟨r1, r2, r3⟩ := hT.2.2.2.2 q.toNat (by omega)
  rw [show ((q.toNat : Nat) : Int) = q by omega] at r1
  rw [rf_o hT.2.2.2.1.2.2 hT.2.1.2.2.2, gd_t (by rw [hT.2.2.1.2.2]; omega), rf_o r1 r2]
theorem t_k {α : Type} {f : Nat → Option α} (hT : LyT S Ln R o t) {q : Int} (q0 : 0 ≤ q) (q1 : q < 15) : (rf S (R t 2) 20 fun b5 => gd ((0 : Int) ≤ q ∧ q < (Ln b5 : Int)) (f b5)) = f (t + 2) := by
  rw [rf_o hT.2.2.2.1.2.1 hT.2.1.2.2.1, gd_t (by rw [hT.2.2.1.2.1]; omega)]
theorem t_g {α : Type} {x : Option α} (hT : LyT S Ln R o t) {q i : Int} (q0 : 0 ≤ q) (q1 : q < 15) (i0 : 0 ≤ i) (i1 : i < 4) : gd ((0 : Int) ≤ i ∧ i < (Ln (t + 4 + q.toNat) : Int)) x = x := by
  obtain ⟨r1, r2, r3⟩ := hT.2.2.2.2 q.toNat (by omega)
  exact gd_t (by rw [r3]; omega)
theorem rcA_4 {t : Int} (h : t = 0 ∨ t = 1 ∨ t = 2) : rcA t = 4 ↔ t = 0 := by rcases h with rfl | rfl | rfl <;> decide
theorem rcB_4 {t : Int} (h : t = 0 ∨ t = 1 ∨ t = 2 ∨ t = 3) : rcB t = 4 ↔ t = 0 := by rcases h with rfl | rfl | rfl | rfl <;> decide
theorem rcC_4 {t : Int} (h : t = 0 ∨ t = 1 ∨ t = 2 ∨ t = 3 ∨ t = 4) : rcC t = 4 ↔ t = 0 := by rcases h with rfl | rfl | rfl | rfl | rfl <;> decide
theorem rcD_4 {t : Int} (h : t = 0 ∨ t = 1) : rcD t = 4 ↔ t = 0 := by rcases h with rfl | rfl <;> decide
theorem c_ref (hO : LyO S Ln R o π) (hT : LyT S Ln R o t) (hR : RpS M (o + 1) v) (hI : IvS b v) {q : Int} (q0 : 0 ≤ q) (q1 : q < 15) {k : Nat} {l : List Int} (hk : k < 9) (hl : l.length = slL (kS k)) (hx : RW M t q (k, l)) :
    ∃ rc, fX9_refusalOf ad S Ln R M o q = some rc ∧ (rc = 4 ↔ cT v k l = 0) := by
  have hS := hO.2.2.1
  have e3 : ∀ (f : Nat → Option Int), (rf S (R t 3) 25 fun b2 => gd ((0 : Int) ≤ q ∧ q < (Ln b2 : Int)) (rf S (R b2 q) 20 f)) = f (t + 4 + q.toNat) := fun f => t_n hT q0 q1
  revert hx
  refine cmd_c (P := fun k l => RW M t q (k, l) → ∃ rc, fX9_refusalOf ad S Ln R M o q = some rc ∧ (rc = 4 ↔ cT v k l = 0)) hk hl ?_ ?_ ?_ ?_ ?_ ?_ ?_ ?_ ?_
  · intro x y hx
    have n0 : M (t + 4 + q.toNat) 0 = x := hx.2 0 (by simp)
    have n1 : M (t + 4 + q.toNat) 1 = y := hx.2 1 (by simp)
    have hk0 : M (t + 2) q = 0 := hx.1
    refine ⟨_, ?_, rcA_4 tPt_r⟩
    unfold fX9_refusalOf
    rw [o_4 hT, t_n hT q0 q1, o_4 hT, t_k hT q0 q1, hk0, if_pos rfl, o_0 hO, t_g hT q0 q1 (by decide) (by decide), t_g hT q0 q1 (by decide) (by decide), n0, n1, s_rPoint hS hR hI x y, bd_s]
    rfl
  · intro i hx
    have n0 : M (t + 4 + q.toNat) 0 = i := hx.2 0 (by simp)
    have hk0 : M (t + 2) q = 1 := hx.1
    refine ⟨_, ?_, rcB_4 tSt_r⟩
    unfold fX9_refusalOf
    rw [o_4 hT, t_n hT q0 q1, o_4 hT, t_k hT q0 q1, hk0, if_neg (by decide), if_pos rfl, o_0 hO, t_g hT q0 q1 (by decide) (by decide), n0, s_rStop hS hR hI i, bd_s]
    rfl
  · intro x y s hx
    have n0 : M (t + 4 + q.toNat) 0 = x := hx.2 0 (by simp)
    have n1 : M (t + 4 + q.toNat) 1 = y := hx.2 1 (by simp)
    have n2 : M (t + 4 + q.toNat) 2 = s := hx.2 2 (by simp)
    have hk0 : M (t + 2) q = 2 := hx.1
    refine ⟨_, ?_, rcA_4 tTh_r⟩
    unfold fX9_refusalOf
    rw [o_4 hT, t_n hT q0 q1, o_4 hT, t_k hT q0 q1, hk0, if_neg (by decide), if_neg (by decide), if_pos rfl, o_0 hO, t_g hT q0 q1 (by decide) (by decide), t_g hT q0 q1 (by decide) (by decide), t_g hT q0 q1 (by decide) (by decide), n0, n1, n2, s_rThermal hS hR hI x y s, bd_s]
    rfl
  · intro x y X Y hx
    have n0 : M (t + 4 + q.toNat) 0 = x := hx.2 0 (by simp)
    have n1 : M (t + 4 + q.toNat) 1 = y := hx.2 1 (by simp)
    have n2 : M (t + 4 + q.toNat) 2 = X := hx.2 2 (by simp)
    have n3 : M (t + 4 + q.toNat) 3 = Y := hx.2 3 (by simp)
    have hk0 : M (t + 2) q = 3 := hx.1
    refine ⟨_, ?_, rcA_4 tAr_r⟩
    unfold fX9_refusalOf
    rw [o_4 hT, t_n hT q0 q1, o_4 hT, t_k hT q0 q1, hk0, if_neg (by decide), if_neg (by decide), if_neg (by decide), if_pos rfl, o_0 hO, t_g hT q0 q1 (by decide) (by decide), t_g hT q0 q1 (by decide) (by decide), t_g hT q0 q1 (by decide) (by decide), t_g hT q0 q1 (by decide) (by decide), n0, n1, n2, n3, s_rArea hS hR hI x y X Y, bd_s]
    rfl
  · intro r hx
    have n0 : M (t + 4 + q.toNat) 0 = r := hx.2 0 (by simp)
    have hk0 : M (t + 2) q = 4 := hx.1
    refine ⟨_, ?_, rcA_4 tPl_r⟩
    unfold fX9_refusalOf
    rw [o_4 hT, t_n hT q0 q1, o_4 hT, t_k hT q0 q1, hk0, if_neg (by decide), if_neg (by decide), if_neg (by decide), if_neg (by decide), if_pos rfl, o_0 hO, t_g hT q0 q1 (by decide) (by decide), n0, s_rPilot hR hI r, bd_s]
    rfl
  · intro p hx
    have n0 : M (t + 4 + q.toNat) 0 = p := hx.2 0 (by simp)
    have hk0 : M (t + 2) q = 5 := hx.1
    refine ⟨_, ?_, rcB_4 tLaunch_r⟩
    unfold fX9_refusalOf
    rw [o_4 hT, t_n hT q0 q1, o_4 hT, t_k hT q0 q1, hk0, if_neg (by decide), if_neg (by decide), if_neg (by decide), if_neg (by decide), if_neg (by decide), if_pos rfl, o_0 hO, t_g hT q0 q1 (by decide) (by decide), n0, s_rLaunch hS hR hI p, bd_s]
    rfl
  · intro p d k hx
    have n0 : M (t + 4 + q.toNat) 0 = p := hx.2 0 (by simp)
    have n1 : M (t + 4 + q.toNat) 1 = d := hx.2 1 (by simp)
    have n2 : M (t + 4 + q.toNat) 2 = k := hx.2 2 (by simp)
    have hk0 : M (t + 2) q = 6 := hx.1
    refine ⟨_, ?_, rcC_4 tFly_r⟩
    unfold fX9_refusalOf
    rw [o_4 hT, t_n hT q0 q1, o_4 hT, t_k hT q0 q1, hk0, if_neg (by decide), if_neg (by decide), if_neg (by decide), if_neg (by decide), if_neg (by decide), if_neg (by decide), if_pos rfl, o_0 hO, t_g hT q0 q1 (by decide) (by decide), t_g hT q0 q1 (by decide) (by decide), t_g hT q0 q1 (by decide) (by decide), n0, n1, n2, s_rFlight hS hR hI p d k, bd_s]
    rfl
  · intro p k hx
    have n0 : M (t + 4 + q.toNat) 0 = p := hx.2 0 (by simp)
    have n1 : M (t + 4 + q.toNat) 1 = k := hx.2 1 (by simp)
    have hk0 : M (t + 2) q = 7 := hx.1
    refine ⟨_, ?_, rcC_4 tClimb_r⟩
    unfold fX9_refusalOf
    rw [o_4 hT, t_n hT q0 q1, o_4 hT, t_k hT q0 q1, hk0, if_neg (by decide), if_neg (by decide), if_neg (by decide), if_neg (by decide), if_neg (by decide), if_neg (by decide), if_neg (by decide), if_pos rfl, o_0 hO, t_g hT q0 q1 (by decide) (by decide), t_g hT q0 q1 (by decide) (by decide), n0, n1, s_rClimb hS hR hI p k, bd_s]
    rfl
  · intro  hx
    have hk0 : M (t + 2) q = 8 := hx.1
    refine ⟨_, ?_, rcD_4 tEnd_r⟩
    unfold fX9_refusalOf
    rw [o_4 hT, t_n hT q0 q1, o_4 hT, t_k hT q0 q1, hk0, if_neg (by decide), if_neg (by decide), if_neg (by decide), if_neg (by decide), if_neg (by decide), if_neg (by decide), if_neg (by decide), if_neg (by decide), o_0 hO, s_rEnd hS hR hI, bd_s]
    rfl
theorem c_do (hO : LyO S Ln R o π) (hT : LyT S Ln R o t) (hR : RpS M (o + 1) v) (hI : IvS b v) (hZ : IvZ v) (hb : b + 1 ≤ 10000) {q : Int} (q0 : 0 ≤ q) (q1 : q < 15) {k : Nat} {l : List Int} (hk : k < 9) (hl : l.length = slL (kS k)) (hx : RW M t q (k, l)) (ht : cT v k l = 0) :
    ∃ M', fX9_carryOut ad S Ln R M o q = some M' ∧ (∀ w, cN v k l w → RpS M' (o + 1) w) ∧ ∀ c, c < o + 1 ∨ o + 27 ≤ c → M' c = M c := by
  have hS := hO.2.2.1
  have i4 := hI.2.2.2.1
  revert hx ht
  refine cmd_c (P := fun k l => RW M t q (k, l) → cT v k l = 0 → ∃ M', fX9_carryOut ad S Ln R M o q = some M' ∧ (∀ w, cN v k l w → RpS M' (o + 1) w) ∧ ∀ c, c < o + 1 ∨ o + 27 ≤ c → M' c = M c) hk hl ?_ ?_ ?_ ?_ ?_ ?_ ?_ ?_ ?_
  · intro x y hx ht
    have n0 : M (t + 4 + q.toNat) 0 = x := hx.2 0 (by simp)
    have n1 : M (t + 4 + q.toNat) 1 = y := hx.2 1 (by simp)
    have hk0 : M (t + 2) q = 0 := hx.1
    have h8 : v 0 < 8 := by
      have := hI.1.1
      have ht' : tPt v x y = 0 := ht
      unfold tPt at ht'
      split at ht'
      · split at ht'
        · exact absurd ht' (by decide)
        · omega
      · exact absurd ht' (by decide)
    obtain ⟨M1, f1, f2, f3⟩ := s_putPoint (ad := ad) hS hR hI h8 x y
    refine ⟨M1, ?_, fun w hw => (show w = _ from hw) ▸ f2, fun c hc => f3 c (by omega)⟩
    unfold fX9_carryOut
    rw [o_4 hT, t_n hT q0 q1, o_4 hT, t_k hT q0 q1, hk0, if_pos rfl, o_0 hO, s_c hS, t_g hT q0 q1 (by decide) (by decide), t_g hT q0 q1 (by decide) (by decide), n0, n1, f1, bd_s]
  · intro i hx ht
    have n0 : M (t + 4 + q.toNat) 0 = i := hx.2 0 (by simp)
    have hk0 : M (t + 2) q = 1 := hx.1
    have h8 : (0 ≤ i ∧ i < v 0) ∧ v 1 < 6 := by
      have := hI.1.2.1
      have ht' : tSt v i = 0 := ht
      unfold tSt at ht'
      split at ht'
      · split at ht'
        · rename_i h1 h2
          exact ⟨h1, by omega⟩
        · exact absurd ht' (by decide)
      · exact absurd ht' (by decide)
    obtain ⟨M1, f1, f2, f3⟩ := s_putStop (ad := ad) hS hR hI h8.2 h8.1
    refine ⟨M1, ?_, fun w hw => (show w = _ from hw) ▸ f2, fun c hc => f3 c (by omega)⟩
    unfold fX9_carryOut
    rw [o_4 hT, t_n hT q0 q1, o_4 hT, t_k hT q0 q1, hk0, if_neg (by decide), if_pos rfl, o_0 hO, s_c hS, t_g hT q0 q1 (by decide) (by decide), n0, f1, bd_s]
  · intro x y s hx ht
    have n0 : M (t + 4 + q.toNat) 0 = x := hx.2 0 (by simp)
    have n1 : M (t + 4 + q.toNat) 1 = y := hx.2 1 (by simp)
    have n2 : M (t + 4 + q.toNat) 2 = s := hx.2 2 (by simp)
    have hk0 : M (t + 2) q = 2 := hx.1
    have h8 : v 2 < 6 := by
      have := hI.2.1.1
      have ht' : tTh v x y s = 0 := ht
      unfold tTh at ht'
      split at ht'
      · split at ht'
        · exact absurd ht' (by decide)
        · omega
      · exact absurd ht' (by decide)
    obtain ⟨M1, f1, f2, f3⟩ := s_putThermal (ad := ad) hS hR hI h8 x y s
    refine ⟨M1, ?_, fun w hw => (show w = _ from hw) ▸ f2, fun c hc => f3 c (by omega)⟩
    unfold fX9_carryOut
    rw [o_4 hT, t_n hT q0 q1, o_4 hT, t_k hT q0 q1, hk0, if_neg (by decide), if_neg (by decide), if_pos rfl, o_0 hO, s_a hS, t_g hT q0 q1 (by decide) (by decide), t_g hT q0 q1 (by decide) (by decide), t_g hT q0 q1 (by decide) (by decide), n0, n1, n2, f1, bd_s]
  · intro x y X Y hx ht
    have n0 : M (t + 4 + q.toNat) 0 = x := hx.2 0 (by simp)
    have n1 : M (t + 4 + q.toNat) 1 = y := hx.2 1 (by simp)
    have n2 : M (t + 4 + q.toNat) 2 = X := hx.2 2 (by simp)
    have n3 : M (t + 4 + q.toNat) 3 = Y := hx.2 3 (by simp)
    have hk0 : M (t + 2) q = 3 := hx.1
    have h8 : v 3 < 3 := by
      have := hI.2.2.1.1
      have ht' : tAr v x y X Y = 0 := ht
      unfold tAr at ht'
      split at ht'
      · split at ht'
        · exact absurd ht' (by decide)
        · omega
      · exact absurd ht' (by decide)
    obtain ⟨M1, f1, f2, f3⟩ := s_putArea (ad := ad) hS hR hI h8 x y X Y
    refine ⟨M1, ?_, fun w hw => (show w = _ from hw) ▸ f2, fun c hc => f3 c (by omega)⟩
    unfold fX9_carryOut
    rw [o_4 hT, t_n hT q0 q1, o_4 hT, t_k hT q0 q1, hk0, if_neg (by decide), if_neg (by decide), if_neg (by decide), if_pos rfl, o_0 hO, s_b hS, t_g hT q0 q1 (by decide) (by decide), t_g hT q0 q1 (by decide) (by decide), t_g hT q0 q1 (by decide) (by decide), t_g hT q0 q1 (by decide) (by decide), n0, n1, n2, n3, f1, bd_s]
  · intro r hx ht
    have n0 : M (t + 4 + q.toNat) 0 = r := hx.2 0 (by simp)
    have hk0 : M (t + 2) q = 4 := hx.1
    have h8 : (20 ≤ r ∧ r ≤ 60) ∧ v 4 < 6 := by
      have ht' : tPl v r = 0 := ht
      unfold tPl at ht'
      split at ht'
      · split at ht'
        · exact absurd ht' (by decide)
        · rename_i h1 h2
          exact ⟨h1, by omega⟩
      · exact absurd ht' (by decide)
    obtain ⟨M1, f1, f2, f3⟩ := s_putPilot (ad := ad) hS hR hI hZ h8.2 h8.1
    refine ⟨M1, ?_, fun w hw => (show w = _ from hw) ▸ f2, fun c hc => f3 c (by omega)⟩
    unfold fX9_carryOut
    rw [o_4 hT, t_n hT q0 q1, o_4 hT, t_k hT q0 q1, hk0, if_neg (by decide), if_neg (by decide), if_neg (by decide), if_neg (by decide), if_pos rfl, o_0 hO, t_g hT q0 q1 (by decide) (by decide), n0, f1, bd_s]
  · intro p hx ht
    have n0 : M (t + 4 + q.toNat) 0 = p := hx.2 0 (by simp)
    have hk0 : M (t + 2) q = 5 := hx.1
    have h8 : (0 ≤ p ∧ p < v 4) ∧ 2 ≤ v 1 := by
      have ht' : tLaunch v p = 0 := ht
      unfold tLaunch at ht'
      split at ht'
      · split at ht'
        · split at ht'
          · rename_i h1 h2 h3
            exact ⟨h1, h3⟩
          · exact absurd ht' (by decide)
        · exact absurd ht' (by decide)
      · exact absurd ht' (by decide)
    obtain ⟨M1, f1, f2, f3⟩ := f_start (ad := ad) hS hR hI h8.1.1 h8.1.2 h8.2
    refine ⟨M1, ?_, fun w hw => (show w = _ from hw) ▸ hR.set hI h8.1.1 h8.1.2 f2 (by show (0 : Int) ≤ 1; decide) f3, fun c hc => f3 c (by omega)⟩
    unfold fX9_carryOut
    rw [o_4 hT, t_n hT q0 q1, o_4 hT, t_k hT q0 q1, hk0, if_neg (by decide), if_neg (by decide), if_neg (by decide), if_neg (by decide), if_neg (by decide), if_pos rfl, o_0 hO, t_g hT q0 q1 (by decide) (by decide), n0, f1, bd_s]
  · intro p d k hx ht
    have n0 : M (t + 4 + q.toNat) 0 = p := hx.2 0 (by simp)
    have n1 : M (t + 4 + q.toNat) 1 = d := hx.2 1 (by simp)
    have n2 : M (t + 4 + q.toNat) 2 = k := hx.2 2 (by simp)
    have hk0 : M (t + 2) q = 6 := hx.1
    obtain ⟨g1, g2, g3, g4, g5⟩ := tFly_0 (show tFly v p d k = 0 from ht)
    have hkk : ((k.toNat : Nat) : Int) = k := by omega
    obtain ⟨M1, f1, f2, f3⟩ := f_glide (ad := ad) (d := d) (n := k.toNat) hS hR hI g1.1 g1.2 (by omega) g3 (by rw [hkk]; exact g4) (by rw [hkk]; exact g5)
    rw [hkk] at f1
    have hkm := kmN_b (n := k.toNat) hI.1 (hI.2.2.2.2.2.2 p g1.1 g1.2).f (by omega) (by rw [hkk]; exact g4) (by rw [hkk]; exact g5) k.toNat (Nat.le_refl _)
    refine ⟨M1, ?_, fun w hw => (show w = _ from hw) ▸ hR.set hI g1.1 g1.2 f2 hkm.1.2.1.1 f3, fun c hc => f3 c (by omega)⟩
    unfold fX9_carryOut
    rw [o_4 hT, t_n hT q0 q1, o_4 hT, t_k hT q0 q1, hk0, if_neg (by decide), if_neg (by decide), if_neg (by decide), if_neg (by decide), if_neg (by decide), if_neg (by decide), if_pos rfl, o_0 hO, t_g hT q0 q1 (by decide) (by decide), t_g hT q0 q1 (by decide) (by decide), t_g hT q0 q1 (by decide) (by decide), n0, n1, n2, f1, bd_s]
  · intro p k hx ht
    have n0 : M (t + 4 + q.toNat) 0 = p := hx.2 0 (by simp)
    have n1 : M (t + 4 + q.toNat) 1 = k := hx.2 1 (by simp)
    have hk0 : M (t + 2) q = 7 := hx.1
    obtain ⟨g1, g2, g3⟩ := tClimb_0 (show tClimb v p k = 0 from ht)
    obtain ⟨M1, f1, f2, f3⟩ := f_soar (ad := ad) hS hR hI g1.1 g1.2 g2.1 g2.2
    refine ⟨M1, ?_, fun w hw => (show w = _ from hw) ▸ hR.set hI g1.1 g1.2 f2 (by show 0 ≤ gl v p 1; omega) f3, fun c hc => f3 c (by omega)⟩
    unfold fX9_carryOut
    rw [o_4 hT, t_n hT q0 q1, o_4 hT, t_k hT q0 q1, hk0, if_neg (by decide), if_neg (by decide), if_neg (by decide), if_neg (by decide), if_neg (by decide), if_neg (by decide), if_neg (by decide), if_pos rfl, o_0 hO, t_g hT q0 q1 (by decide) (by decide), t_g hT q0 q1 (by decide) (by decide), n0, n1, f1, bd_s]
  · intro  hx ht
    have hk0 : M (t + 2) q = 8 := hx.1
    obtain ⟨M1, f1, f3, f2⟩ := f_close (ad := ad) hS hR hI hb
    refine ⟨M1, ?_, fun w hw => f2 w hw.1 hw.2.1 hw.2.2.1 (fun p k p0 p1 k0 k1 => by rw [hw.2.2.2 p k p0 k0 k1, if_pos p1]), fun c hc => f3 c (by omega)⟩
    unfold fX9_carryOut
    rw [o_4 hT, t_n hT q0 q1, o_4 hT, t_k hT q0 q1, hk0, if_neg (by decide), if_neg (by decide), if_neg (by decide), if_neg (by decide), if_neg (by decide), if_neg (by decide), if_neg (by decide), if_neg (by decide), o_0 hO, f1, bd_s]
theorem bd_id {α β : Type} {x : Option (α × β)} : (bd x fun q => some ((q.1, q.2))) = x := by cases x <;> rfl
end PCM
