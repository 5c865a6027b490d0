/-! PURE: the model's flights, climbs, launches, ends of days -/
section PMA
variable {ad S Ln : Nat → Nat} {R : gR} {M : gM} {m : Nat} {b : Int} {v u r : gV} {p : Int}
/-- a flight: what it throws -/
def tFly (v : gV) (p d n : Int) : Int := if 0 ≤ p ∧ p < v 4 then (if (0 ≤ d ∧ d ≤ 3) ∧ 1 ≤ n ∧ n ≤ 60 then (if gl v p 1 = 1 then (if (0 ≤ gl v p 2 + n * stX d ∧ gl v p 2 + n * stX d ≤ 60) ∧ 0 ≤ gl v p 3 + n * stY d ∧ gl v p 3 + n * stY d ≤ 60 then 0 else 4) else 3) else 2) else 1
theorem mul_st {n s : Int} (h0 : 0 ≤ n) (h1 : n ≤ 60) (hs : -1 ≤ s ∧ s ≤ 1) : -60 ≤ n * s ∧ n * s ≤ 60 := by
  have : s = -1 ∨ s = 0 ∨ s = 1 := by omega
  rcases this with e | e | e <;> subst e <;> omega
theorem thr_0 {M : gM} {m : Nat} {z : Int} : wr M m 5 (if (0 : Int) = 0 then 0 else z) = wr M m 5 0 := by rw [if_pos rfl]
theorem thr_1 {M : gM} {m : Nat} {z : Int} : wr M m 5 (if (1 : Int) = 0 then 0 else z) = wr M m 5 z := by rw [if_neg (by decide)]
theorem wr_wr {M : gM} {a : Nat} {k x y : Int} : wr (wr M a k x) a k y = wr M a k y := by
  funext c
  by_cases h : c = a
  · subst h; rw [wr_r, wr_r, wr_r, us_us]
  · rw [wr_a h, wr_a h, wr_a h]
/-- a climb: what it throws -/
def tClimb (v : gV) (p n : Int) : Int := if 0 ≤ p ∧ p < v 4 then (if 1 ≤ n ∧ n ≤ 30 then (if gl v p 1 = 1 then (if str v (gl v p 2) (gl v p 3) (v 2).toNat = 0 then 4 else 0) else 3) else 2) else 1
end PMA
