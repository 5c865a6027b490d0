/-! PURE: what is put on the map, in the model -/
section PMP
variable {ad S Ln : Nat → Nat} {R : gR} {M : gM} {m : Nat} {b : Int} {v : gV}
def tPt (v : gV) (x y : Int) : Int := if (0 ≤ x ∧ x ≤ 60) ∧ 0 ≤ y ∧ y ≤ 60 then (if v 0 = 8 then 2 else 0) else 1
/-- a stop: what it throws -/
noncomputable def tSt (v : gV) (i : Int) : Int := if 0 ≤ i ∧ i < v 0 then (if bI (pln v) = 1 ∧ v 1 ≠ 6 then (if 0 < v 1 ∧ apt v (v (22 + v 1)) i = 0 then 3 else 0) else 2) else 1
noncomputable def tDr (v : gV) : Int := 1 - bI (pln v)
def tTh (v : gV) (x y s : Int) : Int := if ((0 ≤ x ∧ x ≤ 60) ∧ 0 ≤ y ∧ y ≤ 60) ∧ 1 ≤ s ∧ s ≤ 5 then (if v 2 = 6 then 2 else 0) else 1
def tBa (z : Int) : Int := if 500 ≤ z ∧ z ≤ 3000 then 0 else 1
def tAr (v : gV) (x y X Y : Int) : Int := if ((0 ≤ x ∧ x ≤ 60) ∧ 0 ≤ y ∧ y ≤ 60) ∧ (x ≤ X ∧ X ≤ 60) ∧ y ≤ Y ∧ Y ≤ 60 then (if v 3 = 3 then 2 else 0) else 1
def tPl (v : gV) (r : Int) : Int := if 20 ≤ r ∧ r ≤ 60 then (if v 4 = 6 then 2 else 0) else 1
end PMP
