/-! THE DECOMPILER'S WORDS: methods as functions over the memory; their steps -/
def w32 (z : Int) : Int := (iI z).toInt
theorem w32_r (z : Int) : (-2147483648 ≤ w32 z ∧ w32 z < 2147483648) := iI_rng _
theorem iI_w32 (z : Int) : iI (w32 z) = iI z := iI_self _
theorem w32_id {z : Int} (h : (-2147483648 ≤ z ∧ z < 2147483648)) : w32 z = z := iI_toInt h
def w64 (z : Int) : Int := (lI z).toInt
theorem lI_self (x : Int64) : lI x.toInt = x := Int64.ofInt_toInt x
theorem w64_r (z : Int) : (-9223372036854775808 ≤ w64 z ∧ w64 z < 9223372036854775808) := ⟨Int64.le_toInt _, Int64.toInt_lt _⟩
theorem lI_w64 (z : Int) : lI (w64 z) = lI z := lI_self _
theorem w64_id {z : Int} (h : (-9223372036854775808 ≤ z ∧ z < 9223372036854775808)) : w64 z = z := lI_toInt h
def i_and (x y : Int) : Int := (iI x &&& iI y).toInt
def i_or (x y : Int) : Int := (iI x ||| iI y).toInt
def i_shl (x y : Int) : Int := (iI x <<< (iI y &&& 31)).toInt
def i_shr (x y : Int) : Int := (iI x >>> (iI y &&& 31)).toInt
def i_ushr (x y : Int) : Int := ((iI x).toUInt32 >>> ((iI y).toUInt32 &&& Int32.toUInt32 31)).toInt32.toInt
def i_i2c (x : Int) : Int := ((iI x).toUInt32 % 65536).toInt32.toInt
def i_i2b (x : Int) : Int := ((iI x).toInt8).toInt32.toInt
def i_lcmp (x y : Int) : Int := if x < y then -1 else if x = y then 0 else 1
def i_max (x y : Int) : Int := if x < y then y else x
def i_min (x y : Int) : Int := if y < x then y else x
def i_abs (x : Int) : Int := w32 (if 0 ≤ x then x else 0 - x)
def i_cpy (M : gM) (a b : Nat) (i0 i1 i2 : Int) : gM := ua M b (fun j => if i1 ≤ j ∧ j < i1 + i2 then M a (i0 + (j - i1)) else M b j)
theorem i_max_r {x y : Int} (hx : (-2147483648 ≤ x ∧ x < 2147483648)) (hy : (-2147483648 ≤ y ∧ y < 2147483648)) : (-2147483648 ≤ i_max x y ∧ i_max x y < 2147483648) := by unfold i_max; split <;> assumption
theorem i_min_r {x y : Int} (hx : (-2147483648 ≤ x ∧ x < 2147483648)) (hy : (-2147483648 ≤ y ∧ y < 2147483648)) : (-2147483648 ≤ i_min x y ∧ i_min x y < 2147483648) := by unfold i_min; split <;> assumption
theorem i_lcmp_r {x y : Int} : (-2147483648 ≤ i_lcmp x y ∧ i_lcmp x y < 2147483648) := by
  unfold i_lcmp
  split
  · decide
  · split <;> decide
theorem i_tdiv_r {x y : Int} (hx : (-2147483648 ≤ x ∧ x < 2147483648)) (h0 : 0 < y) : (-2147483648 ≤ Int.tdiv x y ∧ Int.tdiv x y < 2147483648) := by
  have h1 : Int.natAbs (Int.tdiv x y) ≤ Int.natAbs x := Int.natAbs_tdiv_le_natAbs x y
  rcases Int.le_total 0 x with h5 | h5
  · omega
  · have h6 : 0 ≤ Int.tdiv (-x) y := Int.tdiv_nonneg (by omega) (by omega)
    rw [Int.neg_tdiv] at h6
    omega
theorem i_tmod_r {x y : Int} (hx : (-2147483648 ≤ x ∧ x < 2147483648)) (hy : (-2147483648 ≤ y ∧ y < 2147483648)) (h0 : 0 < y) : (-2147483648 ≤ Int.tmod x y ∧ Int.tmod x y < 2147483648) := by
  have h1 := Int.tmod_lt_of_pos x h0
  rcases Int.le_total 0 x with h5 | h5
  · have := Int.tmod_nonneg y h5
    omega
  · have h6 : 0 ≤ Int.tmod (-x) y := Int.tmod_nonneg y (by omega)
    have h7 : Int.tmod (-x) y < y := Int.tmod_lt_of_pos (-x) h0
    rw [Int.neg_tmod] at h6 h7
    omega
theorem r_z {z : Int} (h : 0 ≤ z ∧ z ≤ 1) : (-2147483648 ≤ z ∧ z < 2147483648) := by omega
theorem r_c {z : Int} (h : 0 ≤ z ∧ z < 65536) : (-2147483648 ≤ z ∧ z < 2147483648) := by omega
theorem r_b {z : Int} (h : -128 ≤ z ∧ z < 128) : (-2147483648 ≤ z ∧ z < 2147483648) := by omega
theorem r_e {z : Int} (h : -1 ≤ z ∧ z < 9) (h0 : 0 ≤ z) : 0 ≤ z ∧ z < 9 := ⟨h0, h.2⟩
def gd {α : Type} (p : Prop) [Decidable p] (k : Option α) : Option α := if p then k else none
theorem gd_e {α : Type} {p : Prop} [Decidable p] {k : Option α} {r : α} (h : gd p k = some r) : p ∧ k = some r := by
  unfold gd at h
  split at h
  · exact ⟨by assumption, h⟩
  · cases h
theorem gd_t {α : Type} {p : Prop} [Decidable p] {k : Option α} (h : p) : gd p k = k := if_pos h
def rf {α : Type} (S : Nat → Nat) (o : Option Nat) (kd : Nat) (f : Nat → Option α) : Option α := match o with
  | none => none
  | some b => if S b = kd then f b else none
theorem rf_e {α : Type} {S : Nat → Nat} {o : Option Nat} {kd : Nat} {f : Nat → Option α} {r : α} (h : rf S o kd f = some r) : ∃ b, o = some b ∧ S b = kd ∧ f b = some r := by
  unfold rf at h
  split at h
  · cases h
  · split at h
    · exact ⟨_, rfl, by assumption, h⟩
    · cases h
theorem rf_s {α : Type} {S : Nat → Nat} {kd b : Nat} {f : Nat → Option α} (h : S b = kd) : rf S (some b) kd f = f b := if_pos h
def bd {α β : Type} (o : Option α) (f : α → Option β) : Option β := match o with
  | none => none
  | some a => f a
theorem bd_e {α β : Type} {o : Option α} {f : α → Option β} {r : β} (h : bd o f = some r) : ∃ q, o = some q ∧ f q = some r := by
  unfold bd at h
  split at h
  · cases h
  · exact ⟨_, rfl, h⟩
theorem bd_s {α β : Type} {a : α} {f : α → Option β} : bd (some a) f = f a := rfl
def lp {σ ρ : Type} (b : σ → Option (σ ⊕ ρ)) : Nat → σ → Option ρ
  | 0, _ => none
  | n + 1, s => match b s with
    | none => none
    | some (.inl t) => lp b n t
    | some (.inr r) => some r
theorem lp_inl {σ ρ : Type} {b : σ → Option (σ ⊕ ρ)} {n : Nat} {s t : σ} (h : b s = some (.inl t)) : lp b (n + 1) s = lp b n t := by
  show (match b s with | none => none | some (.inl t) => lp b n t | some (.inr r) => some r) = _
  rw [h]
theorem lp_inr {σ ρ : Type} {b : σ → Option (σ ⊕ ρ)} {n : Nat} {s : σ} {r : ρ} (h : b s = some (.inr r)) : lp b (n + 1) s = some r := by
  show (match b s with | none => none | some (.inl t) => lp b n t | some (.inr r) => some r) = _
  rw [h]
theorem lp_none {σ ρ : Type} {b : σ → Option (σ ⊕ ρ)} {n : Nat} {s : σ} (h : b s = none) : lp b (n + 1) s = none := by
  show (match b s with | none => none | some (.inl t) => lp b n t | some (.inr r) => some r) = _
  rw [h]
theorem lp_ind {σ α β : Type} {b : σ → Option (σ ⊕ (α ⊕ β))} {I J : σ → Prop} {IE KE : α → Prop} {KR : β → Prop}
    (step : ∀ s r, I s → b s = some r → (∀ t, r = .inl t → I t → J t) → (∀ a, r = .inr (.inl a) → IE a → KE a) → (∀ c, r = .inr (.inr c) → KR c) → J s) :
    ∀ (n : Nat) (s : σ) (q : α ⊕ β), lp b n s = some q → I s → (∀ a, q = .inl a → IE a → KE a) → (∀ c, q = .inr c → KR c) → J s := by
  intro n
  induction n with
  | zero => intro s q h; cases h
  | succ n ih =>
    intro s q h hI h1 h2
    cases hb : b s with
    | none => rw [lp_none hb] at h; cases h
    | some r =>
      cases r with
      | inl t =>
        rw [lp_inl hb] at h
        exact step s _ hI hb (fun t' ht hIt => by cases ht; exact ih _ q h hIt h1 h2) (fun a ha _ => by cases ha) (fun c hc => by cases hc)
      | inr w =>
        rw [lp_inr hb] at h
        cases h
        exact step s _ hI hb (fun t' ht hIt => by cases ht) (fun a ha hIa => by cases ha; exact h1 a rfl hIa) (fun c hc => by cases hc; exact h2 c rfl)
/-- a loop's run: an invariant and a measure -/
theorem lp_run {σ ρ : Type} {b : σ → Option (σ ⊕ ρ)} (I : σ → Prop) (m : σ → Nat) (Q : ρ → Prop) (step : ∀ s, I s → (∃ t, b s = some (.inl t) ∧ I t ∧ m t < m s) ∨ (∃ r, b s = some (.inr r) ∧ Q r)) :
    ∀ (n : Nat) (s : σ), I s → m s < n → ∃ r, lp b n s = some r ∧ Q r := by
  intro n
  induction n with
  | zero => intro s _ h; exact absurd h (Nat.not_lt_zero _)
  | succ n ih =>
    intro s hI hm
    rcases step s hI with ⟨t, h1, h2, h3⟩ | ⟨r, h1, h2⟩
    · obtain ⟨r, h4, h5⟩ := ih t h2 (by omega)
      exact ⟨r, by rw [lp_inl h1]; exact h4, h5⟩
    · exact ⟨r, by rw [lp_inr h1], h2⟩
def FU : Nat := 4294967296
theorem c_le {a b : Nat} (h : Nat.ble a b = true) : a ≤ b := Nat.le_of_ble_eq_true h
theorem OKC.tr {G : gE} {C : gC} {own : String} {cc : ByteArray} {nL : Nat} {ret : Option FieldType} {fr mc ms : Nat} {P : gP} {X : gX} (h : OKC G C own cc nL ret fr mc ms P X) : (LV C).stackTraces = false := by
  obtain ⟨p, l, e, Rm, s, m, args, below, meth, c, Q⟩ := C
  exact h.2.2.2.2.2.2.2.2.1
section JJG
variable {G : gE} {C : gC} {own : String} {cc : ByteArray} {nL : Nat} {ret : Option FieldType} {fr mc ms : Nat} {P : gP} {X : gX} {k n sz : Nat} {S Ln : Nat → Nat} {M : gM} {R : gR} {pc : Nat} {lv lv' : List (Nat × Value)} {st : List Value}
/-- the memory has ranges and the rest of the heap's size -/
theorem jg_hz (hC : OKC G C own cc nL ret fr mc ms P X) : True := trivial
theorem jg_I (hC : OKC G C own cc nL ret fr mc ms P X) {kd N index a : Nat} {CN : String} {T : u_T} {ty0 : Nat → FieldType} (hk : KF kd CN T N ty0) (i : Nat) {j : Int} (hj : (i : Int) = j) (hs : S a = kd) (hi : i < N) (hlk : Cond.fieldLink own index (T i).1 (T i).2.1 (T i).2.2.1 ∈ gW) (hf0 : gm_fty kd i = 0) (hdg : decode cc pc = .ok (.getfield index, 3))
    (kk : (-2147483648 ≤ M a j ∧ M a j < 2147483648) → JJ G C k n sz S Ln M R (pc + 3) lv (.int (iI (M a j)) :: st)) : JJ G C k n sz S Ln M R pc lv (.ref a :: st) := by subst hj; exact jj_getI hC hk i hs hi hlk hf0 hdg kk
theorem jg_Z (hC : OKC G C own cc nL ret fr mc ms P X) {kd N index a : Nat} {CN : String} {T : u_T} {ty0 : Nat → FieldType} (hk : KF kd CN T N ty0) (i : Nat) {j : Int} (hj : (i : Int) = j) (hs : S a = kd) (hi : i < N) (hlk : Cond.fieldLink own index (T i).1 (T i).2.1 (T i).2.2.1 ∈ gW) (hf0 : gm_fty kd i = 7) (hdg : decode cc pc = .ok (.getfield index, 3))
    (kk : 0 ≤ M a j ∧ M a j ≤ 1 → JJ G C k n sz S Ln M R (pc + 3) lv (.int (iI (M a j)) :: st)) : JJ G C k n sz S Ln M R pc lv (.ref a :: st) := by subst hj; exact jj_getZ hC hk i hs hi hlk hf0 hdg kk
theorem jg_L (hC : OKC G C own cc nL ret fr mc ms P X) {kd N index a : Nat} {CN : String} {T : u_T} {ty0 : Nat → FieldType} (hk : KF kd CN T N ty0) (i : Nat) {j : Int} (hj : (i : Int) = j) (hs : S a = kd) (hi : i < N) (hlk : Cond.fieldLink own index (T i).1 (T i).2.1 (T i).2.2.1 ∈ gW) (hf0 : gm_fty kd i = 2) (hdg : decode cc pc = .ok (.getfield index, 3))
    (kk : (-9223372036854775808 ≤ M a j ∧ M a j < 9223372036854775808) → JJ G C k n sz S Ln M R (pc + 3) lv (.long (lI (M a j)) :: st)) : JJ G C k n sz S Ln M R pc lv (.ref a :: st) := by subst hj; exact jj_getL hC hk i hs hi hlk hf0 hdg kk
theorem jg_R (hC : OKC G C own cc nL ret fr mc ms P X) {kd N index a b : Nat} {CN : String} {T : u_T} {ty0 : Nat → FieldType} (hk : KF kd CN T N ty0) (i : Nat) {j : Int} (hj : (i : Int) = j) (hs : S a = kd) (hi : i < N) (hlk : Cond.fieldLink own index (T i).1 (T i).2.1 (T i).2.2.1 ∈ gW) (hf0 : gm_fty kd i = 1) (hr : R a j = some b) (hdg : decode cc pc = .ok (.getfield index, 3))
    (kk : JJ G C k n sz S Ln M R (pc + 3) lv (.ref b :: st)) : JJ G C k n sz S Ln M R pc lv (.ref a :: st) := by subst hj; exact jj_getR hC hk i hs hi hlk hf0 hr hdg kk
theorem jg_E (hC : OKC G C own cc nL ret fr mc ms P X) {kd N index a : Nat} {CN : String} {T : u_T} {ty0 : Nat → FieldType} (hk : KF kd CN T N ty0) (i : Nat) {j : Int} (hj : (i : Int) = j) (hs : S a = kd) (hi : i < N) (hlk : Cond.fieldLink own index (T i).1 (T i).2.1 (T i).2.2.1 ∈ gW) (hf0 : gm_fty kd i = 3) (h0 : 0 ≤ M a j) (hdg : decode cc pc = .ok (.getfield index, 3))
    (kk : M a j < 9 → JJ G C k n sz S Ln M R (pc + 3) lv (.ref (G.2.2.2.2 (M a j).toNat) :: st)) : JJ G C k n sz S Ln M R pc lv (.ref a :: st) := by
  subst hj
  refine jj_rng (fun hr => ?_)
  have h9 := (hr a (by have := hk.1; omega)).1 i
  rw [hs, hf0] at h9
  refine jj_getE hC hk i hs hi hlk hf0 h0 hdg ?_
  exact kk
theorem jg_s (hC : OKC G C own cc nL ret fr mc ms P X) {index : Nat} (i : Nat) {E nm d : String} {z : Nat} {j : Int} (hj : (z : Int) = j) (hi : gEn[i]? = some (E, nm, d, z)) (hlk : Cond.fieldLink own index E nm d ∈ gW) (hdg : decode cc pc = .ok (.getstatic index, 3))
    (kk : JJ G C k n sz S Ln M R (pc + 3) lv (.ref (G.2.2.2.2 j.toNat) :: st)) : JJ G C k n sz S Ln M R pc lv st := by subst hj; exact jj_gets hC i hi hlk hdg kk
theorem jg_acmp_eq (hC : OKC G C own cc nL ret fr mc ms P X) {x y : Int} {off : Int} {tgt : Nat} (hd : decode cc pc = .ok (.if_acmp .eq off, 3)) (ht : (pc : Int) + off = (tgt : Int)) (hx : 0 ≤ x ∧ x < 9) (hy : 0 ≤ y ∧ y < 9) (kt : x = y → JJ G C k n sz S Ln M R tgt lv st) (kf : ¬ x = y → JJ G C k n sz S Ln M R (pc + 3) lv st) : JJ G C k n sz S Ln M R pc lv (.ref (G.2.2.2.2 y.toNat) :: .ref (G.2.2.2.2 x.toNat) :: st) :=
  jj_acmp_eq hC hd ht (fun h => kt (by have := jj_ad hC (by omega) (by omega) h; omega)) (fun h => kf (fun e => h (by rw [e])))
theorem jg_acmp_ne (hC : OKC G C own cc nL ret fr mc ms P X) {x y : Int} {off : Int} {tgt : Nat} (hd : decode cc pc = .ok (.if_acmp .ne off, 3)) (ht : (pc : Int) + off = (tgt : Int)) (hx : 0 ≤ x ∧ x < 9) (hy : 0 ≤ y ∧ y < 9) (kt : ¬ x = y → JJ G C k n sz S Ln M R tgt lv st) (kf : x = y → JJ G C k n sz S Ln M R (pc + 3) lv st) : JJ G C k n sz S Ln M R pc lv (.ref (G.2.2.2.2 y.toNat) :: .ref (G.2.2.2.2 x.toNat) :: st) :=
  jj_acmp_ne hC hd ht (fun h => kt (fun e => h (by rw [e]))) (fun h => kf (by have := jj_ad hC (by omega) (by omega) h; omega))
theorem jp_I (hC : OKC G C own cc nL ret fr mc ms P X) {kd N index a : Nat} {CN : String} {T : u_T} {ty0 : Nat → FieldType} (hk : KF kd CN T N ty0) (i : Nat) {j z : Int} (hj : (i : Int) = j) (hs : S a = kd) (hro : gm_ro kd = false) (hi : i < N) (hlk : Cond.fieldLink own index (T i).1 (T i).2.1 (T i).2.2.1 ∈ gW) (hfin : (T i).2.2.2 = false) (hd : ty0 i = .int) (hf0 : gm_fty kd i = 0) (hrz : (-2147483648 ≤ z ∧ z < 2147483648)) (hdg : decode cc pc = .ok (.putfield index, 3))
    (kk : JJ G C k n sz S Ln (ua M a (us (M a) j z)) R (pc + 3) lv st) : JJ G C k n sz S Ln M R pc lv (.int (iI z) :: .ref a :: st) := by subst hj; exact jj_putI hC hk i hs hro hi hlk hfin hd hf0 hrz hdg kk
theorem jp_Z (hC : OKC G C own cc nL ret fr mc ms P X) {kd N index a : Nat} {CN : String} {T : u_T} {ty0 : Nat → FieldType} (hk : KF kd CN T N ty0) (i : Nat) {j z : Int} (hj : (i : Int) = j) (hs : S a = kd) (hro : gm_ro kd = false) (hi : i < N) (hlk : Cond.fieldLink own index (T i).1 (T i).2.1 (T i).2.2.1 ∈ gW) (hfin : (T i).2.2.2 = false) (hd : ty0 i = .boolean) (hf0 : gm_fty kd i = 7) (hrz : 0 ≤ z ∧ z ≤ 1) (hdg : decode cc pc = .ok (.putfield index, 3))
    (kk : JJ G C k n sz S Ln (ua M a (us (M a) j z)) R (pc + 3) lv st) : JJ G C k n sz S Ln M R pc lv (.int (iI z) :: .ref a :: st) := by subst hj; exact jj_putZ hC hk i hs hro hi hlk hfin hd hf0 hrz hdg kk
theorem jp_L (hC : OKC G C own cc nL ret fr mc ms P X) {kd N index a : Nat} {CN : String} {T : u_T} {ty0 : Nat → FieldType} (hk : KF kd CN T N ty0) (i : Nat) {j z : Int} (hj : (i : Int) = j) (hs : S a = kd) (hro : gm_ro kd = false) (hi : i < N) (hlk : Cond.fieldLink own index (T i).1 (T i).2.1 (T i).2.2.1 ∈ gW) (hfin : (T i).2.2.2 = false) (hd : ty0 i = .long) (hf0 : gm_fty kd i = 2) (hrz : (-9223372036854775808 ≤ z ∧ z < 9223372036854775808)) (hdg : decode cc pc = .ok (.putfield index, 3))
    (kk : JJ G C k n sz S Ln (ua M a (us (M a) j z)) R (pc + 3) lv st) : JJ G C k n sz S Ln M R pc lv (.long (lI z) :: .ref a :: st) := by subst hj; exact jj_putL hC hk i hs hro hi hlk hfin hd hf0 hrz hdg kk
theorem jp_E (hC : OKC G C own cc nL ret fr mc ms P X) {kd N index a : Nat} {CN : String} {T : u_T} {ty0 : Nat → FieldType} (hk : KF kd CN T N ty0) (i : Nat) {j z : Int} (hj : (i : Int) = j) (hz9 : 0 ≤ z ∧ z < 9) (hs : S a = kd) (hro : gm_ro kd = false) (hi : i < N) (hlk : Cond.fieldLink own index (T i).1 (T i).2.1 (T i).2.2.1 ∈ gW) (hfin : (T i).2.2.2 = false) {ty : String} (hd : ty0 i = .object ty) (hf0 : gm_fty kd i = 3) (hdg : decode cc pc = .ok (.putfield index, 3))
    (kk : JJ G C k n sz S Ln (ua M a (us (M a) j z)) R (pc + 3) lv st) : JJ G C k n sz S Ln M R pc lv (.ref (G.2.2.2.2 z.toNat) :: .ref a :: st) := by
  subst hj
  refine jj_putE hC hk i z.toNat (by omega) hs hro hi hlk hfin hd rfl rfl hf0 rfl hdg ?_
  rw [Int.toNat_of_nonneg hz9.1]
  exact kk
theorem jg_iadd (hC : OKC G C own cc nL ret fr mc ms P X) {x y : Int} (hd : decode cc pc = .ok (.iadd, 1)) (kk : JJ G C k n sz S Ln M R (pc + 1) lv (.int (iI (w32 (x + y))) :: st)) : JJ G C k n sz S Ln M R pc lv (.int (iI y) :: .int (iI x) :: st) := jj_iadd hC hd (by rw [iI_w32] at kk; exact kk)
theorem jg_isub (hC : OKC G C own cc nL ret fr mc ms P X) {x y : Int} (hd : decode cc pc = .ok (.isub, 1)) (kk : JJ G C k n sz S Ln M R (pc + 1) lv (.int (iI (w32 (x - y))) :: st)) : JJ G C k n sz S Ln M R pc lv (.int (iI y) :: .int (iI x) :: st) := jj_isub hC hd (by rw [iI_w32] at kk; exact kk)
theorem jg_imul (hC : OKC G C own cc nL ret fr mc ms P X) {x y : Int} (hd : decode cc pc = .ok (.imul, 1)) (kk : JJ G C k n sz S Ln M R (pc + 1) lv (.int (iI (w32 (x * y))) :: st)) : JJ G C k n sz S Ln M R pc lv (.int (iI y) :: .int (iI x) :: st) := jj_imul hC hd (by rw [iI_w32] at kk; exact kk)
theorem jg_ineg (hC : OKC G C own cc nL ret fr mc ms P X) {x : Int} (hd : decode cc pc = .ok (.ineg, 1)) (kk : JJ G C k n sz S Ln M R (pc + 1) lv (.int (iI (w32 (-x))) :: st)) : JJ G C k n sz S Ln M R pc lv (.int (iI x) :: st) := jj_ineg hC hd (by rw [iI_w32] at kk; exact kk)
theorem jg_ladd (hC : OKC G C own cc nL ret fr mc ms P X) {x y : Int} (hd : decode cc pc = .ok (.ladd, 1)) (kk : JJ G C k n sz S Ln M R (pc + 1) lv (.long (lI (w64 (x + y))) :: st)) : JJ G C k n sz S Ln M R pc lv (.long (lI y) :: .long (lI x) :: st) := jj_ladd hC hd (by rw [lI_w64] at kk; exact kk)
theorem jg_iinc (hC : OKC G C own cc nL ret fr mc ms P X) {i q : Nat} {z x : Int} (hd : decode cc pc = .ok (.iinc i z, 3)) (hq : lv[q]? = some (i, .int (iI x))) (hn : i < nL) (hl2 : (i, Value.int (iI (w32 (x + z)))) :: lv.filter (fun q => !(q.1 == i) && !(q.1 + 1 == i && q.2.category == 2)) = lv') (kk : JJ G C k n sz S Ln M R (pc + 3) lv' st) : JJ G C k n sz S Ln M R pc lv st := jj_iinc hC hd hq hn (by rw [iI_w32] at hl2; exact hl2) kk
theorem jg_mabs (hC : OKC G C own cc nL ret fr mc ms P X) {index : Nat} {x : Int} (hrx : (-2147483648 ≤ x ∧ x < 2147483648)) (hlk : Cond.methodLink own index Lib.Math.abs.name ∈ gW) (hstt : Cond.static Lib.Math.abs.name ∈ gW) (hini : Cond.initialized "java/lang/Math" ∈ gW) (hco : Cond.code Lib.Math.abs.name Lib.Math.abs.code 1 (some .int) ∈ gW) (hfr : 1 ≤ fr) (hW : (st.map fun v => v.category).sum ≤ 8) (hk : k ≤ mc) (hn : n ≤ ms) (hd : decode cc pc = .ok (.invokestatic index, 3)) (kk : JJ G C k n sz S Ln M R (pc + 3) lv (.int (iI (i_abs x)) :: st)) : JJ G C k n sz S Ln M R pc lv (.int (iI x) :: st) := jj_mabs hC hrx hlk hstt hini hco hfr hW hk hn hd (by unfold i_abs at kk; rw [iI_w32] at kk; exact kk)
theorem jg_iand (hC : OKC G C own cc nL ret fr mc ms P X) {x y : Int} (hd : decode cc pc = .ok (.iand, 1)) (kk : JJ G C k n sz S Ln M R (pc + 1) lv (.int (iI (i_and x y)) :: st)) : JJ G C k n sz S Ln M R pc lv (.int (iI y) :: .int (iI x) :: st) := jj_iand hC hd (iI_self _).symm kk
theorem jg_ior (hC : OKC G C own cc nL ret fr mc ms P X) {x y : Int} (hd : decode cc pc = .ok (.ior, 1)) (kk : JJ G C k n sz S Ln M R (pc + 1) lv (.int (iI (i_or x y)) :: st)) : JJ G C k n sz S Ln M R pc lv (.int (iI y) :: .int (iI x) :: st) := jj_ior hC hd (iI_self _).symm kk
theorem jg_ishl (hC : OKC G C own cc nL ret fr mc ms P X) {x y : Int} (hd : decode cc pc = .ok (.ishl, 1)) (kk : JJ G C k n sz S Ln M R (pc + 1) lv (.int (iI (i_shl x y)) :: st)) : JJ G C k n sz S Ln M R pc lv (.int (iI y) :: .int (iI x) :: st) := jj_ishl hC hd (iI_self _).symm kk
theorem jg_ishr (hC : OKC G C own cc nL ret fr mc ms P X) {x y : Int} (hd : decode cc pc = .ok (.ishr, 1)) (kk : JJ G C k n sz S Ln M R (pc + 1) lv (.int (iI (i_shr x y)) :: st)) : JJ G C k n sz S Ln M R pc lv (.int (iI y) :: .int (iI x) :: st) := jj_ishr hC hd (iI_self _).symm kk
theorem jg_iushr (hC : OKC G C own cc nL ret fr mc ms P X) {x y : Int} (hd : decode cc pc = .ok (.iushr, 1)) (kk : JJ G C k n sz S Ln M R (pc + 1) lv (.int (iI (i_ushr x y)) :: st)) : JJ G C k n sz S Ln M R pc lv (.int (iI y) :: .int (iI x) :: st) := jj_iushr hC hd (iI_self _).symm kk
theorem jg_i2c (hC : OKC G C own cc nL ret fr mc ms P X) {x : Int} (hd : decode cc pc = .ok (.i2c, 1)) (kk : JJ G C k n sz S Ln M R (pc + 1) lv (.int (iI (i_i2c x)) :: st)) : JJ G C k n sz S Ln M R pc lv (.int (iI x) :: st) := jj_i2cS hC hd (iI_self _).symm kk
theorem jg_lcmp (hC : OKC G C own cc nL ret fr mc ms P X) {x y : Int} (hrx : (-9223372036854775808 ≤ x ∧ x < 9223372036854775808)) (hry : (-9223372036854775808 ≤ y ∧ y < 9223372036854775808)) (hd : decode cc pc = .ok (.lcmp, 1)) (kk : JJ G C k n sz S Ln M R (pc + 1) lv (.int (iI (i_lcmp x y)) :: st)) : JJ G C k n sz S Ln M R pc lv (.long (lI y) :: .long (lI x) :: st) := jj_lcmp hC hd hrx hry kk
end JJG
def wr (M : gM) (a : Nat) (i z : Int) : gM := ua M a (us (M a) i z)
def nam {α β : Type} (x : α) (f : α → Option β) : Option β := f x
theorem nam_e {α β : Type} {x : α} {f : α → Option β} {r : β} (h : nam x f = some r) : ∃ q, x = q ∧ f q = some r := ⟨x, rfl, h⟩
theorem jj_M {G : gE} {C : gC} {k n sz : Nat} {S Ln : Nat → Nat} {M M5 : gM} {R : gR} {pc : Nat} {lv : List (Nat × Value)} {st : List Value} (hM : M = M5) (kk : JJ G C k n sz S Ln M5 R pc lv st) : JJ G C k n sz S Ln M R pc lv st := by rw [hM]; exact kk
theorem r_il {z : Int} (h : (-2147483648 ≤ z ∧ z < 2147483648)) : (-9223372036854775808 ≤ z ∧ z < 9223372036854775808) := by omega
theorem r_ln {z : Nat} (h : (z : Int) < 2147483648) : (-2147483648 ≤ (z : Int) ∧ (z : Int) < 2147483648) := by omega
theorem i_i2c_r (x : Int) : 0 ≤ i_i2c x ∧ i_i2c x < 65536 := by
  unfold i_i2c
  rw [pk_char]
  generalize hq : (iI x).toBitVec.toNat % 65536 = q
  have hlt : q < 65536 := by rw [← hq]; exact Nat.mod_lt _ (by decide)
  have e : nI q = iI (q : Int) := by rw [jj_nI (by omega)]; rfl
  rw [e, iI_toInt ⟨by omega, by omega⟩]
  omega
abbrev poI (q : Int) (sz : Nat) (S Ln : Nat → Nat) (M : gM) (R : gR) : gP := fun v sz' S' Ln' M' R' => v = some (.int (iI q)) ∧ (-2147483648 ≤ q ∧ q < 2147483648) ∧ sz' = sz ∧ S' = S ∧ Ln' = Ln ∧ M' = M ∧ R' = R
abbrev poZ (q : Int) (sz : Nat) (S Ln : Nat → Nat) (M : gM) (R : gR) : gP := fun v sz' S' Ln' M' R' => v = some (.int (iI q)) ∧ (0 ≤ q ∧ q ≤ 1) ∧ sz' = sz ∧ S' = S ∧ Ln' = Ln ∧ M' = M ∧ R' = R
abbrev poC (q : Int) (sz : Nat) (S Ln : Nat → Nat) (M : gM) (R : gR) : gP := fun v sz' S' Ln' M' R' => v = some (.int (iI q)) ∧ (0 ≤ q ∧ q < 65536) ∧ sz' = sz ∧ S' = S ∧ Ln' = Ln ∧ M' = M ∧ R' = R
abbrev poL (q : Int) (sz : Nat) (S Ln : Nat → Nat) (M : gM) (R : gR) : gP := fun v sz' S' Ln' M' R' => v = some (.long (lI q)) ∧ (-9223372036854775808 ≤ q ∧ q < 9223372036854775808) ∧ sz' = sz ∧ S' = S ∧ Ln' = Ln ∧ M' = M ∧ R' = R
abbrev poE (G : gE) (q : Int) (sz : Nat) (S Ln : Nat → Nat) (M : gM) (R : gR) : gP := fun v sz' S' Ln' M' R' => v = some (.ref (G.2.2.2.2 q.toNat)) ∧ (0 ≤ q ∧ q < 9) ∧ sz' = sz ∧ S' = S ∧ Ln' = Ln ∧ M' = M ∧ R' = R
abbrev poA (kd : Nat) (q : Nat) (sz : Nat) (S Ln : Nat → Nat) (M : gM) (R : gR) : gP := fun v sz' S' Ln' M' R' => v = some (.ref q) ∧ S q = kd ∧ sz' = sz ∧ S' = S ∧ Ln' = Ln ∧ M' = M ∧ R' = R
abbrev poF (q : UInt32) (sz : Nat) (S Ln : Nat → Nat) (M : gM) (R : gR) : gP := fun v sz' S' Ln' M' R' => v = some (.float q) ∧ True ∧ sz' = sz ∧ S' = S ∧ Ln' = Ln ∧ M' = M ∧ R' = R
abbrev poD (q : UInt64) (sz : Nat) (S Ln : Nat → Nat) (M : gM) (R : gR) : gP := fun v sz' S' Ln' M' R' => v = some (.double q) ∧ True ∧ sz' = sz ∧ S' = S ∧ Ln' = Ln ∧ M' = M ∧ R' = R
abbrev poV (sz : Nat) (S Ln : Nat → Nat) (M : gM) (R : gR) : gP := fun v sz' S' Ln' M' R' => v = none ∧ True ∧ sz' = sz ∧ S' = S ∧ Ln' = Ln ∧ M' = M ∧ R' = R
abbrev poS {α β : Type} (r : α ⊕ β) (f : α → gP) : gP := fun v sz' S' Ln' M' R' => ∃ a, r = .inl a ∧ f a v sz' S' Ln' M' R'
abbrev xoS {α β : Type} (r : α ⊕ β) (f : β → gX) : gX := fun E sz' S' Ln' M' R' => ∃ a, r = .inr a ∧ f a E sz' S' Ln' M' R'
abbrev xo (E0 : String) (S Ln : Nat → Nat) (M : gM) (R : gR) : gX := fun E sz' S' Ln' M' R' => E = E0 ∧ S' = S ∧ Ln' = Ln ∧ M' = M ∧ R' = R
theorem el_l {α β γ : Type} {f : α → Option γ} {g : β → Option γ} {a : α} {r : γ} (h : Sum.elim f g (.inl a) = some r) : f a = some r := h
theorem el_r {α β γ : Type} {f : α → Option γ} {g : β → Option γ} {a : β} {r : γ} (h : Sum.elim f g (.inr a) = some r) : g a = some r := h
theorem noXk {G : gE} {C : gC} {k n : Nat} {pc : Nat} {lv : List (Nat × Value)} {st : List Value} : ∀ E sz S Ln M R, noX E sz S Ln M R → JX G C k n E sz S Ln M R pc lv st := fun _ _ _ _ _ _ h => h.elim
section POK
variable {G : gE} {C : gC} {k n sz : Nat} {S Ln : Nat → Nat} {M : gM} {R : gR} {pc : Nat} {lv : List (Nat × Value)} {st : List Value}
theorem po_kI {q : Int} (h : (-2147483648 ≤ q ∧ q < 2147483648) → JJ G C k n sz S Ln M R pc lv (.int (iI q) :: st)) : ∀ v sz' S' Ln' M' R', poI q sz S Ln M R v sz' S' Ln' M' R' → JJ G C k n sz' S' Ln' M' R' pc lv (v.toList ++ st) := by
  rintro v sz' S' Ln' M' R' ⟨h1, h2, h3, h4, h5, h6, h7⟩; subst h1; rw [h3, h4, h5, h6, h7]; exact h h2
theorem po_kZ {q : Int} (h : (0 ≤ q ∧ q ≤ 1) → JJ G C k n sz S Ln M R pc lv (.int (iI q) :: st)) : ∀ v sz' S' Ln' M' R', poZ q sz S Ln M R v sz' S' Ln' M' R' → JJ G C k n sz' S' Ln' M' R' pc lv (v.toList ++ st) := by
  rintro v sz' S' Ln' M' R' ⟨h1, h2, h3, h4, h5, h6, h7⟩; subst h1; rw [h3, h4, h5, h6, h7]; exact h h2
theorem po_kC {q : Int} (h : (0 ≤ q ∧ q < 65536) → JJ G C k n sz S Ln M R pc lv (.int (iI q) :: st)) : ∀ v sz' S' Ln' M' R', poC q sz S Ln M R v sz' S' Ln' M' R' → JJ G C k n sz' S' Ln' M' R' pc lv (v.toList ++ st) := by
  rintro v sz' S' Ln' M' R' ⟨h1, h2, h3, h4, h5, h6, h7⟩; subst h1; rw [h3, h4, h5, h6, h7]; exact h h2
theorem po_kL {q : Int} (h : (-9223372036854775808 ≤ q ∧ q < 9223372036854775808) → JJ G C k n sz S Ln M R pc lv (.long (lI q) :: st)) : ∀ v sz' S' Ln' M' R', poL q sz S Ln M R v sz' S' Ln' M' R' → JJ G C k n sz' S' Ln' M' R' pc lv (v.toList ++ st) := by
  rintro v sz' S' Ln' M' R' ⟨h1, h2, h3, h4, h5, h6, h7⟩; subst h1; rw [h3, h4, h5, h6, h7]; exact h h2
theorem po_kE {q : Int} (h : (0 ≤ q ∧ q < 9) → JJ G C k n sz S Ln M R pc lv (.ref (G.2.2.2.2 q.toNat) :: st)) : ∀ v sz' S' Ln' M' R', poE G q sz S Ln M R v sz' S' Ln' M' R' → JJ G C k n sz' S' Ln' M' R' pc lv (v.toList ++ st) := by
  rintro v sz' S' Ln' M' R' ⟨h1, h2, h3, h4, h5, h6, h7⟩; subst h1; rw [h3, h4, h5, h6, h7]; exact h h2
theorem po_kA {kd q : Nat} (h : S q = kd → JJ G C k n sz S Ln M R pc lv (.ref q :: st)) : ∀ v sz' S' Ln' M' R', poA kd q sz S Ln M R v sz' S' Ln' M' R' → JJ G C k n sz' S' Ln' M' R' pc lv (v.toList ++ st) := by
  rintro v sz' S' Ln' M' R' ⟨h1, h2, h3, h4, h5, h6, h7⟩; subst h1; rw [h3, h4, h5, h6, h7]; exact h h2
theorem po_kF {q : UInt32} (h : JJ G C k n sz S Ln M R pc lv (.float q :: st)) : ∀ v sz' S' Ln' M' R', poF q sz S Ln M R v sz' S' Ln' M' R' → JJ G C k n sz' S' Ln' M' R' pc lv (v.toList ++ st) := by
  rintro v sz' S' Ln' M' R' ⟨h1, h2, h3, h4, h5, h6, h7⟩; subst h1; rw [h3, h4, h5, h6, h7]; exact h
theorem po_kD {q : UInt64} (h : JJ G C k n sz S Ln M R pc lv (.double q :: st)) : ∀ v sz' S' Ln' M' R', poD q sz S Ln M R v sz' S' Ln' M' R' → JJ G C k n sz' S' Ln' M' R' pc lv (v.toList ++ st) := by
  rintro v sz' S' Ln' M' R' ⟨h1, h2, h3, h4, h5, h6, h7⟩; subst h1; rw [h3, h4, h5, h6, h7]; exact h
theorem po_kV (h : JJ G C k n sz S Ln M R pc lv st) : ∀ v sz' S' Ln' M' R', poV sz S Ln M R v sz' S' Ln' M' R' → JJ G C k n sz' S' Ln' M' R' pc lv (v.toList ++ st) := by
  rintro v sz' S' Ln' M' R' ⟨h1, h2, h3, h4, h5, h6, h7⟩; subst h1; rw [h3, h4, h5, h6, h7]; exact h
theorem poS_k {α β : Type} {r : α ⊕ β} {f : α → gP} (h : ∀ a, r = .inl a → ∀ v sz S Ln M R, f a v sz S Ln M R → JJ G C k n sz S Ln M R pc lv (v.toList ++ st)) : ∀ v sz' S' Ln' M' R', poS r f v sz' S' Ln' M' R' → JJ G C k n sz' S' Ln' M' R' pc lv (v.toList ++ st) := by
  rintro v sz' S' Ln' M' R' ⟨a, h1, h2⟩; exact h a h1 v sz' S' Ln' M' R' h2
end POK
