/-! THE LAYER: memory of whole numbers and references over the heap; a judgement JJ over W with that memory in place of the heap -/
def iI (z : Int) : Int32 := Int32.ofInt z
def lI (z : Int) : Int64 := Int64.ofInt z
theorem iI_toInt {z : Int} (h : (-2147483648 ≤ z ∧ z < 2147483648)) : (iI z).toInt = z := by
  unfold iI; rw [Int32.toInt_ofInt]; have h8 : Int32.size = 4294967296 := rfl; exact Int.bmod_eq_of_le (by omega) (by omega)
theorem iI_self (x : Int32) : iI x.toInt = x := Int32.ofInt_toInt x
theorem iI_rng (x : Int32) : (-2147483648 ≤ x.toInt ∧ x.toInt < 2147483648) := ⟨Int32.le_toInt x, Int32.toInt_lt x⟩
theorem iI_add (x y : Int) : iI x + iI y = iI (x + y) := (Int32.ofInt_add x y).symm
theorem iI_sub (x y : Int) : iI x - iI y = iI (x - y) := (Int32.ofInt_sub x y).symm
theorem iI_mul (x y : Int) : iI x * iI y = iI (x * y) := (Int32.ofInt_mul x y).symm
theorem iI_neg (x : Int) : - iI x = iI (- x) := (Int32.ofInt_neg x).symm
theorem iI_eq {x y : Int} (hx : (-2147483648 ≤ x ∧ x < 2147483648)) (hy : (-2147483648 ≤ y ∧ y < 2147483648)) : iI x = iI y ↔ x = y := by
  rw [← Int32.toInt_inj, iI_toInt hx, iI_toInt hy]
theorem iI_lt {x y : Int} (hx : (-2147483648 ≤ x ∧ x < 2147483648)) (hy : (-2147483648 ≤ y ∧ y < 2147483648)) : iI x < iI y ↔ x < y := by
  rw [Int32.lt_iff_toInt_lt, iI_toInt hx, iI_toInt hy]
theorem iI_le {x y : Int} (hx : (-2147483648 ≤ x ∧ x < 2147483648)) (hy : (-2147483648 ≤ y ∧ y < 2147483648)) : iI x ≤ iI y ↔ x ≤ y := by
  rw [Int32.le_iff_toInt_le, iI_toInt hx, iI_toInt hy]
theorem iI_div {x y : Int} (hx : (-2147483648 ≤ x ∧ x < 2147483648)) (hy : (-2147483648 ≤ y ∧ y < 2147483648)) (h0 : 0 < y) : iI x / iI y = iI (Int.tdiv x y) := by
  rw [← Int32.toInt_inj, Int32.toInt_div, iI_toInt hx, iI_toInt hy]
  have h1 : Int.natAbs (Int.tdiv x y) ≤ Int.natAbs x := Int.natAbs_tdiv_le_natAbs x y
  have h3 : -2147483648 ≤ Int.tdiv x y ∧ Int.tdiv x y < 2147483648 := by
    rcases Int.le_total 0 x with h5 | h5
    · omega
    · have h6 : 0 ≤ Int.tdiv (-x) y := Int.tdiv_nonneg (by omega) (by omega)
      rw [Int.neg_tdiv] at h6
      omega
  rw [Int.bmod_eq_of_le (by omega) (by omega), iI_toInt h3]
theorem iI_rem {x y : Int} (hx : (-2147483648 ≤ x ∧ x < 2147483648)) (hy : (-2147483648 ≤ y ∧ y < 2147483648)) (h0 : 0 < y) : iI x - iI x / iI y * iI y = iI (Int.tmod x y) := by
  rw [iI_div hx hy h0, iI_mul, iI_sub]
  have h := Int.mul_tdiv_add_tmod x y
  have e : x - Int.tdiv x y * y = Int.tmod x y := by rw [Int.mul_comm]; omega
  rw [e]
theorem iI_clamp {z : Int} (h0 : 0 ≤ z) (h1 : z < 2147483648) : (iI z).toNatClampNeg = z.toNat := by
  show (iI z).toInt.toNat = z.toNat
  rw [iI_toInt ⟨by omega, h1⟩]
theorem iI_in {z : Int} {n : Nat} (h0 : 0 ≤ z) (h1 : z < n) (h2 : n < 2147483648) : vp_in (iI z) n := by
  rw [vp_in_iff, iI_toInt ⟨by omega, by omega⟩]; exact ⟨h0, h1⟩
theorem lI_toInt {z : Int} (h : (-9223372036854775808 ≤ z ∧ z < 9223372036854775808)) : (lI z).toInt = z := by
  unfold lI; rw [Int64.toInt_ofInt]; have h8 : Int64.size = 18446744073709551616 := rfl; exact Int.bmod_eq_of_le (by omega) (by omega)
theorem lI_add (x y : Int) : lI x + lI y = lI (x + y) := (Int64.ofInt_add x y).symm
theorem lI_eq {x y : Int} (hx : (-9223372036854775808 ≤ x ∧ x < 9223372036854775808)) (hy : (-9223372036854775808 ≤ y ∧ y < 9223372036854775808)) : lI x = lI y ↔ x = y := by
  rw [← Int64.toInt_inj, lI_toInt hx, lI_toInt hy]
theorem lI_lt {x y : Int} (hx : (-9223372036854775808 ≤ x ∧ x < 9223372036854775808)) (hy : (-9223372036854775808 ≤ y ∧ y < 9223372036854775808)) : lI x < lI y ↔ x < y := by
  rw [Int64.lt_iff_toInt_lt, lI_toInt hx, lI_toInt hy]
theorem iI_l {x : Int} (hx : (-2147483648 ≤ x ∧ x < 2147483648)) : (iI x).toInt64 = lI x := by
  rw [← Int64.toInt_inj, Int32.toInt_toInt64, iI_toInt hx, lI_toInt (by omega)]
theorem iI_lit (n : Nat) : (OfNat.ofNat n : Int32) = iI n := rfl
theorem iI_0 : (0 : Int32) = iI 0 := rfl
theorem jj_r0 : (-2147483648 ≤ (0 : Int) ∧ (0 : Int) < 2147483648) := ⟨by decide, by decide⟩
theorem jj_ne0 {y : Int} (hy : (-2147483648 ≤ y ∧ y < 2147483648)) (h0 : 0 < y) : ¬ iI y = 0 := by
  rw [iI_0, iI_eq hy jj_r0]; omega
theorem jj_i8 {z : Int} (h : -128 ≤ z ∧ z < 128) : (Int8.ofInt z).toInt32 = iI z := by
  rw [← Int32.toInt_inj, Int8.toInt_toInt32, iI_toInt (by omega), Int8.toInt_ofInt]
  have h8 : Int8.size = 256 := rfl
  exact Int.bmod_eq_of_le (by omega) (by omega)
theorem jj_i16 {z : Int} (h : -32768 ≤ z ∧ z < 32768) : (Int16.ofInt z).toInt32 = iI z := by
  rw [← Int32.toInt_inj, Int16.toInt_toInt32, iI_toInt (by omega), Int16.toInt_ofInt]
  have h8 : Int16.size = 65536 := rfl
  exact Int.bmod_eq_of_le (by omega) (by omega)
theorem jj_nI {z : Int} (h0 : 0 ≤ z) : iI z = nI z.toNat := by
  unfold iI nI
  rw [← Int32.toInt_inj, Int32.toInt_ofInt, show Int32.ofNat z.toNat = Int32.ofInt (z.toNat : Int) from rfl, Int32.toInt_ofInt, Int.toNat_of_nonneg h0]
/-! memory -/
abbrev gE : Type := (Nat → ClassId) × (Nat → Nat → Nat) × (Nat → ClassId) × Nat × (Nat → Nat)
abbrev gM : Type := Nat → Int → Int
abbrev gR : Type := Nat → Int → Option Nat
abbrev gP : Type := Option Value → Nat → (Nat → Nat) → (Nat → Nat) → gM → gR → Prop
abbrev gX : Type := String → Nat → (Nat → Nat) → (Nat → Nat) → gM → gR → Prop
/-- how a place holds: 0 int, 1 reference, 2 long, 3 an enum's constant by its number, 4 double, 5 char, 6 byte, 7 boolean -/
def gm_fty (kd k : Nat) : Nat := match kd with
  | 1 => if k = 0 then 1 else if k = 1 then 6 else if k = 3 then 7 else 0
  | 2 => if k = 0 then 1 else if k = 1 then 6 else if k = 2 then 7 else 0
  | 5 => if k < 3 then 1 else 0
  | 6 => if k = 4 then 0 else 1
  | 7 => if k = 2 then 0 else if k = 5 then 0 else 1
  | 8 => if k = 1 then 3 else if k = 8 then 2 else 0
  | 9 => if k = 0 then 1 else 0
  | 10 => if k = 0 then 1 else if k = 2 then 1 else if k = 3 then 1 else 0
  | 11 => if k = 4 then 0 else if k = 5 then 0 else 1
  | 12 => if k < 6 then 1 else if k = 6 then 7 else 0
  | 13 => if k = 0 then 1 else if k = 1 then 6 else if k = 3 then 7 else 0
  | 21 => 2
  | 23 => 6
  | 24 => 5
  | 25 => 1
  | 26 => 1
  | 27 => 1
  | 28 => 6
  | _ => 0
def gm_val (ad : Nat → Nat) (c : Nat) (z : Int) (r : Option Nat) : Value := match c with
  | 1 => va_rf r
  | 2 => .long (lI z)
  | 3 => if z < 0 then .null else .ref (ad z.toNat)
  | 4 => .double (lI z).toUInt64
  | _ => .int (iI z)
def gm_rng (c : Nat) (z : Int) : Prop := match c with
  | 0 => (-2147483648 ≤ z ∧ z < 2147483648)
  | 1 => True
  | 2 => (-9223372036854775808 ≤ z ∧ z < 9223372036854775808)
  | 3 => -1 ≤ z ∧ z < 9
  | 4 => (-9223372036854775808 ≤ z ∧ z < 9223372036854775808)
  | 5 => 0 ≤ z ∧ z < 65536
  | 6 => -128 ≤ z ∧ z < 128
  | _ => 0 ≤ z ∧ z ≤ 1
def gm_ty (kd : Nat) : FieldType := match kd with
  | 21 => .long
  | 23 => .byte
  | 24 => .char
  | 25 => .array .int
  | 26 => .object "GlidingContest$Glider"
  | 27 => .object "GlidingContest$State"
  | 28 => .byte
  | _ => .int
def gm_ro (kd : Nat) : Bool := kd == 1 || kd == 28 || kd == 29
/-- an object; of one that is read alone nothing is said that the start doesn't tell -/
def gm_ob (ro : Bool) (o : Nat) (cC : ClassId) (N : Nat) (iS : Nat → Nat) (H : Heap) (V : Nat → Value) : Prop :=
  ∃ cell : Cell, H[o]? = some cell ∧ cell.cls = cC ∧ (cell.vm ≠ .unknown ∧ cell.vm.isStatics = false ∧ (ro = false → cell.vm = .none)) ∧ ∀ k, k < N → cell.slots[iS k]? = some (V k)
theorem gm_ob.of {ro : Bool} {o : Nat} {cC : ClassId} {N : Nat} {iS : Nat → Nat} {H : Heap} {V : Nat → Value} (h : t_OB o cC N iS H V) : gm_ob ro o cC N iS H V := by
  obtain ⟨cell, q1, q2, q3, q4⟩ := h
  exact ⟨cell, q1, q2, ⟨(by rw [q3]; exact fun h => nomatch h), (by rw [q3]; rfl), fun _ => q3⟩, q4⟩
/-- a row that is read alone -/
def gm_ar (cA : ClassId) (ln : Nat) (f : Nat → Value) (a : Nat) (H : Heap) : Prop := ∃ cell : Cell, H[a]? = some cell ∧ cell.cls = cA ∧ (ln ≤ cell.slots.size ∧ cell.slots.size.toInt32 = Int32.ofNat ln ∧ ∀ j : Nat, j < ln → cell.slots[j]? = some (f j)) ∧ cell.vm ≠ .unknown ∧ cell.vm.isStatics = false
def gm_cell (G : gE) (kd ln : Nat) (f : Nat → Value) (a : Nat) (H : Heap) : Prop :=
  if kd < 20 then ∃ r : vw_C, vwCl[kd - 1]? = some r ∧ gm_ob (gm_ro kd) a (G.1 (kd - 1)) r.2.2 (G.2.1 (kd - 1)) H f else H[a]? = some (arrV (G.2.2.1 kd) ln f) ∨ (gm_ro kd = true ∧ gm_ar (G.2.2.1 kd) ln f a H)
def gm_f (G : gE) (S : Nat → Nat) (M : gM) (R : gR) (a : Nat) : Nat → Value := fun k => gm_val G.2.2.2.2 (gm_fty (S a) k) (M a (k : Int)) (R a (k : Int))
def Rep (G : gE) (sz : Nat) (S Ln : Nat → Nat) (M : gM) (R : gR) (H : Heap) : Prop :=
  H.size = sz ∧ ∀ a : Nat, S a ≠ 0 → a < sz ∧ (gm_ro (S a) = false → G.2.2.2.1 ≤ a) ∧ (∀ k : Nat, gm_rng (gm_fty (S a) k) (M a (k : Int))) ∧ Ln a < 2147483648 ∧ gm_cell G (S a) (Ln a) (gm_f G S M R a) a H
def us {α : Type} (f : Int → α) (k : Int) (z : α) : Int → α := fun j => if j = k then z else f j
def ua {α : Type} (M : Nat → α) (a : Nat) (f : α) : Nat → α := fun b => if b = a then f else M b
theorem us_s {α : Type} {f : Int → α} {k : Int} {z : α} : us f k z k = z := if_pos rfl
theorem us_n {α : Type} {f : Int → α} {k j : Int} {z : α} (h : j ≠ k) : us f k z j = f j := if_neg h
theorem ua_s {α : Type} {M : Nat → α} {a : Nat} {f : α} : ua M a f a = f := if_pos rfl
theorem ua_n {α : Type} {M : Nat → α} {a b : Nat} {f : α} (h : b ≠ a) : ua M a f b = M b := if_neg h
theorem ua_ua {α : Type} {M : Nat → α} {a : Nat} {f g : α} : ua (ua M a f) a g = ua M a g := by
  funext b; unfold ua; split <;> rfl
theorem us_us {α : Type} {f : Int → α} {k : Int} {y z : α} : us (us f k y) k z = us f k z := by
  funext b; unfold us; split <;> rfl
theorem us_self {α : Type} {f : Int → α} {k : Int} : us f k (f k) = f := by
  funext b; unfold us; split
  · rename_i h; rw [h]
  · rfl
theorem ua_self {α : Type} {M : Nat → α} {a : Nat} : ua M a (M a) = M := by
  funext b; unfold ua; split
  · rename_i h; rw [h]
  · rfl
theorem ua_selfs {α : Type} {M : Nat → Int → α} {a : Nat} {k : Int} : ua M a (us (M a) k (M a k)) = M := by
  rw [us_self, ua_self]
theorem gm_cell.kept {G : gE} {kd ln : Nat} {f : Nat → Value} {a : Nat} {H H1 : Heap} (h : gm_cell G kd ln f a H) (e : H1[a]? = H[a]?) : gm_cell G kd ln f a H1 := by
  unfold gm_cell at h ⊢
  split at h
  · rename_i hk
    rw [if_pos hk]
    obtain ⟨r, h1, cell, q, q2⟩ := h
    exact ⟨r, h1, cell, by rw [e]; exact q, q2⟩
  · rename_i hk
    rw [if_neg hk]
    rcases h with h | ⟨h0, cell, q, q2⟩
    · exact Or.inl (by rw [e]; exact h)
    · exact Or.inr ⟨h0, cell, by rw [e]; exact q, q2⟩
theorem Rep.lt {G : gE} {sz : Nat} {S Ln : Nat → Nat} {M : gM} {R : gR} {H : Heap} (h : Rep G sz S Ln M R H) {a : Nat} (ha : S a ≠ 0) : a < sz := (h.2 a ha).1
/-- a written place -/
theorem Rep.put {G : gE} {sz : Nat} {S Ln : Nat → Nat} {M : gM} {R : gR} {H H1 : Heap} (h : Rep G sz S Ln M R H) {a k : Nat} {z : Int} {r : Option Nat} (ha : S a ≠ 0) (e : H1.size = H.size) (o : ∀ q : Nat, q ≠ a → H1[q]? = H[q]?) (hz : gm_rng (gm_fty (S a) k) z)
    (hc : gm_cell G (S a) (Ln a) (updV (gm_f G S M R a) k (gm_val G.2.2.2.2 (gm_fty (S a) k) z r)) a H1) : Rep G sz S Ln (ua M a (us (M a) k z)) (ua R a (us (R a) k r)) H1 := by
  refine ⟨e.trans h.1, fun b hb => ?_⟩
  obtain ⟨h1, h2, h3, h5, h4⟩ := h.2 b hb
  by_cases hba : b = a
  · subst hba
    refine ⟨h1, h2, fun j => ?_, h5, ?_⟩
    · rw [ua_s]
      by_cases hj : j = k
      · subst hj; rw [us_s]; exact hz
      · rw [us_n (by omega)]; exact h3 j
    · have hf : gm_f G S (ua M b (us (M b) k z)) (ua R b (us (R b) k r)) b = updV (gm_f G S M R b) k (gm_val G.2.2.2.2 (gm_fty (S b) k) z r) := by
        funext j
        unfold gm_f updV
        rw [ua_s, ua_s]
        by_cases hj : j = k
        · subst hj; rw [us_s, us_s, if_pos rfl]
        · rw [us_n (by omega), us_n (by omega), if_neg hj]
      rw [hf]; exact hc
  · refine ⟨h1, h2, fun j => by rw [ua_n hba]; exact h3 j, h5, ?_⟩
    have hf : gm_f G S (ua M a (us (M a) k z)) (ua R a (us (R a) k r)) b = gm_f G S M R b := by
      funext j
      unfold gm_f
      rw [ua_n hba, ua_n hba]
    rw [hf]
    exact gm_cell.kept h4 (o b hba)
/-- a new cell -/
theorem Rep.new {G : gE} {sz : Nat} {S Ln : Nat → Nat} {M : gM} {R : gR} {H H1 : Heap} (h : Rep G sz S Ln M R H) {kd ln : Nat} {z : Int → Int} {r : Int → Option Nat} (hn : G.2.2.2.1 ≤ sz) (e : H1.size = sz + 1) (o : ∀ q : Nat, q < sz → H1[q]? = H[q]?) (hz : ∀ k : Nat, gm_rng (gm_fty kd k) (z k)) (hln : ln < 2147483648)
    (hc : gm_cell G kd ln (fun k => gm_val G.2.2.2.2 (gm_fty kd k) (z k) (r k)) sz H1) : Rep G (sz + 1) (ua S sz kd) (ua Ln sz ln) (ua M sz z) (ua R sz r) H1 := by
  refine ⟨e, fun b hb => ?_⟩
  by_cases hba : b = sz
  · subst hba
    refine ⟨Nat.lt_succ_self _, fun _ => hn, fun j => ?_, by rw [ua_s]; exact hln, ?_⟩
    · rw [ua_s, ua_s]; exact hz j
    · have hf : gm_f G (ua S b kd) (ua M b z) (ua R b r) b = (fun k : Nat => gm_val G.2.2.2.2 (gm_fty kd k) (z k) (r k)) := by
        funext j
        unfold gm_f
        rw [ua_s, ua_s, ua_s]
      rw [hf, ua_s, ua_s]; exact hc
  · rw [ua_n hba] at hb
    obtain ⟨h1, h2, h3, h5, h4⟩ := h.2 b hb
    rw [ua_n hba, ua_n hba, ua_n hba]
    refine ⟨by omega, h2, h3, h5, ?_⟩
    have hf : gm_f G (ua S sz kd) (ua M sz z) (ua R sz r) b = gm_f G S M R b := by
      funext j
      unfold gm_f
      rw [ua_n hba, ua_n hba, ua_n hba]
    rw [hf]
    exact gm_cell.kept h4 (o b h1)
/-! words and tables -/
def gW : List Cond := lw_tbl.filter goodWord
theorem gW_in {w : Cond} (i : Nat) (h : lw_tbl[i]? = some w) (hg : goodWord w = true) : w ∈ gW := List.mem_filter.mpr ⟨List.mem_of_getElem? h, hg⟩
theorem gW_all {ws : List Cond} (h : ws.all (fun w => decide (w ∈ lw_tbl) && goodWord w) = true) : ∀ w ∈ ws, w ∈ gW := by
  intro w hw
  have h1 := List.all_eq_true.mp h w hw
  simp only [Bool.and_eq_true, decide_eq_true_eq] at h1
  exact List.mem_filter.mpr h1
theorem gW_good : GoodIn gW gW := fun w hw => ⟨hw, good_of_word (List.mem_filter.mp hw).2⟩
theorem gW_cons {w : Cond} {ws : List Cond} (h : w ∈ gW) (h2 : GoodIn gW ws) : GoodIn gW (w :: ws) := by
  intro x hx
  rcases List.mem_cons.mp hx with rfl | hx
  · exact ⟨h, good_of_word (List.mem_filter.mp h).2⟩
  · exact h2 x hx
def gNk : Cond → Bool
  | .methodLinkNest .. => true
  | .castable .. => true
  | .declares _ => true
  | .privateMethod _ => true
  | _ => false
def gNW : List Cond := lw_tbl.filter gNk
theorem gNW_in {w : Cond} (i : Nat) (h : lw_tbl[i]? = some w) (hg : gNk w = true) : w ∈ gNW := List.mem_filter.mpr ⟨List.mem_of_getElem? h, hg⟩
theorem gNW_warm {w : Cond} (h : w ∈ gNW) {s U : State} (hW : s.WarmedH U.vm) (hZ : va_Nw w s) : va_Nw w U := by
  have h2 := (List.mem_filter.mp h).2
  cases w with
  | methodLinkNest a b c d => exact va_Nw.warmM hW hZ
  | castable a b => exact va_Nw.warmC hW hZ
  | declares a => exact va_Nw.warmD hW hZ
  | privateMethod a => exact va_tabs rfl (rfl : (s.setVm U.vm).vm = U.vm) (by rw [Cond.privateMethod_setVm hW.alike]; exact hZ)
  | _ => simp [gNk] at h2
theorem gNW_tab {w : Cond} (h : w ∈ gNW) : w.onTables = true := by
  have h2 := (List.mem_filter.mp h).2
  cases w <;> first | rfl | simp [gNk] at h2
def gTys (aC : Nat → ClassId) : List (ClassId × FieldType) := [(aC 20, .int), (aC 21, .long), (aC 22, .int), (aC 23, .byte), (aC 24, .char), (aC 25, .array .int), (aC 26, .object "GlidingContest$Glider"), (aC 27, .object "GlidingContest$State"), (aC 28, .byte)]
/-- the enums' constants: class, name, descriptor, number -/
def gEn : List (String × String × String × Nat) := [("GlidingContest$Phase", "WAITING", "LGlidingContest$Phase;", 0), ("GlidingContest$Phase", "FLYING", "LGlidingContest$Phase;", 1), ("GlidingContest$Phase", "LANDED", "LGlidingContest$Phase;", 2), ("GlidingContest$Phase", "FINISHED", "LGlidingContest$Phase;", 3), ("GlidingContest$Refusal", "NONE", "LGlidingContest$Refusal;", 4), ("GlidingContest$Refusal", "INDEX", "LGlidingContest$Refusal;", 5), ("GlidingContest$Refusal", "ARGUMENT", "LGlidingContest$Refusal;", 6), ("GlidingContest$Refusal", "STATE", "LGlidingContest$Refusal;", 7), ("GlidingContest$Refusal", "UNSUPPORTED", "LGlidingContest$Refusal;", 8)]
/-- the JDK's statics that are numbers (class, name, number); the two rows of digits lie at ad 10, ad 11 -/
def gSv : List (String × String × String × Value) := [("java/lang/String", "COMPACT_STRINGS", "Z", .int 1), ("java/lang/StringUTF16", "$assertionsDisabled", "Z", .int 1), ("java/lang/StringUTF16", "HI_BYTE_SHIFT", "I", .int 0), ("java/lang/StringUTF16", "LO_BYTE_SHIFT", "I", .int 8)]
/-- the String constants that are read: class, entry, text, number; the String lies at ad (16 + number), its bytes at ad (48 + number) -/
def gSt : List (String × Nat × String × Nat) := [("GlidingContest$Script", 50, "point N N", 0), ("GlidingContest$Script", 52, "task D", 1), ("GlidingContest$Script", 54, "thermal N N D", 2), ("GlidingContest$Script", 56, "area N N N N", 3), ("GlidingContest$Script", 58, "pilot N", 4), ("GlidingContest$Script", 60, "launch D", 5), ("GlidingContest$Script", 62, "fly D WN", 6), ("GlidingContest$Script", 64, "climb D N", 7), ("GlidingContest$Script", 66, "end", 8), ("GlidingContest$Script", 109, "nesw", 9), ("GlidingContest", 439, "m ", 10), ("GlidingContest", 444, " -", 11), ("GlidingContestLaw", 159, "launch ", 12), ("GlidingContestLaw", 167, ";", 13), ("GlidingContestLaw", 173, "climb ", 14), ("GlidingContestLaw", 175, " ", 15), ("GlidingContestLaw", 177, "fly ", 16), ("GlidingContestLaw", 179, " e", 17), ("GlidingContestLaw", 181, " s", 18), ("GlidingContestLaw", 183, ";end", 19), ("GlidingContestLaw", 185, "pilot ", 20)]
/-- the texts of the exceptions -/
def gTx : List (String × Nat × String) := [("GlidingContest", 403, "there is no such index"), ("GlidingContest", 408, "an argument is out of range"), ("GlidingContest", 413, "the present state does not allow the call"), ("GlidingContest", 418, "the call is not possible here"), ("GlidingContest", 90, "the day is not in its planning phase"), ("GlidingContest", 115, "the cloud base is out of range"), ("GlidingContest", 175, "there is no such turn point"), ("GlidingContest", 189, "the task has no such position"), ("GlidingContest", 423, "a coordinate is out of range"), ("GlidingContest", 206, "no thermal covers the position"), ("GlidingContest", 425, "there is no such pilot"), ("GlidingContest", 431, "the pilot is waiting"), ("GlidingContest", 433, "the pilot is in another phase"), ("GlidingContest", 294, "there is no such rank"), ("GlidingContest", 322, "the text buffer is full"), ("GlidingContest", 332, "the text is not a program"), ("GlidingContest", 351, "a command fails"), ("GlidingContest", 393, "no call can be undone"), ("GlidingContest", 398, "no state was saved")]
/-- the statics and constants of the start -/
def gZ (G : gE) (U : State) (H : Heap) : Prop :=
  (∀ q ∈ gEn, va_Z q.1 q.2.1 q.2.2.1 (.ref (G.2.2.2.2 q.2.2.2)) (fun q => G.2.2.2.1 ≤ q) U H) ∧ (∀ i j : Nat, i < 9 → j < 9 → G.2.2.2.2 i = G.2.2.2.2 j → i = j) ∧
  (∀ q ∈ gSv, va_Z q.1 q.2.1 q.2.2.1 q.2.2.2 (fun q => G.2.2.2.1 ≤ q) U H) ∧
  (va_Z "java/lang/Integer" "DigitOnes" "[B" (.ref (G.2.2.2.2 10)) (fun q => G.2.2.2.1 ≤ q) U H ∧ va_Z "java/lang/Integer" "DigitTens" "[B" (.ref (G.2.2.2.2 11)) (fun q => G.2.2.2.1 ≤ q) U H) ∧
  (∀ q ∈ gSt, vk_R q.1 q.2.1 q.2.2.1 (G.2.2.2.2 (16 + q.2.2.2)) U) ∧ (∀ q ∈ gTx, ∃ sa : Nat, vk_R q.1 q.2.1 q.2.2 sa U) ∧
  vx_Zq Bundle.tN "UNASSIGNED_STACK" Bundle.steD (fun q => G.2.2.2.1 ≤ q) U H ∧ vx_Zq Bundle.tN "SUPPRESSED_SENTINEL" Bundle.listD (fun q => G.2.2.2.1 ≤ q) U H ∧ va_Zq "jdk/internal/util/Preconditions" "SIOOBE_FORMATTER" "Ljava/util/function/BiFunction;" (fun q => G.2.2.2.1 ≤ q) U H
/-- exceptions: the first is none of the second -/
def gNc : List (String × String) := [("java/lang/IllegalArgumentException", "java/lang/IndexOutOfBoundsException"), ("java/lang/IllegalStateException", "java/lang/IllegalArgumentException"), ("java/lang/IllegalStateException", "java/lang/IndexOutOfBoundsException"), ("java/lang/UnsupportedOperationException", "java/lang/IllegalArgumentException"), ("java/lang/UnsupportedOperationException", "java/lang/IndexOutOfBoundsException"), ("java/lang/UnsupportedOperationException", "java/lang/IllegalStateException"), ("java/util/NoSuchElementException", "java/lang/IllegalArgumentException")]
/-- the class of the rows of rows of ints -/
def gAI (U : State) : Prop := ∃ (comp c : ClassId) (k : Class), U.vm.findClass (FieldType.array .int).toString = some comp ∧ (U.vm.classes.findIdx? fun (x : Class) => match x.kind with | .array component _ => component == comp | _ => false) = some c ∧ U.vm.classes[c]? = some k ∧ k.kind = .array comp (.array .int) ∧ U.vm.findClass ("[" ++ (FieldType.array .int).toString) = some c
theorem gAI.moved {u U : State} (hvm : u.vm.Alike U.vm) (h : gAI u) : gAI U := by
  obtain ⟨comp, c, k, h1, h2, h3, h4, h5⟩ := h
  obtain ⟨k', hk', he⟩ := hvm.2.2 _ _ h3
  have hi := (hvm.findIdx?_eq (fun (x : Class) => match x.kind with | .array component _ => component == comp | _ => false) (fun _ => rfl)).trans h2
  exact ⟨comp, c, k', by rw [hvm.findClass]; exact h1, hi, hk', by rw [he]; exact h4, by rw [hvm.findClass]; exact h5⟩
def gX2 (U : State) : Prop := (∀ q ∈ gNc, va_Nc q.1 q.2 U) ∧ va_AO "GlidingContest$Glider" U ∧ va_AO "GlidingContest$State" U ∧ gAI U
theorem gX2.moved {u U : State} (hvm : u.vm.Alike U.vm) (h : gX2 u) : gX2 U := ⟨fun q hq => va_Nc.moved hvm (h.1 q hq), va_AO.moved hvm h.2.1, va_AO.moved hvm h.2.2.1, gAI.moved hvm h.2.2.2⟩
/-- what every method of the claim may take of its start: the classes and arrays as the tables have them; the words that are no good words -/
def EV (G : gE) (U : State) : Prop := va_K (G.1, G.2.1) vwCl (gTys G.2.2.1) U ∧ ((∀ w ∈ gNW, va_Nw w U) ∧ gX2 U ∧ ArrOfT U (G.2.2.1 29) .int) ∧ gZ G U U.heap
theorem EV.call {G : gE} {U : State} (h : EV G U) (g : JFrame) (mk : MethodId) (a : Array Value) : EV G (U.calling g mk a) := by
  obtain ⟨h1, ⟨h2, h2n, h2a⟩, z1, z2, z3, ⟨z4, z5⟩, z6, z7, z8, z9, z10⟩ := h
  have hv : (U.calling g mk a).vm = U.vm := rfl
  have hal : U.vm.Alike (U.calling g mk a).vm := Vm.Alike.refl U.vm
  exact ⟨va_K.moved (u := U) hal h1, ⟨fun w hw => va_Nw.same (gNW_tab hw) hv.symm (h2 w hw), h2n.moved hal, arrOfT_moved hal h2a⟩, fun q hq => va_Z.moved hal (z1 q hq), z2, fun q hq => va_Z.moved hal (z3 q hq), ⟨va_Z.moved hal z4, va_Z.moved hal z5⟩, fun q hq => vk_R.same hv (z6 q hq),
    fun q hq => by obtain ⟨sa, hs⟩ := z7 q hq; exact ⟨sa, vk_R.same hv hs⟩, vx_Zq.moved hal z8, vx_Zq.moved hal z9, va_Zq.moved hal z10⟩
theorem EV.to {G : gE} {s U : State} {H : Heap} {locs : List Loc} (h : EV G s) (hS : va_S (fun q => G.2.2.2.1 ≤ q) s.heap H locs) (hU : U.heap = H) (hW : s.WarmedH U.vm) : EV G U := by
  obtain ⟨h1, ⟨h2, h2n, h2a⟩, z1, z2, z3, ⟨z4, z5⟩, z6, z7, z8, z9, z10⟩ := h
  have hal : s.vm.Alike U.vm := hW.alike
  have hk : ∀ a : Nat, a < s.heap.size → ¬ (G.2.2.2.1 ≤ a) → U.heap[a]? = s.heap[a]? := by rw [hU]; exact hS.2.1
  exact ⟨va_K.moved hal h1, ⟨fun w hw => gNW_warm hw hW (h2 w hw), h2n.moved hal, arrOfT_moved hal h2a⟩, fun q hq => (va_Z.moved hal (z1 q hq)).kept hk, z2, fun q hq => (va_Z.moved hal (z3 q hq)).kept hk, ⟨(va_Z.moved hal z4).kept hk, (va_Z.moved hal z5).kept hk⟩, fun q hq => vk_R.warm hW (z6 q hq),
    fun q hq => by obtain ⟨sa, hs⟩ := z7 q hq; exact ⟨sa, vk_R.warm hW hs⟩, (vx_Zq.moved hal z8).kept hk, (vx_Zq.moved hal z9).kept hk, (va_Zq.moved hal z10).kept hk⟩
abbrev gC : Type := Program × Launch × Env × Room × State × MethodId × Array Value × List Frame × Method × Code × (State → Prop)
def gQc (G : gE) (P : gP) : Array Value → State → Outcome → State → Prop := fun _ st o t =>
  (∃ (v : Option Value) (sz : Nat) (S Ln : Nat → Nat) (M : gM) (R : gR), o = .returned v ∧ P v sz S Ln M R ∧ Rep G sz S Ln M R t.heap) ∧ va_F (fun q => G.2.2.2.1 ≤ q) st t
def gXc (G : gE) (X : gX) : String → State → State → Prop := fun E st t =>
  (∃ (sz : Nat) (S Ln : Nat → Nat) (M : gM) (R : gR), X E sz S Ln M R ∧ Rep G sz S Ln M R t.heap) ∧ va_F (fun q => G.2.2.2.1 ≤ q) st t
def gPc (G : gE) (av : List Value) (sz : Nat) (S Ln : Nat → Nat) (M : gM) (R : gR) : Array Value → State → Prop := fun a U => a = av.toArray ∧ Rep G sz S Ln M R U.heap ∧ EV G U ∧ G.2.2.2.1 ≤ U.heap.size
theorem gPc_blind {G : gE} {av : List Value} {sz : Nat} {S Ln : Nat → Nat} {M : gM} {R : gR} : FrameBlind (gPc G av sz S Ln M R) := fun a U g mk h => ⟨h.1, h.2.1, h.2.2.1.call g mk a, h.2.2.2⟩
def gRm (fr mc ms : Nat) : Room := { frames := fr, cells := mc, slots := ms, locals := 64 * fr }
/-- the contract of a method: from this memory it returns so that P, or throws so that X; at most fr calls deep, mc cells of ms slots new -/
def Ct (l : Launch) (G : gE) (y : MethodName) (cc : ByteArray) (nL : Nat) (ret : Option FieldType) (fr mc ms : Nat) (av : List Value) (sz : Nat) (S Ln : Nat → Nat) (M : gM) (R : gR) (P : gP) (X : gX) : Prop :=
  vx_Met l y (.code y cc nL ret :: gW) (gRm fr mc ms) (gPc G av sz S Ln M R) (gQc G P) (gXc G X) mc ms (fun q => G.2.2.2.1 ≤ q)
def noX : gX := fun _ _ _ _ _ _ => False
theorem Ct.met {l : Launch} {G : gE} {y : MethodName} {cc : ByteArray} {nL : Nat} {ret : Option FieldType} {fr mc ms : Nat} {av : List Value} {sz : Nat} {S Ln : Nat → Nat} {M : gM} {R : gR} {P : gP} (h : Ct l G y cc nL ret fr mc ms av sz S Ln M R P noX) :
    Met l y (.code y cc nL ret :: gW) (gRm fr mc ms) (gPc G av sz S Ln M R) (gQc G P) mc ms (fun q => G.2.2.2.1 ≤ q) := by
  intro p e ha hc hk s m args below hf happ hP hK
  obtain ⟨n, o, h1, h2, h3, h4⟩ := h p e ha hc hk s m args below hf happ hP hK
  refine ⟨n, o, h1, h2, h3, ?_⟩
  rcases h4 with h4 | ⟨q, -, E, ce, L, ⟨⟨sz', S', Ln', M', R', hx, -⟩, -⟩, -⟩
  · exact h4
  · exact hx.elim
/-- a room that holds so much -/
def RmOK (Rm : Room) (fr mc ms : Nat) : Prop := fr ≤ Rm.frames ∧ mc ≤ Rm.cells ∧ ms ≤ Rm.slots ∧ 64 * fr ≤ Rm.locals
def OKC (G : gE) (C : gC) (own : String) (cc : ByteArray) (nL : Nat) (ret : Option FieldType) (fr mc ms : Nat) (P : gP) (X : gX) : Prop := match C with
  | (p, l, e, Rm, s, m, args, below, meth, c, Q) => p.tables.exec = Jvm.exec ∧ c.code = cc ∧ c.maxLocals = nL ∧ s.vm.findClass own = some m.cls ∧ (∀ w ∈ gW, w.before args s = true) ∧ EV G s ∧ meth.locks = false ∧ meth.sig.returnType = ret ∧ l.stackTraces = false ∧ RmOK Rm fr mc ms ∧ Q = vx_MQ below (gQc G P) (gXc G X) args s mc ms (fun q => G.2.2.2.1 ≤ q) ∧ (own ≠ "GlidingContestLaw" → ∀ x ∈ c.exceptionTable.toList, False) ∧ G.2.2.2.1 ≤ s.heap.size
def LV (C : gC) : Launch := C.2.1
def JJ (G : gE) (C : gC) (k n : Nat) (sz : Nat) (S Ln : Nat → Nat) (M : gM) (R : gR) (pc : Nat) (lv : List (Nat × Value)) (st : List Value) : Prop := match C with
  | (p, l, e, Rm, s, m, args, below, meth, c, Q) => ∀ (H : Heap) (locs : List Loc) (ls : Array Slot), Rep G sz S Ln M R H → va_S (fun q => G.2.2.2.1 ≤ q) s.heap H locs → lv_has ls c.maxLocals lv → W p l e Rm s m args below meth c H locs k n Q (F0 m pc ls st)
/-- on the way up: an exception of class E is thrown at pc -/
def JX (G : gE) (C : gC) (k n : Nat) (E : String) (sz : Nat) (S Ln : Nat → Nat) (M : gM) (R : gR) (pc : Nat) (lv : List (Nat × Value)) (st : List Value) : Prop := match C with
  | (p, l, e, Rm, s, m, args, below, meth, c, Q) => ∀ (H : Heap) (locs : List Loc) (ls : Array Slot) (q : Addr) (ce : Cell), Rep G sz S Ln M R H → va_S (fun q => G.2.2.2.1 ≤ q) s.heap H locs → lv_has ls c.maxLocals lv → H[q]? = some ce → ce.vm = .none → s.vm.findClass E = some ce.cls → vx_W p l e Rm s m args below meth c H locs k n Q (F0 m pc ls st) q
