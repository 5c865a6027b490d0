/-! PURE: reading and writing the memory; loops; whole numbers -/
theorem nam_d {α β : Type} {x : α} {f : α → Option β} : nam x f = f x := rfl
theorem wr_r {M : gM} {a : Nat} {k v : Int} : wr M a k v a = us (M a) k v := ua_s
theorem wr_s {M : gM} {a : Nat} {k v : Int} : wr M a k v a k = v := by rw [wr_r, us_s]
theorem wr_k {M : gM} {a : Nat} {k j v : Int} (h : j ≠ k) : wr M a k v a j = M a j := by rw [wr_r, us_n h]
theorem wr_a {M : gM} {a b : Nat} {k v : Int} (h : b ≠ a) : wr M a k v b = M b := ua_n h
theorem cpy_s {M : gM} {a b : Nat} {n j : Int} (h0 : 0 ≤ j) (h1 : j < n) : i_cpy M a b 0 0 n b j = M a j := by
  unfold i_cpy
  rw [ua_s, if_pos ⟨h0, by omega⟩]
  congr 1
  omega
theorem cpy_a {M : gM} {a b c : Nat} {n : Int} (h : c ≠ b) : i_cpy M a b 0 0 n c = M c := ua_n h
theorem w32_i {z : Int} (h0 : -2147483648 ≤ z) (h1 : z < 2147483648) : w32 z = z := w32_id ⟨h0, h1⟩
theorem w64_i {z : Int} (h0 : -9223372036854775808 ≤ z) (h1 : z < 9223372036854775808) : w64 z = z := w64_id ⟨h0, h1⟩
def ab (x : Int) : Int := if 0 ≤ x then x else -x
theorem abs_i {x : Int} (h0 : -2147483647 ≤ x) (h1 : x < 2147483648) : i_abs x = ab x := by
  unfold i_abs ab
  split
  · exact w32_i (by omega) h1
  · rw [w32_i (by omega) (by omega)]; omega
theorem ab_0 {x : Int} : 0 ≤ ab x := by unfold ab; split <;> omega
theorem ab_z {x : Int} : ab x = 0 ↔ x = 0 := by unfold ab; split <;> omega
theorem ab_le {x b : Int} (h0 : -b ≤ x) (h1 : x ≤ b) : ab x ≤ b := by unfold ab; split <;> omega
theorem ab_n {x y : Int} : ab (x - y) = ab (y - x) := by unfold ab; split <;> split <;> omega
/-- a truth as a number -/
noncomputable def bI (p : Prop) : Int := @ite Int p (Classical.propDecidable p) 1 0
theorem bI_t {p : Prop} (h : p) : bI p = 1 := @if_pos p (Classical.propDecidable p) h Int 1 0
theorem bI_f {p : Prop} (h : ¬ p) : bI p = 0 := @if_neg p (Classical.propDecidable p) h Int 1 0
theorem bI_0 {p : Prop} : bI p = 0 ↔ ¬ p := ⟨fun h hp => absurd ((bI_t hp).symm.trans h) (by decide), bI_f⟩
theorem bI_1 {p : Prop} : bI p = 1 ↔ p := ⟨fun h => Classical.byContradiction fun hp => absurd ((bI_f hp).symm.trans h) (by decide), bI_t⟩
theorem bI_c {p q : Prop} (h : p ↔ q) : bI p = bI q := by rw [propext h]
theorem bI_r (p : Prop) : 0 ≤ bI p ∧ bI p ≤ 1 := by
  by_cases h : p
  · rw [bI_t h]; decide
  · rw [bI_f h]; decide
theorem bd_o {α β : Type} {o : Option α} {a : α} {f : α → Option β} (h : o = some a) : bd o f = f a := by rw [h]; rfl
theorem rf_o {α : Type} {S : Nat → Nat} {o : Option Nat} {b kd : Nat} {f : Nat → Option α} (h : o = some b) (hs : S b = kd) : rf S o kd f = f b := by rw [h]; exact rf_s hs
theorem se_l {α β γ : Type} {f : α → Option γ} {g : β → Option γ} {a : α} : Sum.elim f g (.inl a) = f a := rfl
theorem se_r {α β γ : Type} {f : α → Option γ} {g : β → Option γ} {a : β} : Sum.elim f g (.inr a) = g a := rfl
theorem fu_lt {n : Nat} (h : n ≤ 1000000) : n < FU := by unfold FU; omega
/-- a loop that counts from i up to n, its other state a function of the count -/
theorem lp_up {σ ρ : Type} {b : σ → Option (σ ⊕ ρ)} {n : Nat} (g : Nat → σ) {r : ρ} (hs : ∀ i, i < n → b (g i) = some (.inl (g (i + 1)))) (he : b (g n) = some (.inr r)) :
    ∀ (k i : Nat), i ≤ n → n - i < k → lp b k (g i) = some r := by
  intro k
  induction k with
  | zero => intro i _ h; omega
  | succ k ih =>
    intro i h1 h2
    by_cases h : i = n
    · subst h; exact lp_inr he
    · rw [lp_inl (hs i (by omega))]
      exact ih (i + 1) (by omega) (by omega)
theorem lp_up0 {σ ρ : Type} {b : σ → Option (σ ⊕ ρ)} (n : Nat) (g : Nat → σ) {r : ρ} {s : σ} (h0 : s = g 0) (hn : n ≤ 1000000) (hs : ∀ i, i < n → b (g i) = some (.inl (g (i + 1)))) (he : b (g n) = some (.inr r)) : lp b FU s = some r := by
  rw [h0]
  exact lp_up g hs he FU 0 (Nat.zero_le _) (fu_lt (by omega))
/-- a loop that may end early -/
theorem lp_ear {σ ρ : Type} {b : σ → Option (σ ⊕ ρ)} {n : Nat} (g : Nat → σ) (Q : ρ → Prop) (hs : ∀ i, i < n → b (g i) = some (.inl (g (i + 1))) ∨ ∃ r, b (g i) = some (.inr r) ∧ Q r) (he : ∃ r, b (g n) = some (.inr r) ∧ Q r) :
    ∀ (k i : Nat), i ≤ n → n - i < k → ∃ r, lp b k (g i) = some r ∧ Q r := by
  intro k
  induction k with
  | zero => intro i _ h; omega
  | succ k ih =>
    intro i h1 h2
    by_cases h : i = n
    · subst h
      obtain ⟨r, e1, e2⟩ := he
      exact ⟨r, lp_inr e1, e2⟩
    · rcases hs i (by omega) with e | ⟨r, e1, e2⟩
      · rw [lp_inl e]
        exact ih (i + 1) (by omega) (by omega)
      · exact ⟨r, lp_inr e1, e2⟩
/-- a loop with an invariant at each count; its state is some value that holds it -/
theorem lp_inv {σ ρ : Type} {b : σ → Option (σ ⊕ ρ)} {n : Nat} (I : Nat → σ → Prop) (Q : ρ → Prop) (hs : ∀ i s, i < n → I i s → (∃ t, b s = some (.inl t) ∧ I (i + 1) t) ∨ ∃ r, b s = some (.inr r) ∧ Q r) (he : ∀ s, I n s → ∃ r, b s = some (.inr r) ∧ Q r) :
    ∀ (k i : Nat) (s : σ), i ≤ n → n - i < k → I i s → ∃ r, lp b k s = some r ∧ Q r := by
  intro k
  induction k with
  | zero => intro i _ _ h; omega
  | succ k ih =>
    intro i s h1 h2 hI
    by_cases h : i = n
    · subst h
      obtain ⟨r, e1, e2⟩ := he s hI
      exact ⟨r, lp_inr e1, e2⟩
    · rcases hs i s (by omega) hI with ⟨t, e, hJ⟩ | ⟨r, e1, e2⟩
      · rw [lp_inl e]
        exact ih (i + 1) t (by omega) (by omega) hJ
      · exact ⟨r, lp_inr e1, e2⟩
theorem lp_inv0 {σ ρ : Type} {b : σ → Option (σ ⊕ ρ)} (n : Nat) (I : Nat → σ → Prop) (Q : ρ → Prop) {s : σ} (hn : n ≤ 1000000) (h0 : I 0 s) (hs : ∀ i s, i < n → I i s → (∃ t, b s = some (.inl t) ∧ I (i + 1) t) ∨ ∃ r, b s = some (.inr r) ∧ Q r) (he : ∀ s, I n s → ∃ r, b s = some (.inr r) ∧ Q r) : ∃ r, lp b FU s = some r ∧ Q r :=
  lp_inv I Q hs he FU 0 s (Nat.zero_le _) (fu_lt (by omega)) h0
/-! the state as a row of numbers: 0 points 1 stops 2 thermals 3 areas 4 pilots 5 base 6 days; points at 7, stops at 23, thermals at 29, areas at 47, pilots at 59 -/
abbrev gV : Type := Int → Int
def dst (v : gV) (i x y : Int) : Int := ab (v (7 + 2 * i) - x) + ab (v (8 + 2 * i) - y)
def apt (v : gV) (i j : Int) : Int := dst v i (v (7 + 2 * j)) (v (8 + 2 * j))
def leg (v : gV) (k : Int) : Int := apt v (v (23 + k)) (v (24 + k))
def lgs (v : gV) : Nat → Int
  | 0 => 0
  | n + 1 => lgs v n + leg v n
def whl (v : gV) : Int := lgs v (v 1 - 1).toNat
/-- the map, as it must be -/
def IvC (v : gV) : Prop := (0 ≤ v 0 ∧ v 0 ≤ 8) ∧ (0 ≤ v 1 ∧ v 1 ≤ 6) ∧ (∀ i, 0 ≤ i → i < v 0 → (0 ≤ v (7 + 2 * i) ∧ v (7 + 2 * i) ≤ 60) ∧ 0 ≤ v (8 + 2 * i) ∧ v (8 + 2 * i) ≤ 60) ∧ (∀ i, 0 ≤ i → i < v 1 → 0 ≤ v (23 + i) ∧ v (23 + i) < v 0) ∧ (∀ i, 0 ≤ i → i + 1 < v 1 → 0 < leg v i)
theorem dst_0 {v : gV} {i x y : Int} : 0 ≤ dst v i x y := by
  unfold dst
  have := @ab_0 (v (7 + 2 * i) - x)
  have := @ab_0 (v (8 + 2 * i) - y)
  omega
theorem dst_120 {v : gV} (h : IvC v) {i x y : Int} (h0 : 0 ≤ i) (h1 : i < v 0) (hx0 : 0 ≤ x) (hx1 : x ≤ 60) (hy0 : 0 ≤ y) (hy1 : y ≤ 60) : dst v i x y ≤ 120 := by
  unfold dst
  obtain ⟨⟨a1, a2⟩, a3, a4⟩ := h.2.2.1 i h0 h1
  have := @ab_le (v (7 + 2 * i) - x) 60 (by omega) (by omega)
  have := @ab_le (v (8 + 2 * i) - y) 60 (by omega) (by omega)
  omega
theorem apt_120 {v : gV} (h : IvC v) {i j : Int} (h0 : 0 ≤ i) (h1 : i < v 0) (g0 : 0 ≤ j) (g1 : j < v 0) : apt v i j ≤ 120 := by
  obtain ⟨⟨a1, a2⟩, a3, a4⟩ := h.2.2.1 j g0 g1
  exact dst_120 h h0 h1 a1 a2 a3 a4
theorem leg_120 {v : gV} (h : IvC v) {k : Int} (h0 : 0 ≤ k) (h1 : k + 1 < v 1) : 0 < leg v k ∧ leg v k ≤ 120 := by
  obtain ⟨a1, a2⟩ := h.2.2.2.1 k h0 (by omega)
  obtain ⟨b1, b2⟩ := h.2.2.2.1 (k + 1) (by omega) h1
  refine ⟨h.2.2.2.2 k h0 h1, ?_⟩
  unfold leg
  rw [show (24 : Int) + k = 23 + (k + 1) by omega]
  exact apt_120 h a1 a2 b1 b2
theorem lgs_b {v : gV} (h : IvC v) : ∀ n : Nat, (n : Int) ≤ v 1 - 1 → (n : Int) ≤ lgs v n ∧ lgs v n ≤ 120 * n := by
  intro n
  induction n with
  | zero => intro _; exact ⟨Int.le_refl _, Int.le_refl _⟩
  | succ n ih =>
    intro hn
    have h1 := ih (by omega)
    have h2 := leg_120 h (k := n) (by omega) (by omega)
    show (n + 1 : Nat) ≤ lgs v n + leg v n ∧ lgs v n + leg v n ≤ _
    omega
theorem lgs_m {v : gV} (h : IvC v) {m n : Nat} (hm : m ≤ n) (hn : (n : Int) ≤ v 1 - 1) : lgs v m ≤ lgs v n := by
  induction n with
  | zero => rw [show m = 0 by omega]; exact Int.le_refl _
  | succ n ih =>
    by_cases e : m = n + 1
    · rw [e]; exact Int.le_refl _
    · have h1 := ih (by omega) (by omega)
      have h2 := leg_120 h (k := n) (by omega) (by omega)
      show lgs v m ≤ lgs v n + leg v n
      omega
theorem whl_b {v : gV} (h : IvC v) : 0 ≤ whl v ∧ whl v ≤ 600 := by
  unfold whl
  have h6 := h.2.1
  by_cases h0 : v 1 ≤ 0
  · rw [show (v 1 - 1).toNat = 0 by omega]; exact ⟨Int.le_refl _, (by decide : (0 : Int) ≤ 600)⟩
  · have := lgs_b h (v 1 - 1).toNat (by omega)
    omega
theorem whl_p {v : gV} (h : IvC v) (h2 : 2 ≤ v 1) : 0 < whl v := by
  unfold whl
  have := lgs_b h (v 1 - 1).toNat (by omega)
  omega
