/-! PURE: how a text is read: T its characters, n their number -/
def ch (T : Int → Int) (n i : Int) : Int := if 0 ≤ i ∧ i < n then T i else -1
def wyc (c : Int) : Int := if c = 110 then 0 else if c = 101 then 1 else if c = 115 then 2 else if c = 119 then 3 else -1
def wid (T : Int → Int) (n s i : Int) : Int :=
  if s = 78 then (if 48 ≤ ch T n i ∧ ch T n i ≤ 57 then (if 48 ≤ ch T n (i + 1) ∧ ch T n (i + 1) ≤ 57 then 2 else 1) else 0)
  else if s = 68 then (if 48 ≤ ch T n i ∧ ch T n i ≤ 57 then 1 else 0)
  else if s = 87 then (if 0 ≤ wyc (ch T n i) then 1 else 0)
  else (if ch T n i = s then 1 else 0)
def vlu (T : Int → Int) (n s i : Int) : Int :=
  if s = 87 then wyc (ch T n i) else if s = 78 then (if 48 ≤ ch T n (i + 1) ∧ ch T n (i + 1) ≤ 57 then 10 * (ch T n i - 48) + (ch T n (i + 1) - 48) else ch T n i - 48) else ch T n i - 48
def slL : List Int → Nat
  | [] => 0
  | s :: f => (if s = 78 ∨ s = 68 ∨ s = 87 then 1 else 0) + slL f
def rdF (T : Int → Int) (n : Int) : List Int → Int → Int × Int × List Int
  | [], i => (1, i, [])
  | s :: f, i => if wid T n s i = 0 then (0, i, []) else
      ((rdF T n f (i + wid T n s i)).1, (rdF T n f (i + wid T n s i)).2.1, (if s = 78 ∨ s = 68 ∨ s = 87 then [vlu T n s i] else []) ++ (rdF T n f (i + wid T n s i)).2.2)
section PPR
variable {T : Int → Int} {n : Int}
theorem ch_n {i : Int} (h : 0 ≤ ch T n i) : 0 ≤ i ∧ i < n := by
  unfold ch at h
  by_cases e : 0 ≤ i ∧ i < n
  · exact e
  · rw [if_neg e] at h
    omega
theorem ch_v {i : Int} (h0 : 0 ≤ i) (h1 : i < n) : ch T n i = T i := if_pos ⟨h0, h1⟩
theorem ch_o {i : Int} (h : n ≤ i) : ch T n i = -1 := if_neg (by omega)
theorem wyc_b (c : Int) : -1 ≤ wyc c ∧ wyc c ≤ 3 ∧ (0 ≤ wyc c → 0 ≤ c) := by
  unfold wyc
  split
  · omega
  · split
    · omega
    · split
      · omega
      · split <;> omega
theorem wid_b {s i : Int} (hs : 0 < s) (h0 : 0 ≤ i) : 0 ≤ wid T n s i ∧ wid T n s i ≤ 2 ∧ (wid T n s i ≠ 0 → i + wid T n s i ≤ n ∧ 0 ≤ ch T n i) := by
  have hw := wyc_b (ch T n i)
  have h1 := @ch_n T n i
  have h2 := @ch_n T n (i + 1)
  unfold wid
  split
  · split
    · split
      · refine ⟨by omega, by omega, fun _ => ⟨?_, by omega⟩⟩
        have := h2 (by omega)
        omega
      · refine ⟨by omega, by omega, fun _ => ⟨?_, by omega⟩⟩
        have := h1 (by omega)
        omega
    · exact ⟨by omega, by omega, fun h => absurd rfl h⟩
  · split
    · split
      · refine ⟨by omega, by omega, fun _ => ⟨?_, by omega⟩⟩
        have := h1 (by omega)
        omega
      · exact ⟨by omega, by omega, fun h => absurd rfl h⟩
    · split
      · split
        · refine ⟨by omega, by omega, fun _ => ⟨?_, by omega⟩⟩
          have := h1 (by omega)
          omega
        · exact ⟨by omega, by omega, fun h => absurd rfl h⟩
      · split
        · refine ⟨by omega, by omega, fun _ => ⟨?_, by omega⟩⟩
          have := h1 (by omega)
          omega
        · exact ⟨by omega, by omega, fun h => absurd rfl h⟩
theorem vlu_b {s i : Int} (hs : s = 78 ∨ s = 68 ∨ s = 87) (h : wid T n s i ≠ 0) : 0 ≤ vlu T n s i ∧ vlu T n s i ≤ 99 := by
  have hw := wyc_b (ch T n i)
  rcases hs with rfl | rfl | rfl
  · unfold wid at h
    rw [if_pos rfl] at h
    by_cases e : 48 ≤ ch T n i ∧ ch T n i ≤ 57
    · unfold vlu
      rw [if_neg (by decide), if_pos rfl]
      split <;> omega
    · rw [if_neg e] at h
      exact absurd rfl h
  · unfold wid at h
    rw [if_neg (by decide), if_pos rfl] at h
    by_cases e : 48 ≤ ch T n i ∧ ch T n i ≤ 57
    · unfold vlu
      rw [if_neg (by decide), if_neg (by decide)]
      omega
    · rw [if_neg e] at h
      exact absurd rfl h
  · unfold wid at h
    rw [if_neg (by decide), if_neg (by decide), if_pos rfl] at h
    by_cases e : 0 ≤ wyc (ch T n i)
    · unfold vlu
      rw [if_pos rfl]
      omega
    · rw [if_neg e] at h
      exact absurd rfl h
theorem rdF_0 {s i : Int} {f : List Int} (h : wid T n s i = 0) : rdF T n (s :: f) i = (0, i, []) := by
  show (if wid T n s i = 0 then _ else _) = _
  rw [if_pos h]
theorem rdF_s {s i : Int} {f : List Int} (h : wid T n s i ≠ 0) : rdF T n (s :: f) i = ((rdF T n f (i + wid T n s i)).1, (rdF T n f (i + wid T n s i)).2.1, (if s = 78 ∨ s = 68 ∨ s = 87 then [vlu T n s i] else []) ++ (rdF T n f (i + wid T n s i)).2.2) := by
  show (if wid T n s i = 0 then _ else _) = _
  rw [if_neg h]
theorem rdF_b : ∀ (f : List Int) (i : Int), (∀ s ∈ f, 0 < s) → 0 ≤ i → i ≤ n → (i ≤ (rdF T n f i).2.1 ∧ (rdF T n f i).2.1 ≤ n) ∧ ((rdF T n f i).1 = 0 ∨ (rdF T n f i).1 = 1) ∧ ((rdF T n f i).1 = 1 → i + f.length ≤ (rdF T n f i).2.1 ∧ (rdF T n f i).2.2.length = slL f) ∧ ((rdF T n f i).2.2.length ≤ slL f) ∧ ∀ z ∈ (rdF T n f i).2.2, 0 ≤ z ∧ z ≤ 99 := by
  intro f
  induction f with
  | nil =>
    intro i _ h0 h1
    exact ⟨⟨Int.le_refl _, h1⟩, Or.inr rfl, fun _ => ⟨by show i + ((0 : Nat) : Int) ≤ i; omega, rfl⟩, Nat.le_refl _, fun z hz => absurd hz List.not_mem_nil⟩
  | cons s f ih =>
    intro i hf h0 h1
    have hb := @wid_b T n s i (hf s List.mem_cons_self) h0
    by_cases e : wid T n s i = 0
    · rw [rdF_0 e]
      exact ⟨⟨Int.le_refl _, h1⟩, Or.inl rfl, fun h => absurd h (show (0 : Int) ≠ 1 by decide), Nat.zero_le _, fun z hz => absurd hz List.not_mem_nil⟩
    · have hw := hb.2.2 e
      obtain ⟨⟨a1, a2⟩, a3, a4, a5, a6⟩ := ih (i + wid T n s i) (fun z hz => hf z (List.mem_cons_of_mem _ hz)) (by omega) hw.1
      rw [rdF_s e]
      dsimp only
      have hl : ((if s = 78 ∨ s = 68 ∨ s = 87 then [vlu T n s i] else []) ++ (rdF T n f (i + wid T n s i)).2.2).length = (if s = 78 ∨ s = 68 ∨ s = 87 then 1 else 0) + (rdF T n f (i + wid T n s i)).2.2.length := by
        rw [List.length_append]
        split <;> rfl
      refine ⟨⟨by omega, a2⟩, a3, fun h => ?_, ?_, fun z hz => ?_⟩
      · have := a4 h
        rw [hl, this.2]
        exact ⟨by rw [List.length_cons]; omega, rfl⟩
      · rw [hl]
        show _ ≤ (if s = 78 ∨ s = 68 ∨ s = 87 then 1 else 0) + slL f
        omega
      · rw [List.mem_append] at hz
        rcases hz with hz | hz
        · by_cases hs : s = 78 ∨ s = 68 ∨ s = 87
          · rw [if_pos hs, List.mem_singleton] at hz
            rw [hz]
            exact vlu_b hs e
          · rw [if_neg hs] at hz
            exact absurd hz List.not_mem_nil
        · exact a6 z hz
theorem rdF_app : ∀ (f g : List Int) (i : Int), rdF T n (f ++ g) i = if (rdF T n f i).1 = 0 then (0, (rdF T n f i).2.1, (rdF T n f i).2.2) else ((rdF T n g (rdF T n f i).2.1).1, (rdF T n g (rdF T n f i).2.1).2.1, (rdF T n f i).2.2 ++ (rdF T n g (rdF T n f i).2.1).2.2) := by
  intro f g
  induction f with
  | nil =>
    intro i
    rw [List.nil_append, show rdF T n [] i = (1, i, []) from rfl]
    dsimp only
    rw [if_neg (by decide), List.nil_append]
  | cons s f ih =>
    intro i
    rw [List.cons_append]
    by_cases e : wid T n s i = 0
    · rw [rdF_0 e, rdF_0 e]
      dsimp only
      rw [if_pos rfl]
    · rw [rdF_s e, rdF_s e, ih]
      dsimp only
      by_cases h : (rdF T n f (i + wid T n s i)).1 = 0
      · rw [if_pos h, if_pos h]
      · rw [if_neg h, if_neg h]
        dsimp only
        rw [List.append_assoc]
/-- the form that a text may have at i: by its first two characters -/
def sel (T : Int → Int) (n i : Int) : Nat :=
  if ch T n i = 112 then (if ch T n (i + 1) = 111 then 0 else 4) else if ch T n i = 116 then (if ch T n (i + 1) = 97 then 1 else 2)
  else if ch T n i = 97 then 3 else if ch T n i = 108 then 5 else if ch T n i = 102 then 6 else if ch T n i = 99 then 7 else if ch T n i = 101 then 8 else 9
theorem rd_no {a : Int} {f : List Int} {i : Int} (ha : ¬ (a = 78 ∨ a = 68 ∨ a = 87)) (h : ch T n i ≠ a) : rdF T n (a :: f) i = (0, i, []) := by
  refine rdF_0 ?_
  unfold wid
  rw [if_neg (fun q => ha (Or.inl q)), if_neg (fun q => ha (Or.inr (Or.inl q))), if_neg (fun q => ha (Or.inr (Or.inr q))), if_neg h]
theorem wid_1 {a i : Int} (ha : ¬ (a = 78 ∨ a = 68 ∨ a = 87)) (h : ch T n i = a) : wid T n a i = 1 := by
  unfold wid
  rw [if_neg (fun q => ha (Or.inl q)), if_neg (fun q => ha (Or.inr (Or.inl q))), if_neg (fun q => ha (Or.inr (Or.inr q))), if_pos h]
theorem rd_one {a : Int} {f : List Int} {i : Int} (ha : ¬ (a = 78 ∨ a = 68 ∨ a = 87)) (h : ch T n i = a) : rdF T n (a :: f) i = rdF T n f (i + 1) := by
  have hw := @wid_1 T n a i ha h
  rw [rdF_s (by rw [hw]; decide), hw, if_neg ha, List.nil_append]
theorem kS_pos : ∀ k, k < 23 → ∀ s ∈ kS k, 0 < s := by decide +kernel
theorem kS_sl : ∀ k, k < 9 → slL (kS k) ≤ 4 ∧ 3 ≤ (kS k).length ∧ (kS k).length ≤ 13 := by decide +kernel
theorem sel_9 {i : Int} : sel T n i ≤ 9 := by
  unfold sel
  repeat' split
  all_goals omega
/-- the other forms fail, at their first or second character -/
theorem rd_other {i : Int} {j : Nat} (hj : j < 9) (h : sel T n i ≠ j) : (rdF T n (kS j) i).1 = 0 ∧ ((rdF T n (kS j) i).2.1 = i ∨ (sel T n i < 9 ∧ (rdF T n (kS j) i).2.1 = i + 1)) := by
  have key : ∀ (a b : Int) (f : List Int), kS j = a :: b :: f → ¬ (a = 78 ∨ a = 68 ∨ a = 87) → ¬ (b = 78 ∨ b = 68 ∨ b = 87) → (ch T n i = a → sel T n i < 9 ∧ ch T n (i + 1) ≠ b) → (rdF T n (kS j) i).1 = 0 ∧ ((rdF T n (kS j) i).2.1 = i ∨ (sel T n i < 9 ∧ (rdF T n (kS j) i).2.1 = i + 1)) := by
    intro a b f hk ha hb hc
    rw [hk]
    by_cases e : ch T n i = a
    · obtain ⟨c1, c2⟩ := hc e
      rw [rd_one ha e, rd_no hb c2]
      exact ⟨rfl, Or.inr ⟨c1, rfl⟩⟩
    · rw [rd_no ha e]
      exact ⟨rfl, Or.inl rfl⟩
  have hc : j = 0 ∨ j = 1 ∨ j = 2 ∨ j = 3 ∨ j = 4 ∨ j = 5 ∨ j = 6 ∨ j = 7 ∨ j = 8 := by omega
  unfold sel at h
  rcases hc with rfl | rfl | rfl | rfl | rfl | rfl | rfl | rfl | rfl
  · refine key 112 111 _ rfl (by decide) (by decide) (fun e => ?_)
    rw [if_pos e] at h
    unfold sel
    rw [if_pos e]
    by_cases e2 : ch T n (i + 1) = 111
    · rw [if_pos e2] at h; exact absurd rfl h
    · rw [if_neg e2]; exact ⟨by decide, e2⟩
  · refine key 116 97 _ rfl (by decide) (by decide) (fun e => ?_)
    rw [if_neg (by rw [e]; decide), if_pos e] at h
    unfold sel
    rw [if_neg (by rw [e]; decide), if_pos e]
    by_cases e2 : ch T n (i + 1) = 97
    · rw [if_pos e2] at h; exact absurd rfl h
    · rw [if_neg e2]; exact ⟨by decide, e2⟩
  · refine key 116 104 _ rfl (by decide) (by decide) (fun e => ?_)
    rw [if_neg (by rw [e]; decide), if_pos e] at h
    unfold sel
    rw [if_neg (by rw [e]; decide), if_pos e]
    by_cases e2 : ch T n (i + 1) = 97
    · rw [if_pos e2]; exact ⟨by decide, by rw [e2]; decide⟩
    · rw [if_neg e2] at h; exact absurd rfl h
  · refine key 97 114 _ rfl (by decide) (by decide) (fun e => ?_)
    rw [e] at h
    exact absurd (by simp) h
  · refine key 112 105 _ rfl (by decide) (by decide) (fun e => ?_)
    rw [if_pos e] at h
    unfold sel
    rw [if_pos e]
    by_cases e2 : ch T n (i + 1) = 111
    · rw [if_pos e2]; exact ⟨by decide, by rw [e2]; decide⟩
    · rw [if_neg e2] at h; exact absurd rfl h
  · refine key 108 97 _ rfl (by decide) (by decide) (fun e => ?_)
    rw [e] at h
    exact absurd (by simp) h
  · refine key 102 108 _ rfl (by decide) (by decide) (fun e => ?_)
    rw [e] at h
    exact absurd (by simp) h
  · refine key 99 108 _ rfl (by decide) (by decide) (fun e => ?_)
    rw [e] at h
    exact absurd (by simp) h
  · refine key 101 110 _ rfl (by decide) (by decide) (fun e => ?_)
    rw [e] at h
    exact absurd (by simp) h
/-- the form that fits goes on behind its first character -/
theorem rd_sel {i : Int} (h : sel T n i < 9) (h0 : 0 ≤ i) : i + 1 ≤ (rdF T n (kS (sel T n i)) i).2.1 := by
  have key : ∀ (j : Nat) (a : Int) (f : List Int), kS j = a :: f → ¬ (a = 78 ∨ a = 68 ∨ a = 87) → 0 < a → (∀ s ∈ f, 0 < s) → ch T n i = a → i + 1 ≤ (rdF T n (kS j) i).2.1 := by
    intro j a f hk ha ha0 hf e
    rw [hk, rd_one ha e]
    have := @ch_n T n i (by omega)
    have := (rdF_b (T := T) (n := n) f (i + 1) hf (by omega) (by omega)).1.1
    exact this
  unfold sel at h ⊢
  by_cases e : ch T n i = 112
  · rw [if_pos e]
    by_cases e2 : ch T n (i + 1) = 111
    · rw [if_pos e2]; exact key 0 112 _ rfl (by decide) (by decide) (by decide) e
    · rw [if_neg e2]; exact key 4 112 _ rfl (by decide) (by decide) (by decide) e
  rw [if_neg e] at h ⊢
  by_cases e : ch T n i = 116
  · rw [if_pos e]
    by_cases e2 : ch T n (i + 1) = 97
    · rw [if_pos e2]; exact key 1 116 _ rfl (by decide) (by decide) (by decide) e
    · rw [if_neg e2]; exact key 2 116 _ rfl (by decide) (by decide) (by decide) e
  rw [if_neg e] at h ⊢
  by_cases e : ch T n i = 97
  · rw [if_pos e]; exact key 3 97 _ rfl (by decide) (by decide) (by decide) e
  rw [if_neg e] at h ⊢
  by_cases e : ch T n i = 108
  · rw [if_pos e]; exact key 5 108 _ rfl (by decide) (by decide) (by decide) e
  rw [if_neg e] at h ⊢
  by_cases e : ch T n i = 102
  · rw [if_pos e]; exact key 6 102 _ rfl (by decide) (by decide) (by decide) e
  rw [if_neg e] at h ⊢
  by_cases e : ch T n i = 99
  · rw [if_pos e]; exact key 7 99 _ rfl (by decide) (by decide) (by decide) e
  rw [if_neg e] at h ⊢
  by_cases e : ch T n i = 101
  · rw [if_pos e]; exact key 8 101 _ rfl (by decide) (by decide) (by decide) e
  rw [if_neg e] at h
  exact absurd h (by decide)
/-- a program: is it one, where its reading ends, its commands (form, numbers) -/
def pgm (T : Int → Int) (n : Int) : Nat → Int → Int × Int × List (Nat × List Int)
  | 0, i => (0, i, [])
  | f + 1, i => if sel T n i = 9 then (0, i, []) else
      if (rdF T n (kS (sel T n i)) i).1 = 0 then (0, (rdF T n (kS (sel T n i)) i).2.1, []) else
      if n ≤ (rdF T n (kS (sel T n i)) i).2.1 then (1, (rdF T n (kS (sel T n i)) i).2.1, [(sel T n i, (rdF T n (kS (sel T n i)) i).2.2)]) else
      if T (rdF T n (kS (sel T n i)) i).2.1 = 59 then ((pgm T n f ((rdF T n (kS (sel T n i)) i).2.1 + 1)).1, (pgm T n f ((rdF T n (kS (sel T n i)) i).2.1 + 1)).2.1, (sel T n i, (rdF T n (kS (sel T n i)) i).2.2) :: (pgm T n f ((rdF T n (kS (sel T n i)) i).2.1 + 1)).2.2) else
      (0, (rdF T n (kS (sel T n i)) i).2.1, [(sel T n i, (rdF T n (kS (sel T n i)) i).2.2)])
end PPR
