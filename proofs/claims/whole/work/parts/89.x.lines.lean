/-! THE LINES, ONE BY ONE -/
section
variable {k : Nat → TK} {E : DD} {td : Nat} {o : List (Nat × Nat)} {N : Nat}
theorem mst_lt {m m' : MS} (h : mst k m = .inr (.inr m')) : m.1 + 1 ≤ m'.1 := by
  obtain ⟨i, o, s, p, c, d⟩ := m
  have jl : ∀ o s v m', jon i o s p c v = .inr (.inr m') → i + 1 ≤ m'.1 := fun o s v m' h => by
    unfold jon at h
    split at h
    · cases h
    · cases h; exact Nat.le_refl _
  cases d with
  | true =>
    unfold mst at h
    simp only at h
    repeat' split at h
    all_goals first
      | (cases h; exact Nat.le_refl _)
      | cases h
  | false =>
    unfold mst at h
    simp only at h
    repeat' split at h
    all_goals first
      | exact jl _ _ _ _ h
      | (cases h; exact Nat.le_refl _)
      | cases h
theorem mst_end {m : MS} (h : tS (k m.1) = 4) : mst k m = .inl (1, m.1) := by
  obtain ⟨i, o, s, p, c, d⟩ := m
  have h : tS (k i) = 4 := h
  have e0 : jsg (k i) = 0 := by unfold jsg; rw [if_neg (by omega), if_neg (by omega), if_neg (by omega)]
  cases d with
  | true =>
    unfold mst
    simp only
    rw [if_neg (by omega), if_neg (by omega), if_neg (by omega), if_neg (by omega)]
  | false =>
    unfold mst
    simp only
    rw [if_neg (by omega), if_neg (by omega), e0, if_pos (show bnd 0 = 0 from rfl)]
/-- the machine comes to an end -/
theorem mfin_ex (hN : ∀ j, N ≤ j → tS (k j) = 4) : ∀ f (m : MS), N - m.1 ≤ f → ∃ r, mfin k m r := by
  intro f
  induction f with
  | zero =>
    intro m h
    refine ⟨.inl (1, m.1), 1, ?_⟩
    have e1 : mrc k 1 m = match mst k m with
      | .inl f => .inl f
      | .inr (.inl e) => .inr (.inl e)
      | .inr (.inr m') => mrc k 0 m' := rfl
    rw [e1, mst_end (hN _ (by omega))]
  | succ f ih =>
    intro m h
    have e1 : ∀ t, mrc k (t + 1) m = match mst k m with
      | .inl f => .inl f
      | .inr (.inl e) => .inr (.inl e)
      | .inr (.inr m') => mrc k t m' := fun t => rfl
    cases e : mst k m with
    | inl x => exact ⟨.inl x, 1, by rw [e1, e]⟩
    | inr q =>
      cases q with
      | inl x => exact ⟨.inr x, 1, by rw [e1, e]⟩
      | inr m' =>
        have hl := mst_lt e
        obtain ⟨r, hr⟩ := ih m' (by omega)
        cases r with
        | inl x =>
          obtain ⟨t, ht⟩ := hr
          exact ⟨.inl x, t + 1, by rw [e1, e]; exact ht⟩
        | inr x =>
          obtain ⟨t, ht⟩ := hr
          exact ⟨.inr x, t + 1, by rw [e1, e]; exact ht⟩
/-- a line eats two tokens at least, and the last is ';' -/
theorem lin_lt (hN : ∀ j, N ≤ j → tS (k j) = 4) {i i' td' : Nat} {E' : DD} {o' : List (Nat × Nat)} (h : lin k i E td o = .inr (i', E', td', o')) : i + 2 ≤ i' ∧ i' ≤ N := by
  have fin : ∀ j, tS (k j) = 3 → i' = j + 1 → i + 1 ≤ j → i + 2 ≤ i' ∧ i' ≤ N := fun j h1 h2 h3 => by
    by_cases z : N ≤ j
    · have := hN j z; omega
    · omega
  unfold lin at h
  split at h
  · split at h
    · cases h
    · split at h
      · cases h
      · unfold lin2 at h
        split at h
        · unfold sLaw at h
          split at h
          · split at h
            · cases h
            · obtain ⟨r, hr⟩ := mfin_ex hN (N - (i + 1 + 1)) (i + 1 + 1, o, [], 0, o.length, true) (Nat.le_refl _)
              rw [mres_e hr] at h
              cases r with
              | inl x => cases h
              | inr e =>
                have h1 := men_le hr
                have h2 := men_semi hr
                have h1 : i + 1 + 1 ≤ e.1 := h1
                unfold lawF at h
                cases h
                exact fin e.1 h2.1 rfl (by omega)
          · cases h
        · have hb := bod_le (k := k) (s := (i + 1, none)) (E := E) (w := tV (k i))
          generalize hB : bod k E (tV (k i)) (i + 1, none) = B at *
          obtain ⟨⟨i1, s1⟩, E1⟩ := B
          have hb : i + 1 ≤ i1 := hb
          cases s1 with
          | some x => cases h
          | none =>
            have e : semi k (i1, none) = if tS (k i1) = 3 ∧ tV (k i1) = 59 then (i1 + 1, none) else (i1, some (1, i1)) := rfl
            simp only at h
            rw [e] at h
            by_cases z : tS (k i1) = 3 ∧ tV (k i1) = 59
            · rw [if_pos z] at h
              cases h
              exact fin i1 z.1 rfl hb
            · rw [if_neg z] at h; cases h
  · cases h
end
abbrev LnZ := Sum (Nat × Nat) (DD × Nat × List (Nat × Nat) × Nat)
/-- line by line, up to the end -/
noncomputable def lns (k : Nat → TK) : Nat → Nat → DD → Nat → List (Nat × Nat) → Nat → LnZ
  | 0, _, _, _, _, _ => .inl (0, 0)
  | f + 1, i, E, td, o, ls => if tS (k i) = 4 then .inr (E, td, o, ls) else match lin k i E td o with
    | .inl x => .inl x
    | .inr (i', E', td', o') => lns k f i' E' td' o' (ls + 1)
theorem lns_s (k : Nat → TK) (f i : Nat) (E : DD) (td : Nat) (o : List (Nat × Nat)) (ls : Nat) : lns k (f + 1) i E td o ls = if tS (k i) = 4 then .inr (E, td, o, ls) else match lin k i E td o with
    | .inl x => .inl x
    | .inr (i', E', td', o') => lns k f i' E' td' o' (ls + 1) := rfl
theorem tks_aft {T : Nat → Nat} {n N : Nat} (h : tS (tks T n N) = 4) : ∀ j, N ≤ j → tS (tks T n j) = 4 := by
  intro j hj
  obtain ⟨d, rfl⟩ := Nat.le.dest hj
  clear hj
  induction d with
  | zero => exact h
  | succ d ih =>
    have e : tks T n (N + d + 1) = if tS (tks T n (N + d)) = 4 then tks T n (N + d) else lex T n (tN (tks T n (N + d))) := rfl
    rw [show N + (d + 1) = N + d + 1 by omega, e, if_pos ih]
    exact ih
