/-! A LINE EATS TOKENS: all of it -/
section
variable {k : Nat → TK} {E : DD} {td : Nat} {o : List (Nat × Nat)}
theorem mst_le {m : MS} : (∀ m', mst k m = .inr (.inr m') → m.1 ≤ m'.1) ∧ (∀ e, mst k m = .inr (.inl e) → m.1 ≤ e.1) := by
  obtain ⟨i, o, s, p, c, d⟩ := m
  have jl : ∀ o s v m', jon i o s p c v = .inr (.inr m') → i ≤ m'.1 := fun o s v m' h => by
    unfold jon at h
    split at h
    · cases h
    · cases h; exact Nat.le_succ i
  have jn : ∀ o s v e', jon i o s p c v = .inr (.inl e') → False := fun o s v e' h => by
    unfold jon at h; split at h <;> cases h
  cases d with
  | true =>
    constructor
    · intro m' h
      unfold mst at h
      simp only at h
      repeat' split at h
      all_goals first
        | (cases h; exact Nat.le_succ i)
        | cases h
    · intro e' h
      unfold mst at h
      simp only at h
      repeat' split at h
      all_goals cases h
  | false =>
    constructor
    · intro m' h
      unfold mst at h
      simp only at h
      repeat' split at h
      all_goals first
        | exact jl _ _ _ _ h
        | (cases h; exact Nat.le_succ i)
        | cases h
    · intro e' h
      unfold mst at h
      simp only at h
      repeat' split at h
      all_goals first
        | exact (jn _ _ _ _ h).elim
        | (cases h; exact Nat.le_refl i)
        | cases h
theorem men_le {m e : MS} (h : men k m e) : m.1 ≤ e.1 := by
  obtain ⟨t, ht⟩ := h
  induction t generalizing m with
  | zero => exact nomatch ht
  | succ t ih =>
    have e1 : mrc k (t + 1) m = match mst k m with
      | .inl f => .inl f
      | .inr (.inl e) => .inr (.inl e)
      | .inr (.inr m') => mrc k t m' := rfl
    rw [e1] at ht
    cases e2 : mst k m with
    | inl f => rw [e2] at ht; cases ht
    | inr q =>
      cases q with
      | inr m2 => rw [e2] at ht; exact Nat.le_trans (mst_le.1 m2 e2) (ih ht)
      | inl x => rw [e2] at ht; cases ht; exact mst_le.2 _ e2
end
