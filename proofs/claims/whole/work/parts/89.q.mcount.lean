/-! THE MACHINE: its count is the knots told and the signs that wait -/
def mCt (m : MS) : Prop := m.2.2.2.2.1 = m.2.1.length + nop m.2.2.1 ∧ nbr m.2.2.1 = m.2.2.2.1 ∧ ∀ x, x ∈ m.2.2.1 → x = 0 ∨ sgO x
section
variable {k : Nat → TK}
theorem nop_0 {x : Nat} {s : List Nat} (h : x = 0) : nop (x :: s) = nop s := by
  show (if x = 0 then 0 else 1) + nop s = _; rw [if_pos h]; omega
theorem nop_1 {x : Nat} {s : List Nat} (h : x ≠ 0) : nop (x :: s) = nop s + 1 := by
  show (if x = 0 then 0 else 1) + nop s = _; rw [if_neg h]; omega
theorem nbr_0 {x : Nat} {s : List Nat} (h : x = 0) : nbr (x :: s) = nbr s + 1 := by
  show (if x = 0 then 1 else 0) + nbr s = _; rw [if_pos h]; omega
theorem nbr_1 {x : Nat} {s : List Nat} (h : x ≠ 0) : nbr (x :: s) = nbr s := by
  show (if x = 0 then 1 else 0) + nbr s = _; rw [if_neg h]; omega
theorem rels_c {L : Nat} (hL : 1 ≤ L) : ∀ (s : List Nat) (o : List (Nat × Nat)), (∀ x, x ∈ s → x = 0 ∨ sgO x) → (rels L s o).1.length + nop (rels L s o).2 = o.length + nop s ∧ nbr (rels L s o).2 = nbr s ∧ (∀ x, x ∈ (rels L s o).2 → x = 0 ∨ sgO x) ∧ ((rels L s o).2 = [] ∨ topb (rels L s o).2 < L) := by
  intro s
  induction s with
  | nil => intro o h; exact ⟨rfl, rfl, h, Or.inl rfl⟩
  | cons x s ih =>
    intro o h
    have e : rels L (x :: s) o = if L ≤ bnd x then rels L s (o ++ [(2, x)]) else (o, x :: s) := rfl
    rw [e]
    by_cases z : L ≤ bnd x
    · rw [if_pos z]
      have hx : x ≠ 0 := fun q => by subst q; exact absurd z (by have : bnd 0 = 0 := rfl; omega)
      obtain ⟨h1, h2, h3, h4⟩ := ih (o ++ [(2, x)]) (fun y hy => h y (by simp [hy]))
      refine ⟨?_, ?_, h3, h4⟩
      · rw [h1, nop_1 hx, List.length_append]; show o.length + 1 + nop s = _; omega
      · rw [h2, nbr_1 hx]
    · rw [if_neg z]
      exact ⟨rfl, rfl, h, Or.inr (by show bnd x < L; omega)⟩
theorem bnd_sg {v : Nat} (h : bnd v ≠ 0) : sgO v := by
  unfold bnd at h
  repeat' split at h
  all_goals first | omega | exact absurd rfl h
theorem sg_bnd {v : Nat} (h : sgO v) : bnd v ≠ 0 := by
  rcases h with e | e | e | e | e | e | e | e | e | e | e | e | e <;> rw [e] <;> decide
theorem jon_c {i p c v : Nat} {o : List (Nat × Nat)} {s : List Nat} {m' : MS} (h : jon i o s p c v = .inr (.inr m')) (hv : bnd v ≠ 0) (h1 : c = o.length + nop s) (h2 : nbr s = p) (h3 : ∀ x, x ∈ s → x = 0 ∨ sgO x) : mCt m' := by
  unfold jon at h
  split at h
  · cases h
  · cases h
    obtain ⟨r1, r2, r3, -⟩ := rels_c (L := bnd v) (by omega) s o h3
    have hs := bnd_sg hv
    have hv0 : v ≠ 0 := fun q => hv (by rw [q]; rfl)
    refine ⟨?_, ?_, fun x hx => ?_⟩
    · show c + 1 = (rels (bnd v) s o).1.length + nop (v :: (rels (bnd v) s o).2)
      rw [nop_1 hv0]; omega
    · show nbr (v :: (rels (bnd v) s o).2) = p
      rw [nbr_1 hv0]; omega
    · have hx : x ∈ v :: (rels (bnd v) s o).2 := hx
      rw [List.mem_cons] at hx
      rcases hx with hx | hx
      · rw [hx]; exact Or.inr hs
      · exact r3 x hx
theorem mst_c {m : MS} (hm : mCt m) : (∀ m', mst k m = .inr (.inr m') → mCt m') ∧ (∀ e, mst k m = .inr (.inl e) → e.2.2.2.2.1 = e.2.1.length) := by
  obtain ⟨i, o, s, p, c, d⟩ := m
  obtain ⟨h1, h2, h3⟩ := hm
  have h1 : c = o.length + nop s := h1
  have h2 : nbr s = p := h2
  have h3 : ∀ x, x ∈ s → x = 0 ∨ sgO x := h3
  cases d with
  | true =>
    have e : mst k (i, o, s, p, c, true) = if tS (k i) = 2 then (if 9999 < tV (k i) then .inl (2, i) else if 64 ≤ c then .inl (2, i) else .inr (.inr (i + 1, o ++ [(0, tV (k i))], s, p, c + 1, false)))
    else if tS (k i) = 3 ∧ tV (k i) = 40 then (if 8 ≤ p then .inl (2, i) else .inr (.inr (i + 1, o, 0 :: s, p + 1, c, true)))
    else if tS (k i) = 0 ∧ tV (k i) = 17 ∧ topb s ≤ 3 then (if 64 ≤ c then .inl (2, i) else .inr (.inr (i + 1, o, 260 :: s, p, c + 1, true)))
    else if tS (k i) = 0 ∧ 18 ≤ tV (k i) then (if 64 ≤ c then .inl (2, i) else .inr (.inr (i + 1, o ++ [(1, tV (k i) - 18)], s, p, c + 1, false)))
    else .inl (1, i) := rfl
    rw [e]
    have leaf : ∀ x : Nat × Nat, mCt (i + 1, o ++ [x], s, p, c + 1, false) := fun x => ⟨by show c + 1 = (o ++ [x]).length + nop s; rw [List.length_append]; show c + 1 = o.length + 1 + nop s; omega, h2, h3⟩
    have brk : mCt (i + 1, o, 0 :: s, p + 1, c, true) := ⟨by show c = o.length + nop (0 :: s); rw [nop_0 rfl]; exact h1, by show nbr (0 :: s) = p + 1; rw [nbr_0 rfl, h2], fun x hx => by
      have hx : x ∈ 0 :: s := hx
      rw [List.mem_cons] at hx
      exact hx.elim (fun q => Or.inl q) (h3 x)⟩
    have nt : mCt (i + 1, o, 260 :: s, p, c + 1, true) := ⟨by show c + 1 = o.length + nop (260 :: s); rw [nop_1 (by decide)]; omega, by show nbr (260 :: s) = p; rw [nbr_1 (by decide), h2], fun x hx => by
      have hx : x ∈ 260 :: s := hx
      rw [List.mem_cons] at hx
      exact hx.elim (fun q => Or.inr (by omega)) (h3 x)⟩
    constructor
    · intro m' h
      repeat' split at h
      all_goals first
        | (cases h; first | exact leaf _ | exact brk | exact nt)
        | cases h
    · intro e' h
      repeat' split at h
      all_goals cases h
  | false =>
    have e : mst k (i, o, s, p, c, false) = if (tS (k i) = 3 ∧ tV (k i) = 59) ∧ p = 0 then .inr (.inl (i, (rels 1 s o).1, (rels 1 s o).2, p, c, false))
    else if (tS (k i) = 3 ∧ tV (k i) = 41) ∧ 0 < p then .inr (.inr (i + 1, (rels 1 s o).1, (rels 1 s o).2.tail, p - 1, c, false))
    else if bnd (jsg (k i)) = 0 then .inl (1, i)
    else if bnd (jsg (k i)) = 4 then (if topb (rels 5 s o).2 = 4 then .inl (1, i) else jon i (rels 5 s o).1 (rels 5 s o).2 p c (jsg (k i)))
    else jon i o s p c (jsg (k i)) := rfl
    rw [e]
    obtain ⟨r1, r2, r3, r4⟩ := rels_c (L := 1) (by omega) s o h3
    obtain ⟨u1, u2, u3, -⟩ := rels_c (L := 5) (by omega) s o h3
    have hd : ∀ S : List Nat, (∀ x, x ∈ S → x = 0 ∨ sgO x) → (S = [] ∨ topb S < 1) → S = [] ∨ ∃ S', S = 0 :: S' := fun S q1 q2 => by
      cases S with
      | nil => exact Or.inl rfl
      | cons x S' =>
        refine Or.inr ⟨S', ?_⟩
        have q3 : bnd x < 1 := q2.resolve_left (fun z => nomatch z)
        have : x = 0 := (q1 x (by simp)).resolve_right (fun z => sg_bnd z (by omega))
        rw [this]
    have hd := hd _ r3 r4
    by_cases z : (tS (k i) = 3 ∧ tV (k i) = 59) ∧ p = 0
    · rw [if_pos z]
      refine ⟨fun m' h => (by cases h), fun e' h => ?_⟩
      cases h
      show c = (rels 1 s o).1.length
      rcases hd with q | ⟨S', q⟩
      · rw [q] at r1
        have : nop ([] : List Nat) = 0 := rfl
        omega
      · rw [q, nbr_0 rfl] at r2
        omega
    · rw [if_neg z]
      by_cases z1 : (tS (k i) = 3 ∧ tV (k i) = 41) ∧ 0 < p
      · rw [if_pos z1]
        refine ⟨fun m' h => ?_, fun e' h => (by cases h)⟩
        cases h
        rcases hd with q | ⟨S', q⟩
        · rw [q] at r2
          have : nbr ([] : List Nat) = 0 := rfl
          omega
        · rw [q] at r1 r2 r3 ⊢
          rw [nop_0 rfl] at r1
          rw [nbr_0 rfl] at r2
          exact ⟨by show c = (rels 1 s o).1.length + nop S'; omega, by show nbr S' = p - 1; omega, fun x hx => r3 x (List.mem_cons_of_mem _ hx)⟩
      · rw [if_neg z1]
        by_cases z2 : bnd (jsg (k i)) = 0
        · rw [if_pos z2]
          exact ⟨fun m' h => (by cases h), fun e' h => (by cases h)⟩
        · rw [if_neg z2]
          have jn : ∀ o s e', jon i o s p c (jsg (k i)) = .inr (.inl e') → False := fun o s e' h => by
            unfold jon at h; split at h <;> cases h
          by_cases z3 : bnd (jsg (k i)) = 4
          · rw [if_pos z3]
            by_cases z4 : topb (rels 5 s o).2 = 4
            · rw [if_pos z4]
              exact ⟨fun m' h => (by cases h), fun e' h => (by cases h)⟩
            · rw [if_neg z4]
              exact ⟨fun m' h => jon_c h z2 (by omega) (by omega) u3, fun e' h => (jn _ _ _ h).elim⟩
          · rw [if_neg z3]
            exact ⟨fun m' h => jon_c h z2 h1 h2 h3, fun e' h => (jn _ _ _ h).elim⟩
theorem men_c {m e : MS} (hm : mCt m) (h : men k m e) : e.2.2.2.2.1 = e.2.1.length := by
  obtain ⟨t, ht⟩ := h
  induction t generalizing m with
  | zero => exact nomatch ht
  | succ t ih =>
    have e1 : mrc k (t + 1) m = match mst k m with
      | .inl f => .inl f
      | .inr (.inl e) => .inr (.inl e)
      | .inr (.inr m') => mrc k t m' := rfl
    rw [e1] at ht
    cases e2 : mst k m with
    | inl f => rw [e2] at ht; cases ht
    | inr q =>
      cases q with
      | inr m2 => rw [e2] at ht; exact ih ((mst_c hm).1 m2 e2) ht
      | inl x => rw [e2] at ht; cases ht; exact (mst_c hm).2 _ e2
end
