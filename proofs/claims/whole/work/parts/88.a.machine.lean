/-! EXPRESSIONS: a machine with a stack of signs that wait -/
/-- how close a sign binds -/
def bnd (v : Nat) : Nat := if v = 262 then 1 else if v = 261 then 2 else if v = 260 then 3 else if v = 60 ∨ v = 61 ∨ v = 62 ∨ v = 256 ∨ v = 257 ∨ v = 258 then 4 else if v = 43 ∨ v = 45 then 5 else if v = 42 ∨ v = 47 then 6 else 0
/-- token, knots, signs that wait, brackets, count, is a side due -/
abbrev MS : Type := Nat × List (Nat × Nat) × List Nat × Nat × Nat × Bool
abbrev MR : Type := Sum (Nat × Nat) (Sum MS MS)
/-- signs that bind as close are let out -/
def rels (L : Nat) : List Nat → List (Nat × Nat) → List (Nat × Nat) × List Nat
  | [], o => (o, [])
  | x :: s, o => if L ≤ bnd x then rels L s (o ++ [(2, x)]) else (o, x :: s)
def topb (s : List Nat) : Nat := match s with
  | [] => 0
  | x :: _ => bnd x
def jsg (k : TK) : Nat := if tS k = 0 ∧ tV k = 15 then 262 else if tS k = 0 ∧ tV k = 16 then 261 else if tS k = 3 then tV k else 0
/-- a sign is joined on -/
def jon (i : Nat) (o : List (Nat × Nat)) (s : List Nat) (p c v : Nat) : MR := if 64 ≤ c then .inl (2, i) else .inr (.inr (i + 1, (rels (bnd v) s o).1, v :: (rels (bnd v) s o).2, p, c + 1, true))
def mst (k : Nat → TK) (m : MS) : MR :=
  match m with
  | (i, o, s, p, c, true) =>
    if tS (k i) = 2 then (if 9999 < tV (k i) then .inl (2, i) else if 64 ≤ c then .inl (2, i) else .inr (.inr (i + 1, o ++ [(0, tV (k i))], s, p, c + 1, false)))
    else if tS (k i) = 3 ∧ tV (k i) = 40 then (if 8 ≤ p then .inl (2, i) else .inr (.inr (i + 1, o, 0 :: s, p + 1, c, true)))
    else if tS (k i) = 0 ∧ tV (k i) = 17 ∧ topb s ≤ 3 then (if 64 ≤ c then .inl (2, i) else .inr (.inr (i + 1, o, 260 :: s, p, c + 1, true)))
    else if tS (k i) = 0 ∧ 18 ≤ tV (k i) then (if 64 ≤ c then .inl (2, i) else .inr (.inr (i + 1, o ++ [(1, tV (k i) - 18)], s, p, c + 1, false)))
    else .inl (1, i)
  | (i, o, s, p, c, false) =>
    if (tS (k i) = 3 ∧ tV (k i) = 59) ∧ p = 0 then .inr (.inl (i, (rels 1 s o).1, (rels 1 s o).2, p, c, false))
    else if (tS (k i) = 3 ∧ tV (k i) = 41) ∧ 0 < p then .inr (.inr (i + 1, (rels 1 s o).1, (rels 1 s o).2.tail, p - 1, c, false))
    else if bnd (jsg (k i)) = 0 then .inl (1, i)
    else if bnd (jsg (k i)) = 4 then (if topb (rels 5 s o).2 = 4 then .inl (1, i) else jon i (rels 5 s o).1 (rels 5 s o).2 p c (jsg (k i)))
    else jon i o s p c (jsg (k i))
def mrc (k : Nat → TK) : Nat → MS → MR
  | 0, m => .inr (.inr m)
  | t + 1, m => match mst k m with
    | .inl f => .inl f
    | .inr (.inl e) => .inr (.inl e)
    | .inr (.inr m') => mrc k t m'
section
variable {k : Nat → TK}
def mto (k : Nat → TK) (m m' : MS) : Prop := ∃ t, mrc k t m = .inr (.inr m')
def mfl (k : Nat → TK) (m : MS) (f j : Nat) : Prop := ∃ t, mrc k t m = .inl (f, j)
def men (k : Nat → TK) (m e : MS) : Prop := ∃ t, mrc k t m = .inr (.inl e)
theorem mrc_add : ∀ t u m m', mrc k t m = .inr (.inr m') → mrc k (t + u) m = mrc k u m' := by
  intro t
  induction t with
  | zero => intro u m m' h; cases h; rw [Nat.zero_add]
  | succ t ih =>
    intro u m m' h
    rw [show t + 1 + u = (t + u) + 1 by omega]
    have e1 : ∀ t m, mrc k (t + 1) m = match mst k m with
      | .inl f => .inl f
      | .inr (.inl e) => .inr (.inl e)
      | .inr (.inr m') => mrc k t m' := fun t m => rfl
    rw [e1] at h ⊢
    cases e : mst k m with
    | inl f => rw [e] at h; cases h
    | inr r =>
      cases r with
      | inl x => rw [e] at h; cases h
      | inr m2 => rw [e] at h; exact ih u m2 m' h
theorem mto_rfl (m : MS) : mto k m m := ⟨0, rfl⟩
theorem mto.tr {a b c : MS} (h1 : mto k a b) (h2 : mto k b c) : mto k a c := by
  obtain ⟨t, ht⟩ := h1
  obtain ⟨u, hu⟩ := h2
  exact ⟨t + u, by rw [mrc_add t u a b ht]; exact hu⟩
theorem mto.fl {a b : MS} {f j : Nat} (h1 : mto k a b) (h2 : mfl k b f j) : mfl k a f j := by
  obtain ⟨t, ht⟩ := h1
  obtain ⟨u, hu⟩ := h2
  exact ⟨t + u, by rw [mrc_add t u a b ht]; exact hu⟩
theorem mto.en {a b e : MS} (h1 : mto k a b) (h2 : men k b e) : men k a e := by
  obtain ⟨t, ht⟩ := h1
  obtain ⟨u, hu⟩ := h2
  exact ⟨t + u, by rw [mrc_add t u a b ht]; exact hu⟩
theorem mst_to {a b : MS} (h : mst k a = .inr (.inr b)) : mto k a b := ⟨1, by unfold mrc; rw [h]; rfl⟩
theorem mst_fl {a : MS} {f j : Nat} (h : mst k a = .inl (f, j)) : mfl k a f j := ⟨1, by unfold mrc; rw [h]⟩
theorem mst_en {a e : MS} (h : mst k a = .inr (.inl e)) : men k a e := ⟨1, by unfold mrc; rw [h]⟩
/-- a stack that binds close enough is let out whole -/
theorem rels_app {L : Nat} : ∀ (P : List Nat) (S : List Nat) (o : List (Nat × Nat)), (∀ x, x ∈ P → L ≤ bnd x) → rels L (P ++ S) o = rels L S (o ++ P.map (fun x => (2, x))) := by
  intro P
  induction P with
  | nil => intro S o _; simp
  | cons x P ih =>
    intro S o h
    show (if L ≤ bnd x then rels L (P ++ S) (o ++ [(2, x)]) else _) = _
    rw [if_pos (h x (List.mem_cons_self ..)), ih S _ (fun y hy => h y (List.mem_cons_of_mem _ hy))]
    simp [List.append_assoc]
theorem rels_stop {L : Nat} {S : List Nat} {o : List (Nat × Nat)} (h : S = [] ∨ topb S < L) : rels L S o = (o, S) := by
  cases S with
  | nil => rfl
  | cons x s =>
    have h : bnd x < L := h.resolve_left (fun z => by cases z)
    show (if L ≤ bnd x then _ else (o, x :: s)) = _
    rw [if_neg (by omega)]
end
/-! the effect of knots on a stack -/
def stL : List (Nat × Nat) → Nat → Option Nat
  | [], h => some h
  | x :: l, h => (if x.1 = 2 then (if x.2 = 260 then (if 1 ≤ h then some h else none) else (if 2 ≤ h then some (h - 1) else none)) else some (h + 1)).bind (stL l)
theorem stL_app : ∀ (l l' : List (Nat × Nat)) (h : Nat), stL (l ++ l') h = (stL l h).bind (stL l') := by
  intro l
  induction l with
  | nil => intro l' h; rfl
  | cons x l ih =>
    intro l' h
    show (if x.1 = 2 then (if x.2 = 260 then (if 1 ≤ h then some h else none) else (if 2 ≤ h then some (h - 1) else none)) else some (h + 1)).bind (stL (l ++ l')) = ((if x.1 = 2 then (if x.2 = 260 then (if 1 ≤ h then some h else none) else (if 2 ≤ h then some (h - 1) else none)) else some (h + 1)).bind (stL l)).bind (stL l')
    cases (if x.1 = 2 then (if x.2 = 260 then (if 1 ≤ h then some h else none) else (if 2 ≤ h then some (h - 1) else none)) else some (h + 1)) with
    | none => rfl
    | some y => exact ih l' y
abbrev sgO (v : Nat) : Prop := v = 43 ∨ v = 45 ∨ v = 42 ∨ v = 47 ∨ v = 60 ∨ v = 62 ∨ v = 61 ∨ v = 256 ∨ v = 257 ∨ v = 258 ∨ v = 260 ∨ v = 261 ∨ v = 262
def okK (x : Nat × Nat) : Prop := (x.1 = 0 ∧ x.2 ≤ 9999) ∨ (x.1 = 1 ∧ x.2 ≤ 5) ∨ (x.1 = 2 ∧ sgO x.2)
/-- knots of one side -/
def seg1 (g : List (Nat × Nat)) : Prop := (∀ h, stL g h = some (h + 1)) ∧ ∀ x, x ∈ g → okK x
theorem seg1_bin {a b : List (Nat × Nat)} {v : Nat} (ha : seg1 a) (hb : seg1 b) (hv : sgO v) (hn : v ≠ 260) : seg1 (a ++ b ++ [(2, v)]) := by
  refine ⟨fun h => ?_, fun x hx => ?_⟩
  · rw [stL_app, stL_app, ha.1, show (some (h + 1)).bind (stL b) = stL b (h + 1) from rfl, hb.1]
    show (if (2 : Nat) = 2 then (if v = 260 then _ else (if 2 ≤ h + 1 + 1 then some (h + 1 + 1 - 1) else none)) else _).bind (stL []) = _
    rw [if_pos rfl, if_neg hn, if_pos (by omega)]; rfl
  · rw [List.mem_append, List.mem_append] at hx
    rcases hx with (hx | hx) | hx
    · exact ha.2 x hx
    · exact hb.2 x hx
    · rw [List.mem_singleton] at hx
      rw [hx]; exact Or.inr (Or.inr ⟨rfl, hv⟩)
theorem seg1_not {a : List (Nat × Nat)} (ha : seg1 a) : seg1 (a ++ [(2, 260)]) := by
  refine ⟨fun h => ?_, fun x hx => ?_⟩
  · rw [stL_app, ha.1]
    simp [stL]
  · rw [List.mem_append] at hx
    rcases hx with hx | hx
    · exact ha.2 x hx
    · rw [List.mem_singleton] at hx
      rw [hx]; exact Or.inr (Or.inr ⟨rfl, by omega⟩)
theorem seg1_leaf {s v : Nat} (h : (s = 0 ∧ v ≤ 9999) ∨ (s = 1 ∧ v ≤ 5)) : seg1 [(s, v)] := by
  refine ⟨fun u => ?_, fun x hx => ?_⟩
  · show (if s = 2 then _ else some (u + 1)).bind (stL []) = _
    rw [if_neg (by omega)]; rfl
  · rw [List.mem_singleton] at hx
    rw [hx]
    rcases h with h | h
    · exact Or.inl h
    · exact Or.inr (Or.inl h)
/-! what may follow a side -/
def blk (P : List Nat) : Prop := ∃ P1 x P2, P = P1 ++ x :: P2 ∧ (∀ y, y ∈ P1 → 5 ≤ bnd y) ∧ bnd x = 4
theorem blk_app {P Q : List Nat} (h : blk P) : blk (P ++ Q) := by
  obtain ⟨P1, x, P2, e, h1, h2⟩ := h
  exact ⟨P1, x, P2 ++ Q, by rw [e]; simp, h1, h2⟩
abbrev isC (k : TK) : Prop := tS k = 3 ∧ (tV k = 60 ∨ tV k = 61 ∨ tV k = 62 ∨ tV k = 256 ∨ tV k = 257 ∨ tV k = 258)
def fol (w : Nat) (k : TK) (P : List Nat) : Prop := (w ≤ 4 → ¬ (tS k = 3 ∧ (tV k = 42 ∨ tV k = 47))) ∧ (w ≤ 3 → ¬ (tS k = 3 ∧ (tV k = 43 ∨ tV k = 45))) ∧ (w ≤ 2 → ¬ isC k ∨ blk P) ∧ (w ≤ 1 → ¬ (tS k = 0 ∧ tV k = 16)) ∧ (w ≤ 0 → ¬ (tS k = 0 ∧ tV k = 15))
