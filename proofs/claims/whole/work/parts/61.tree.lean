/-! TREES: sets of streets, towards a root -/
def tch (D : DD) (s c : Nat) : Prop := sA D s = c ∨ sB D s = c
theorem oth_tch {D : DD} {s c : Nat} (h : tch D s c) : oth D s (oth D s c) = c ∧ tch D s (oth D s c) := by
  unfold tch oth at *
  by_cases q : sA D s = c
  · rw [if_pos q]
    by_cases q2 : sA D s = sB D s
    · rw [if_pos q2]; exact ⟨q2.symm.trans q, Or.inr rfl⟩
    · rw [if_neg q2]; exact ⟨q, Or.inr rfl⟩
  · rw [if_neg q]
    have h2 := h.resolve_left q
    rw [if_pos rfl]
    exact ⟨h2, Or.inl rfl⟩
theorem tch_two {D : DD} {s c d : Nat} (h1 : tch D s c) (h2 : tch D s d) : d = c ∨ d = oth D s c := by
  unfold tch oth at *
  by_cases q : sA D s = c
  · rw [if_pos q]
    rcases h2 with h2 | h2
    · exact Or.inl (h2.symm.trans q)
    · exact Or.inr h2.symm
  · rw [if_neg q]
    have h3 := h1.resolve_left q
    rcases h2 with h2 | h2
    · exact Or.inr h2.symm
    · exact Or.inl (h2.symm.trans h3)
def pcnt (m : Nat) : Nat → Nat := sm (fun s => if m.testBit s then 1 else 0)
theorem sm_mono {f : Nat → Nat} {a b : Nat} (h : a ≤ b) : sm f a ≤ sm f b := by
  induction b with
  | zero => rw [show a = 0 by omega]; exact Nat.le_refl _
  | succ b ih =>
    by_cases q : a = b + 1
    · rw [q]; exact Nat.le_refl _
    · have := ih (by omega)
      show sm f a ≤ sm f b + f b
      omega
theorem pcnt_lt {m s s' : Nat} (h : m.testBit s = true) (hs : s < s') : pcnt m s < pcnt m s' := by
  have h1 : pcnt m (s + 1) ≤ pcnt m s' := sm_mono hs
  have h2 : pcnt m (s + 1) = pcnt m s + 1 := by
    show sm _ s + (if m.testBit s then 1 else 0) = _
    rw [if_pos h]; rfl
  omega
/-- streets that lead each corner to the root -/
def OrP (D : DD) (m r : Nat) (st : Nat → Option Nat) : Prop := (∀ c, c < nC D → c ≠ r → ∃ s, st c = some s ∧ s < nS D ∧ m.testBit s = true ∧ tch D s c) ∧ st r = none ∧ r < nC D ∧ ∀ c, c < nC D → Rt (nx D st) r c
section
variable {D : DD} {m r : Nat} {st st' : Nat → Option Nat}
theorem or_inj (ht : MT D) (h : OrP D m r st) {c c' s : Nat} (hc : c < nC D) (hc' : c' < nC D) (e1 : st c = some s) (e2 : st c' = some s) : c = c' := by
  apply Classical.byContradiction
  intro hne
  have hcr : c ≠ r := fun e => by rw [e, h.2.1] at e1; cases e1
  have hcr' : c' ≠ r := fun e => by rw [e, h.2.1] at e2; cases e2
  obtain ⟨s1, z1, z2, -, z3⟩ := h.1 c hc hcr
  rw [e1] at z1; cases z1
  obtain ⟨s2, w1, w2, -, w3⟩ := h.1 c' hc' hcr'
  rw [e2] at w1; cases w1
  have o1 : oth D s c = c' := ((tch_two z3 w3).resolve_left (fun e => hne e.symm)).symm
  have o2 : oth D s c' = c := ((tch_two w3 z3).resolve_left hne).symm
  have n1 : nx D st c = some c' := by unfold nx; rw [e1, ← o1]; rfl
  have n2 : nx D st c' = some c := by unfold nx; rw [e2]; show some (oth D s c') = _; rw [o2]
  have key : ∀ j x, (x = c ∨ x = c') → ∀ y, itn (nx D st) j x = some y → y = c ∨ y = c' := by
    intro j
    induction j with
    | zero => intro x hx y hy; rw [← Option.some.inj hy]; exact hx
    | succ j ih =>
      intro x hx y hy
      have hy : (nx D st x).bind (itn (nx D st) j) = some y := hy
      rcases hx with rfl | rfl
      · rw [n1] at hy; exact ih c' (Or.inr rfl) y hy
      · rw [n2] at hy; exact ih c (Or.inl rfl) y hy
  obtain ⟨j, hj⟩ := h.2.2.2 c hc
  rcases key j c (Or.inl rfl) r hj with e | e
  · exact hcr e.symm
  · exact hcr' e.symm
theorem or_surj (ht : MT D) (h : OrP D m r st) (hm : m < 2 ^ nS D) (hp : pcnt m 31 + 1 = nC D) {s : Nat} (hs : m.testBit s = true) : ∃ c, c < nC D ∧ st c = some s := by
  have b := ht.qs10
  apply Classical.byContradiction
  intro hno
  have hsl := tb_lt hm hs
  have hval : ∀ c, c < nC D → ∃ e, (if c = r then some s else st c) = some e ∧ m.testBit e = true ∧ e < 31 := by
    intro c hc
    by_cases q : c = r
    · rw [if_pos q]; exact ⟨s, rfl, hs, by omega⟩
    · rw [if_neg q]
      obtain ⟨e, z1, z2, z3, -⟩ := h.1 c hc q
      exact ⟨e, z1, z3, by omega⟩
  obtain ⟨i, j, hij, hj, he⟩ := php (nC D - 1) (fun c => pcnt m ((if c = r then some s else st c).getD 0)) (fun c hc => by
    obtain ⟨e, z1, z2, z3⟩ := hval c (by omega)
    show pcnt m ((if c = r then some s else st c).getD 0) < _
    rw [z1]
    have := pcnt_lt z2 z3
    show pcnt m e < _
    omega)
  have hi' : i < nC D := by omega
  have hj' : j < nC D := by omega
  obtain ⟨e, z1, z2, z3⟩ := hval i hi'
  obtain ⟨f, w1, w2, w3⟩ := hval j hj'
  have he : pcnt m ((if i = r then some s else st i).getD 0) = pcnt m ((if j = r then some s else st j).getD 0) := he
  rw [z1, w1] at he
  have he : pcnt m e = pcnt m f := he
  have hef : e = f := by
    rcases Nat.lt_trichotomy e f with q | q | q
    · have := pcnt_lt z2 q; omega
    · exact q
    · have := pcnt_lt w2 q; omega
  subst hef
  by_cases q1 : i = r
  · rw [if_pos q1] at z1
    cases z1
    rw [if_neg (by omega)] at w1
    exact hno ⟨j, hj', w1⟩
  · rw [if_neg q1] at z1
    by_cases q2 : j = r
    · rw [if_pos q2] at w1
      cases w1
      exact hno ⟨i, hi', z1⟩
    · rw [if_neg q2] at w1
      have := or_inj ht h hi' hj' z1 w1
      omega
/-- there is one such alone -/
theorem or_uniq (ht : MT D) (hm : m < 2 ^ nS D) (hp : pcnt m 31 + 1 = nC D) (h : OrP D m r st) (h' : OrP D m r st') : ∀ c, c < nC D → st c = st' c := by
  have key : ∀ j c, c < nC D → itn (nx D st') j c = some r → st c = st' c := by
    intro j
    induction j with
    | zero =>
      intro c hc hi
      rw [show c = r from Option.some.inj hi, h.2.1, h'.2.1]
    | succ j ih =>
      intro c hc hi
      by_cases q : c = r
      · rw [q, h.2.1, h'.2.1]
      obtain ⟨e, z1, z2, z3, z4⟩ := h'.1 c hc q
      have hnx : nx D st' c = some (oth D e c) := by unfold nx; rw [z1]; rfl
      have hi : (nx D st' c).bind (itn (nx D st') j) = some r := hi
      rw [hnx] at hi
      have hy := ht.qoth (c := c) z2
      have hst := ih (oth D e c) hy hi
      obtain ⟨z, w1, w2⟩ := or_surj ht h hm hp z3
      have hzr : z ≠ r := fun e2 => by rw [e2, h.2.1] at w2; cases w2
      obtain ⟨e', v1, -, -, v2⟩ := h.1 z w1 hzr
      rw [w2] at v1; cases v1
      rcases tch_two z4 v2 with u | u
      · rw [z1, ← u, w2]
      · rw [u] at w2
        rw [hst] at w2
        have := or_inj ht h' hc hy z1 w2
        exact absurd this.symm (oth_ne e c (ht.qsAB z2))
  intro c hc
  obtain ⟨j, hj⟩ := h'.2.2.2 c hc
  exact key j c hc hj
/-- joined by streets of a set -/
def Uj (D : DD) (m x : Nat) : Nat → Nat → Prop
  | 0, c => c = x
  | k + 1, c => Uj D m x k c ∨ ∃ s, s < nS D ∧ m.testBit s = true ∧ tch D s c ∧ Uj D m x k (oth D s c)
theorem Uj_mono {x k j c : Nat} (h : Uj D m x k c) (hj : k ≤ j) : Uj D m x j c := by
  induction j with
  | zero => rw [show k = 0 by omega] at h; exact h
  | succ j ih =>
    by_cases q : k = j + 1
    · rw [← q]; exact h
    · exact Or.inl (ih (by omega))
def Ujn (D : DD) (m x c : Nat) : Prop := ∃ k, Uj D m x k c
theorem Ujn_step {x s c : Nat} (hs : s < nS D) (hm : m.testBit s = true) (ht : tch D s c) (h : Ujn D m x (oth D s c)) : Ujn D m x c := by
  obtain ⟨k, hk⟩ := h
  exact ⟨k + 1, Or.inr ⟨s, hs, hm, ht, hk⟩⟩
theorem Ujn_trans {x y c : Nat} (h1 : Ujn D m x y) (h2 : Ujn D m y c) : Ujn D m x c := by
  obtain ⟨k, hk⟩ := h2
  induction k generalizing c with
  | zero => rw [show c = y from hk]; exact h1
  | succ k ih =>
    rcases hk with hk | ⟨s, h3, h4, h5, h6⟩
    · exact ih hk
    · exact Ujn_step h3 h4 h5 (ih h6)
theorem Ujn_symm {x c : Nat} (h : Ujn D m x c) : Ujn D m c x := by
  obtain ⟨k, hk⟩ := h
  induction k generalizing c with
  | zero => rw [show c = x from hk]; exact ⟨0, rfl⟩
  | succ k ih =>
    rcases hk with hk | ⟨s, h3, h4, h5, h6⟩
    · exact ih hk
    · obtain ⟨o1, o2⟩ := oth_tch h5
      have h7 : Ujn D m c (oth D s c) := Ujn_step h3 h4 o2 ⟨0, o1⟩
      exact Ujn_trans h7 (ih h6)
/-- a tree: all corners joined, none too many -/
def TrQ (D : DD) (m : Nat) : Prop := m < 2 ^ nS D ∧ pcnt m 31 + 1 = nC D ∧ ∀ c, c < nC D → Ujn D m 0 c
theorem TrQ.from (h : TrQ D m) {x : Nat} (hx : x < nC D) : ∀ c, c < nC D → Ujn D m x c := fun c hc => Ujn_trans (Ujn_symm (h.2.2 x hx)) (h.2.2 c hc)
/-- a set closed under streets has all that is joined -/
theorem Ujn_cl {x : Nat} {P : Nat → Prop} (hx : P x) (hc : ∀ s c, s < nS D → m.testBit s = true → tch D s c → P (oth D s c) → P c) {c : Nat} (h : Ujn D m x c) : P c := by
  obtain ⟨k, hk⟩ := h
  induction k generalizing c with
  | zero => rw [show c = x from hk]; exact hx
  | succ k ih =>
    rcases hk with hk | ⟨s, h3, h4, h5, h6⟩
    · exact ih hk
    · exact hc s c h3 h4 h5 (ih h6)
end
