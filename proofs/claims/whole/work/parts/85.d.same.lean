/-! BRANCHES: the same streets, the same branch -/
/-- a street of the branch of c -/
def InB (D : DD) (st : Nat → Option Nat) (c s : Nat) : Prop := ∃ x, x < nC D ∧ Rt (nx D st) c x ∧ st x = some s
section
variable {D : DD} {st st' : Nat → Option Nat} {m m' r c : Nat}
theorem same_br (ht : MT D) (h : OrP D m r st) (h' : OrP D m' r st') (hc : c < nC D) (e : st c = st' c) (hB : ∀ s, InB D st c s → InB D st' c s) : ∀ j x, x < nC D → itn (nx D st) j x = some c → st' x = st x ∧ Rt (nx D st') c x := by
  intro j
  induction j with
  | zero =>
    intro x hx hi
    rw [show x = c from Option.some.inj hi]
    exact ⟨e.symm, 0, rfl⟩
  | succ j ih =>
    intro x hx hi
    have hi0 := hi
    have hi : (nx D st x).bind (itn (nx D st) j) = some c := hi
    cases ex : st x with
    | none =>
      have : nx D st x = none := by unfold nx; rw [ex]; rfl
      rw [this] at hi; cases hi
    | some s =>
      have hnx : nx D st x = some (oth D s x) := by unfold nx; rw [ex]; rfl
      rw [hnx] at hi
      have hxr : x ≠ r := fun z => by rw [z, h.2.1] at ex; cases ex
      obtain ⟨s1, z1, z2, z3, z4⟩ := h.1 x hx hxr
      rw [ex] at z1; cases z1
      obtain ⟨y1, y2⟩ := ih (oth D s x) (ht.qoth z2) hi
      obtain ⟨z, w1, w2, w3⟩ := hB s ⟨x, hx, ⟨j + 1, hi0⟩, ex⟩
      have hzr : z ≠ r := fun q => by rw [q, h'.2.1] at w3; cases w3
      obtain ⟨s2, v1, v2, v3, v4⟩ := h'.1 z w1 hzr
      rw [w3] at v1; cases v1
      rcases tch_two z4 v4 with q | q
      · rw [← q]; exact ⟨w3, w2⟩
      · exfalso
        rw [← q, w3] at y1
        have := or_inj ht h hx w1 ex y1.symm
        rw [← this] at q
        exact oth_ne s x (ht.qsAB z2) q.symm
theorem same_b2 (ht : MT D) (h : OrP D m r st) (h' : OrP D m' r st') (hc : c < nC D) (e : st c = st' c) (hB : ∀ s, InB D st c s ↔ InB D st' c s) : ∀ x, x < nC D → (Rt (nx D st) c x ↔ Rt (nx D st') c x) ∧ (Rt (nx D st) c x → st' x = st x) := by
  intro x hx
  refine ⟨⟨fun ⟨j, hj⟩ => (same_br ht h h' hc e (fun s z => (hB s).mp z) j x hx hj).2, fun ⟨j, hj⟩ => (same_br ht h' h hc e.symm (fun s z => (hB s).mpr z) j x hx hj).2⟩, fun ⟨j, hj⟩ => (same_br ht h h' hc e (fun s z => (hB s).mp z) j x hx hj).1⟩
theorem orB_in {B : Nat → Nat} {s : Nat} {nx : Nat → Option Nat} : ∀ k i, (orB nx c s B k).testBit i = true ↔ i = s ∨ ∃ o, o < k ∧ nx o = some c ∧ (B o).testBit i = true := by
  intro k
  induction k with
  | zero =>
    intro i
    show (2 ^ s).testBit i = true ↔ _
    rw [Nat.testBit_two_pow]
    constructor
    · intro z; exact Or.inl (of_decide_eq_true z).symm
    · rintro (z | ⟨o, z, -⟩)
      · exact decide_eq_true z.symm
      · omega
  | succ k ih =>
    intro i
    by_cases q : nx k = some c
    · rw [show orB nx c s B (k + 1) = orB nx c s B k ||| B k from if_pos q, Nat.testBit_or, Bool.or_eq_true, ih]
      constructor
      · rintro ((z | ⟨o, z1, z2, z3⟩) | z)
        · exact Or.inl z
        · exact Or.inr ⟨o, by omega, z2, z3⟩
        · exact Or.inr ⟨k, by omega, q, z⟩
      · rintro (z | ⟨o, z1, z2, z3⟩)
        · exact Or.inl (Or.inl z)
        · by_cases w : o = k
          · rw [w] at z3; exact Or.inr z3
          · exact Or.inl (Or.inr ⟨o, by omega, z2, z3⟩)
    · rw [show orB nx c s B (k + 1) = orB nx c s B k from if_neg q, ih]
      constructor
      · rintro (z | ⟨o, z1, z2, z3⟩)
        · exact Or.inl z
        · exact Or.inr ⟨o, by omega, z2, z3⟩
      · rintro (z | ⟨o, z1, z2, z3⟩)
        · exact Or.inl z
        · by_cases w : o = k
          · rw [w] at z2; exact absurd z2 q
          · exact Or.inr ⟨o, by omega, z2, z3⟩
end
