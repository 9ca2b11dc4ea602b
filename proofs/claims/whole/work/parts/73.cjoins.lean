/-! THE CLASS: which sets of streets are trees -/
theorem c_bits {m : Nat} (hm : m < 1024) (σ : ah_H) : f_J6_bitCount_0f7a4 (nI m) σ = some (nI (pcnt m 31), σ) := by
  unfold f_J6_bitCount_0f7a4 f_J6_bitCount_0f7a4_0
  refine congrArg (fun z => some (z, σ)) ?_
  revert hm
  revert m
  decide +kernel
theorem sm_lt {f g : Nat → Nat} {n x : Nat} (h : ∀ o, o < n → f o ≤ g o) (hx : x < n) (h1 : f x < g x) : sm f n < sm g n := by
  induction n with
  | zero => omega
  | succ n ih =>
    show sm f n + f n < sm g n + g n
    have h2 := h n (by omega)
    by_cases q : x = n
    · subst q
      have h3 : sm f x ≤ sm g x := by
        clear ih hx h1 h2
        induction x with
        | zero => exact Nat.le_refl _
        | succ x ih => 
          have := ih (fun o ho => h o (by omega))
          have := h x (by omega)
          show sm f x + f x ≤ sm g x + g x
          omega
      omega
    · have := ih (fun o ho => h o (by omega)) (by omega)
      omega
section
variable {D : DD} {m x : Nat}
theorem Uj_short (ht : MT D) (hx : x < nC D) {c : Nat} (hc : c < nC D) (h : Ujn D m x c) : Uj D m x (nC D - 1) c := by
  have stab : ∀ k, (∀ c, c < nC D → Uj D m x (k + 1) c → Uj D m x k c) → ∀ j c, c < nC D → Uj D m x (k + j) c → Uj D m x k c := by
    intro k hk j
    induction j with
    | zero => intro c _ h; exact h
    | succ j ih =>
      intro c hc h
      rcases (show Uj D m x (k + j + 1) c from h) with h | ⟨s, h1, h2, h3, h4⟩
      · exact ih c hc h
      · exact hk c hc (Or.inr ⟨s, h1, h2, h3, ih _ (ht.qoth h1) h4⟩)
  have grow : ∀ k, (∃ i, i < k ∧ ∀ c, c < nC D → Uj D m x (i + 1) c → Uj D m x i c) ∨ k + 1 ≤ sm (fun c => cif (Uj D m x k c) 1 0) (nC D) := by
    intro k
    induction k with
    | zero =>
      right
      have := sm_lt (f := fun _ => 0) (g := fun c => cif (Uj D m x 0 c) 1 0) (n := nC D) (x := x) (fun _ _ => Nat.zero_le _) hx (by show 0 < cif (Uj D m x 0 x) 1 0; rw [cif_t (show Uj D m x 0 x from rfl)]; omega)
      omega
    | succ k ih =>
      rcases ih with ⟨i, h1, h2⟩ | ih
      · exact Or.inl ⟨i, by omega, h2⟩
      · by_cases q : ∀ c, c < nC D → Uj D m x (k + 1) c → Uj D m x k c
        · exact Or.inl ⟨k, by omega, q⟩
        · right
          have hex : ∃ c, c < nC D ∧ Uj D m x (k + 1) c ∧ ¬ Uj D m x k c := by
            apply Classical.byContradiction
            intro z
            exact q (fun c h1 h2 => Classical.byContradiction fun h3 => z ⟨c, h1, h2, h3⟩)
          obtain ⟨c, h1, h2, h3⟩ := hex
          have := sm_lt (f := fun c => cif (Uj D m x k c) 1 0) (g := fun c => cif (Uj D m x (k + 1) c) 1 0) (n := nC D) (x := c) (fun o _ => by
            show cif (Uj D m x k o) 1 0 ≤ cif (Uj D m x (k + 1) o) 1 0
            by_cases z : Uj D m x k o
            · rw [cif_t z, cif_t (show Uj D m x (k + 1) o from Or.inl z)]; exact Nat.le_refl _
            · rw [cif_f z]; exact Nat.zero_le _) h1 (by
            show cif (Uj D m x k c) 1 0 < cif (Uj D m x (k + 1) c) 1 0
            rw [cif_f h3, cif_t h2]; omega)
          omega
  rcases grow (nC D - 1) with ⟨i, h1, h2⟩ | hg
  · obtain ⟨k, hk⟩ := h
    have := stab i h2 k c hc (Uj_mono hk (by omega))
    exact Uj_mono this (by omega)
  · apply Classical.byContradiction
    intro hno
    have := sm_lt (f := fun c => cif (Uj D m x (nC D - 1) c) 1 0) (g := fun _ => 1) (n := nC D) (x := c) (fun o _ => by
      show cif (Uj D m x (nC D - 1) o) 1 0 ≤ 1
      by_cases z : Uj D m x (nC D - 1) o
      · rw [cif_t z]; exact Nat.le_refl _
      · rw [cif_f z]; exact Nat.zero_le _) hc (by show cif (Uj D m x (nC D - 1) c) 1 0 < 1; rw [cif_f hno]; omega)
    rw [sm_c1] at this
    omega
end
theorem and_two {R a b : Nat} : R &&& (2 ^ a ||| 2 ^ b) = 0 ↔ ¬ R.testBit a = true ∧ ¬ R.testBit b = true := by
  constructor
  · intro h
    have key : ∀ i, (R &&& (2 ^ a ||| 2 ^ b)).testBit i = false := fun i => by rw [h]; exact Nat.zero_testBit i
    have h1 := key a
    have h2 := key b
    rw [Nat.testBit_and, Nat.testBit_or, Nat.testBit_two_pow_self] at h1
    rw [Nat.testBit_and, Nat.testBit_or, Nat.testBit_two_pow_self] at h2
    constructor
    · intro z; rw [z] at h1; simp at h1
    · intro z; rw [z] at h2; simp at h2
  · rintro ⟨h1, h2⟩
    apply Nat.eq_of_testBit_eq
    intro i
    rw [Nat.testBit_and, Nat.testBit_or, Nat.testBit_two_pow, Nat.testBit_two_pow, Nat.zero_testBit]
    by_cases q1 : a = i
    · subst q1
      rw [show R.testBit a = false by simpa using h1]; rfl
    · by_cases q2 : b = i
      · subst q2
        rw [show R.testBit b = false by simpa using h2]; rfl
      · simp [q1, q2]
