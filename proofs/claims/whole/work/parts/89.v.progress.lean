/-! A LINE EATS TOKENS -/
section
variable {k : Nat → TK} {s : LnS} {E : DD}
theorem sNum_le {lo hi : Nat} : s.1 ≤ (sNumS k s lo hi).1 := by
  obtain ⟨i, _ | x⟩ := s
  · have e : sNumS k (i, none) lo hi = if tS (k i) = 2 then (if lo ≤ tV (k i) ∧ tV (k i) ≤ hi then (i + 1, none) else (i, some (2, i))) else (i, some (1, i)) := rfl
    rw [e]
    split
    · split
      · exact Nat.le_succ i
      · exact Nat.le_refl i
    · exact Nat.le_refl i
  · exact Nat.le_refl i
theorem sNam_le {g : Nat → Int32} {m : Nat} : s.1 ≤ (sNamS k s g m).1 := by
  obtain ⟨i, _ | x⟩ := s
  · have e : sNamS k (i, none) g m = if tS (k i) = 1 then (if fnd g (nI (tV (k i))) 0 m = mI 1 then (i + 1, none) else (i, some (3, i))) else (i, some (1, i)) := rfl
    rw [e]
    split
    · split
      · exact Nat.le_succ i
      · exact Nat.le_refl i
    · exact Nat.le_refl i
  · exact Nat.le_refl i
theorem sCor_le {g : Nat → Int32} {m : Nat} : s.1 ≤ (sCorS k s g m).1 := by
  obtain ⟨i, _ | x⟩ := s
  · have e : sCorS k (i, none) g m = if tS (k i) = 1 then (if fnd g (nI (tV (k i))) 0 m = mI 1 then (i, some (4, i)) else (i, none)) else (i, some (1, i)) := rfl
    rw [e]
    split
    · split
      · exact Nat.le_refl i
      · exact Nat.le_refl i
    · exact Nat.le_refl i
  · exact Nat.le_refl i
theorem sGo_le : s.1 ≤ (sGo s).1 := by
  obtain ⟨i, _ | x⟩ := s
  · exact Nat.le_succ i
  · exact Nat.le_refl i
theorem sErr_le {f : Nat} : s.1 ≤ (sErr s f).1 := by
  obtain ⟨i, _ | x⟩ := s
  · exact Nat.le_refl i
  · exact Nat.le_refl i
theorem sOpt_le {w hi : Nat} : s.1 ≤ (sOptS k s w hi).1 := by
  unfold sOptS
  split
  · exact Nat.le_trans sGo_le sNum_le
  · exact Nat.le_refl _
theorem sJn_le {a b : Nat} : s.1 ≤ (sJn E a b s).1 := by
  unfold sJn
  by_cases z : hst E (nI a) (nI b) 0
  · rw [cif_t z]; exact sErr_le
  · rw [cif_f z]; split
    · exact sErr_le
    · exact Nat.le_refl _
theorem sRn_le : ∀ f i vs, i ≤ (sRn k f i vs).1.1 := by
  intro f
  induction f with
  | zero => intro i vs; exact Nat.le_refl i
  | succ f ih =>
    intro i vs
    have eN : sRn k (f + 1) i vs = if tS (k i) = 2 then (if tV (k i) ≤ 99 then (if tS (k (i + 1)) = 2 then sRn k f (i + 1) (vs ++ [tV (k i)]) else ((i + 1, none), vs ++ [tV (k i)])) else ((i, some (2, i)), vs)) else ((i, some (1, i)), vs) := rfl
    rw [eN]
    split
    · split
      · split
        · exact Nat.le_trans (Nat.le_succ i) (ih (i + 1) _)
        · exact Nat.le_succ i
      · exact Nat.le_refl i
    · exact Nat.le_refl i
theorem sRai_le : s.1 ≤ (sRai k s).1.1 := by
  obtain ⟨i, _ | x⟩ := s
  · exact sRn_le 6 i []
  · exact Nat.le_refl i
theorem bod_le {w : Nat} : s.1 ≤ (bod k E w s).1.1 := by
  unfold bod
  repeat' split
  · exact Nat.le_trans sNam_le (Nat.le_trans sNum_le (Nat.le_trans sNum_le sOpt_le))
  · exact Nat.le_trans sCor_le (Nat.le_trans sGo_le sNum_le)
  · exact Nat.le_trans sCor_le (Nat.le_trans sGo_le (Nat.le_trans sCor_le (Nat.le_trans sJn_le (Nat.le_trans sGo_le (Nat.le_trans sNum_le (Nat.le_trans sOpt_le sOpt_le))))))
  · exact Nat.le_trans sNum_le sNum_le
  · exact Nat.le_trans sNum_le sNum_le
  · exact Nat.le_trans sNum_le sNum_le
  · exact Nat.le_trans sNam_le sRai_le
  · exact sNum_le
end
