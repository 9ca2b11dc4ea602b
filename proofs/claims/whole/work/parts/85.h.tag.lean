/-! THE CLASS: a tag tells its street and its streets -/
theorem tag_eq {s W : Nat} (hW : W < 1024) : s * 1024 ||| W = s * 1024 + W := by
  have := Nat.two_pow_add_eq_or_of_lt (i := 10) (b := W) hW s
  rw [show (2 : Nat) ^ 10 = 1024 by decide] at this
  rw [Nat.mul_comm s 1024]
  exact this.symm
theorem tag_inj {s s' W W' : Nat} (hs : s < 10) (hs' : s' < 10) (hW : W < 1024) (hW' : W' < 1024) (h : nI (s * 1024 ||| W) = nI (s' * 1024 ||| W')) : s = s' ∧ W = W' := by
  rw [tag_eq hW, tag_eq hW', eq_nI (by omega) (by omega)] at h
  omega
theorem tag_no {s W : Nat} (hs : s < 10) (hW : W < 1024) : nI (s * 1024 ||| W) ≠ mI 1 := by
  rw [tag_eq hW]
  intro z
  rw [neg_nI (by omega) (by omega) (by omega)] at z
  exact z
