/-! THE CLASS: the ends of a pipe, whole -/
noncomputable def ownC (D : DD) (st : Nat → Option Nat) (Q : Nat → Int) (c w a b : Nat) : VV := cif (nx D st c = some (riv D) ∧ (hgt D (riv D) : Int) - b < lev D) none (own D st Q noF noF noF (kyD D) c w a b)
noncomputable def dpC (D : DD) (st : Nat → Option Nat) : DPr := (nC D, mc D, nx D st, ownC D st (gq D st), pmv D (gq D st))
theorem dpC_q (D : DD) (st : Nat → Option Nat) : Pq (dpC D st) D st (gq D st) ∧ dpo (dpC D st) = ownC D st (gq D st) := ⟨⟨⟨rfl, rfl⟩, rfl, rfl⟩, rfl⟩
def uD (D : DD) (c : Nat) : Nat := 2 ^ (10 * (5 - (if riv D < c then c - 1 else c)))
/-- how deep the far end may lie -/
def hiD (D : DD) (c s a : Nat) : Int := if oth D s c = riv D then min (min (mc D : Int) ((len D s : Int) * mf D - ((hgt D c : Int) - a - hgt D (oth D s c)))) ((hgt D (oth D s c) : Int) - lev D) else min (mc D : Int) ((len D s : Int) * mf D - ((hgt D c : Int) - a - hgt D (oth D s c)))
def loD (D : DD) (c s a : Nat) : Nat := (max (lc D : Int) ((len D s : Int) * lf D - ((hgt D c : Int) - a - hgt D (oth D s c)))).toNat
section
variable {D : DD} {st : Nat → Option Nat} {c w a s : Nat}
theorem ownC_eq (hs : st c = some s) (hw : w < nP D) (ha : lc D ≤ a) (ha2 : a ≤ mc D) {b : Nat} (hb : lc D ≤ b) (hb2 : b ≤ mc D) : ownC D st (gq D st) c w a b = cif (loD D c s a ≤ b ∧ (b : Int) ≤ hiD D c s a ∧ gq D st c ≤ carv D (wid D w) ((((hgt D c : Int) - a - hgt D (oth D s c)) + b).tdiv (len D s))) (some ((costv D c w s a b).toNat, (w * 256 + a * 16 + b) * uD D c)) none := by
  have hnx : nx D st c = some (oth D s c) := by unfold nx; rw [hs]; rfl
  have hlo : loD D c s a ≤ b ↔ (len D s : Int) * lf D ≤ ((hgt D c : Int) - a - hgt D (oth D s c)) + b := by unfold loD; omega
  have hfv : fallv D c s a b = ((hgt D c : Int) - a - hgt D (oth D s c)) + b := rfl
  have eo : own D st (gq D st) noF noF noF (kyD D) c w a b = cif ((len D s : Int) * lf D ≤ ((hgt D c : Int) - a - hgt D (oth D s c)) + b ∧ ((hgt D c : Int) - a - hgt D (oth D s c)) + b ≤ (len D s : Int) * mf D ∧ gq D st c ≤ carv D (wid D w) ((((hgt D c : Int) - a - hgt D (oth D s c)) + b).tdiv (len D s))) (some ((costv D c w s a b).toNat, (w * 256 + a * 16 + b) * uD D c)) none := by
    unfold own
    rw [hs]
    by_cases z : (len D s : Int) * lf D ≤ ((hgt D c : Int) - a - hgt D (oth D s c)) + b ∧ ((hgt D c : Int) - a - hgt D (oth D s c)) + b ≤ (len D s : Int) * mf D ∧ gq D st c ≤ carv D (wid D w) ((((hgt D c : Int) - a - hgt D (oth D s c)) + b).tdiv (len D s))
    · rw [cif_t z]
      exact cif_t ⟨hw, ha, ha2, hb, hb2, Or.inl rfl, Or.inl rfl, Or.inl rfl, z.1, z.2.1, z.2.2⟩ _ _
    · rw [cif_f z]
      exact cif_f (fun y => z ⟨y.2.2.2.2.2.2.2.2.1, y.2.2.2.2.2.2.2.2.2.1, y.2.2.2.2.2.2.2.2.2.2⟩) _ _
  unfold ownC
  rw [eo, hnx]
  by_cases qr : oth D s c = riv D
  · have hhi : (b : Int) ≤ hiD D c s a ↔ ((hgt D c : Int) - a - hgt D (oth D s c)) + b ≤ (len D s : Int) * mf D ∧ ¬ (hgt D (riv D) : Int) - b < lev D := by
      unfold hiD; rw [if_pos qr, ← qr]; omega
    by_cases q1 : (hgt D (riv D) : Int) - b < lev D
    · rw [cif_t ⟨by rw [qr], q1⟩, cif_f (fun y => (hhi.mp y.2.1).2 q1)]
    · rw [cif_f (fun y => q1 y.2)]
      congr 1
      exact propext ⟨fun y => ⟨hlo.mpr y.1, hhi.mpr ⟨y.2.1, q1⟩, y.2.2⟩, fun y => ⟨hlo.mp y.1, (hhi.mp y.2.1).1, y.2.2⟩⟩
  · have hhi : (b : Int) ≤ hiD D c s a ↔ ((hgt D c : Int) - a - hgt D (oth D s c)) + b ≤ (len D s : Int) * mf D := by
      unfold hiD; rw [if_neg qr]; omega
    rw [cif_f (fun y => qr (Option.some.inj y.1))]
    congr 1
    exact propext ⟨fun y => ⟨hlo.mpr y.1, hhi.mpr y.2.1, y.2.2⟩, fun y => ⟨hlo.mp y.1, hhi.mp y.2.1, y.2.2⟩⟩
theorem fall_in (ht : MT D) (hs : s < nS D) {z : Int} (h1 : (len D s : Int) * lf D ≤ z) (h2 : z ≤ (len D s : Int) * mf D) : ∃ f, lf D ≤ f ∧ f ≤ mf D ∧ z.tdiv (len D s) = (f : Int) := by
  have hl := ht.qlen1 hs
  have h0 : 0 ≤ (len D s : Int) * lf D := Int.mul_nonneg (by omega) (by omega)
  obtain ⟨n, rfl⟩ : ∃ n : Nat, z = (n : Int) := ⟨z.toNat, by omega⟩
  refine ⟨n / len D s, ?_, ?_, ?_⟩
  · rw [Nat.le_div_iff_mul_le (by omega), Nat.mul_comm]
    have : ((len D s * lf D : Nat) : Int) ≤ (n : Int) := by rw [Int.natCast_mul]; exact h1
    omega
  · refine Nat.div_le_of_le_mul ?_
    have : (n : Int) ≤ ((len D s * mf D : Nat) : Int) := by rw [Int.natCast_mul]; exact h2
    omega
  · exact (Int.ofNat_tdiv n (len D s)).symm
end
