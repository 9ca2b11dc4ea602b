/-! THE RIVER: class and reference come to the same -/
theorem vmn_ext {f : Nat → VV} {n : Nat} : ∀ k, n ≤ k → (∀ i, n ≤ i → i < k → f i = none) → vmn f k = vmn f n := by
  intro k
  induction k with
  | zero => intro h _; rw [show n = 0 by omega]
  | succ k ih =>
    intro h h2
    by_cases q : n = k + 1
    · rw [q]
    · show vmin (vmn f k) (f k) = _
      rw [ih (by omega) (fun i a b => h2 i a (by omega)), h2 k (by omega) (by omega), vmin_n]
theorem vsm_no {f : Nat → VV} {n i : Nat} (hi : i < n) (h : f i = none) : vsm f n = none := by
  cases e : vsm f n with
  | none => rfl
  | some x =>
    obtain ⟨y, hy⟩ := vsm_in n x e i hi
    rw [h] at hy; cases hy
section
variable {D : DD} {m : Nat} {st : Nat → Option Nat}
theorem lw_CD (hr : nx D st (riv D) = none) : ∀ d c, c ≠ riv D → nx D st c ≠ some (riv D) → ∀ v b, lw (dpC D st) d c v b = lw (dpD D st noF noF noF) d c v b := by
  intro d
  induction d with
  | zero => intro c _ _ v b; rfl
  | succ d ih =>
    intro c hc hx v b
    show vmn (fun a => vadd (behT (dpC D st) (lw (dpC D st) d) c v a) (ownC D st (gq D st) c v a b)) (mc D + 1) = vmn (fun a => vadd (behT (dpC D st) (lw (dpD D st noF noF noF) d) c v a) (own D st (gq D st) noF noF noF (kyD D) c v a b)) (mc D + 1)
    refine vmn_cg _ (fun a _ => ?_)
    have hk : ∀ o, o < dpn (dpC D st) → dpx (dpC D st) o = some c → ∀ v b, lw (dpC D st) d o v b = lw (dpD D st noF noF noF) d o v b := by
      intro o ho hox
      have hox : nx D st o = some c := hox
      refine ih o (fun z => ?_) (fun z => ?_)
      · rw [z, hr] at hox; cases hox
      · rw [hox] at z; exact hc (Option.some.inj z)
    rw [behT_cg hk]
    unfold ownC
    rw [cif_f (fun z => hx z.1)]
theorem lw_CR (hr : nx D st (riv D) = none) {c : Nat} (hc : c ≠ riv D) (hx : nx D st c = some (riv D)) (d v b : Nat) : lw (dpC D st) d c v b = if (hgt D (riv D) : Int) - b < lev D then none else lw (dpD D st noF noF noF) d c v b := by
  by_cases q : (hgt D (riv D) : Int) - b < lev D
  · rw [if_pos q]
    refine lw_no (fun a => ?_)
    show ownC D st (gq D st) c v a b = none
    unfold ownC
    rw [cif_t ⟨hx, q⟩]
  rw [if_neg q]
  cases d with
  | zero => rfl
  | succ d =>
    show vmn (fun a => vadd (behT (dpC D st) (lw (dpC D st) d) c v a) (ownC D st (gq D st) c v a b)) (mc D + 1) = vmn (fun a => vadd (behT (dpC D st) (lw (dpD D st noF noF noF) d) c v a) (own D st (gq D st) noF noF noF (kyD D) c v a b)) (mc D + 1)
    refine vmn_cg _ (fun a _ => ?_)
    have hk : ∀ o, o < dpn (dpC D st) → dpx (dpC D st) o = some c → ∀ v b, lw (dpC D st) d o v b = lw (dpD D st noF noF noF) d o v b := by
      intro o ho hox
      have hox : nx D st o = some c := hox
      refine lw_CD hr d o (fun z => ?_) (fun z => ?_)
      · rw [z, hr] at hox; cases hox
      · rw [hox] at z; exact hc (Option.some.inj z)
    rw [behT_cg hk]
    unfold ownC
    rw [cif_f (fun z => q z.2)]
theorem TD_no {c v b : Nat} (h : ¬ (v < nP D)) : lw (dpC D st) (nC D) c v b = none := lw_no (fun a => ownC_z (own_no (fun z => h z.1) b))
theorem TD_no' {c v b : Nat} (h : ¬ (v < nP D)) : lw (dpD D st noF noF noF) (nC D) c v b = none := lw_no (fun a => own_no (fun z => h z.1) b)
theorem com_CR (hr : nx D st (riv D) = none) {c : Nat} (hc : c ≠ riv D) (hx : nx D st c = some (riv D)) (hp : nP D ≠ 0) (h4 : nP D ≤ 4) (hl : ¬ hgt D (riv D) < lev D) : comT (TC D st) c (nP D - 1) (mc D) = comT (Tw (dpD D st noF noF noF) D) c 3 (min (mc D) (hgt D (riv D) - lev D)) := by
  unfold comT
  rw [show nP D - 1 + 1 = nP D by omega]
  rw [vmn_ext (n := nP D) (f := fun v => vmn (fun b => Tw (dpD D st noF noF noF) D c v b) (min (mc D) (hgt D (riv D) - lev D) + 1)) (3 + 1) (by omega) (fun v h1 _ => vmn_no _ (fun b _ => TD_no' (by omega)))]
  refine vmn_cg _ (fun v hv => ?_)
  rw [vmn_ext (n := min (mc D) (hgt D (riv D) - lev D) + 1) (f := fun b => TC D st c v b) (mc D + 1) (by omega) (fun b h1 h2 => ?_)]
  · refine vmn_cg _ (fun b hb => ?_)
    show lw (dpC D st) (nC D) c v b = lw (dpD D st noF noF noF) (nC D) c v b
    rw [lw_CR hr hc hx, if_neg (by omega)]
  · show lw (dpC D st) (nC D) c v b = none
    rw [lw_CR hr hc hx, if_pos (by omega)]
/-- what comes to the river is the least cost of the tree -/
theorem top_CD (ht : MT D) (hr4 : D 227 4 ≠ mI 1) (h : OrP D m (riv D) st) : (if cnt (kd (nx D st) (riv D)) (nC D) = 0 then some (0, 0) else if nP D = 0 then none else dS (nx D st) (riv D) (coT (TC D st) (nP D - 1) (mc D)) (nC D)) = topT D (dpD D st noF noF noF) (Tw (dpD D st noF noF noF) D) := by
  have b4 := ht.qp4
  have hrl : riv D < nC D := h.2.2.1
  have hrn := or_nn h
  by_cases q1 : nC D = 1
  · have : cnt (kd (nx D st) (riv D)) (nC D) = 0 := by
      rw [q1]
      show 0 + (if kd (nx D st) (riv D) 0 = none then 0 else 1) = 0
      have e : kd (nx D st) (riv D) 0 = none := by
        unfold kd
        rw [if_neg]
        rw [show 0 = riv D by omega, hrn]
        intro z; cases z
      rw [if_pos e]
    rw [if_pos this]
    unfold topT
    rw [if_pos q1]
  · obtain ⟨o, ho, hox⟩ : ∃ o, o < nC D ∧ nx D st o = some (riv D) := by
      obtain ⟨c, hc, hcr⟩ : ∃ c, c < nC D ∧ c ≠ riv D := by
        by_cases z : riv D = 0
        · exact ⟨1, by omega, by omega⟩
        · exact ⟨0, by omega, fun y => z y.symm⟩
      obtain ⟨j, hj⟩ := h.2.2.2 c hc
      cases j with
      | zero => exact absurd (Option.some.inj hj) hcr
      | succ j =>
        rw [itn_s] at hj
        cases e : itn (nx D st) j c with
        | none => rw [e] at hj; cases hj
        | some o => rw [e] at hj; exact ⟨o, itn_lt (or_nxl ht h) hc e, hj⟩
    have hne : ∀ o, nx D st o = some (riv D) → o ≠ riv D := fun o hx z => by rw [z, hrn] at hx; cases hx
    have hcn : cnt (kd (nx D st) (riv D)) (nC D) ≠ 0 := by
      have h1 := cnt_kt hox
      have h2 := cnt_up (kd (nx D st) (riv D)) (show o + 1 ≤ nC D by omega)
      omega
    rw [if_neg hcn]
    unfold topT
    rw [if_neg q1]
    by_cases q2 : nP D = 0
    · rw [if_pos q2]
      by_cases q3 : hgt D (riv D) < lev D
      · rw [if_pos q3]
      · rw [if_neg q3]
        refine (vsm_no (i := o) ho ?_).symm
        have hox' : dpx (dpD D st noF noF noF) o = some (riv D) := hox
        rw [if_pos hox']
        exact vmn_no _ (fun v _ => vmn_no _ (fun b _ => TD_no' (by omega)))
    · rw [if_neg q2]
      by_cases q3 : hgt D (riv D) < lev D
      · rw [if_pos q3]
        refine vsm_no (i := o) ho ?_
        show (if nx D st o = some (riv D) then coT (TC D st) (nP D - 1) (mc D) o else some (0, 0)) = none
        rw [if_pos hox]
        refine vmn_no _ (fun v _ => vmn_no _ (fun b _ => ?_))
        show lw (dpC D st) (nC D) o v b = none
        rw [lw_CR hrn (hne o hox) hox, if_pos (by omega)]
      · rw [if_neg q3]
        show vsm (fun o => if nx D st o = some (riv D) then coT (TC D st) (nP D - 1) (mc D) o else some (0, 0)) (nC D) = vsm (fun o => if nx D st o = some (riv D) then comT (Tw (dpD D st noF noF noF) D) o 3 (min (mc D) (hgt D (riv D) - lev D)) else some (0, 0)) (nC D)
        refine vsm_cg _ (fun o _ => ?_)
        by_cases z : nx D st o = some (riv D)
        · rw [if_pos z, if_pos z]
          exact com_CR hrn (hne o z) z q2 b4 q3
        · rw [if_neg z, if_neg z]
end
