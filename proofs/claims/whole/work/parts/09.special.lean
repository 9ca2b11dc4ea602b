/-! System.arraycopy of ints -/
def ah_cp (σ : ah_H) (a0 sp a dq n : Nat) : ah_H := (fun b j => if b = a ∧ dq ≤ j ∧ j < dq + n then σ.1 a0 (sp + (j - dq)) else σ.1 b j, σ.2)
def op_cp (σ : ah_H) (a0 : Nat) (sp : Int32) (a : Nat) (dq n : Int32) : Option ah_H := (op_len .int σ a0).bind fun n0 => (op_len .int σ a).bind fun n1 => if sp < 0 ∨ dq < 0 ∨ n < 0 ∨ n0 < sp.toNatClampNeg + n.toNatClampNeg ∨ n1 < dq.toNatClampNeg + n.toNatClampNeg then none else some (ah_cp σ a0 sp.toNatClampNeg a dq.toNatClampNeg n.toNatClampNeg)
section
variable {G : ah_G} {mi mi' : ah_M} {dp kc ks pc : Nat} {lv : List (Nat × Value)} {rest : List Value} {σ : ah_H} {Q : ah_Z}
theorem ow_cp {idx a0 a : Nat} {sp dq n : Int32} {τ : ah_H} (h : op_cp σ a0 sp a dq n = some τ) (hd : decode mi.2.1 pc = .ok (.invokestatic idx, 3)) (hw : ah_Cp mi.1.cls idx) (hr : (rest.map fun v => v.category).sum ≤ 8) (k : AW G mi (dp + 3) kc ks (pc + 3) lv rest τ Q) : AW G mi (dp + 3) kc ks pc lv (.int n :: .int dq :: .ref a :: .int sp :: .ref a0 :: rest) σ Q := by
  obtain ⟨n0, h1, h⟩ := op_bd h
  obtain ⟨n1, h2, h⟩ := op_bd h
  obtain ⟨h3, h⟩ := op_fi h
  cases h
  have h1 := op_len_sh h1
  have h2 := op_len_sh h2
  simp only [not_or, Nat.not_lt] at h3
  obtain ⟨g1, g2, g3, g4, g5⟩ := h3
  intro p e R s m args below meth c H locs cells slots ls hC u1 u2 hR hS hl
  obtain ⟨w1, w2, w3, w4⟩ := hw
  have hts := hC.2.2.2.2.1
  have nn : ∀ z : Int32, ¬ z < 0 → z.toInt = (z.toNatClampNeg : Int) := by
    intro z hz
    have hz0 : (0 : Int) ≤ z.toInt := by
      have := Int32.not_lt.mp hz
      simpa using Int32.le_iff_toInt_le.mp this
    show z.toInt = ((z.toInt.toNat : Nat) : Int)
    omega
  intro T hT X
  have hc0 : H[ah_rho G a0]? = some (vp_cell (G.2.2.1 .int) (n0, .inl (ah_I σ a0))) := hR.2.2.1 a0 _ h1
  have hc1 : H[ah_rho G a]? = some (vp_cell (G.2.2.1 .int) (n1, .inl (ah_I σ a))) := hR.2.2.1 a _ h2
  obtain ⟨-, k0, hk0, cm0, hkk0⟩ := hC.2.2.2.2.2.2.2.2.1.arr (ty := .int) (by decide) n0 (fun j => .int (ah_I σ a0 j))
  obtain ⟨-, k1, hk1, cm1, hkk1⟩ := hC.2.2.2.2.2.2.2.2.1.arr (ty := .int) (by decide) n1 (fun j => .int (ah_I σ a j))
  have hfr := hC.2.2.2.2.2.2.2.2.2
  obtain ⟨vm', X', step⟩ := X.arraycopy hC.1 hC.2.2.2.1 (hts _ w1) (hts _ w2) (hts _ w3) (hts _ w4) (src := ah_rho G a0) (dst := ah_rho G a) (cs := vp_cell (G.2.2.1 .int) (n0, .inl (ah_I σ a0))) (cd := vp_cell (G.2.2.1 .int) (n1, .inl (ah_I σ a))) (srcPos := sp) (destPos := dq) (n := n) (by rw [hT]; exact hc0) (by rw [hT]; exact hc1)
    (fun _ h => by cases h) (fun _ h => by cases h) (fun h => by cases h) (fun h => by cases h) hk0 hk1 hkk0 hkk1 (by decide) g1 g2 g3
    (by rw [nn sp g1, nn n g3]; show ¬ _ > ((arrV (G.2.2.1 .int) n0 (fun j => .int (ah_I σ a0 j))).slots.size : Int); rw [arrV_size]; omega)
    (by rw [nn dq g2, nn n g3]; show ¬ _ > ((arrV (G.2.2.1 .int) n1 (fun j => .int (ah_I σ a j))).slots.size : Int); rw [arrV_size]; omega)
    (fun vm₁ _ i hi => by
      have e : (vp_cell (G.2.2.1 .int) (n0, .inl (ah_I σ a0))).slots.getD (sp.toNatClampNeg + i) .null = .int (ah_I σ a0 (sp.toNatClampNeg + i)) := by
        show (arrV (G.2.2.1 .int) n0 (fun j => .int (ah_I σ a0 j))).slots.getD _ _ = _
        rw [Array.getD_eq_getD_getElem?, arrV_read _ _ (by omega)]
        rfl
      refine ⟨?_, ?_⟩
      · rw [e]
        rfl
      · rw [e]
        exact trivial)
    (g := F0 m pc ls (.int n :: .int dq :: .ref (ah_rho G a) :: .int sp :: .ref (ah_rho G a0) :: rest.map (ah_up G))) rfl (by rw [hC.2.2.1]; exact hl.1) (rest := rest.map (ah_up G)) rfl (by rw [hC.2.1]; exact hd) (by omega) (by
      have hrr : ((rest.map (ah_up G)).map fun v => v.category).sum ≤ 8 := by
        rw [List.map_map]
        refine Nat.le_trans (Nat.le_of_eq ?_) hr
        congr 1
        exact List.map_congr_left (fun v _ => ah_up_cat G v)
      have hnw : nativeFrameWords "java/lang/System" "arraycopy" 5 ≤ 150 := by decide +kernel
      show 2 * 0 + _ + _ ≤ _
      omega)
  have e1 : copied (vp_cell (G.2.2.1 .int) (n0, .inl (ah_I σ a0))) (vp_cell (G.2.2.1 .int) (n1, .inl (ah_I σ a))) sp dq n = vp_cell (G.2.2.1 .int) (n1, .inl (va_cpy (ah_I σ a0) (ah_I σ a) sp.toNatClampNeg dq.toNatClampNeg n.toNatClampNeg)) := va_copied (fun z => .int z) _ _ _ _ g4
  rw [e1] at X' step
  have hl2 : ah_rho G a < H.size := (Array.getElem?_eq_some_iff.mp hc1).1
  have hheap : ((T.setVm vm').setCell (ah_rho G a) (vp_cell (G.2.2.1 .int) (n1, .inl (va_cpy (ah_I σ a0) (ah_I σ a) sp.toNatClampNeg dq.toNatClampNeg n.toNatClampNeg)))).heap = H.setIfInBounds (ah_rho G a) (vp_cell (G.2.2.1 .int) (n1, .inl (va_cpy (ah_I σ a0) (ah_I σ a) sp.toNatClampNeg dq.toNatClampNeg n.toNatClampNeg))) := by rw [← hT]; rfl
  have oq : ∀ q : Nat, q ≠ ah_rho G a → (H.setIfInBounds (ah_rho G a) (vp_cell (G.2.2.1 .int) (n1, .inl (va_cpy (ah_I σ a0) (ah_I σ a) sp.toNatClampNeg dq.toNatClampNeg n.toNatClampNeg))))[q]? = H[q]? := fun q hq => by simp [Array.getElem?_setIfInBounds, Ne.symm hq]
  have hA : ah_A G (ah_rho G a) := by
    show ah_hb G ≤ ah_rho G a
    rw [hR.rho h2]
    exact Nat.le_add_right _ _
  have hR' : ah_Rel G (ah_cp σ a0 sp.toNatClampNeg a dq.toNatClampNeg n.toNatClampNeg) (H.setIfInBounds (ah_rho G a) (vp_cell (G.2.2.1 .int) (n1, .inl (va_cpy (ah_I σ a0) (ah_I σ a) sp.toNatClampNeg dq.toNatClampNeg n.toNatClampNeg)))) := by
    refine hR.set h2 rfl (by simp) oq (fun b hb j ty => ?_) ?_
    · have : ah_I (ah_cp σ a0 sp.toNatClampNeg a dq.toNatClampNeg n.toNatClampNeg) b j = ah_I σ b j := by
        show (if _ then _ else _) = _
        rw [if_neg (fun z => hb z.1)]
        rfl
      cases ty <;> first | rfl | (simp only [ah_val, this])
    · show (H.setIfInBounds (ah_rho G a) _)[ah_rho G a]? = _
      simp only [Array.getElem?_setIfInBounds, hl2, if_true]
      congr 1
      rw [vp_cell_i]
      congr 1
      funext j
      show Value.int _ = Value.int _
      congr 1
      show va_cpy _ _ _ _ _ j = if _ then _ else _
      unfold va_cpy
      by_cases z : dq.toNatClampNeg ≤ j ∧ j < dq.toNatClampNeg + n.toNatClampNeg
      · rw [if_pos z]
        exact (if_pos ⟨rfl, z⟩).symm
      · rw [if_neg z]
        exact (if_neg (fun q => z q.2)).symm
  obtain ⟨t, a1, b1⟩ := k p e R s m args below meth c _ _ cells slots ls hC u1 u2 hR' ⟨by simp; exact hS.1, fun q g1 g2 => by
      rw [oq q (fun e => g2 (by rw [e]; exact hA))]
      exact hS.2.1 q g1 g2, fun q hq => by
      rcases List.mem_append.mp hq with h | h
      · exact hS.2.2 q h
      · obtain ⟨z, -, hz⟩ := List.mem_map.mp h
        rw [← hz]
        exact hA⟩ hl _ hheap X'
  exact ⟨t, step t a1, b1⟩
def op_maxi (x y : Int32) : Int32 := if x < y then y else x
def op_mini (x y : Int32) : Int32 := if y < x then y else x
def op_maxl (x y : Int64) : Int64 := if y < x then x else y
def op_minl (x y : Int64) : Int64 := if y < x then y else x
def op_absl (x : Int64) : Int64 := if 0 < x then x else -x
theorem ah_cats {st : List Value} (h : (st.map fun v => v.category).sum ≤ 8) : ((st.map (ah_up G)).map fun v => v.category).sum ≤ 8 := by
  rw [List.map_map]
  refine Nat.le_trans (Nat.le_of_eq ?_) h
  congr 1
  exact List.map_congr_left (fun v _ => ah_up_cat G v)
theorem ow_maxi {x y : Int32} {idx : Nat} (hd : decode mi.2.1 pc = .ok (.invokestatic idx, 3)) (hw : ah_Mt mi.1.cls idx Lib.Math.max.name Lib.Math.max.code 2 (some .int)) (hr : (rest.map fun v => v.category).sum ≤ 8) (k : AW G mi (dp + 1) kc ks (pc + 3) lv (.int (op_maxi x y) :: rest) σ Q) : AW G mi (dp + 1) kc ks pc lv (.int y :: .int x :: rest) σ Q := by
  intro p e R s m args below meth c H locs cells slots ls hC u1 u2 hR hS hl
  have hts := hC.2.2.2.2.1
  have hfr := hC.2.2.2.2.2.2.2.2.2
  have hrr := ah_cats (G := G) hr
  exact va_mmax hC.1 hC.2.1 (hC.2.2.1.trans hl.1.symm) hC.2.2.2.1 (hts _ hw.1) (hts _ hw.2.1) (hts _ hw.2.2.1) (hts _ hw.2.2.2) (by omega) (by omega) (by omega) (by omega) hd (k p e R s m args below meth c H locs cells slots ls hC u1 u2 hR hS hl)
theorem ow_mini {x y : Int32} {idx : Nat} (hd : decode mi.2.1 pc = .ok (.invokestatic idx, 3)) (hw : ah_Mt mi.1.cls idx Lib.Math.min.name Lib.Math.min.code 2 (some .int)) (hr : (rest.map fun v => v.category).sum ≤ 8) (k : AW G mi (dp + 1) kc ks (pc + 3) lv (.int (op_mini x y) :: rest) σ Q) : AW G mi (dp + 1) kc ks pc lv (.int y :: .int x :: rest) σ Q := by
  intro p e R s m args below meth c H locs cells slots ls hC u1 u2 hR hS hl
  have hts := hC.2.2.2.2.1
  have hfr := hC.2.2.2.2.2.2.2.2.2
  have hrr := ah_cats (G := G) hr
  exact va_mmin hC.1 hC.2.1 (hC.2.2.1.trans hl.1.symm) hC.2.2.2.1 (hts _ hw.1) (hts _ hw.2.1) (hts _ hw.2.2.1) (hts _ hw.2.2.2) (by omega) (by omega) (by omega) (by omega) hd (k p e R s m args below meth c H locs cells slots ls hC u1 u2 hR hS hl)
theorem ow_maxl {x y : Int64} {idx : Nat} (hd : decode mi.2.1 pc = .ok (.invokestatic idx, 3)) (hw : ah_Mt mi.1.cls idx Lib.MathLoose.max_long.x Lib.MathLoose.max_long.code 4 (some .long)) (hr : (rest.map fun v => v.category).sum ≤ 8) (k : AW G mi (dp + 1) kc ks (pc + 3) lv (.long (op_maxl x y) :: rest) σ Q) : AW G mi (dp + 1) kc ks pc lv (.long y :: .long x :: rest) σ Q := by
  intro p e R s m args below meth c H locs cells slots ls hC u1 u2 hR hS hl
  have hts := hC.2.2.2.2.1
  have hfr := hC.2.2.2.2.2.2.2.2.2
  have hrr := ah_cats (G := G) hr
  exact va_mmax_long hC.1 hC.2.1 (hC.2.2.1.trans hl.1.symm) hC.2.2.2.1 (hts _ hw.1) (hts _ hw.2.1) (hts _ hw.2.2.1) (hts _ hw.2.2.2) (by omega) (by omega) (by omega) (by omega) hd (k p e R s m args below meth c H locs cells slots ls hC u1 u2 hR hS hl)
theorem ow_minl {x y : Int64} {idx : Nat} (hd : decode mi.2.1 pc = .ok (.invokestatic idx, 3)) (hw : ah_Mt mi.1.cls idx Lib.MathLoose.min_long.x Lib.MathLoose.min_long.code 4 (some .long)) (hr : (rest.map fun v => v.category).sum ≤ 8) (k : AW G mi (dp + 1) kc ks (pc + 3) lv (.long (op_minl x y) :: rest) σ Q) : AW G mi (dp + 1) kc ks pc lv (.long y :: .long x :: rest) σ Q := by
  intro p e R s m args below meth c H locs cells slots ls hC u1 u2 hR hS hl
  have hts := hC.2.2.2.2.1
  have hfr := hC.2.2.2.2.2.2.2.2.2
  have hrr := ah_cats (G := G) hr
  exact va_mmin_long hC.1 hC.2.1 (hC.2.2.1.trans hl.1.symm) hC.2.2.2.1 (hts _ hw.1) (hts _ hw.2.1) (hts _ hw.2.2.1) (hts _ hw.2.2.2) (by omega) (by omega) (by omega) (by omega) hd (k p e R s m args below meth c H locs cells slots ls hC u1 u2 hR hS hl)
theorem ow_absl {x : Int64} {idx : Nat} (hd : decode mi.2.1 pc = .ok (.invokestatic idx, 3)) (hw : ah_Mt mi.1.cls idx Lib.MathLoose.abs_long.x Lib.MathLoose.abs_long.code 2 (some .long)) (hr : (rest.map fun v => v.category).sum ≤ 8) (k : AW G mi (dp + 1) kc ks (pc + 3) lv (.long (op_absl x) :: rest) σ Q) : AW G mi (dp + 1) kc ks pc lv (.long x :: rest) σ Q := by
  intro p e R s m args below meth c H locs cells slots ls hC u1 u2 hR hS hl
  have hts := hC.2.2.2.2.1
  have hfr := hC.2.2.2.2.2.2.2.2.2
  have hrr := ah_cats (G := G) hr
  exact va_mabs_long hC.1 hC.2.1 (hC.2.2.1.trans hl.1.symm) hC.2.2.2.1 (hts _ hw.1) (hts _ hw.2.1) (hts _ hw.2.2.1) (hts _ hw.2.2.2) (by omega) (by omega) (by omega) (by omega) hd (k p e R s m args below meth c H locs cells slots ls hC u1 u2 hR hS hl)
/-- a lookupswitch's default -/
theorem op_lk (ps : List (Int × Int)) (dflt x : Int) (h : ∀ q ∈ ps, ¬ x = q.1) : Op.lookupswitch.offset ps dflt x = dflt := by
  induction ps with
  | nil => rfl
  | cons q ps ih =>
    have h1 := h q List.mem_cons_self
    have h2 := ih (fun q hq => h q (List.mem_cons_of_mem _ hq))
    obtain ⟨a, o⟩ := q
    show (if a = x then o else Op.lookupswitch.offset ps dflt x) = dflt
    rw [if_neg (fun e => h1 e.symm), h2]
end
