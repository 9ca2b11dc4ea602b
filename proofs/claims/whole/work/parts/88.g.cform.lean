/-! THE CLASS: pieces of expressions -/
def wsg (v : Nat) : Nat := if v = 0 then 31 else sgm v
def nop : List Nat → Nat
  | [] => 0
  | x :: s => (if x = 0 then 0 else 1) + nop s
def nbr : List Nat → Nat
  | [] => 0
  | x :: s => (if x = 0 then 1 else 0) + nbr s
theorem len_nb : ∀ S : List Nat, S.length = nop S + nbr S := by
  intro S
  induction S with
  | nil => rfl
  | cons x s ih =>
    show s.length + 1 = ((if x = 0 then 0 else 1) + nop s) + ((if x = 0 then 1 else 0) + nbr s)
    by_cases z : x = 0
    · rw [if_pos z, if_pos z]; omega
    · rw [if_neg z, if_neg z]; omega
theorem bnd_w : ∀ v, (v = 0 ∨ sgO v) → wsg v < 32 ∧ (v ≠ 0 → bnd v ≠ 0) ∧ bnd v ≤ 6 := by
  rintro v (rfl | h)
  · decide
  · rcases h with rfl | rfl | rfl | rfl | rfl | rfl | rfl | rfl | rfl | rfl | rfl | rfl | rfl <;> decide
section
variable {σ τ : ah_H} {t : Nat} {T : Nat → Nat} {n N i : Nat}
theorem c_bind {v : Nat} (h : v = 0 ∨ sgO v) : f_X2_bindingOf (nI (wsg v)) σ = some (nI (bnd v), σ) := by
  rcases h with rfl | h
  · rfl
  · rcases h with rfl | rfl | rfl | rfl | rfl | rfl | rfl | rfl | rfl | rfl | rfl | rfl | rfl <;> rfl
theorem CAt.w (h : CAt σ T n N i) : Wf σ := h.1
theorem CAt.kd (h : CAt σ T n N i) : CTk (tks T n i) (ah_I σ 83 8) (ah_I σ 83 9) := h.2.2.2.2.1
theorem ckw_b {w : Nat} (h : w < 24) : ckw w < 24 := (by decide : ∀ w, w < 24 → ckw w < 24) w h
theorem CAt.word (h : CAt σ T n N i) (hv : TVb (tks T n i)) {k : Nat} (hk : k < 1000) : (ah_I σ 83 8 = nI 2 ∧ ah_I σ 83 9 = nI k) ↔ (tS (tks T n i) = 0 ∧ ckw (tV (tks T n i)) = k) := by
  rcases h.kd with ⟨a, b, c⟩ | ⟨a, b, c⟩ | ⟨a, b, c⟩ | ⟨a, b, c⟩ | ⟨a, b⟩ | ⟨a, b⟩
  · have := ckw_b (hv.1 a)
    have e : (nI (ckw (tV (tks T n i))) = nI k) = (ckw (tV (tks T n i)) = k) := eq_nI (by omega) (by omega)
    rw [b, c, a]
    exact ⟨fun z => ⟨rfl, Eq.mp e z.2⟩, fun z => ⟨rfl, Eq.mpr e z.2⟩⟩
  all_goals
    rw [a, b]
    exact ⟨fun z => absurd z.1 (by decide), fun z => absurd z.1 (by decide)⟩
theorem sgm_b (v : Nat) : sgm v ≤ 14 := by
  unfold sgm
  repeat' split
  all_goals omega
theorem sgc_b {v : Nat} : sgc v < 33 := by
  have := sgm_b v
  unfold sgc
  by_cases z1 : v = 59
  · rw [if_pos z1]; omega
  rw [if_neg z1]
  by_cases z2 : v = 40
  · rw [if_pos z2]; omega
  rw [if_neg z2]
  by_cases z3 : v = 41
  · rw [if_pos z3]; omega
  · rw [if_neg z3]; omega
theorem CAt.sign (h : CAt σ T n N i) {k : Nat} (hk : k < 1000) : (ah_I σ 83 8 = nI 4 ∧ ah_I σ 83 9 = nI k) ↔ (tS (tks T n i) = 3 ∧ sgc (tV (tks T n i)) = k) := by
  rcases h.kd with ⟨a, b, c⟩ | ⟨a, b, c⟩ | ⟨a, b, c⟩ | ⟨a, b, c⟩ | ⟨a, b⟩ | ⟨a, b⟩
  case inr.inr.inr.inl =>
    have := sgc_b (v := tV (tks T n i))
    have e : (nI (sgc (tV (tks T n i))) = nI k) = (sgc (tV (tks T n i)) = k) := eq_nI (by omega) (by omega)
    rw [b, c, a]
    exact ⟨fun z => ⟨rfl, Eq.mp e z.2⟩, fun z => ⟨rfl, Eq.mpr e z.2⟩⟩
  all_goals
    rw [a, b]
    exact ⟨fun z => absurd z.1 (by decide), fun z => absurd z.1 (by decide)⟩
theorem c_isKey (h : CAt σ T n N i) (hv : TVb (tks T n i)) {k : Nat} (hk : k < 1000) : f_X8_isKey 83 (nI k) σ = some (cI (tS (tks T n i) = 0 ∧ ckw (tV (tks T n i)) = k), σ) := by
  have hW := h.w
  have hw := h.word hv hk
  unfold f_X8_isKey f_X8_isKey_0
  simp only [to_bq, l_0, l_1, l_2, l_3, l_4, l_5, l_6, l_7, l_8, l_9, l_10, l_11, l_12, l_13, l_14, l_15, l_16, l_17, l_18, l_19, l_20, l_21, l_22, l_23, l_24, l_25, l_26, l_27, l_28, l_29, l_30, l_31, l_32, l_40, l_41, l_42, l_43, l_44, l_45, l_46, l_47, l_48, l_49, l_50, l_51, l_52, l_53, l_54, l_55, l_56, l_57, l_58, l_59, l_60, l_61, l_62, l_63, l_64, l_72, l_97, l_99, l_100, l_104, l_120, l_122, l_128, l_140, l_255, l_256, l_257, l_258, l_260, l_261, l_262, l_364, l_680, l_700, l_701, l_840, l_999, l_1023, l_1024, l_9999, l_10000, l_1000000, lm]
  simp (disch := first | (with_reducible assumption) | omega | exact ⟨by omega, by omega⟩ | ((with_reducible first | apply Wf.wI | apply Wf.wL | apply Wf.fL | apply Wf.fI | apply Wf.fr); (repeat (with_reducible first | assumption | apply Wf.wI | apply Wf.wL | apply Wf.fL | apply Wf.fI | apply Wf.fr)))) only [ck_83, gI_83, gL_83, pI_83, pZ0_83, pZ1_83, pL_83, gR_83_0, gR_83_1, gR_83_2, gR_83_3, gR_83_4, bq_n, bd_s, mp_s, rz_0, rz_1, bI_rz]
  by_cases z1 : ah_I σ 83 8 = nI 2
  · rw [if_pos z1]
    by_cases z2 : ah_I σ 83 9 = nI k
    · rw [if_pos z2, cI_t (hw.mp ⟨z1, z2⟩)]
    · rw [if_neg z2, cI_f (fun y => z2 (hw.mpr y).2)]
  · rw [if_neg z1, cI_f (fun y => z1 (hw.mpr y).1)]
theorem c_isSign (h : CAt σ T n N i) {k : Nat} (hk : k < 1000) : f_X8_isSign 83 (nI k) σ = some (cI (tS (tks T n i) = 3 ∧ sgc (tV (tks T n i)) = k), σ) := by
  have hW := h.w
  have hw := h.sign hk
  unfold f_X8_isSign f_X8_isSign_0
  simp only [to_bq, l_0, l_1, l_2, l_3, l_4, l_5, l_6, l_7, l_8, l_9, l_10, l_11, l_12, l_13, l_14, l_15, l_16, l_17, l_18, l_19, l_20, l_21, l_22, l_23, l_24, l_25, l_26, l_27, l_28, l_29, l_30, l_31, l_32, l_40, l_41, l_42, l_43, l_44, l_45, l_46, l_47, l_48, l_49, l_50, l_51, l_52, l_53, l_54, l_55, l_56, l_57, l_58, l_59, l_60, l_61, l_62, l_63, l_64, l_72, l_97, l_99, l_100, l_104, l_120, l_122, l_128, l_140, l_255, l_256, l_257, l_258, l_260, l_261, l_262, l_364, l_680, l_700, l_701, l_840, l_999, l_1023, l_1024, l_9999, l_10000, l_1000000, lm]
  simp (disch := first | (with_reducible assumption) | omega | exact ⟨by omega, by omega⟩ | ((with_reducible first | apply Wf.wI | apply Wf.wL | apply Wf.fL | apply Wf.fI | apply Wf.fr); (repeat (with_reducible first | assumption | apply Wf.wI | apply Wf.wL | apply Wf.fL | apply Wf.fI | apply Wf.fr)))) only [ck_83, gI_83, gL_83, pI_83, pZ0_83, pZ1_83, pL_83, gR_83_0, gR_83_1, gR_83_2, gR_83_3, gR_83_4, bq_n, bd_s, mp_s, rz_0, rz_1, bI_rz]
  by_cases z1 : ah_I σ 83 8 = nI 4
  · rw [if_pos z1]
    by_cases z2 : ah_I σ 83 9 = nI k
    · rw [if_pos z2, cI_t (hw.mp ⟨z1, z2⟩)]
    · rw [if_neg z2, cI_f (fun y => z2 (hw.mpr y).2)]
  · rw [if_neg z1, cI_f (fun y => z1 (hw.mpr y).1)]
theorem ckw_15 : ∀ w, w < 24 → (ckw w = 21 ↔ w = 15) ∧ (ckw w = 22 ↔ w = 16) ∧ (ckw w = 23 ↔ w = 17) ∧ (18 ≤ w ↔ 15 ≤ ckw w ∧ ckw w ≤ 20) ∧ (18 ≤ w → ckw w - 15 = w - 18) ∧ (w < 15 → ckw w = w) ∧ (ckw w < 15 → w = ckw w) := by decide
theorem sgc_30 {v : Nat} : (sgc v = 30 ↔ v = 59) ∧ (sgc v = 31 ↔ v = 40) ∧ (sgc v = 32 ↔ v = 41) := by
  have hm := sgm_b v
  unfold sgc
  by_cases z1 : v = 59
  · rw [if_pos z1]; omega
  rw [if_neg z1]
  by_cases z2 : v = 40
  · rw [if_pos z2]; omega
  rw [if_neg z2]
  by_cases z3 : v = 41
  · rw [if_pos z3]; omega
  · rw [if_neg z3]; omega
end
/-- the signs that wait, and the knots -/
def CSk (σ : ah_H) (t : Nat) (S : List Nat) (o : List (Nat × Nat)) (p c : Nat) : Prop := Wf σ ∧ Tn t ∧ ah_R σ 88 2 = some (t + 33) ∧ ah_I σ 88 3 = nI S.length ∧ (∀ j, j < S.length → ah_I σ 89 j = nI (wsg (S.reverse.getD j 0))) ∧ ah_I σ 88 4 = nI p ∧ ah_I σ (t + 33) 0 = nI c ∧ ah_I σ (t + 33) 1 = nI o.length ∧ (∀ j, j < o.length → knC (nI (o.getD j (0, 0)).1) (nI (o.getD j (0, 0)).2) (ah_I σ (t + 34) j) (ah_I σ (t + 35) j)) ∧ c ≤ 64 ∧ p ≤ 8 ∧ nbr S = p ∧ o.length + nop S ≤ c ∧ ∀ x, x ∈ S → x = 0 ∨ sgO x
def Xfm (t a j : Nat) : Prop := a = 88 ∧ 3 ≤ j ∧ j ≤ 6 ∨ a = 89 ∨ a = t + 33 ∧ j ≤ 1 ∨ a = t + 34 ∨ a = t + 35
section
variable {σ τ : ah_H} {t p c : Nat} {S : List Nat} {o : List (Nat × Nat)}
theorem CSk.len (h : CSk σ t S o p c) : S.length ≤ 72 ∧ S.length = nop S + p ∧ o.length ≤ 64 := by
  obtain ⟨-, -, -, -, -, -, -, -, -, h1, h2, h3, h4, -⟩ := h
  have := len_nb S
  omega
theorem rev_l {l : List Nat} {x j : Nat} (h : j < l.length) : (x :: l).reverse.getD j 0 = l.reverse.getD j 0 := by
  rw [List.reverse_cons]
  have h' : j < l.reverse.length := by rw [List.length_reverse]; exact h
  simp [List.getD_eq_getElem?_getD, List.getElem?_append_left h']
theorem rev_r {l : List Nat} {x : Nat} : (x :: l).reverse.getD l.length 0 = x := by
  rw [List.reverse_cons]
  have : (l.reverse ++ [x])[l.length]? = some x := by
    rw [← List.length_reverse (as := l), List.getElem?_concat_length]
  simp [List.getD_eq_getElem?_getD, this]
/-- a knot is appended -/
theorem c_append (h : CSk σ t S o p c) (hl : o.length < 64) {s v : Nat} {s' v' : Int32} (hk : knC (nI s) (nI v) s' v') : f_X4_append (t + 33) s' v' σ = some (ah_wI (ah_wI (ah_wI σ (t + 34) o.length s') (t + 35) o.length v') (t + 33) 1 (nI (o.length + 1))) := by
  obtain ⟨hW, htn, h1, h2, h3, h4, h5, h6, h7, -⟩ := h
  unfold f_X4_append f_X4_append_0
  simp only [to_bq, l_0, l_1, l_2, l_3, l_4, l_5, l_6, l_7, l_8, l_9, l_10, l_11, l_12, l_13, l_14, l_15, l_16, l_17, l_18, l_19, l_20, l_21, l_22, l_23, l_24, l_25, l_26, l_27, l_28, l_29, l_30, l_31, l_32, l_40, l_41, l_42, l_43, l_44, l_45, l_46, l_47, l_48, l_49, l_50, l_51, l_52, l_53, l_54, l_55, l_56, l_57, l_58, l_59, l_60, l_61, l_62, l_63, l_64, l_72, l_97, l_99, l_100, l_104, l_120, l_122, l_128, l_140, l_255, l_256, l_257, l_258, l_260, l_261, l_262, l_364, l_680, l_700, l_701, l_840, l_999, l_1023, l_1024, l_9999, l_10000, l_1000000, lm]
  simp (disch := first | (with_reducible assumption) | omega | exact ⟨by omega, by omega⟩ | ((with_reducible first | apply Wf.wI | apply Wf.wL | apply Wf.fL | apply Wf.fI | apply Wf.fr); (repeat (with_reducible first | assumption | apply Wf.wI | apply Wf.wL | apply Wf.fL | apply Wf.fI | apply Wf.fr)))) only [ck_t, gI_t, gL_t, pI_t, pZ0_t, pZ1_t, pL_t, ck_w, gI_w, gL_w, pI_w, pZ0_w, pZ1_w, pL_w, gR_t_1, gR_t_5, gR_t_7, gR_t_9, gR_t_10, gR_t_11, gR_t_12, gR_t_15, gR_w_2, gR_w_3, gR_w_4, gR_w_5, gR_w_6, gR_w_7, aR_crow, aR_srow, aR_prow, aR_rrow, aI_crow, sI_crow, len_crow, aI_srow, sI_srow, len_srow, aI_prow, sI_prow, len_prow, aI_rrow, sI_rrow, len_rrow, aI_t25, sI_t25, len_t25, aI_t31, sI_t31, len_t31, aI_t32, sI_t32, len_t32, aI_t34, sI_t34, len_t34, aI_t35, sI_t35, len_t35, aI_t36, sI_t36, len_t36, aI_t37, sI_t37, len_t37, aL_t38, sL_t38, len_t38, aL_t39, sL_t39, len_t39, bq_n, bd_s, mp_s, rz_0, rz_1, bI_rz, h6, le_nI, show (64 ≤ o.length) = False from eq_false (by omega), if_true, if_false, ite_true, ite_false, reduceIte, not_true, not_false, and_true, true_and, and_false, false_and, or_true, true_or, or_false, false_or, eq_self, rI_ne, rI_eq, rL_ne, rL_eq, ah_I_wL, ah_L_wI, ah_R_wI, ah_R_wL, ah_I_wR, ah_L_wR, rR_ne, rR_eq, zadd]
theorem CSk.app (h : CSk σ t S o p c) {s v : Nat} {s' v' : Int32} (hk : knC (nI s) (nI v) s' v') {S' : List Nat} {c' : Nat} {ρ : ah_H} (g : Fr (fun a j => a = 88 ∧ j = 3 ∨ a = t + 33 ∧ j = 0) σ ρ) (hW : Wf ρ) (e3 : ah_I ρ 88 3 = nI S'.length) (e0 : ah_I ρ (t + 33) 0 = nI c') (hS : ∀ j, j < S'.length → S'.reverse.getD j 0 = S.reverse.getD j 0) (hl : S'.length ≤ S.length) (hc : c' ≤ 64) (hb : nbr S' = p) (hn : o.length + 1 + nop S' ≤ c') (hx : ∀ x, x ∈ S' → x = 0 ∨ sgO x) : CSk (ah_wI (ah_wI (ah_wI ρ (t + 34) o.length s') (t + 35) o.length v') (t + 33) 1 (nI (o.length + 1))) t S' (o ++ [(s, v)]) p c' := by
  obtain ⟨hW0, htn, h1, h2, h3, h4, h5, h6, h7, h8, h9, h10, h11, h12⟩ := h
  have hT : t = 2 ∨ t = 42 := htn
  have f1 : Fr (fun a j => a = t + 34 ∨ a = t + 35 ∨ a = t + 33 ∧ j = 1) ρ (ah_wI (ah_wI (ah_wI ρ (t + 34) o.length s') (t + 35) o.length v') (t + 33) 1 (nI (o.length + 1))) := ((Fr.rfl.wI (by omega)).wI (by omega)).wI (by omega)
  refine ⟨hW.fr f1, htn, ?_, by rw [f1.I (by omega)]; exact e3, fun j hj => ?_, ?_, by rw [f1.I (by omega)]; exact e0, by rw [rI_eq, List.length_append]; rfl, fun j hj => ?_, hc, h9, hb, by rw [List.length_append]; exact hn, hx⟩
  · rw [f1.R (Or.inr (by omega)), g.R (Or.inr (by omega))]; exact h1
  · rw [f1.I (by omega), g.I (by omega), hS j hj]; exact h3 j (by omega)
  · rw [f1.I (by omega), g.I (by omega)]; exact h4
  · rw [List.length_append] at hj
    have hj : j < o.length + 1 := hj
    by_cases z : j = o.length
    · subst z
      rw [getD_r, rI_ne (by omega), rI_ne (by omega), rI_eq, rI_ne (by omega), rI_eq]
      exact hk
    · rw [getD_l (by omega), rI_ne (by omega), rI_ne (by omega), rI_ne (by omega), rI_ne (by omega), rI_ne (by omega), rI_ne (by omega), g.I (by omega), g.I (by omega)]
      exact h7 j (by omega)
theorem kn_sg {v : Nat} (h : sgO v) : knC (nI 2) (nI v) (nI (wsg v)) (nI 0) := by
  refine Or.inr (Or.inr ⟨rfl, ?_⟩)
  rw [ix_nI (by omega)]
  unfold wsg
  rw [if_neg (by omega)]
def Xrl (t a j : Nat) : Prop := a = 88 ∧ j = 3 ∨ a = t + 33 ∧ j ≤ 1 ∨ a = t + 34 ∨ a = t + 35
theorem Xrl_f : ∀ a j, Xrl t a j → Xfm t a j := by
  intro a j h; unfold Xrl at h; unfold Xfm; omega
/-- signs are let out -/
theorem c_rel : ∀ (S : List Nat) (o : List (Nat × Nat)) (σ : ah_H) (fu L : Nat), S.length < fu → 1 ≤ L → L ≤ 6 → CSk σ t S o p c → ∃ τ, f_X2_release_0 fu 88 (nI L) σ = some τ ∧ Fr (Xrl t) σ τ ∧ CSk τ t (rels L S o).2 (rels L S o).1 p c := by
  intro S
  induction S with
  | nil =>
    intro o σ fu L hf hL hL6 h
    obtain ⟨fu, rfl⟩ : ∃ q, fu = q + 1 := ⟨fu - 1, by omega⟩
    have hW := h.1
    refine ⟨σ, ?_, Fr.rfl, h⟩
    show f_X2_release_0_b _ _ _ _ = _
    unfold f_X2_release_0_b
    simp only [to_bq, l_0, l_1, l_2, l_3, l_4, l_5, l_6, l_7, l_8, l_9, l_10, l_11, l_12, l_13, l_14, l_15, l_16, l_17, l_18, l_19, l_20, l_21, l_22, l_23, l_24, l_25, l_26, l_27, l_28, l_29, l_30, l_31, l_32, l_40, l_41, l_42, l_43, l_44, l_45, l_46, l_47, l_48, l_49, l_50, l_51, l_52, l_53, l_54, l_55, l_56, l_57, l_58, l_59, l_60, l_61, l_62, l_63, l_64, l_72, l_97, l_99, l_100, l_104, l_120, l_122, l_128, l_140, l_255, l_256, l_257, l_258, l_260, l_261, l_262, l_364, l_680, l_700, l_701, l_840, l_999, l_1023, l_1024, l_9999, l_10000, l_1000000, lm]
    simp (disch := first | (with_reducible assumption) | omega | exact ⟨by omega, by omega⟩ | ((with_reducible first | apply Wf.wI | apply Wf.wL | apply Wf.fL | apply Wf.fI | apply Wf.fr); (repeat (with_reducible first | assumption | apply Wf.wI | apply Wf.wL | apply Wf.fL | apply Wf.fI | apply Wf.fr)))) only [ck_88, gI_88, gL_88, pI_88, pZ0_88, pZ1_88, pL_88, gR_88_0, gR_88_1, pR_88_2, gR_88_2, bq_n, bd_s, mp_s, rz_0, rz_1, bI_rz, h.2.2.2.1]
    rfl
  | cons x s ih =>
    intro o σ fu L hf hL hL6 h
    obtain ⟨fu, rfl⟩ : ∃ q, fu = q + 1 := ⟨fu - 1, by omega⟩
    have hlen := h.len
    obtain ⟨hW, htn, h1, h2, h3, h4, h5, h6, h7, h8, h9, h10, h11, h12⟩ := id h
    have hT : t = 2 ∨ t = 42 := htn
    have hl1 : (x :: s).length = s.length + 1 := rfl
    rw [hl1] at h2 hlen
    have hx := h12 x (List.mem_cons_self ..)
    have htop : ah_I σ 89 s.length = nI (wsg x) := by
      have := h3 s.length (by rw [hl1]; omega)
      rw [rev_r] at this; exact this
    have hb6 := (bnd_w x hx).2.2
    have z1 : nI (s.length + 1) - nI 1 = nI s.length := by rw [zsub (by omega)]; rfl
    show ∃ τ, f_X2_release_0_b (f_X2_release_0 fu) 88 (nI L) σ = some τ ∧ _ ∧ CSk τ t (if L ≤ bnd x then rels L s (o ++ [(2, x)]) else (o, x :: s)).2 (if L ≤ bnd x then rels L s (o ++ [(2, x)]) else (o, x :: s)).1 p c
    by_cases zb : L ≤ bnd x
    · rw [if_pos zb]
      have hx0 : x ≠ 0 := fun z => by rw [z] at zb; have : bnd 0 = 0 := by decide
                                      omega
      have hxs := hx.resolve_left hx0
      have hn1 : nop (x :: s) = 1 + nop s := by show (if x = 0 then 0 else 1) + nop s = _; rw [if_neg hx0]
      have hb1 : nbr (x :: s) = nbr s := by show (if x = 0 then 1 else 0) + nbr s = _; rw [if_neg hx0, Nat.zero_add]
      have g1 : Fr (fun a j => a = 88 ∧ j = 3 ∨ a = t + 33 ∧ j = 0) σ (ah_wI σ 88 3 (nI s.length)) := Fr.rfl.wI (Or.inl ⟨rfl, rfl⟩)
      have hW1 := hW.fr g1
      have k1 : CSk (ah_wI σ 88 3 (nI s.length)) t s o p c := by
        refine ⟨hW1, htn, h1, rI_eq, fun j hj => ?_, by rw [rI_ne (by omega)]; exact h4, by rw [rI_ne (by omega)]; exact h5, by rw [rI_ne (by omega)]; exact h6, fun j hj => ?_, h8, h9, by rw [← hb1]; exact h10, by omega, fun y hy => h12 y (List.mem_cons_of_mem _ hy)⟩
        · rw [rI_ne (by omega)]
          have := h3 j (by rw [hl1]; omega)
          rw [rev_l hj] at this; exact this
        · rw [rI_ne (by omega), rI_ne (by omega)]; exact h7 j hj
      have hap := c_append (s := 2) (v := x) k1 (by omega) (kn_sg hxs)
      have k2 : CSk _ t s (o ++ [(2, x)]) p c := CSk.app (s := 2) (v := x) h (kn_sg hxs) g1 hW1 rI_eq (by rw [rI_ne (by omega)]; exact h5) (fun j hj => (rev_l hj).symm) (by rw [hl1]; omega) h8 (by rw [← hb1]; exact h10) (by omega) (fun y hy => h12 y (List.mem_cons_of_mem _ hy))
      obtain ⟨τ, e1, e2, e3⟩ := ih (o ++ [(2, x)]) _ fu L (by rw [hl1] at hf; omega) hL hL6 k2
      refine ⟨τ, ?_, Fr.trans ?_ e2, e3⟩
      · rw [← e1]
        unfold f_X2_release_0_b
        simp only [to_bq, l_0, l_1, l_2, l_3, l_4, l_5, l_6, l_7, l_8, l_9, l_10, l_11, l_12, l_13, l_14, l_15, l_16, l_17, l_18, l_19, l_20, l_21, l_22, l_23, l_24, l_25, l_26, l_27, l_28, l_29, l_30, l_31, l_32, l_40, l_41, l_42, l_43, l_44, l_45, l_46, l_47, l_48, l_49, l_50, l_51, l_52, l_53, l_54, l_55, l_56, l_57, l_58, l_59, l_60, l_61, l_62, l_63, l_64, l_72, l_97, l_99, l_100, l_104, l_120, l_122, l_128, l_140, l_255, l_256, l_257, l_258, l_260, l_261, l_262, l_364, l_680, l_700, l_701, l_840, l_999, l_1023, l_1024, l_9999, l_10000, l_1000000, lm]
        have nle : ¬ nI (s.length + 1) ≤ nI 0 := by rw [le_nI (by omega) (by omega)]; omega
        have nlt : ¬ nI (bnd x) < nI L := by rw [lt_nI (by omega) (by omega)]; omega
        simp (disch := first | (with_reducible assumption) | omega | exact ⟨by omega, by omega⟩ | ((with_reducible first | apply Wf.wI | apply Wf.wL | apply Wf.fL | apply Wf.fI | apply Wf.fr); (repeat (with_reducible first | assumption | apply Wf.wI | apply Wf.wL | apply Wf.fL | apply Wf.fI | apply Wf.fr)))) only [ck_88, gI_88, gL_88, pI_88, pZ0_88, pZ1_88, pL_88, gR_88_0, gR_88_1, pR_88_2, gR_88_2, aI_89, sI_89, len_89, bq_n, bd_s, mp_s, rz_0, rz_1, bI_rz, h2, if_neg nle, z1, htop, c_bind hx, if_neg nlt, rI_ne, rI_eq, rL_ne, rL_eq, ah_I_wL, ah_L_wI, ah_R_wI, ah_R_wL, ah_I_wR, ah_L_wR, rR_ne, rR_eq, h1, hap]
      · exact (((g1.mono (fun a j z => by unfold Xrl; omega)).wI (by unfold Xrl; omega)).wI (by unfold Xrl; omega)).wI (by unfold Xrl; omega)
    · rw [if_neg zb]
      refine ⟨σ, ?_, Fr.rfl, h⟩
      unfold f_X2_release_0_b
      simp only [to_bq, l_0, l_1, l_2, l_3, l_4, l_5, l_6, l_7, l_8, l_9, l_10, l_11, l_12, l_13, l_14, l_15, l_16, l_17, l_18, l_19, l_20, l_21, l_22, l_23, l_24, l_25, l_26, l_27, l_28, l_29, l_30, l_31, l_32, l_40, l_41, l_42, l_43, l_44, l_45, l_46, l_47, l_48, l_49, l_50, l_51, l_52, l_53, l_54, l_55, l_56, l_57, l_58, l_59, l_60, l_61, l_62, l_63, l_64, l_72, l_97, l_99, l_100, l_104, l_120, l_122, l_128, l_140, l_255, l_256, l_257, l_258, l_260, l_261, l_262, l_364, l_680, l_700, l_701, l_840, l_999, l_1023, l_1024, l_9999, l_10000, l_1000000, lm]
      have nle : ¬ nI (s.length + 1) ≤ nI 0 := by rw [le_nI (by omega) (by omega)]; omega
      have nlt : nI (bnd x) < nI L := by rw [lt_nI (by omega) (by omega)]; omega
      simp (disch := first | (with_reducible assumption) | omega | exact ⟨by omega, by omega⟩ | ((with_reducible first | apply Wf.wI | apply Wf.wL | apply Wf.fL | apply Wf.fI | apply Wf.fr); (repeat (with_reducible first | assumption | apply Wf.wI | apply Wf.wL | apply Wf.fL | apply Wf.fI | apply Wf.fr)))) only [ck_88, gI_88, gL_88, pI_88, pZ0_88, pZ1_88, pL_88, gR_88_0, gR_88_1, pR_88_2, gR_88_2, aI_89, sI_89, len_89, bq_n, bd_s, mp_s, rz_0, rz_1, bI_rz, h2, if_neg nle, z1, htop, c_bind hx, if_pos nlt]
theorem c_release {L : Nat} (h : CSk σ t S o p c) (hL : 1 ≤ L) (hL6 : L ≤ 6) : ∃ τ, f_X2_release 88 (nI L) σ = some τ ∧ Fr (Xrl t) σ τ ∧ CSk τ t (rels L S o).2 (rels L S o).1 p c := by
  have hlen := h.len
  obtain ⟨τ, e1, e2, e3⟩ := c_rel S o σ 5000 L (by omega) hL hL6 h
  refine ⟨τ, ?_, e2, e3⟩
  unfold f_X2_release
  rw [ck_88 h.1]
  exact e1
end
