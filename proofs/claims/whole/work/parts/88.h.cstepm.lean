/-! THE CLASS: one token of an expression -/
def dI (d : Bool) : Int32 := if d then nI 1 else nI 0
section
variable {σ τ : ah_H} {t p c : Nat} {S : List Nat} {o : List (Nat × Nat)} {T : Nat → Nat} {n N i : Nat}
theorem CSk.fr {X : Nat → Nat → Prop} (h : CSk σ t S o p c) (g : Fr X σ τ) (hX : ∀ a j, a = 88 ∧ (j = 2 ∨ j = 3 ∨ j = 4) ∨ a = 89 ∨ a = t + 33 ∨ a = t + 34 ∨ a = t + 35 → ¬ X a j) : CSk τ t S o p c := by
  obtain ⟨hW, htn, h1, h2, h3, h4, h5, h6, h7, h8⟩ := h
  exact ⟨hW.fr g, htn, by rw [g.R (Or.inr (hX _ _ (by omega)))]; exact h1, by rw [g.I (hX _ _ (by omega))]; exact h2, fun j hj => by rw [g.I (hX _ _ (by omega))]; exact h3 j hj, by rw [g.I (hX _ _ (by omega))]; exact h4, by rw [g.I (hX _ _ (by omega))]; exact h5, by rw [g.I (hX _ _ (by omega))]; exact h6, fun j hj => by rw [g.I (hX _ _ (by omega)), g.I (hX _ _ (by omega))]; exact h7 j hj, h8⟩
theorem c_addLeaf (h : CSk σ t S o p c) {s v : Nat} {s' v' : Int32} (hk : knC (nI s) (nI v) s' v') : (c < 64 → ∃ τ, f_X2_addLeaf 88 s' v' σ = some (nI 0, τ) ∧ Fr (Xfm t) σ τ ∧ CSk τ t S (o ++ [(s, v)]) p (c + 1) ∧ ah_I τ 88 5 = nI 0 ∧ ah_I τ 88 6 = ah_I σ 88 6) ∧ (¬ c < 64 → f_X2_addLeaf 88 s' v' σ = some (nI 2, σ)) := by
  obtain ⟨hW, htn, h1, h2, h3, h4, h5, h6, h7, h8, h9, h10, h11, h12⟩ := id h
  have hT : t = 2 ∨ t = 42 := htn
  constructor
  · intro hc
    have g1 : Fr (fun a j => a = 88 ∧ j = 3 ∨ a = t + 33 ∧ j = 0) σ (ah_wI σ (t + 33) 0 (nI (c + 1))) := Fr.rfl.wI (Or.inr ⟨rfl, rfl⟩)
    have hW1 := hW.fr g1
    have k1 : CSk (ah_wI σ (t + 33) 0 (nI (c + 1))) t S o p (c + 1) := ⟨hW1, htn, h1, by rw [rI_ne (by omega)]; exact h2, fun j hj => by rw [rI_ne (by omega)]; exact h3 j hj, by rw [rI_ne (by omega)]; exact h4, rI_eq, by rw [rI_ne (by omega)]; exact h6, fun j hj => by rw [rI_ne (by omega), rI_ne (by omega)]; exact h7 j hj, by omega, h9, h10, by omega, h12⟩
    have hap := c_append (s := s) (v := v) k1 (by omega) hk
    have k2 : CSk _ t S (o ++ [(s, v)]) p (c + 1) := CSk.app (s := s) (v := v) h hk g1 hW1 (by rw [rI_ne (by omega)]; exact h2) rI_eq (fun j hj => rfl) (Nat.le_refl _) (by omega) h10 (by omega) h12
    have hW2 := k2.1
    refine ⟨ah_wI (ah_wI (ah_wI (ah_wI (ah_wI σ (t + 33) 0 (nI (c + 1))) (t + 34) o.length s') (t + 35) o.length v') (t + 33) 1 (nI (o.length + 1))) 88 5 (nI 0), ?_, ?_, ?_, rI_eq, ?_⟩
    · unfold f_X2_addLeaf f_X2_addLeaf_0
      simp only [to_bq, l_0, l_1, l_2, l_3, l_4, l_5, l_6, l_7, l_8, l_9, l_10, l_11, l_12, l_13, l_14, l_15, l_16, l_17, l_18, l_19, l_20, l_21, l_22, l_23, l_24, l_25, l_26, l_27, l_28, l_29, l_30, l_31, l_32, l_40, l_41, l_42, l_43, l_44, l_45, l_46, l_47, l_48, l_49, l_50, l_51, l_52, l_53, l_54, l_55, l_56, l_57, l_58, l_59, l_60, l_61, l_62, l_63, l_64, l_72, l_97, l_99, l_100, l_104, l_120, l_122, l_128, l_140, l_255, l_256, l_257, l_258, l_260, l_261, l_262, l_364, l_680, l_700, l_701, l_840, l_999, l_1023, l_1024, l_9999, l_10000, l_1000000, lm]
      simp (disch := first | (with_reducible assumption) | omega | exact ⟨by omega, by omega⟩ | ((with_reducible first | apply Wf.wI | apply Wf.wL | apply Wf.fL | apply Wf.fI | apply Wf.fr); (repeat (with_reducible first | assumption | apply Wf.wI | apply Wf.wL | apply Wf.fL | apply Wf.fI | apply Wf.fr)))) only [ck_88, gI_88, gL_88, pI_88, pZ0_88, pZ1_88, pL_88, gR_88_0, gR_88_1, pR_88_2, gR_88_2, ck_t, gI_t, gL_t, pI_t, pZ0_t, pZ1_t, pL_t, ck_w, gI_w, gL_w, pI_w, pZ0_w, pZ1_w, pL_w, gR_t_1, gR_t_5, gR_t_7, gR_t_9, gR_t_10, gR_t_11, gR_t_12, gR_t_15, gR_w_2, gR_w_3, gR_w_4, gR_w_5, gR_w_6, gR_w_7, aR_crow, aR_srow, aR_prow, aR_rrow, aI_crow, sI_crow, len_crow, aI_srow, sI_srow, len_srow, aI_prow, sI_prow, len_prow, aI_rrow, sI_rrow, len_rrow, aI_t25, sI_t25, len_t25, aI_t31, sI_t31, len_t31, aI_t32, sI_t32, len_t32, aI_t34, sI_t34, len_t34, aI_t35, sI_t35, len_t35, aI_t36, sI_t36, len_t36, aI_t37, sI_t37, len_t37, aL_t38, sL_t38, len_t38, aL_t39, sL_t39, len_t39, bq_n, bd_s, mp_s, rz_0, rz_1, bI_rz, h1, h5, lt_nI, show (c < 64) = True from eq_true hc, if_true, if_false, ite_true, ite_false, reduceIte, not_true, not_false, and_true, true_and, and_false, false_and, or_true, true_or, or_false, false_or, eq_self, zadd, rI_ne, rI_eq, rL_ne, rL_eq, ah_I_wL, ah_L_wI, ah_R_wI, ah_R_wL, ah_I_wR, ah_L_wR, rR_ne, rR_eq, hap]
    · exact (((((Fr.rfl.wI (by unfold Xfm; omega)).wI (by unfold Xfm; omega)).wI (by unfold Xfm; omega)).wI (by unfold Xfm; omega)).wI (by unfold Xfm; omega))
    · exact k2.fr (X := fun a j => a = 88 ∧ j = 5) (Fr.rfl.wI ⟨rfl, rfl⟩) (fun a j _ => by omega)
    · rw [rI_ne (by omega), rI_ne (by omega), rI_ne (by omega), rI_ne (by omega), rI_ne (by omega)]
  · intro hc
    unfold f_X2_addLeaf f_X2_addLeaf_0
    simp only [to_bq, l_0, l_1, l_2, l_3, l_4, l_5, l_6, l_7, l_8, l_9, l_10, l_11, l_12, l_13, l_14, l_15, l_16, l_17, l_18, l_19, l_20, l_21, l_22, l_23, l_24, l_25, l_26, l_27, l_28, l_29, l_30, l_31, l_32, l_40, l_41, l_42, l_43, l_44, l_45, l_46, l_47, l_48, l_49, l_50, l_51, l_52, l_53, l_54, l_55, l_56, l_57, l_58, l_59, l_60, l_61, l_62, l_63, l_64, l_72, l_97, l_99, l_100, l_104, l_120, l_122, l_128, l_140, l_255, l_256, l_257, l_258, l_260, l_261, l_262, l_364, l_680, l_700, l_701, l_840, l_999, l_1023, l_1024, l_9999, l_10000, l_1000000, lm]
    simp (disch := first | (with_reducible assumption) | omega | exact ⟨by omega, by omega⟩ | ((with_reducible first | apply Wf.wI | apply Wf.wL | apply Wf.fL | apply Wf.fI | apply Wf.fr); (repeat (with_reducible first | assumption | apply Wf.wI | apply Wf.wL | apply Wf.fL | apply Wf.fI | apply Wf.fr)))) only [ck_88, gI_88, gL_88, pI_88, pZ0_88, pZ1_88, pL_88, gR_88_0, gR_88_1, pR_88_2, gR_88_2, ck_t, gI_t, gL_t, pI_t, pZ0_t, pZ1_t, pL_t, ck_w, gI_w, gL_w, pI_w, pZ0_w, pZ1_w, pL_w, gR_t_1, gR_t_5, gR_t_7, gR_t_9, gR_t_10, gR_t_11, gR_t_12, gR_t_15, gR_w_2, gR_w_3, gR_w_4, gR_w_5, gR_w_6, gR_w_7, aR_crow, aR_srow, aR_prow, aR_rrow, aI_crow, sI_crow, len_crow, aI_srow, sI_srow, len_srow, aI_prow, sI_prow, len_prow, aI_rrow, sI_rrow, len_rrow, aI_t25, sI_t25, len_t25, aI_t31, sI_t31, len_t31, aI_t32, sI_t32, len_t32, aI_t34, sI_t34, len_t34, aI_t35, sI_t35, len_t35, aI_t36, sI_t36, len_t36, aI_t37, sI_t37, len_t37, aL_t38, sL_t38, len_t38, aL_t39, sL_t39, len_t39, bq_n, bd_s, mp_s, rz_0, rz_1, bI_rz, h1, h5, lt_nI, show (c < 64) = False from eq_false hc, if_true, if_false, ite_true, ite_false, reduceIte, not_true, not_false, and_true, true_and, and_false, false_and, or_true, true_or, or_false, false_or, eq_self]
theorem CSk.push (h : CSk σ t S o p c) {x p' c' : Nat} (hx : x = 0 ∨ sgO x) (hp : p' = p + (if x = 0 then 1 else 0)) (hc' : c' = c + (if x = 0 then 0 else 1)) (hp8 : p' ≤ 8) (hc64 : c' ≤ 64) {ρ : ah_H} (g : Fr (fun a j => a = t + 33 ∧ j = 0 ∨ a = 89 ∧ j = S.length ∨ a = 88 ∧ 3 ≤ j ∧ j ≤ 6) σ ρ) (e0 : ah_I ρ (t + 33) 0 = nI c') (e89 : ah_I ρ 89 S.length = nI (wsg x)) (e3 : ah_I ρ 88 3 = nI (S.length + 1)) (e4 : ah_I ρ 88 4 = nI p') : CSk ρ t (x :: S) o p' c' := by
  obtain ⟨hW, htn, h1, h2, h3, h4, h5, h6, h7, h8, h9, h10, h11, h12⟩ := h
  have hT : t = 2 ∨ t = 42 := htn
  have hn1 : nop (x :: S) = (if x = 0 then 0 else 1) + nop S := rfl
  have hb1 : nbr (x :: S) = (if x = 0 then 1 else 0) + nbr S := rfl
  refine ⟨hW.fr g, htn, by rw [g.R (Or.inr (by omega))]; exact h1, e3, fun j hj => ?_, e4, e0, by rw [g.I (by omega)]; exact h6, fun j hj => by rw [g.I (by omega), g.I (by omega)]; exact h7 j hj, hc64, hp8, by omega, by omega, fun y hy => ?_⟩
  · have hj : j < S.length + 1 := hj
    by_cases z : j = S.length
    · rw [z, rev_r]; exact e89
    · rw [rev_l (by omega), g.I (by omega)]; exact h3 j (by omega)
  · rw [List.mem_cons] at hy
    rcases hy with hy | hy
    · rw [hy]; exact hx
    · exact h12 y hy
theorem c_addWait (h : CSk σ t S o p c) {x : Nat} (hx : sgO x) : (c < 64 → ∃ τ, f_X2_addWaiting 88 (nI (wsg x)) σ = some (nI 0, τ) ∧ Fr (Xfm t) σ τ ∧ CSk τ t (x :: S) o p (c + 1) ∧ ah_I τ 88 5 = nI 1 ∧ ah_I τ 88 6 = ah_I σ 88 6) ∧ (¬ c < 64 → f_X2_addWaiting 88 (nI (wsg x)) σ = some (nI 2, σ)) := by
  have hlen := h.len
  obtain ⟨hW, htn, h1, h2, h3, h4, h5, h6, h7, h8, h9, h10, h11, h12⟩ := id h
  have hT : t = 2 ∨ t = 42 := htn
  have hx0 : ¬ x = 0 := by omega
  constructor
  · intro hc
    have f1 : Fr (fun a j => a = t + 33 ∧ j = 0 ∨ a = 89 ∧ j = S.length ∨ a = 88 ∧ 3 ≤ j ∧ j ≤ 6) σ (ah_wI (ah_wI (ah_wI (ah_wI σ (t + 33) 0 (nI (c + 1))) 89 S.length (nI (wsg x))) 88 3 (nI (S.length + 1))) 88 5 (nI 1)) := (((Fr.rfl.wI (by omega)).wI (by omega)).wI (by omega)).wI (by omega)
    refine ⟨_, ?_, f1.mono (fun a j z => by unfold Xfm; omega), h.push (Or.inr hx) (by rw [if_neg hx0]; rfl) (by rw [if_neg hx0]) h9 (by omega) f1 ?_ ?_ ?_ ?_, rI_eq, ?_⟩
    · unfold f_X2_addWaiting f_X2_addWaiting_0
      simp only [to_bq, l_0, l_1, l_2, l_3, l_4, l_5, l_6, l_7, l_8, l_9, l_10, l_11, l_12, l_13, l_14, l_15, l_16, l_17, l_18, l_19, l_20, l_21, l_22, l_23, l_24, l_25, l_26, l_27, l_28, l_29, l_30, l_31, l_32, l_40, l_41, l_42, l_43, l_44, l_45, l_46, l_47, l_48, l_49, l_50, l_51, l_52, l_53, l_54, l_55, l_56, l_57, l_58, l_59, l_60, l_61, l_62, l_63, l_64, l_72, l_97, l_99, l_100, l_104, l_120, l_122, l_128, l_140, l_255, l_256, l_257, l_258, l_260, l_261, l_262, l_364, l_680, l_700, l_701, l_840, l_999, l_1023, l_1024, l_9999, l_10000, l_1000000, lm]
      simp (disch := first | (with_reducible assumption) | omega | exact ⟨by omega, by omega⟩ | ((with_reducible first | apply Wf.wI | apply Wf.wL | apply Wf.fL | apply Wf.fI | apply Wf.fr); (repeat (with_reducible first | assumption | apply Wf.wI | apply Wf.wL | apply Wf.fL | apply Wf.fI | apply Wf.fr)))) only [ck_88, gI_88, gL_88, pI_88, pZ0_88, pZ1_88, pL_88, gR_88_0, gR_88_1, pR_88_2, gR_88_2, aI_89, sI_89, len_89, ck_t, gI_t, gL_t, pI_t, pZ0_t, pZ1_t, pL_t, ck_w, gI_w, gL_w, pI_w, pZ0_w, pZ1_w, pL_w, gR_t_1, gR_t_5, gR_t_7, gR_t_9, gR_t_10, gR_t_11, gR_t_12, gR_t_15, gR_w_2, gR_w_3, gR_w_4, gR_w_5, gR_w_6, gR_w_7, aR_crow, aR_srow, aR_prow, aR_rrow, aI_crow, sI_crow, len_crow, aI_srow, sI_srow, len_srow, aI_prow, sI_prow, len_prow, aI_rrow, sI_rrow, len_rrow, aI_t25, sI_t25, len_t25, aI_t31, sI_t31, len_t31, aI_t32, sI_t32, len_t32, aI_t34, sI_t34, len_t34, aI_t35, sI_t35, len_t35, aI_t36, sI_t36, len_t36, aI_t37, sI_t37, len_t37, aL_t38, sL_t38, len_t38, aL_t39, sL_t39, len_t39, bq_n, bd_s, mp_s, rz_0, rz_1, bI_rz, h1, h5, h2, le_nI, lt_nI, show (64 ≤ c) = False from eq_false (by omega), show (S.length < 72) = True from eq_true (by omega), if_true, if_false, ite_true, ite_false, reduceIte, not_true, not_false, and_true, true_and, and_false, false_and, or_true, true_or, or_false, false_or, eq_self, zadd, rI_ne, rI_eq, rL_ne, rL_eq, ah_I_wL, ah_L_wI, ah_R_wI, ah_R_wL, ah_I_wR, ah_L_wR, rR_ne, rR_eq]
    · rw [rI_ne (by omega), rI_ne (by omega), rI_ne (by omega), rI_eq]
    · rw [rI_ne (by omega), rI_ne (by omega), rI_eq]
    · rw [rI_ne (by omega), rI_eq]
    · rw [rI_ne (by omega), rI_ne (by omega), rI_ne (by omega), rI_ne (by omega)]; exact h4
    · rw [rI_ne (by omega), rI_ne (by omega), rI_ne (by omega), rI_ne (by omega)]
  · intro hc
    unfold f_X2_addWaiting f_X2_addWaiting_0
    simp only [to_bq, l_0, l_1, l_2, l_3, l_4, l_5, l_6, l_7, l_8, l_9, l_10, l_11, l_12, l_13, l_14, l_15, l_16, l_17, l_18, l_19, l_20, l_21, l_22, l_23, l_24, l_25, l_26, l_27, l_28, l_29, l_30, l_31, l_32, l_40, l_41, l_42, l_43, l_44, l_45, l_46, l_47, l_48, l_49, l_50, l_51, l_52, l_53, l_54, l_55, l_56, l_57, l_58, l_59, l_60, l_61, l_62, l_63, l_64, l_72, l_97, l_99, l_100, l_104, l_120, l_122, l_128, l_140, l_255, l_256, l_257, l_258, l_260, l_261, l_262, l_364, l_680, l_700, l_701, l_840, l_999, l_1023, l_1024, l_9999, l_10000, l_1000000, lm]
    simp (disch := first | (with_reducible assumption) | omega | exact ⟨by omega, by omega⟩ | ((with_reducible first | apply Wf.wI | apply Wf.wL | apply Wf.fL | apply Wf.fI | apply Wf.fr); (repeat (with_reducible first | assumption | apply Wf.wI | apply Wf.wL | apply Wf.fL | apply Wf.fI | apply Wf.fr)))) only [ck_88, gI_88, gL_88, pI_88, pZ0_88, pZ1_88, pL_88, gR_88_0, gR_88_1, pR_88_2, gR_88_2, ck_t, gI_t, gL_t, pI_t, pZ0_t, pZ1_t, pL_t, ck_w, gI_w, gL_w, pI_w, pZ0_w, pZ1_w, pL_w, gR_t_1, gR_t_5, gR_t_7, gR_t_9, gR_t_10, gR_t_11, gR_t_12, gR_t_15, gR_w_2, gR_w_3, gR_w_4, gR_w_5, gR_w_6, gR_w_7, aR_crow, aR_srow, aR_prow, aR_rrow, aI_crow, sI_crow, len_crow, aI_srow, sI_srow, len_srow, aI_prow, sI_prow, len_prow, aI_rrow, sI_rrow, len_rrow, aI_t25, sI_t25, len_t25, aI_t31, sI_t31, len_t31, aI_t32, sI_t32, len_t32, aI_t34, sI_t34, len_t34, aI_t35, sI_t35, len_t35, aI_t36, sI_t36, len_t36, aI_t37, sI_t37, len_t37, aL_t38, sL_t38, len_t38, aL_t39, sL_t39, len_t39, bq_n, bd_s, mp_s, rz_0, rz_1, bI_rz, h1, h5, le_nI, show (64 ≤ c) = True from eq_true (by omega), if_true, if_false, ite_true, ite_false, reduceIte, not_true, not_false, and_true, true_and, and_false, false_and, or_true, true_or, or_false, false_or, eq_self]
theorem c_openB (h : CSk σ t S o p c) : (p < 8 → ∃ τ, f_X2_openBracket 88 σ = some (nI 0, τ) ∧ Fr (Xfm t) σ τ ∧ CSk τ t (0 :: S) o (p + 1) c ∧ ah_I τ 88 5 = ah_I σ 88 5 ∧ ah_I τ 88 6 = ah_I σ 88 6) ∧ (¬ p < 8 → f_X2_openBracket 88 σ = some (nI 2, σ)) := by
  have hlen := h.len
  obtain ⟨hW, htn, h1, h2, h3, h4, h5, h6, h7, h8, h9, h10, h11, h12⟩ := id h
  have hT : t = 2 ∨ t = 42 := htn
  constructor
  · intro hp
    have f1 : Fr (fun a j => a = t + 33 ∧ j = 0 ∨ a = 89 ∧ j = S.length ∨ a = 88 ∧ 3 ≤ j ∧ j ≤ 6) σ (ah_wI (ah_wI (ah_wI σ 89 S.length (nI 31)) 88 3 (nI (S.length + 1))) 88 4 (nI (p + 1))) := ((Fr.rfl.wI (by omega)).wI (by omega)).wI (by omega)
    refine ⟨_, ?_, f1.mono (fun a j z => by unfold Xfm; omega), h.push (x := 0) (Or.inl rfl) (by rw [if_pos rfl]) (by rw [if_pos rfl]; rfl) (by omega) h8 f1 ?_ ?_ ?_ rI_eq, ?_, ?_⟩
    · unfold f_X2_openBracket f_X2_openBracket_0
      simp only [to_bq, l_0, l_1, l_2, l_3, l_4, l_5, l_6, l_7, l_8, l_9, l_10, l_11, l_12, l_13, l_14, l_15, l_16, l_17, l_18, l_19, l_20, l_21, l_22, l_23, l_24, l_25, l_26, l_27, l_28, l_29, l_30, l_31, l_32, l_40, l_41, l_42, l_43, l_44, l_45, l_46, l_47, l_48, l_49, l_50, l_51, l_52, l_53, l_54, l_55, l_56, l_57, l_58, l_59, l_60, l_61, l_62, l_63, l_64, l_72, l_97, l_99, l_100, l_104, l_120, l_122, l_128, l_140, l_255, l_256, l_257, l_258, l_260, l_261, l_262, l_364, l_680, l_700, l_701, l_840, l_999, l_1023, l_1024, l_9999, l_10000, l_1000000, lm]
      simp (disch := first | (with_reducible assumption) | omega | exact ⟨by omega, by omega⟩ | ((with_reducible first | apply Wf.wI | apply Wf.wL | apply Wf.fL | apply Wf.fI | apply Wf.fr); (repeat (with_reducible first | assumption | apply Wf.wI | apply Wf.wL | apply Wf.fL | apply Wf.fI | apply Wf.fr)))) only [ck_88, gI_88, gL_88, pI_88, pZ0_88, pZ1_88, pL_88, gR_88_0, gR_88_1, pR_88_2, gR_88_2, aI_89, sI_89, len_89, bq_n, bd_s, mp_s, rz_0, rz_1, bI_rz, h4, h2, le_nI, lt_nI, show (8 ≤ p) = False from eq_false (by omega), show (S.length < 72) = True from eq_true (by omega), if_true, if_false, ite_true, ite_false, reduceIte, not_true, not_false, and_true, true_and, and_false, false_and, or_true, true_or, or_false, false_or, eq_self, zadd, rI_ne, rI_eq, rL_ne, rL_eq, ah_I_wL, ah_L_wI, ah_R_wI, ah_R_wL, ah_I_wR, ah_L_wR, rR_ne, rR_eq]
    · rw [rI_ne (by omega), rI_ne (by omega), rI_ne (by omega)]; exact h5
    · rw [rI_ne (by omega), rI_ne (by omega), rI_eq]; rfl
    · rw [rI_ne (by omega), rI_eq]
    · rw [rI_ne (by omega), rI_ne (by omega), rI_ne (by omega)]
    · rw [rI_ne (by omega), rI_ne (by omega), rI_ne (by omega)]
  · intro hp
    unfold f_X2_openBracket f_X2_openBracket_0
    simp only [to_bq, l_0, l_1, l_2, l_3, l_4, l_5, l_6, l_7, l_8, l_9, l_10, l_11, l_12, l_13, l_14, l_15, l_16, l_17, l_18, l_19, l_20, l_21, l_22, l_23, l_24, l_25, l_26, l_27, l_28, l_29, l_30, l_31, l_32, l_40, l_41, l_42, l_43, l_44, l_45, l_46, l_47, l_48, l_49, l_50, l_51, l_52, l_53, l_54, l_55, l_56, l_57, l_58, l_59, l_60, l_61, l_62, l_63, l_64, l_72, l_97, l_99, l_100, l_104, l_120, l_122, l_128, l_140, l_255, l_256, l_257, l_258, l_260, l_261, l_262, l_364, l_680, l_700, l_701, l_840, l_999, l_1023, l_1024, l_9999, l_10000, l_1000000, lm]
    simp (disch := first | (with_reducible assumption) | omega | exact ⟨by omega, by omega⟩ | ((with_reducible first | apply Wf.wI | apply Wf.wL | apply Wf.fL | apply Wf.fI | apply Wf.fr); (repeat (with_reducible first | assumption | apply Wf.wI | apply Wf.wL | apply Wf.fL | apply Wf.fI | apply Wf.fr)))) only [ck_88, gI_88, gL_88, pI_88, pZ0_88, pZ1_88, pL_88, gR_88_0, gR_88_1, pR_88_2, gR_88_2, bq_n, bd_s, mp_s, rz_0, rz_1, bI_rz, h4, le_nI, show (8 ≤ p) = True from eq_true (by omega), if_true, if_false, ite_true, ite_false, reduceIte, not_true, not_false, and_true, true_and, and_false, false_and, or_true, true_or, or_false, false_or, eq_self]
/-- the sign on top -/
theorem CSk.top (h : CSk σ t S o p c) {x : Nat} {s : List Nat} (e : S = x :: s) : ah_I σ 88 3 = nI (s.length + 1) ∧ ah_I σ 89 s.length = nI (wsg x) ∧ (x = 0 ∨ sgO x) ∧ s.length < 72 := by
  have hlen := h.len
  obtain ⟨hW, htn, h1, h2, h3, h4, h5, h6, h7, h8, h9, h10, h11, h12⟩ := id h
  subst e
  have hl1 : (x :: s).length = s.length + 1 := rfl
  have := h3 s.length (by rw [hl1]; omega)
  rw [rev_r] at this
  exact ⟨h2, this, h12 x (List.mem_cons_self ..), by rw [hl1] at hlen; omega⟩
theorem c_mayNeg (h : CSk σ t S o p c) : f_X2_mayNegate 88 σ = some (cI (topb S ≤ 3), σ) := by
  have hW := h.1
  cases e : S with
  | nil =>
    have h2 := h.2.2.2.1
    rw [e] at h2
    have h2 : ah_I σ 88 3 = nI 0 := h2
    rw [cI_t (by show 0 ≤ 3; omega)]
    unfold f_X2_mayNegate f_X2_mayNegate_0
    simp only [to_bq, l_0, l_1, l_2, l_3, l_4, l_5, l_6, l_7, l_8, l_9, l_10, l_11, l_12, l_13, l_14, l_15, l_16, l_17, l_18, l_19, l_20, l_21, l_22, l_23, l_24, l_25, l_26, l_27, l_28, l_29, l_30, l_31, l_32, l_40, l_41, l_42, l_43, l_44, l_45, l_46, l_47, l_48, l_49, l_50, l_51, l_52, l_53, l_54, l_55, l_56, l_57, l_58, l_59, l_60, l_61, l_62, l_63, l_64, l_72, l_97, l_99, l_100, l_104, l_120, l_122, l_128, l_140, l_255, l_256, l_257, l_258, l_260, l_261, l_262, l_364, l_680, l_700, l_701, l_840, l_999, l_1023, l_1024, l_9999, l_10000, l_1000000, lm]
    simp (disch := first | (with_reducible assumption) | omega | exact ⟨by omega, by omega⟩ | ((with_reducible first | apply Wf.wI | apply Wf.wL | apply Wf.fL | apply Wf.fI | apply Wf.fr); (repeat (with_reducible first | assumption | apply Wf.wI | apply Wf.wL | apply Wf.fL | apply Wf.fI | apply Wf.fr)))) only [ck_88, gI_88, gL_88, pI_88, pZ0_88, pZ1_88, pL_88, gR_88_0, gR_88_1, pR_88_2, gR_88_2, bq_n, bd_s, mp_s, rz_0, rz_1, bI_rz, h2, if_true, if_false, ite_true, ite_false, reduceIte, not_true, not_false, and_true, true_and, and_false, false_and, or_true, true_or, or_false, false_or, eq_self]
  | cons x s =>
    obtain ⟨t1, t2, t3, t4⟩ := h.top e
    have hb := (bnd_w x t3).2.2
    have z1 : nI (s.length + 1) - nI 1 = nI s.length := by rw [zsub (by omega)]; rfl
    have nz : ¬ nI (s.length + 1) = nI 0 := by rw [eq_nI (by omega) (by omega)]; omega
    have b4 : ∀ ρ, f_X2_bindingOf (nI 4) ρ = some (nI 3, ρ) := fun ρ => rfl
    unfold f_X2_mayNegate f_X2_mayNegate_0
    simp only [to_bq, l_0, l_1, l_2, l_3, l_4, l_5, l_6, l_7, l_8, l_9, l_10, l_11, l_12, l_13, l_14, l_15, l_16, l_17, l_18, l_19, l_20, l_21, l_22, l_23, l_24, l_25, l_26, l_27, l_28, l_29, l_30, l_31, l_32, l_40, l_41, l_42, l_43, l_44, l_45, l_46, l_47, l_48, l_49, l_50, l_51, l_52, l_53, l_54, l_55, l_56, l_57, l_58, l_59, l_60, l_61, l_62, l_63, l_64, l_72, l_97, l_99, l_100, l_104, l_120, l_122, l_128, l_140, l_255, l_256, l_257, l_258, l_260, l_261, l_262, l_364, l_680, l_700, l_701, l_840, l_999, l_1023, l_1024, l_9999, l_10000, l_1000000, lm]
    simp (disch := first | (with_reducible assumption) | omega | exact ⟨by omega, by omega⟩ | ((with_reducible first | apply Wf.wI | apply Wf.wL | apply Wf.fL | apply Wf.fI | apply Wf.fr); (repeat (with_reducible first | assumption | apply Wf.wI | apply Wf.wL | apply Wf.fL | apply Wf.fI | apply Wf.fr)))) only [ck_88, gI_88, gL_88, pI_88, pZ0_88, pZ1_88, pL_88, gR_88_0, gR_88_1, pR_88_2, gR_88_2, aI_89, sI_89, len_89, bq_n, bd_s, mp_s, rz_0, rz_1, bI_rz, t1, if_neg nz, z1, t2, c_bind t3, b4, lt_nI]
    by_cases z : bnd x ≤ 3
    · rw [if_neg (by omega), cI_t (by show bnd x ≤ 3; exact z)]
    · rw [if_pos (by omega), cI_f (by show ¬ bnd x ≤ 3; exact z)]
/-- what one token did -/
def SOt (t : Nat) (τ : ah_H) (r : Nat) (mr : MR) (k : TK) (i : Nat) : Prop := (∃ f, mr = .inl (f, i) ∧ r = f ∧ 1 ≤ f ∧ f ≤ 2) ∨ (∃ o' S' p' c' d', mr = .inr (.inr (i + 1, o', S', p', c', d')) ∧ r = 0 ∧ CSk τ t S' o' p' c' ∧ ah_I τ 88 5 = dI d' ∧ ah_I τ 88 6 = nI 0 ∧ tS k ≠ 4) ∨ (∃ o' S' c', mr = .inr (.inl (i, o', S', 0, c', false)) ∧ r = 0 ∧ CSk τ t S' o' 0 c' ∧ ah_I τ 88 6 = nI 1)
theorem c_side (hA : CAt σ T n N i) (hv : TVb (tks T n i)) (h : CSk σ t S o p c) (h5 : ah_I σ 88 5 = nI 1) (h6 : ah_I σ 88 6 = nI 0) : ∃ τ r, f_X2_readSide 88 σ = some (nI r, τ) ∧ Fr (Xfm t) σ τ ∧ SOt t τ r (mst (tks T n) (i, o, S, p, c, true)) (tks T n i) i := by
  have hW := h.1
  have h64 : c ≤ 64 := h.2.2.2.2.2.2.2.2.2.1
  have hst : mst (tks T n) (i, o, S, p, c, true) = (if tS (tks T n i) = 2 then (if 9999 < tV (tks T n i) then .inl (2, i) else if 64 ≤ c then .inl (2, i) else .inr (.inr (i + 1, o ++ [(0, tV (tks T n i))], S, p, c + 1, false))) else if tS (tks T n i) = 3 ∧ tV (tks T n i) = 40 then (if 8 ≤ p then .inl (2, i) else .inr (.inr (i + 1, o, 0 :: S, p + 1, c, true))) else if tS (tks T n i) = 0 ∧ tV (tks T n i) = 17 ∧ topb S ≤ 3 then (if 64 ≤ c then .inl (2, i) else .inr (.inr (i + 1, o, 260 :: S, p, c + 1, true))) else if tS (tks T n i) = 0 ∧ 18 ≤ tV (tks T n i) then (if 64 ≤ c then .inl (2, i) else .inr (.inr (i + 1, o ++ [(1, tV (tks T n i) - 18)], S, p, c + 1, false))) else .inl (1, i)) := rfl
  have k31 := sgc_30 (v := tV (tks T n i))
  have kd := hA.kd
  by_cases z2 : tS (tks T n i) = 2
  · -- a number
    have kd2 : ah_I σ 83 8 = nI 3 ∧ ∃ v, v ≤ 1000000 ∧ ah_I σ 83 9 = nI v ∧ (v = tV (tks T n i) ∨ 9999 < v ∧ 9999 < tV (tks T n i)) := by
      rcases kd with ⟨a, b, d⟩ | ⟨a, b, d⟩ | ⟨a, b, d⟩ | ⟨a, b, d⟩ | ⟨a, b⟩ | ⟨a, b⟩
      · omega
      · omega
      · exact ⟨b, d⟩
      · omega
      · omega
      · omega
    obtain ⟨e8, v, v1, e9, v2⟩ := kd2
    rw [if_pos z2] at hst
    by_cases z9 : v ≤ 9999
    · have hvv : tV (tks T n i) = v := by omega
      rw [if_neg (by omega), hvv] at hst
      obtain ⟨la, lb⟩ := c_addLeaf (s := 0) (v := v) (s' := nI 0) (v' := nI v) h (Or.inl ⟨rfl, rfl, rfl⟩)
      by_cases zc : c < 64
      · obtain ⟨τ, e1, f1, k1, d1, d2⟩ := la zc
        rw [if_neg (by omega)] at hst
        refine ⟨τ, 0, ?_, f1, Or.inr (Or.inl ⟨_, _, _, _, false, hst, rfl, k1, d1, d2.trans h6, by omega⟩)⟩
        unfold f_X2_readSide f_X2_readSide_0
        simp only [to_bq, l_0, l_1, l_2, l_3, l_4, l_5, l_6, l_7, l_8, l_9, l_10, l_11, l_12, l_13, l_14, l_15, l_16, l_17, l_18, l_19, l_20, l_21, l_22, l_23, l_24, l_25, l_26, l_27, l_28, l_29, l_30, l_31, l_32, l_40, l_41, l_42, l_43, l_44, l_45, l_46, l_47, l_48, l_49, l_50, l_51, l_52, l_53, l_54, l_55, l_56, l_57, l_58, l_59, l_60, l_61, l_62, l_63, l_64, l_72, l_97, l_99, l_100, l_104, l_120, l_122, l_128, l_140, l_255, l_256, l_257, l_258, l_260, l_261, l_262, l_364, l_680, l_700, l_701, l_840, l_999, l_1023, l_1024, l_9999, l_10000, l_1000000, lm]
        simp (disch := first | (with_reducible assumption) | omega | exact ⟨by omega, by omega⟩ | ((with_reducible first | apply Wf.wI | apply Wf.wL | apply Wf.fL | apply Wf.fI | apply Wf.fr); (repeat (with_reducible first | assumption | apply Wf.wI | apply Wf.wL | apply Wf.fL | apply Wf.fI | apply Wf.fr)))) only [ck_88, gI_88, gL_88, pI_88, pZ0_88, pZ1_88, pL_88, gR_88_0, gR_88_1, pR_88_2, gR_88_2, ck_83, gI_83, gL_83, pI_83, pZ0_83, pZ1_83, pL_83, gR_83_0, gR_83_1, gR_83_2, gR_83_3, gR_83_4, bq_n, bd_s, mp_s, rz_0, rz_1, bI_rz, e8, if_true, if_false, ite_true, ite_false, reduceIte, not_true, not_false, and_true, true_and, and_false, false_and, or_true, true_or, or_false, false_or, eq_self, e9, le_nI, show (v ≤ 9999) = True from eq_true z9, e1]
      · rw [if_pos (by omega)] at hst
        refine ⟨σ, 2, ?_, Fr.rfl, Or.inl ⟨2, hst, rfl, by omega, by omega⟩⟩
        unfold f_X2_readSide f_X2_readSide_0
        simp only [to_bq, l_0, l_1, l_2, l_3, l_4, l_5, l_6, l_7, l_8, l_9, l_10, l_11, l_12, l_13, l_14, l_15, l_16, l_17, l_18, l_19, l_20, l_21, l_22, l_23, l_24, l_25, l_26, l_27, l_28, l_29, l_30, l_31, l_32, l_40, l_41, l_42, l_43, l_44, l_45, l_46, l_47, l_48, l_49, l_50, l_51, l_52, l_53, l_54, l_55, l_56, l_57, l_58, l_59, l_60, l_61, l_62, l_63, l_64, l_72, l_97, l_99, l_100, l_104, l_120, l_122, l_128, l_140, l_255, l_256, l_257, l_258, l_260, l_261, l_262, l_364, l_680, l_700, l_701, l_840, l_999, l_1023, l_1024, l_9999, l_10000, l_1000000, lm]
        simp (disch := first | (with_reducible assumption) | omega | exact ⟨by omega, by omega⟩ | ((with_reducible first | apply Wf.wI | apply Wf.wL | apply Wf.fL | apply Wf.fI | apply Wf.fr); (repeat (with_reducible first | assumption | apply Wf.wI | apply Wf.wL | apply Wf.fL | apply Wf.fI | apply Wf.fr)))) only [ck_88, gI_88, gL_88, pI_88, pZ0_88, pZ1_88, pL_88, gR_88_0, gR_88_1, pR_88_2, gR_88_2, ck_83, gI_83, gL_83, pI_83, pZ0_83, pZ1_83, pL_83, gR_83_0, gR_83_1, gR_83_2, gR_83_3, gR_83_4, bq_n, bd_s, mp_s, rz_0, rz_1, bI_rz, e8, if_true, if_false, ite_true, ite_false, reduceIte, not_true, not_false, and_true, true_and, and_false, false_and, or_true, true_or, or_false, false_or, eq_self, e9, le_nI, show (v ≤ 9999) = True from eq_true z9, lb zc]
    · rw [if_pos (by omega)] at hst
      refine ⟨σ, 2, ?_, Fr.rfl, Or.inl ⟨2, hst, rfl, by omega, by omega⟩⟩
      unfold f_X2_readSide f_X2_readSide_0
      simp only [to_bq, l_0, l_1, l_2, l_3, l_4, l_5, l_6, l_7, l_8, l_9, l_10, l_11, l_12, l_13, l_14, l_15, l_16, l_17, l_18, l_19, l_20, l_21, l_22, l_23, l_24, l_25, l_26, l_27, l_28, l_29, l_30, l_31, l_32, l_40, l_41, l_42, l_43, l_44, l_45, l_46, l_47, l_48, l_49, l_50, l_51, l_52, l_53, l_54, l_55, l_56, l_57, l_58, l_59, l_60, l_61, l_62, l_63, l_64, l_72, l_97, l_99, l_100, l_104, l_120, l_122, l_128, l_140, l_255, l_256, l_257, l_258, l_260, l_261, l_262, l_364, l_680, l_700, l_701, l_840, l_999, l_1023, l_1024, l_9999, l_10000, l_1000000, lm]
      simp (disch := first | (with_reducible assumption) | omega | exact ⟨by omega, by omega⟩ | ((with_reducible first | apply Wf.wI | apply Wf.wL | apply Wf.fL | apply Wf.fI | apply Wf.fr); (repeat (with_reducible first | assumption | apply Wf.wI | apply Wf.wL | apply Wf.fL | apply Wf.fI | apply Wf.fr)))) only [ck_88, gI_88, gL_88, pI_88, pZ0_88, pZ1_88, pL_88, gR_88_0, gR_88_1, pR_88_2, gR_88_2, ck_83, gI_83, gL_83, pI_83, pZ0_83, pZ1_83, pL_83, gR_83_0, gR_83_1, gR_83_2, gR_83_3, gR_83_4, bq_n, bd_s, mp_s, rz_0, rz_1, bI_rz, e8, if_true, if_false, ite_true, ite_false, reduceIte, not_true, not_false, and_true, true_and, and_false, false_and, or_true, true_or, or_false, false_or, eq_self, e9, le_nI, show (v ≤ 9999) = False from eq_false z9]
  rw [if_neg z2] at hst
  have n3 : ¬ ah_I σ 83 8 = nI 3 := by
    rcases kd with ⟨a, b, d⟩ | ⟨a, b, d⟩ | ⟨a, b, d⟩ | ⟨a, b, d⟩ | ⟨a, b⟩ | ⟨a, b⟩
    · rw [b]; decide
    · rw [b]; decide
    · omega
    · rw [b]; decide
    · rw [b]; decide
    · rw [b]; decide
  have eS : f_X8_isSign 83 (nI 31) σ = some (cI (tS (tks T n i) = 3 ∧ tV (tks T n i) = 40), σ) := by
    rw [c_isSign hA (by omega)]
    congr 2
    rw [show (tS (tks T n i) = 3 ∧ sgc (tV (tks T n i)) = 31) = (tS (tks T n i) = 3 ∧ tV (tks T n i) = 40) from propext ⟨fun w => ⟨w.1, k31.2.1.mp w.2⟩, fun w => ⟨w.1, k31.2.1.mpr w.2⟩⟩]
  by_cases zb : tS (tks T n i) = 3 ∧ tV (tks T n i) = 40
  · -- a bracket
    rw [if_pos zb] at hst
    rw [cI_t zb] at eS
    obtain ⟨la, lb⟩ := c_openB h
    by_cases zp : p < 8
    · obtain ⟨τ, e1, f1, k1, d1, d2⟩ := la zp
      rw [if_neg (by omega)] at hst
      refine ⟨τ, 0, ?_, f1, Or.inr (Or.inl ⟨_, _, _, _, true, hst, rfl, k1, d1.trans h5, d2.trans h6, by omega⟩)⟩
      unfold f_X2_readSide f_X2_readSide_0
      simp only [to_bq, l_0, l_1, l_2, l_3, l_4, l_5, l_6, l_7, l_8, l_9, l_10, l_11, l_12, l_13, l_14, l_15, l_16, l_17, l_18, l_19, l_20, l_21, l_22, l_23, l_24, l_25, l_26, l_27, l_28, l_29, l_30, l_31, l_32, l_40, l_41, l_42, l_43, l_44, l_45, l_46, l_47, l_48, l_49, l_50, l_51, l_52, l_53, l_54, l_55, l_56, l_57, l_58, l_59, l_60, l_61, l_62, l_63, l_64, l_72, l_97, l_99, l_100, l_104, l_120, l_122, l_128, l_140, l_255, l_256, l_257, l_258, l_260, l_261, l_262, l_364, l_680, l_700, l_701, l_840, l_999, l_1023, l_1024, l_9999, l_10000, l_1000000, lm]
      simp (disch := first | (with_reducible assumption) | omega | exact ⟨by omega, by omega⟩ | ((with_reducible first | apply Wf.wI | apply Wf.wL | apply Wf.fL | apply Wf.fI | apply Wf.fr); (repeat (with_reducible first | assumption | apply Wf.wI | apply Wf.wL | apply Wf.fL | apply Wf.fI | apply Wf.fr)))) only [ck_88, gI_88, gL_88, pI_88, pZ0_88, pZ1_88, pL_88, gR_88_0, gR_88_1, pR_88_2, gR_88_2, ck_83, gI_83, gL_83, pI_83, pZ0_83, pZ1_83, pL_83, gR_83_0, gR_83_1, gR_83_2, gR_83_3, gR_83_4, bq_n, bd_s, mp_s, rz_0, rz_1, bI_rz, if_neg n3, eS, show (nI 1 = nI 0) = False from eq_false (by decide), if_true, if_false, ite_true, ite_false, reduceIte, not_true, not_false, and_true, true_and, and_false, false_and, or_true, true_or, or_false, false_or, eq_self, e1]
    · rw [if_pos (by omega)] at hst
      refine ⟨σ, 2, ?_, Fr.rfl, Or.inl ⟨2, hst, rfl, by omega, by omega⟩⟩
      unfold f_X2_readSide f_X2_readSide_0
      simp only [to_bq, l_0, l_1, l_2, l_3, l_4, l_5, l_6, l_7, l_8, l_9, l_10, l_11, l_12, l_13, l_14, l_15, l_16, l_17, l_18, l_19, l_20, l_21, l_22, l_23, l_24, l_25, l_26, l_27, l_28, l_29, l_30, l_31, l_32, l_40, l_41, l_42, l_43, l_44, l_45, l_46, l_47, l_48, l_49, l_50, l_51, l_52, l_53, l_54, l_55, l_56, l_57, l_58, l_59, l_60, l_61, l_62, l_63, l_64, l_72, l_97, l_99, l_100, l_104, l_120, l_122, l_128, l_140, l_255, l_256, l_257, l_258, l_260, l_261, l_262, l_364, l_680, l_700, l_701, l_840, l_999, l_1023, l_1024, l_9999, l_10000, l_1000000, lm]
      simp (disch := first | (with_reducible assumption) | omega | exact ⟨by omega, by omega⟩ | ((with_reducible first | apply Wf.wI | apply Wf.wL | apply Wf.fL | apply Wf.fI | apply Wf.fr); (repeat (with_reducible first | assumption | apply Wf.wI | apply Wf.wL | apply Wf.fL | apply Wf.fI | apply Wf.fr)))) only [ck_88, gI_88, gL_88, pI_88, pZ0_88, pZ1_88, pL_88, gR_88_0, gR_88_1, pR_88_2, gR_88_2, ck_83, gI_83, gL_83, pI_83, pZ0_83, pZ1_83, pL_83, gR_83_0, gR_83_1, gR_83_2, gR_83_3, gR_83_4, bq_n, bd_s, mp_s, rz_0, rz_1, bI_rz, if_neg n3, eS, show (nI 1 = nI 0) = False from eq_false (by decide), if_true, if_false, ite_true, ite_false, reduceIte, not_true, not_false, and_true, true_and, and_false, false_and, or_true, true_or, or_false, false_or, eq_self, lb zp]
  rw [if_neg zb] at hst
  rw [cI_f zb] at eS
  -- behind the nots
  have s83 : ¬ (tS (tks T n i) = 0 ∧ tV (tks T n i) = 17 ∧ topb S ≤ 3) → ∃ τ r, f_X2_readSide_83 88 σ = some (nI r, τ) ∧ Fr (Xfm t) σ τ ∧ SOt t τ r (mst (tks T n) (i, o, S, p, c, true)) (tks T n i) i := by
    intro hn
    rw [if_neg hn] at hst
    by_cases z0 : tS (tks T n i) = 0
    · have hv24 := hv.1 z0
      obtain ⟨q1, q2, q3, q4, q5, q6, q7⟩ := ckw_15 _ hv24
      have kb := ckw_b hv24
      have kd0 : ah_I σ 83 8 = nI 2 ∧ ah_I σ 83 9 = nI (ckw (tV (tks T n i))) := by
        rcases kd with ⟨a, b, d⟩ | ⟨a, b, d⟩ | ⟨a, b, d⟩ | ⟨a, b, d⟩ | ⟨a, b⟩ | ⟨a, b⟩
        · exact ⟨b, d⟩
        · omega
        · omega
        · omega
        · omega
        · omega
      obtain ⟨e8, e9⟩ := kd0
      by_cases z18 : 18 ≤ tV (tks T n i)
      · have q := q4.mp z18
        rw [if_pos ⟨z0, z18⟩] at hst
        have zs : nI (ckw (tV (tks T n i))) - nI 15 = nI (tV (tks T n i) - 18) := by rw [zsub (by omega), q5 z18]
        obtain ⟨la, lb⟩ := c_addLeaf (s := 1) (v := tV (tks T n i) - 18) (s' := nI 1) (v' := nI (tV (tks T n i) - 18)) h (Or.inr (Or.inl ⟨rfl, rfl, rfl⟩))
        by_cases zc : c < 64
        · obtain ⟨τ, e1, f1, k1, d1, d2⟩ := la zc
          rw [if_neg (by omega)] at hst
          refine ⟨τ, 0, ?_, f1, Or.inr (Or.inl ⟨_, _, _, _, false, hst, rfl, k1, d1, d2.trans h6, by omega⟩)⟩
          unfold f_X2_readSide_83
          simp only [to_bq, l_0, l_1, l_2, l_3, l_4, l_5, l_6, l_7, l_8, l_9, l_10, l_11, l_12, l_13, l_14, l_15, l_16, l_17, l_18, l_19, l_20, l_21, l_22, l_23, l_24, l_25, l_26, l_27, l_28, l_29, l_30, l_31, l_32, l_40, l_41, l_42, l_43, l_44, l_45, l_46, l_47, l_48, l_49, l_50, l_51, l_52, l_53, l_54, l_55, l_56, l_57, l_58, l_59, l_60, l_61, l_62, l_63, l_64, l_72, l_97, l_99, l_100, l_104, l_120, l_122, l_128, l_140, l_255, l_256, l_257, l_258, l_260, l_261, l_262, l_364, l_680, l_700, l_701, l_840, l_999, l_1023, l_1024, l_9999, l_10000, l_1000000, lm]
          simp (disch := first | (with_reducible assumption) | omega | exact ⟨by omega, by omega⟩ | ((with_reducible first | apply Wf.wI | apply Wf.wL | apply Wf.fL | apply Wf.fI | apply Wf.fr); (repeat (with_reducible first | assumption | apply Wf.wI | apply Wf.wL | apply Wf.fL | apply Wf.fI | apply Wf.fr)))) only [ck_88, gI_88, gL_88, pI_88, pZ0_88, pZ1_88, pL_88, gR_88_0, gR_88_1, pR_88_2, gR_88_2, ck_83, gI_83, gL_83, pI_83, pZ0_83, pZ1_83, pL_83, gR_83_0, gR_83_1, gR_83_2, gR_83_3, gR_83_4, bq_n, bd_s, mp_s, rz_0, rz_1, bI_rz, e8, if_true, if_false, ite_true, ite_false, reduceIte, not_true, not_false, and_true, true_and, and_false, false_and, or_true, true_or, or_false, false_or, eq_self, e9, lt_nI, show (ckw (tV (tks T n i)) < 15) = False from eq_false (by omega), show (20 < ckw (tV (tks T n i))) = False from eq_false (by omega), zs, e1]
        · rw [if_pos (by omega)] at hst
          refine ⟨σ, 2, ?_, Fr.rfl, Or.inl ⟨2, hst, rfl, by omega, by omega⟩⟩
          unfold f_X2_readSide_83
          simp only [to_bq, l_0, l_1, l_2, l_3, l_4, l_5, l_6, l_7, l_8, l_9, l_10, l_11, l_12, l_13, l_14, l_15, l_16, l_17, l_18, l_19, l_20, l_21, l_22, l_23, l_24, l_25, l_26, l_27, l_28, l_29, l_30, l_31, l_32, l_40, l_41, l_42, l_43, l_44, l_45, l_46, l_47, l_48, l_49, l_50, l_51, l_52, l_53, l_54, l_55, l_56, l_57, l_58, l_59, l_60, l_61, l_62, l_63, l_64, l_72, l_97, l_99, l_100, l_104, l_120, l_122, l_128, l_140, l_255, l_256, l_257, l_258, l_260, l_261, l_262, l_364, l_680, l_700, l_701, l_840, l_999, l_1023, l_1024, l_9999, l_10000, l_1000000, lm]
          simp (disch := first | (with_reducible assumption) | omega | exact ⟨by omega, by omega⟩ | ((with_reducible first | apply Wf.wI | apply Wf.wL | apply Wf.fL | apply Wf.fI | apply Wf.fr); (repeat (with_reducible first | assumption | apply Wf.wI | apply Wf.wL | apply Wf.fL | apply Wf.fI | apply Wf.fr)))) only [ck_88, gI_88, gL_88, pI_88, pZ0_88, pZ1_88, pL_88, gR_88_0, gR_88_1, pR_88_2, gR_88_2, ck_83, gI_83, gL_83, pI_83, pZ0_83, pZ1_83, pL_83, gR_83_0, gR_83_1, gR_83_2, gR_83_3, gR_83_4, bq_n, bd_s, mp_s, rz_0, rz_1, bI_rz, e8, if_true, if_false, ite_true, ite_false, reduceIte, not_true, not_false, and_true, true_and, and_false, false_and, or_true, true_or, or_false, false_or, eq_self, e9, lt_nI, show (ckw (tV (tks T n i)) < 15) = False from eq_false (by omega), show (20 < ckw (tV (tks T n i))) = False from eq_false (by omega), zs, lb zc]
      · rw [if_neg (fun w => z18 w.2)] at hst
        refine ⟨σ, 1, ?_, Fr.rfl, Or.inl ⟨1, hst, rfl, by omega, by omega⟩⟩
        unfold f_X2_readSide_83
        simp only [to_bq, l_0, l_1, l_2, l_3, l_4, l_5, l_6, l_7, l_8, l_9, l_10, l_11, l_12, l_13, l_14, l_15, l_16, l_17, l_18, l_19, l_20, l_21, l_22, l_23, l_24, l_25, l_26, l_27, l_28, l_29, l_30, l_31, l_32, l_40, l_41, l_42, l_43, l_44, l_45, l_46, l_47, l_48, l_49, l_50, l_51, l_52, l_53, l_54, l_55, l_56, l_57, l_58, l_59, l_60, l_61, l_62, l_63, l_64, l_72, l_97, l_99, l_100, l_104, l_120, l_122, l_128, l_140, l_255, l_256, l_257, l_258, l_260, l_261, l_262, l_364, l_680, l_700, l_701, l_840, l_999, l_1023, l_1024, l_9999, l_10000, l_1000000, lm]
        by_cases y : ckw (tV (tks T n i)) < 15
        · simp (disch := first | (with_reducible assumption) | omega | exact ⟨by omega, by omega⟩ | ((with_reducible first | apply Wf.wI | apply Wf.wL | apply Wf.fL | apply Wf.fI | apply Wf.fr); (repeat (with_reducible first | assumption | apply Wf.wI | apply Wf.wL | apply Wf.fL | apply Wf.fI | apply Wf.fr)))) only [ck_88, gI_88, gL_88, pI_88, pZ0_88, pZ1_88, pL_88, gR_88_0, gR_88_1, pR_88_2, gR_88_2, ck_83, gI_83, gL_83, pI_83, pZ0_83, pZ1_83, pL_83, gR_83_0, gR_83_1, gR_83_2, gR_83_3, gR_83_4, bq_n, bd_s, mp_s, rz_0, rz_1, bI_rz, e8, if_true, if_false, ite_true, ite_false, reduceIte, not_true, not_false, and_true, true_and, and_false, false_and, or_true, true_or, or_false, false_or, eq_self, e9, lt_nI, show (ckw (tV (tks T n i)) < 15) = True from eq_true y]
        · simp (disch := first | (with_reducible assumption) | omega | exact ⟨by omega, by omega⟩ | ((with_reducible first | apply Wf.wI | apply Wf.wL | apply Wf.fL | apply Wf.fI | apply Wf.fr); (repeat (with_reducible first | assumption | apply Wf.wI | apply Wf.wL | apply Wf.fL | apply Wf.fI | apply Wf.fr)))) only [ck_88, gI_88, gL_88, pI_88, pZ0_88, pZ1_88, pL_88, gR_88_0, gR_88_1, pR_88_2, gR_88_2, ck_83, gI_83, gL_83, pI_83, pZ0_83, pZ1_83, pL_83, gR_83_0, gR_83_1, gR_83_2, gR_83_3, gR_83_4, bq_n, bd_s, mp_s, rz_0, rz_1, bI_rz, e8, if_true, if_false, ite_true, ite_false, reduceIte, not_true, not_false, and_true, true_and, and_false, false_and, or_true, true_or, or_false, false_or, eq_self, e9, lt_nI, show (ckw (tV (tks T n i)) < 15) = False from eq_false y, show (20 < ckw (tV (tks T n i))) = True from eq_true (by omega)]
    · rw [if_neg (fun w => z0 w.1)] at hst
      have n2 : ¬ ah_I σ 83 8 = nI 2 := by
        rcases kd with ⟨a, b, d⟩ | ⟨a, b, d⟩ | ⟨a, b, d⟩ | ⟨a, b, d⟩ | ⟨a, b⟩ | ⟨a, b⟩
        · omega
        · rw [b]; decide
        · rw [b]; decide
        · rw [b]; decide
        · rw [b]; decide
        · rw [b]; decide
      refine ⟨σ, 1, ?_, Fr.rfl, Or.inl ⟨1, hst, rfl, by omega, by omega⟩⟩
      unfold f_X2_readSide_83
      simp only [to_bq, l_0, l_1, l_2, l_3, l_4, l_5, l_6, l_7, l_8, l_9, l_10, l_11, l_12, l_13, l_14, l_15, l_16, l_17, l_18, l_19, l_20, l_21, l_22, l_23, l_24, l_25, l_26, l_27, l_28, l_29, l_30, l_31, l_32, l_40, l_41, l_42, l_43, l_44, l_45, l_46, l_47, l_48, l_49, l_50, l_51, l_52, l_53, l_54, l_55, l_56, l_57, l_58, l_59, l_60, l_61, l_62, l_63, l_64, l_72, l_97, l_99, l_100, l_104, l_120, l_122, l_128, l_140, l_255, l_256, l_257, l_258, l_260, l_261, l_262, l_364, l_680, l_700, l_701, l_840, l_999, l_1023, l_1024, l_9999, l_10000, l_1000000, lm]
      simp (disch := first | (with_reducible assumption) | omega | exact ⟨by omega, by omega⟩ | ((with_reducible first | apply Wf.wI | apply Wf.wL | apply Wf.fL | apply Wf.fI | apply Wf.fr); (repeat (with_reducible first | assumption | apply Wf.wI | apply Wf.wL | apply Wf.fL | apply Wf.fI | apply Wf.fr)))) only [ck_88, gI_88, gL_88, pI_88, pZ0_88, pZ1_88, pL_88, gR_88_0, gR_88_1, pR_88_2, gR_88_2, ck_83, gI_83, gL_83, pI_83, pZ0_83, pZ1_83, pL_83, gR_83_0, gR_83_1, gR_83_2, gR_83_3, gR_83_4, bq_n, bd_s, mp_s, rz_0, rz_1, bI_rz, if_neg n2]
  have eK : f_X8_isKey 83 (nI 23) σ = some (cI (tS (tks T n i) = 0 ∧ tV (tks T n i) = 17), σ) := by
    rw [c_isKey hA hv (by omega)]
    congr 2
    rw [show (tS (tks T n i) = 0 ∧ ckw (tV (tks T n i)) = 23) = (tS (tks T n i) = 0 ∧ tV (tks T n i) = 17) from propext ⟨fun w => ⟨w.1, (ckw_15 _ (hv.1 w.1)).2.2.1.mp w.2⟩, fun w => ⟨w.1, (ckw_15 _ (hv.1 w.1)).2.2.1.mpr w.2⟩⟩]
  by_cases zn : tS (tks T n i) = 0 ∧ tV (tks T n i) = 17
  · rw [cI_t zn] at eK
    have eM := c_mayNeg h
    by_cases zt : topb S ≤ 3
    · rw [cI_t zt] at eM
      rw [if_pos ⟨zn.1, zn.2, zt⟩] at hst
      obtain ⟨la, lb⟩ := c_addWait (x := 260) h (by omega)
      by_cases zc : c < 64
      · obtain ⟨τ, e1, f1, k1, d1, d2⟩ := la zc
        rw [if_neg (by omega)] at hst
        refine ⟨τ, 0, ?_, f1, Or.inr (Or.inl ⟨_, _, _, _, true, hst, rfl, k1, d1, d2.trans h6, by omega⟩)⟩
        have e1 : f_X2_addWaiting 88 (nI 4) σ = some (nI 0, τ) := e1
        unfold f_X2_readSide f_X2_readSide_0
        simp only [to_bq, l_0, l_1, l_2, l_3, l_4, l_5, l_6, l_7, l_8, l_9, l_10, l_11, l_12, l_13, l_14, l_15, l_16, l_17, l_18, l_19, l_20, l_21, l_22, l_23, l_24, l_25, l_26, l_27, l_28, l_29, l_30, l_31, l_32, l_40, l_41, l_42, l_43, l_44, l_45, l_46, l_47, l_48, l_49, l_50, l_51, l_52, l_53, l_54, l_55, l_56, l_57, l_58, l_59, l_60, l_61, l_62, l_63, l_64, l_72, l_97, l_99, l_100, l_104, l_120, l_122, l_128, l_140, l_255, l_256, l_257, l_258, l_260, l_261, l_262, l_364, l_680, l_700, l_701, l_840, l_999, l_1023, l_1024, l_9999, l_10000, l_1000000, lm]
        simp (disch := first | (with_reducible assumption) | omega | exact ⟨by omega, by omega⟩ | ((with_reducible first | apply Wf.wI | apply Wf.wL | apply Wf.fL | apply Wf.fI | apply Wf.fr); (repeat (with_reducible first | assumption | apply Wf.wI | apply Wf.wL | apply Wf.fL | apply Wf.fI | apply Wf.fr)))) only [ck_88, gI_88, gL_88, pI_88, pZ0_88, pZ1_88, pL_88, gR_88_0, gR_88_1, pR_88_2, gR_88_2, ck_83, gI_83, gL_83, pI_83, pZ0_83, pZ1_83, pL_83, gR_83_0, gR_83_1, gR_83_2, gR_83_3, gR_83_4, bq_n, bd_s, mp_s, rz_0, rz_1, bI_rz, if_neg n3, eS, if_true, if_false, ite_true, ite_false, reduceIte, not_true, not_false, and_true, true_and, and_false, false_and, or_true, true_or, or_false, false_or, eq_self, eK, show (nI 1 = nI 0) = False from eq_false (by decide), eM, e1]
      · rw [if_pos (by omega)] at hst
        refine ⟨σ, 2, ?_, Fr.rfl, Or.inl ⟨2, hst, rfl, by omega, by omega⟩⟩
        have e1 : f_X2_addWaiting 88 (nI 4) σ = some (nI 2, σ) := lb zc
        unfold f_X2_readSide f_X2_readSide_0
        simp only [to_bq, l_0, l_1, l_2, l_3, l_4, l_5, l_6, l_7, l_8, l_9, l_10, l_11, l_12, l_13, l_14, l_15, l_16, l_17, l_18, l_19, l_20, l_21, l_22, l_23, l_24, l_25, l_26, l_27, l_28, l_29, l_30, l_31, l_32, l_40, l_41, l_42, l_43, l_44, l_45, l_46, l_47, l_48, l_49, l_50, l_51, l_52, l_53, l_54, l_55, l_56, l_57, l_58, l_59, l_60, l_61, l_62, l_63, l_64, l_72, l_97, l_99, l_100, l_104, l_120, l_122, l_128, l_140, l_255, l_256, l_257, l_258, l_260, l_261, l_262, l_364, l_680, l_700, l_701, l_840, l_999, l_1023, l_1024, l_9999, l_10000, l_1000000, lm]
        simp (disch := first | (with_reducible assumption) | omega | exact ⟨by omega, by omega⟩ | ((with_reducible first | apply Wf.wI | apply Wf.wL | apply Wf.fL | apply Wf.fI | apply Wf.fr); (repeat (with_reducible first | assumption | apply Wf.wI | apply Wf.wL | apply Wf.fL | apply Wf.fI | apply Wf.fr)))) only [ck_88, gI_88, gL_88, pI_88, pZ0_88, pZ1_88, pL_88, gR_88_0, gR_88_1, pR_88_2, gR_88_2, ck_83, gI_83, gL_83, pI_83, pZ0_83, pZ1_83, pL_83, gR_83_0, gR_83_1, gR_83_2, gR_83_3, gR_83_4, bq_n, bd_s, mp_s, rz_0, rz_1, bI_rz, if_neg n3, eS, if_true, if_false, ite_true, ite_false, reduceIte, not_true, not_false, and_true, true_and, and_false, false_and, or_true, true_or, or_false, false_or, eq_self, eK, show (nI 1 = nI 0) = False from eq_false (by decide), eM, e1]
    · rw [cI_f zt] at eM
      obtain ⟨τ, r, e1, e2⟩ := s83 (fun w => zt w.2.2)
      refine ⟨τ, r, ?_, e2⟩
      unfold f_X2_readSide f_X2_readSide_0
      simp only [to_bq, l_0, l_1, l_2, l_3, l_4, l_5, l_6, l_7, l_8, l_9, l_10, l_11, l_12, l_13, l_14, l_15, l_16, l_17, l_18, l_19, l_20, l_21, l_22, l_23, l_24, l_25, l_26, l_27, l_28, l_29, l_30, l_31, l_32, l_40, l_41, l_42, l_43, l_44, l_45, l_46, l_47, l_48, l_49, l_50, l_51, l_52, l_53, l_54, l_55, l_56, l_57, l_58, l_59, l_60, l_61, l_62, l_63, l_64, l_72, l_97, l_99, l_100, l_104, l_120, l_122, l_128, l_140, l_255, l_256, l_257, l_258, l_260, l_261, l_262, l_364, l_680, l_700, l_701, l_840, l_999, l_1023, l_1024, l_9999, l_10000, l_1000000, lm]
      simp (disch := first | (with_reducible assumption) | omega | exact ⟨by omega, by omega⟩ | ((with_reducible first | apply Wf.wI | apply Wf.wL | apply Wf.fL | apply Wf.fI | apply Wf.fr); (repeat (with_reducible first | assumption | apply Wf.wI | apply Wf.wL | apply Wf.fL | apply Wf.fI | apply Wf.fr)))) only [ck_88, gI_88, gL_88, pI_88, pZ0_88, pZ1_88, pL_88, gR_88_0, gR_88_1, pR_88_2, gR_88_2, ck_83, gI_83, gL_83, pI_83, pZ0_83, pZ1_83, pL_83, gR_83_0, gR_83_1, gR_83_2, gR_83_3, gR_83_4, bq_n, bd_s, mp_s, rz_0, rz_1, bI_rz, if_neg n3, eS, if_true, if_false, ite_true, ite_false, reduceIte, not_true, not_false, and_true, true_and, and_false, false_and, or_true, true_or, or_false, false_or, eq_self, eK, show (nI 1 = nI 0) = False from eq_false (by decide), eM, e1]
  · rw [cI_f zn] at eK
    obtain ⟨τ, r, e1, e2⟩ := s83 (fun w => zn ⟨w.1, w.2.1⟩)
    refine ⟨τ, r, ?_, e2⟩
    unfold f_X2_readSide f_X2_readSide_0
    simp only [to_bq, l_0, l_1, l_2, l_3, l_4, l_5, l_6, l_7, l_8, l_9, l_10, l_11, l_12, l_13, l_14, l_15, l_16, l_17, l_18, l_19, l_20, l_21, l_22, l_23, l_24, l_25, l_26, l_27, l_28, l_29, l_30, l_31, l_32, l_40, l_41, l_42, l_43, l_44, l_45, l_46, l_47, l_48, l_49, l_50, l_51, l_52, l_53, l_54, l_55, l_56, l_57, l_58, l_59, l_60, l_61, l_62, l_63, l_64, l_72, l_97, l_99, l_100, l_104, l_120, l_122, l_128, l_140, l_255, l_256, l_257, l_258, l_260, l_261, l_262, l_364, l_680, l_700, l_701, l_840, l_999, l_1023, l_1024, l_9999, l_10000, l_1000000, lm]
    simp (disch := first | (with_reducible assumption) | omega | exact ⟨by omega, by omega⟩ | ((with_reducible first | apply Wf.wI | apply Wf.wL | apply Wf.fL | apply Wf.fI | apply Wf.fr); (repeat (with_reducible first | assumption | apply Wf.wI | apply Wf.wL | apply Wf.fL | apply Wf.fI | apply Wf.fr)))) only [ck_88, gI_88, gL_88, pI_88, pZ0_88, pZ1_88, pL_88, gR_88_0, gR_88_1, pR_88_2, gR_88_2, ck_83, gI_83, gL_83, pI_83, pZ0_83, pZ1_83, pL_83, gR_83_0, gR_83_1, gR_83_2, gR_83_3, gR_83_4, bq_n, bd_s, mp_s, rz_0, rz_1, bI_rz, if_neg n3, eS, if_true, if_false, ite_true, ite_false, reduceIte, not_true, not_false, and_true, true_and, and_false, false_and, or_true, true_or, or_false, false_or, eq_self, eK, e1]
end
