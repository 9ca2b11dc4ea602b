/-! THE CLASS: judged; first, of both -/
section
variable {σ : ah_H} {t : Nat} {D : DD}
theorem c_aro38 (h : JE σ t D) {s0 : Int32} {x s : Nat} (K25 : Nat → Int32 → Int32 → ah_H → Option (Int32 × ah_H)) : ∀ m k fu M, k + m = nC D → m < fu → Cl (nx D (stD D)) (nC D) x s k M → ∃ M', f_X3_allRunOut_38 K25 fu 117 (nI M) s0 (nI k) σ = K25 117 (nI M') (s0 + nI 1) σ ∧ Cl (nx D (stD D)) (nC D) x s (nC D) M' := by
  have hw := h.w
  have htn := h.1.tn
  have b1 := h.1.bd
  have hp := h.2.2.1
  have hnl := stD_nxl h.1.t h.2.1
  have p7 : 2 ^ nC D ≤ 128 := Nat.pow_le_pow_right (n := 2) (by omega) b1.1
  intro m
  induction m with
  | zero =>
    intro k fu M hk hf hC
    obtain ⟨fu, rfl⟩ : ∃ q, fu = q + 1 := ⟨fu - 1, by omega⟩
    obtain rfl : k = nC D := by omega
    refine ⟨M, ?_, hC⟩
    show f_X3_allRunOut_38_b _ _ _ _ _ _ _ = _
    unfold f_X3_allRunOut_38_b f_X3_allRunOut_95
    simp only [to_bq, l_0, l_1, l_2, l_3, l_4, l_5, l_6, l_7, l_8, l_9, l_10, l_11, l_12, l_13, l_14, l_15, l_16, l_17, l_18, l_19, l_20, l_21, l_22, l_23, l_24, l_25, l_26, l_27, l_28, l_29, l_30, l_31, l_32, l_40, l_41, l_42, l_43, l_44, l_45, l_46, l_47, l_48, l_49, l_50, l_51, l_52, l_53, l_54, l_55, l_56, l_57, l_58, l_59, l_60, l_61, l_62, l_63, l_64, l_72, l_97, l_99, l_100, l_104, l_120, l_122, l_128, l_140, l_255, l_256, l_257, l_258, l_260, l_261, l_262, l_364, l_680, l_700, l_701, l_840, l_999, l_1023, l_1024, l_9999, l_10000, l_1000000, lm]
    simp (disch := first | (with_reducible assumption) | omega | exact ⟨by omega, by omega⟩ | ((with_reducible first | apply Wf.wI | apply Wf.wL | apply Wf.fL | apply Wf.fI | apply Wf.fr); (repeat (with_reducible first | assumption | apply Wf.wI | apply Wf.wL | apply Wf.fL | apply Wf.fI | apply Wf.fr)))) only [ck_117, gI_117, gL_117, pI_117, pZ0_117, pZ1_117, pL_117, gR_117_0, gR_117_1, gR_117_5, pR_117_6, gR_117_6, ck_t, gI_t, gL_t, pI_t, pZ0_t, pZ1_t, pL_t, ck_w, gI_w, gL_w, pI_w, pZ0_w, pZ1_w, pL_w, gR_t_1, gR_t_5, gR_t_7, gR_t_9, gR_t_10, gR_t_11, gR_t_12, gR_t_15, gR_w_2, gR_w_3, gR_w_4, gR_w_5, gR_w_6, gR_w_7, aR_crow, aR_srow, aR_prow, aR_rrow, aI_crow, sI_crow, len_crow, aI_srow, sI_srow, len_srow, aI_prow, sI_prow, len_prow, aI_rrow, sI_rrow, len_rrow, aI_t25, sI_t25, len_t25, aI_t31, sI_t31, len_t31, aI_t32, sI_t32, len_t32, aI_t34, sI_t34, len_t34, aI_t35, sI_t35, len_t35, aI_t36, sI_t36, len_t36, aI_t37, sI_t37, len_t37, aL_t38, sL_t38, len_t38, aL_t39, sL_t39, len_t39, bq_s, bd_s, mp_s, rz_0, rz_1, bI_rz, zadd, zmul, zsub, le_nI, lt_nI, eq_nI, neg_nI, gen_nI, neg_lt, neg_le, neg_lt', neg_le', nI_lt0, if_true, if_false, ite_true, ite_false, reduceIte, not_true, not_false, and_true, true_and, and_false, false_and, or_true, true_or, or_false, false_or, eq_self, hp, tr_C h.1, Nat.le_refl]
  | succ m ih =>
    intro k fu M hk hf hC
    obtain ⟨fu, rfl⟩ : ∃ q, fu = q + 1 := ⟨fu - 1, by omega⟩
    have hk' : k < nC D := by omega
    have hM := hC.1
    show ∃ M', f_X3_allRunOut_38_b _ _ _ _ _ _ _ = _ ∧ _
    unfold f_X3_allRunOut_38_b f_X3_allRunOut_89
    simp only [to_bq, l_0, l_1, l_2, l_3, l_4, l_5, l_6, l_7, l_8, l_9, l_10, l_11, l_12, l_13, l_14, l_15, l_16, l_17, l_18, l_19, l_20, l_21, l_22, l_23, l_24, l_25, l_26, l_27, l_28, l_29, l_30, l_31, l_32, l_40, l_41, l_42, l_43, l_44, l_45, l_46, l_47, l_48, l_49, l_50, l_51, l_52, l_53, l_54, l_55, l_56, l_57, l_58, l_59, l_60, l_61, l_62, l_63, l_64, l_72, l_97, l_99, l_100, l_104, l_120, l_122, l_128, l_140, l_255, l_256, l_257, l_258, l_260, l_261, l_262, l_364, l_680, l_700, l_701, l_840, l_999, l_1023, l_1024, l_9999, l_10000, l_1000000, lm]
    simp (disch := first | (with_reducible assumption) | omega | exact ⟨by omega, by omega⟩ | ((with_reducible first | apply Wf.wI | apply Wf.wL | apply Wf.fL | apply Wf.fI | apply Wf.fr); (repeat (with_reducible first | assumption | apply Wf.wI | apply Wf.wL | apply Wf.fL | apply Wf.fI | apply Wf.fr)))) only [ck_117, gI_117, gL_117, pI_117, pZ0_117, pZ1_117, pL_117, gR_117_0, gR_117_1, gR_117_5, pR_117_6, gR_117_6, ck_90, gI_90, gL_90, pI_90, pZ0_90, pZ1_90, pL_90, gR_90_0, gR_90_1, gR_90_2, gR_90_3, gR_90_6, gR_90_8, ck_t, gI_t, gL_t, pI_t, pZ0_t, pZ1_t, pL_t, ck_w, gI_w, gL_w, pI_w, pZ0_w, pZ1_w, pL_w, gR_t_1, gR_t_5, gR_t_7, gR_t_9, gR_t_10, gR_t_11, gR_t_12, gR_t_15, gR_w_2, gR_w_3, gR_w_4, gR_w_5, gR_w_6, gR_w_7, aR_crow, aR_srow, aR_prow, aR_rrow, aI_crow, sI_crow, len_crow, aI_srow, sI_srow, len_srow, aI_prow, sI_prow, len_prow, aI_rrow, sI_rrow, len_rrow, aI_t25, sI_t25, len_t25, aI_t31, sI_t31, len_t31, aI_t32, sI_t32, len_t32, aI_t34, sI_t34, len_t34, aI_t35, sI_t35, len_t35, aI_t36, sI_t36, len_t36, aI_t37, sI_t37, len_t37, aL_t38, sL_t38, len_t38, aL_t39, sL_t39, len_t39, bq_s, bd_s, mp_s, rz_0, rz_1, bI_rz, zadd, zmul, zsub, le_nI, lt_nI, eq_nI, neg_nI, gen_nI, neg_lt, neg_le, neg_lt', neg_le', nI_lt0, if_true, if_false, ite_true, ite_false, reduceIte, not_true, not_false, and_true, true_and, and_false, false_and, or_true, true_or, or_false, false_or, eq_self, hp, tr_C h.1, aI_91, lm, h.sn hk', show (nC D ≤ k) = False from eq_false (by omega)]
    cases hx : stD D k with
    | none =>
      rw [if_pos rfl]
      exact ih (k + 1) fu M (by omega) (by omega) (Cl_stay hnl hC hk' (fun y hy => by rw [nx_none.mpr hx] at hy; cases hy))
    | some st =>
      obtain ⟨l1, -⟩ := lb h.1.t h.2.1 hk' hx
      obtain ⟨n1, -⟩ := h.net hk' hx
      have hnx : nx D (stD D) k = some (oth D st k) := by unfold nx; rw [hx]; rfl
      have ho := h.1.t.qoth (c := k) l1
      rw [if_neg (by intro z; cases z), n1, c_otherEnd h.1 l1 (by omega), bq_s]
      simp only [z_bit (show M < 2147483648 by omega) (show oth D st k < 31 by omega), ite_n, z_set (show k < 31 by omega), zadd]
      by_cases q : M.testBit (oth D st k) = true
      · rw [if_pos q]
        exact ih (k + 1) fu _ (by omega) (by omega) (Cl_add hC hk' hnx q)
      · rw [if_neg q]
        exact ih (k + 1) fu M (by omega) (by omega) (Cl_stay hnl hC hk' (fun y hy => by rw [hnx] at hy; cases hy; exact q))
theorem c_aro25 (h : JE σ t D) {x : Nat} : ∀ m k fu M, k + m = nC D → m < fu → 1 ≤ k → Cl (nx D (stD D)) (nC D) x (k - 1) 0 M → ∃ M', f_X3_allRunOut_25 fu 117 (nI M) (nI k) σ = f_X3_allRunOut_101 117 (nI M') σ ∧ Cl (nx D (stD D)) (nC D) x (nC D - 1) 0 M' := by
  have hw := h.w
  have htn := h.1.tn
  have b1 := h.1.bd
  have hp := h.2.2.1
  intro m
  induction m with
  | zero =>
    intro k fu M hk hf h1 hC
    obtain ⟨fu, rfl⟩ : ∃ q, fu = q + 1 := ⟨fu - 1, by omega⟩
    obtain rfl : k = nC D := by omega
    refine ⟨M, ?_, hC⟩
    show f_X3_allRunOut_25_b _ _ _ _ _ = _
    unfold f_X3_allRunOut_25_b
    simp only [to_bq, l_0, l_1, l_2, l_3, l_4, l_5, l_6, l_7, l_8, l_9, l_10, l_11, l_12, l_13, l_14, l_15, l_16, l_17, l_18, l_19, l_20, l_21, l_22, l_23, l_24, l_25, l_26, l_27, l_28, l_29, l_30, l_31, l_32, l_40, l_41, l_42, l_43, l_44, l_45, l_46, l_47, l_48, l_49, l_50, l_51, l_52, l_53, l_54, l_55, l_56, l_57, l_58, l_59, l_60, l_61, l_62, l_63, l_64, l_72, l_97, l_99, l_100, l_104, l_120, l_122, l_128, l_140, l_255, l_256, l_257, l_258, l_260, l_261, l_262, l_364, l_680, l_700, l_701, l_840, l_999, l_1023, l_1024, l_9999, l_10000, l_1000000, lm]
    simp (disch := first | (with_reducible assumption) | omega | exact ⟨by omega, by omega⟩ | ((with_reducible first | apply Wf.wI | apply Wf.wL | apply Wf.fL | apply Wf.fI | apply Wf.fr); (repeat (with_reducible first | assumption | apply Wf.wI | apply Wf.wL | apply Wf.fL | apply Wf.fI | apply Wf.fr)))) only [ck_117, gI_117, gL_117, pI_117, pZ0_117, pZ1_117, pL_117, gR_117_0, gR_117_1, gR_117_5, pR_117_6, gR_117_6, ck_t, gI_t, gL_t, pI_t, pZ0_t, pZ1_t, pL_t, ck_w, gI_w, gL_w, pI_w, pZ0_w, pZ1_w, pL_w, gR_t_1, gR_t_5, gR_t_7, gR_t_9, gR_t_10, gR_t_11, gR_t_12, gR_t_15, gR_w_2, gR_w_3, gR_w_4, gR_w_5, gR_w_6, gR_w_7, aR_crow, aR_srow, aR_prow, aR_rrow, aI_crow, sI_crow, len_crow, aI_srow, sI_srow, len_srow, aI_prow, sI_prow, len_prow, aI_rrow, sI_rrow, len_rrow, aI_t25, sI_t25, len_t25, aI_t31, sI_t31, len_t31, aI_t32, sI_t32, len_t32, aI_t34, sI_t34, len_t34, aI_t35, sI_t35, len_t35, aI_t36, sI_t36, len_t36, aI_t37, sI_t37, len_t37, aL_t38, sL_t38, len_t38, aL_t39, sL_t39, len_t39, bq_s, bd_s, mp_s, rz_0, rz_1, bI_rz, zadd, zmul, zsub, le_nI, lt_nI, eq_nI, neg_nI, gen_nI, neg_lt, neg_le, neg_lt', neg_le', nI_lt0, if_true, if_false, ite_true, ite_false, reduceIte, not_true, not_false, and_true, true_and, and_false, false_and, or_true, true_or, or_false, false_or, eq_self, hp, tr_C h.1, Nat.le_refl]
  | succ m ih =>
    intro k fu M hk hf h1 hC
    obtain ⟨fu, rfl⟩ : ∃ q, fu = q + 1 := ⟨fu - 1, by omega⟩
    show ∃ M', f_X3_allRunOut_25_b _ _ _ _ _ = _ ∧ _
    unfold f_X3_allRunOut_25_b
    simp only [to_bq, l_0, l_1, l_2, l_3, l_4, l_5, l_6, l_7, l_8, l_9, l_10, l_11, l_12, l_13, l_14, l_15, l_16, l_17, l_18, l_19, l_20, l_21, l_22, l_23, l_24, l_25, l_26, l_27, l_28, l_29, l_30, l_31, l_32, l_40, l_41, l_42, l_43, l_44, l_45, l_46, l_47, l_48, l_49, l_50, l_51, l_52, l_53, l_54, l_55, l_56, l_57, l_58, l_59, l_60, l_61, l_62, l_63, l_64, l_72, l_97, l_99, l_100, l_104, l_120, l_122, l_128, l_140, l_255, l_256, l_257, l_258, l_260, l_261, l_262, l_364, l_680, l_700, l_701, l_840, l_999, l_1023, l_1024, l_9999, l_10000, l_1000000, lm]
    simp (disch := first | (with_reducible assumption) | omega | exact ⟨by omega, by omega⟩ | ((with_reducible first | apply Wf.wI | apply Wf.wL | apply Wf.fL | apply Wf.fI | apply Wf.fr); (repeat (with_reducible first | assumption | apply Wf.wI | apply Wf.wL | apply Wf.fL | apply Wf.fI | apply Wf.fr)))) only [ck_117, gI_117, gL_117, pI_117, pZ0_117, pZ1_117, pL_117, gR_117_0, gR_117_1, gR_117_5, pR_117_6, gR_117_6, ck_t, gI_t, gL_t, pI_t, pZ0_t, pZ1_t, pL_t, ck_w, gI_w, gL_w, pI_w, pZ0_w, pZ1_w, pL_w, gR_t_1, gR_t_5, gR_t_7, gR_t_9, gR_t_10, gR_t_11, gR_t_12, gR_t_15, gR_w_2, gR_w_3, gR_w_4, gR_w_5, gR_w_6, gR_w_7, aR_crow, aR_srow, aR_prow, aR_rrow, aI_crow, sI_crow, len_crow, aI_srow, sI_srow, len_srow, aI_prow, sI_prow, len_prow, aI_rrow, sI_rrow, len_rrow, aI_t25, sI_t25, len_t25, aI_t31, sI_t31, len_t31, aI_t32, sI_t32, len_t32, aI_t34, sI_t34, len_t34, aI_t35, sI_t35, len_t35, aI_t36, sI_t36, len_t36, aI_t37, sI_t37, len_t37, aL_t38, sL_t38, len_t38, aL_t39, sL_t39, len_t39, bq_s, bd_s, mp_s, rz_0, rz_1, bI_rz, zadd, zmul, zsub, le_nI, lt_nI, eq_nI, neg_nI, gen_nI, neg_lt, neg_le, neg_lt', neg_le', nI_lt0, if_true, if_false, ite_true, ite_false, reduceIte, not_true, not_false, and_true, true_and, and_false, false_and, or_true, true_or, or_false, false_or, eq_self, hp, tr_C h.1, show (nC D ≤ k) = False from eq_false (by omega)]
    obtain ⟨M1, g1, g2⟩ := c_aro38 h (s0 := nI k) (f_X3_allRunOut_25 fu) (nC D) 0 5000 M (by omega) (by omega) hC
    rw [g1, zadd]
    have := Cl_round g2
    rw [show k - 1 + 1 = k + 1 - 1 by omega] at this
    exact ih (k + 1) fu M1 (by omega) (by omega) (by omega) this
theorem c_allRunOut (h : JE σ t D) : f_X3_allRunOut 117 σ = some (cI (jnd D), σ) := by
  have hw := h.w
  have htn := h.1.tn
  have b1 := h.1.bd
  have hp := h.2.2.1
  have hnl := stD_nxl h.1.t h.2.1
  unfold f_X3_allRunOut f_X3_allRunOut_0
  simp only [to_bq, l_0, l_1, l_2, l_3, l_4, l_5, l_6, l_7, l_8, l_9, l_10, l_11, l_12, l_13, l_14, l_15, l_16, l_17, l_18, l_19, l_20, l_21, l_22, l_23, l_24, l_25, l_26, l_27, l_28, l_29, l_30, l_31, l_32, l_40, l_41, l_42, l_43, l_44, l_45, l_46, l_47, l_48, l_49, l_50, l_51, l_52, l_53, l_54, l_55, l_56, l_57, l_58, l_59, l_60, l_61, l_62, l_63, l_64, l_72, l_97, l_99, l_100, l_104, l_120, l_122, l_128, l_140, l_255, l_256, l_257, l_258, l_260, l_261, l_262, l_364, l_680, l_700, l_701, l_840, l_999, l_1023, l_1024, l_9999, l_10000, l_1000000, lm]
  simp (disch := first | (with_reducible assumption) | omega | exact ⟨by omega, by omega⟩ | ((with_reducible first | apply Wf.wI | apply Wf.wL | apply Wf.fL | apply Wf.fI | apply Wf.fr); (repeat (with_reducible first | assumption | apply Wf.wI | apply Wf.wL | apply Wf.fL | apply Wf.fI | apply Wf.fr)))) only [ck_117, gI_117, gL_117, pI_117, pZ0_117, pZ1_117, pL_117, gR_117_0, gR_117_1, gR_117_5, pR_117_6, gR_117_6, ck_t, gI_t, gL_t, pI_t, pZ0_t, pZ1_t, pL_t, ck_w, gI_w, gL_w, pI_w, pZ0_w, pZ1_w, pL_w, gR_t_1, gR_t_5, gR_t_7, gR_t_9, gR_t_10, gR_t_11, gR_t_12, gR_t_15, gR_w_2, gR_w_3, gR_w_4, gR_w_5, gR_w_6, gR_w_7, aR_crow, aR_srow, aR_prow, aR_rrow, aI_crow, sI_crow, len_crow, aI_srow, sI_srow, len_srow, aI_prow, sI_prow, len_prow, aI_rrow, sI_rrow, len_rrow, aI_t25, sI_t25, len_t25, aI_t31, sI_t31, len_t31, aI_t32, sI_t32, len_t32, aI_t34, sI_t34, len_t34, aI_t35, sI_t35, len_t35, aI_t36, sI_t36, len_t36, aI_t37, sI_t37, len_t37, aL_t38, sL_t38, len_t38, aL_t39, sL_t39, len_t39, bq_s, bd_s, mp_s, rz_0, rz_1, bI_rz, zadd, zmul, zsub, le_nI, lt_nI, eq_nI, neg_nI, gen_nI, neg_lt, neg_le, neg_lt', neg_le', nI_lt0, lm, hp, tr_riv h.1]
  by_cases q : D 227 4 = mI 1
  · rw [if_pos q, cI_f (fun z => z.1 q)]
  · rw [if_neg q]
    obtain ⟨e1, e2, -⟩ := h.1.t.rv q
    have p7 : 2 ^ nC D ≤ 128 := Nat.pow_le_pow_right (n := 2) (by omega) b1.1
    rw [e1, z_one (by omega)]
    obtain ⟨M, g1, g2⟩ := c_aro25 h (x := riv D) (nC D - 1) 1 5000 (2 ^ riv D) (by omega) (by omega) (by omega) (Cl_init e2)
    rw [g1]
    have hM := g2.1
    have hend := Cl_end hnl g2 (by omega)
    have hpos : 0 < 2 ^ nC D := Nat.pow_pos (by omega)
    unfold f_X3_allRunOut_101
    simp only [to_bq, l_0, l_1, l_2, l_3, l_4, l_5, l_6, l_7, l_8, l_9, l_10, l_11, l_12, l_13, l_14, l_15, l_16, l_17, l_18, l_19, l_20, l_21, l_22, l_23, l_24, l_25, l_26, l_27, l_28, l_29, l_30, l_31, l_32, l_40, l_41, l_42, l_43, l_44, l_45, l_46, l_47, l_48, l_49, l_50, l_51, l_52, l_53, l_54, l_55, l_56, l_57, l_58, l_59, l_60, l_61, l_62, l_63, l_64, l_72, l_97, l_99, l_100, l_104, l_120, l_122, l_128, l_140, l_255, l_256, l_257, l_258, l_260, l_261, l_262, l_364, l_680, l_700, l_701, l_840, l_999, l_1023, l_1024, l_9999, l_10000, l_1000000, lm]
    simp (disch := first | (with_reducible assumption) | omega | exact ⟨by omega, by omega⟩ | ((with_reducible first | apply Wf.wI | apply Wf.wL | apply Wf.fL | apply Wf.fI | apply Wf.fr); (repeat (with_reducible first | assumption | apply Wf.wI | apply Wf.wL | apply Wf.fL | apply Wf.fI | apply Wf.fr)))) only [ck_117, gI_117, gL_117, pI_117, pZ0_117, pZ1_117, pL_117, gR_117_0, gR_117_1, gR_117_5, pR_117_6, gR_117_6, ck_t, gI_t, gL_t, pI_t, pZ0_t, pZ1_t, pL_t, ck_w, gI_w, gL_w, pI_w, pZ0_w, pZ1_w, pL_w, gR_t_1, gR_t_5, gR_t_7, gR_t_9, gR_t_10, gR_t_11, gR_t_12, gR_t_15, gR_w_2, gR_w_3, gR_w_4, gR_w_5, gR_w_6, gR_w_7, aR_crow, aR_srow, aR_prow, aR_rrow, aI_crow, sI_crow, len_crow, aI_srow, sI_srow, len_srow, aI_prow, sI_prow, len_prow, aI_rrow, sI_rrow, len_rrow, aI_t25, sI_t25, len_t25, aI_t31, sI_t31, len_t31, aI_t32, sI_t32, len_t32, aI_t34, sI_t34, len_t34, aI_t35, sI_t35, len_t35, aI_t36, sI_t36, len_t36, aI_t37, sI_t37, len_t37, aL_t38, sL_t38, len_t38, aL_t39, sL_t39, len_t39, bq_s, bd_s, mp_s, rz_0, rz_1, bI_rz, hp, tr_C h.1]
    rw [z_one (by omega), zsub (by omega)]
    simp (disch := first | (with_reducible assumption) | omega | exact ⟨by omega, by omega⟩ | ((with_reducible first | apply Wf.wI | apply Wf.wL | apply Wf.fL | apply Wf.fI | apply Wf.fr); (repeat (with_reducible first | assumption | apply Wf.wI | apply Wf.wL | apply Wf.fL | apply Wf.fI | apply Wf.fr)))) only [zadd, zmul, zsub, le_nI, lt_nI, eq_nI, neg_nI, gen_nI, neg_lt, neg_le, neg_lt', neg_le', nI_lt0]
    have : M = 2 ^ nC D - 1 ↔ jnd D := by
      rw [full_iff hM]
      exact ⟨fun z => ⟨q, fun c hc => ((hend c).mp (z c hc)).2⟩, fun z c hc => (hend c).mpr ⟨hc, z.2 c hc⟩⟩
    by_cases q2 : M = 2 ^ nC D - 1
    · rw [if_pos q2, cI_t (this.mp q2)]
    · rw [if_neg q2, cI_f (fun z => q2 (this.mpr z))]
theorem JE.w34 (h : JE σ t D) {j : Nat} {x : Int32} (hj : j = 3 ∨ j = 4) : JE (ah_wI σ 117 j x) t D := by
  obtain ⟨h1, h2, h3, h4, h5, h6⟩ := h
  have hT : t = 2 ∨ t = 42 := h1.tn
  have g : Fr (fun a i => a = 117 ∧ (i = 3 ∨ i = 4)) σ (ah_wI σ 117 j x) := Fr.rfl.wI ⟨rfl, hj⟩
  refine ⟨h1.fr g (fun a i _ _ => by omega), h2, (g.R (Or.inr (by omega))).trans h3, h4.fr g (fun a i _ _ => by omega), fun c hc => (g.L (by omega)).trans (h5 c hc), ?_⟩
  rcases h6 with q | ⟨q1, q2⟩
  · exact Or.inl ((g.I (by omega)).trans q)
  · exact Or.inr ⟨(g.I (by omega)).trans q1, q2.fr h1.bd.1 g (fun a i _ _ => by omega)⟩
/-- what judging writes -/
def Xk (t a j : Nat) : Prop := Xj t a j ∨ a = 117 ∧ (j = 3 ∨ j = 4)
theorem Xj_k : ∀ a j, Xj t a j → Xk t a j := fun _ _ q => Or.inl q
theorem Xj34 {j : Nat} (hj : j = 3 ∨ j = 4) : Xk t 117 j := Or.inr ⟨rfl, hj⟩
theorem c_endsBelow (h : JE σ t D) (hr : D 227 4 ≠ mI 1) {c s : Nat} (hc : c < nC D) (hx : stD D c = some s) : f_X3_endsBelowRiver 117 (nI c) σ = some (bI (¬ (lev D : Int) ≤ (hgt D (riv D) : Int) - bD D c), σ) := by
  have hw := h.w
  have htn := h.1.tn
  have b1 := h.1.bd
  have hp := h.2.2.1
  obtain ⟨e1, e2, e3, e4⟩ := h.1.t.rv hr
  have hrv := tr_riv h.1
  rw [e1] at hrv
  have hlv := tr_lev h.1
  rw [e3] at hlv
  have hh := h.1.t.qhgt9 e2
  have hb12 := (lb h.1.t h.2.1 hc hx).2.2.2.2.2.1
  have n4 := (h.net hc hx).2.2.2
  unfold f_X3_endsBelowRiver f_X3_endsBelowRiver_0
  simp only [to_bq, l_0, l_1, l_2, l_3, l_4, l_5, l_6, l_7, l_8, l_9, l_10, l_11, l_12, l_13, l_14, l_15, l_16, l_17, l_18, l_19, l_20, l_21, l_22, l_23, l_24, l_25, l_26, l_27, l_28, l_29, l_30, l_31, l_32, l_40, l_41, l_42, l_43, l_44, l_45, l_46, l_47, l_48, l_49, l_50, l_51, l_52, l_53, l_54, l_55, l_56, l_57, l_58, l_59, l_60, l_61, l_62, l_63, l_64, l_72, l_97, l_99, l_100, l_104, l_120, l_122, l_128, l_140, l_255, l_256, l_257, l_258, l_260, l_261, l_262, l_364, l_680, l_700, l_701, l_840, l_999, l_1023, l_1024, l_9999, l_10000, l_1000000, lm]
  simp (disch := first | (with_reducible assumption) | omega | exact ⟨by omega, by omega⟩ | ((with_reducible first | apply Wf.wI | apply Wf.wL | apply Wf.fL | apply Wf.fI | apply Wf.fr); (repeat (with_reducible first | assumption | apply Wf.wI | apply Wf.wL | apply Wf.fL | apply Wf.fI | apply Wf.fr)))) only [ck_117, gI_117, gL_117, pI_117, pZ0_117, pZ1_117, pL_117, gR_117_0, gR_117_1, gR_117_5, pR_117_6, gR_117_6, ck_90, gI_90, gL_90, pI_90, pZ0_90, pZ1_90, pL_90, gR_90_0, gR_90_1, gR_90_2, gR_90_3, gR_90_6, gR_90_8, ck_t, gI_t, gL_t, pI_t, pZ0_t, pZ1_t, pL_t, ck_w, gI_w, gL_w, pI_w, pZ0_w, pZ1_w, pL_w, gR_t_1, gR_t_5, gR_t_7, gR_t_9, gR_t_10, gR_t_11, gR_t_12, gR_t_15, gR_w_2, gR_w_3, gR_w_4, gR_w_5, gR_w_6, gR_w_7, aR_crow, aR_srow, aR_prow, aR_rrow, aI_crow, sI_crow, len_crow, aI_srow, sI_srow, len_srow, aI_prow, sI_prow, len_prow, aI_rrow, sI_rrow, len_rrow, aI_t25, sI_t25, len_t25, aI_t31, sI_t31, len_t31, aI_t32, sI_t32, len_t32, aI_t34, sI_t34, len_t34, aI_t35, sI_t35, len_t35, aI_t36, sI_t36, len_t36, aI_t37, sI_t37, len_t37, aL_t38, sL_t38, len_t38, aL_t39, sL_t39, len_t39, bq_s, bd_s, mp_s, rz_0, rz_1, bI_rz, zadd, zmul, zsub, le_nI, lt_nI, eq_nI, neg_nI, gen_nI, neg_lt, neg_le, neg_lt', neg_le', nI_lt0, hp, hrv, hlv, tr_hgt h.1, aI_94, n4, jle_n]
  unfold bI
  by_cases q : (lev D : Int) ≤ (hgt D (riv D) : Int) - bD D c
  · rw [if_pos q, if_neg (fun z => z q)]
  · rw [if_neg q, if_pos q]
/-- from above down: the first of those seen -/
theorem c_jn91 (h0 : JE σ t D) (hj : jnd D) : ∀ k fu τ, k ≤ nC D → k < fu → Fr (Xk t) σ τ → JE τ t D → ah_I τ 117 3 = jd8 D (nI 0) (fp (bel D) k (nC D - k)) → ah_I τ 117 4 = jd8 D (nI 1) (fp (bel D) k (nC D - k)) → ∃ ρ, f_X3_judgeNet_91 fu 117 (jI ((k : Int) - 1)) τ = some ρ ∧ Fr (Xk t) σ ρ ∧ JE ρ t D ∧ ah_I ρ 117 3 = jd8 D (nI 0) (fp (bel D) 0 (nC D)) ∧ ah_I ρ 117 4 = jd8 D (nI 1) (fp (bel D) 0 (nC D)) := by
  have b1 := h0.1.bd
  have htn := h0.1.tn
  have hT : t = 2 ∨ t = 42 := htn
  obtain ⟨e1, e2, e3, e4⟩ := h0.1.t.rv hj.1
  intro k
  induction k with
  | zero =>
    intro fu τ hk hf hfr h h3 h4
    obtain ⟨fu, rfl⟩ : ∃ q, fu = q + 1 := ⟨fu - 1, by omega⟩
    refine ⟨τ, ?_, hfr, h, h3, h4⟩
    show f_X3_judgeNet_91_b _ _ _ _ = _
    unfold f_X3_judgeNet_91_b
    rw [if_pos (by decide)]
  | succ k ih =>
    intro fu τ hk hf hfr h h3 h4
    obtain ⟨fu, rfl⟩ : ∃ q, fu = q + 1 := ⟨fu - 1, by omega⟩
    have hk' : k < nC D := by omega
    have hw := h.w
    have hp := h.2.2.1
    have hrv := tr_riv h.1
    rw [e1] at hrv
    have ek : jI (((k + 1 : Nat) : Int) - 1) = nI k := by rw [jI_n]; congr 1; omega
    have em : nI k + mI 1 = jI ((k : Int) - 1) := by rw [jI_n, jI_m, jadd]; congr 1
    have ef : fp (bel D) k (nC D - k) = cif (bel D k) (some k) (fp (bel D) (k + 1) (nC D - (k + 1))) := by
      rw [show nC D - k = (nC D - (k + 1)) + 1 by omega]; rfl
    rw [ek]
    show ∃ ρ, f_X3_judgeNet_91_b _ _ _ _ = _ ∧ _
    unfold f_X3_judgeNet_91_b f_X3_judgeNet_129
    simp only [to_bq, l_0, l_1, l_2, l_3, l_4, l_5, l_6, l_7, l_8, l_9, l_10, l_11, l_12, l_13, l_14, l_15, l_16, l_17, l_18, l_19, l_20, l_21, l_22, l_23, l_24, l_25, l_26, l_27, l_28, l_29, l_30, l_31, l_32, l_40, l_41, l_42, l_43, l_44, l_45, l_46, l_47, l_48, l_49, l_50, l_51, l_52, l_53, l_54, l_55, l_56, l_57, l_58, l_59, l_60, l_61, l_62, l_63, l_64, l_72, l_97, l_99, l_100, l_104, l_120, l_122, l_128, l_140, l_255, l_256, l_257, l_258, l_260, l_261, l_262, l_364, l_680, l_700, l_701, l_840, l_999, l_1023, l_1024, l_9999, l_10000, l_1000000, lm]
    simp (disch := first | (with_reducible assumption) | omega | exact ⟨by omega, by omega⟩ | ((with_reducible first | apply Wf.wI | apply Wf.wL | apply Wf.fL | apply Wf.fI | apply Wf.fr); (repeat (with_reducible first | assumption | apply Wf.wI | apply Wf.wL | apply Wf.fL | apply Wf.fI | apply Wf.fr)))) only [ck_117, gI_117, gL_117, pI_117, pZ0_117, pZ1_117, pL_117, gR_117_0, gR_117_1, gR_117_5, pR_117_6, gR_117_6, ck_t, gI_t, gL_t, pI_t, pZ0_t, pZ1_t, pL_t, ck_w, gI_w, gL_w, pI_w, pZ0_w, pZ1_w, pL_w, gR_t_1, gR_t_5, gR_t_7, gR_t_9, gR_t_10, gR_t_11, gR_t_12, gR_t_15, gR_w_2, gR_w_3, gR_w_4, gR_w_5, gR_w_6, gR_w_7, aR_crow, aR_srow, aR_prow, aR_rrow, aI_crow, sI_crow, len_crow, aI_srow, sI_srow, len_srow, aI_prow, sI_prow, len_prow, aI_rrow, sI_rrow, len_rrow, aI_t25, sI_t25, len_t25, aI_t31, sI_t31, len_t31, aI_t32, sI_t32, len_t32, aI_t34, sI_t34, len_t34, aI_t35, sI_t35, len_t35, aI_t36, sI_t36, len_t36, aI_t37, sI_t37, len_t37, aL_t38, sL_t38, len_t38, aL_t39, sL_t39, len_t39, bq_s, bd_s, mp_s, rz_0, rz_1, bI_rz, zadd, zmul, zsub, le_nI, lt_nI, eq_nI, neg_nI, gen_nI, neg_lt, neg_le, neg_lt', neg_le', nI_lt0, if_true, if_false, ite_true, ite_false, reduceIte, not_true, not_false, and_true, true_and, and_false, false_and, or_true, true_or, or_false, false_or, eq_self, hp, hrv, c_runsTo h hk' e2, bI_0, ite_n, lm, em, show (k < 0) = False from eq_false (by omega)]
    by_cases q : nx D (stD D) k = some (riv D)
    · rw [if_pos q]
      obtain ⟨s', hs', -⟩ := nx_st q
      rw [c_endsBelow h hj.1 hk' hs', bq_s]
      simp only [bI_0, em]
      by_cases q2 : (lev D : Int) ≤ (hgt D (riv D) : Int) - bD D k
      · rw [if_pos (fun z => z q2)]
        rw [cif_f (fun z => by have := z.2; omega)] at ef
        exact ih fu τ (by omega) (by omega) hfr h (by rw [ef]; exact h3) (by rw [ef]; exact h4)
      · rw [if_neg (fun z => z q2)]
        rw [cif_t ⟨q, by omega⟩] at ef
        have hw1 := h.w
        rw [pI_117 hw1, bq_s, pI_117 (hw1.wI _ _ _), bq_s]
        try rw [em]
        refine ih fu _ (by omega) (by omega) ((hfr.wI (Xj34 (Or.inl rfl))).wI (Xj34 (Or.inr rfl))) ((h.w34 (Or.inl rfl)).w34 (Or.inr rfl)) ?_ ?_
        · rw [rI_ne (Or.inr (by omega)), rI_eq, ef]; rfl
        · rw [rI_eq, ef]; rfl
    · rw [if_neg q]
      rw [cif_f (fun z => q z.1)] at ef
      exact ih fu τ (by omega) (by omega) hfr h (by rw [ef]; exact h3) (by rw [ef]; exact h4)
theorem c_jn21 (h0 : JE σ t D) (hj : jnd D) : ∀ m k fu τ, k + m = nC D → m < fu → Fr (Xk t) σ τ → JE τ t D → ah_I τ 117 4 = mI 1 → ∃ ρ, f_X3_judgeNet_21 fu 117 (nI k) τ = some ρ ∧ Fr (Xk t) σ ρ ∧ JE ρ t D ∧ ah_I ρ 117 3 = (match fp (fun c => brkc D c ≠ 0) k m with
    | some c => nI (brkc D c)
    | none => jd8 D (nI 0) (fp (bel D) 0 (nC D))) ∧ ah_I ρ 117 4 = (match fp (fun c => brkc D c ≠ 0) k m with
    | some c => nI c
    | none => jd8 D (nI 1) (fp (bel D) 0 (nC D))) := by
  have b1 := h0.1.bd
  have htn := h0.1.tn
  have hT : t = 2 ∨ t = 42 := htn
  intro m
  induction m with
  | zero =>
    intro k fu τ hk hf hfr h h4
    obtain ⟨fu, rfl⟩ : ∃ q, fu = q + 1 := ⟨fu - 1, by omega⟩
    have hw := h.w
    have hp := h.2.2.1
    have h' : JE (ah_wI τ 117 3 (nI 0)) t D := h.w34 (Or.inl rfl)
    have hw' := h'.w
    have hp' := h'.2.2.1
    have en : nI (nC D) - nI 1 = jI ((nC D : Int) - 1) := by rw [jI_n, jI_n, jsub]; rfl
    show ∃ ρ, f_X3_judgeNet_21_b _ _ _ _ = _ ∧ _
    unfold f_X3_judgeNet_21_b f_X3_judgeNet_76
    simp only [to_bq, l_0, l_1, l_2, l_3, l_4, l_5, l_6, l_7, l_8, l_9, l_10, l_11, l_12, l_13, l_14, l_15, l_16, l_17, l_18, l_19, l_20, l_21, l_22, l_23, l_24, l_25, l_26, l_27, l_28, l_29, l_30, l_31, l_32, l_40, l_41, l_42, l_43, l_44, l_45, l_46, l_47, l_48, l_49, l_50, l_51, l_52, l_53, l_54, l_55, l_56, l_57, l_58, l_59, l_60, l_61, l_62, l_63, l_64, l_72, l_97, l_99, l_100, l_104, l_120, l_122, l_128, l_140, l_255, l_256, l_257, l_258, l_260, l_261, l_262, l_364, l_680, l_700, l_701, l_840, l_999, l_1023, l_1024, l_9999, l_10000, l_1000000, lm]
    simp (disch := first | (with_reducible assumption) | omega | exact ⟨by omega, by omega⟩ | ((with_reducible first | apply Wf.wI | apply Wf.wL | apply Wf.fL | apply Wf.fI | apply Wf.fr); (repeat (with_reducible first | assumption | apply Wf.wI | apply Wf.wL | apply Wf.fL | apply Wf.fI | apply Wf.fr)))) only [ck_117, gI_117, gL_117, pI_117, pZ0_117, pZ1_117, pL_117, gR_117_0, gR_117_1, gR_117_5, pR_117_6, gR_117_6, ck_t, gI_t, gL_t, pI_t, pZ0_t, pZ1_t, pL_t, ck_w, gI_w, gL_w, pI_w, pZ0_w, pZ1_w, pL_w, gR_t_1, gR_t_5, gR_t_7, gR_t_9, gR_t_10, gR_t_11, gR_t_12, gR_t_15, gR_w_2, gR_w_3, gR_w_4, gR_w_5, gR_w_6, gR_w_7, aR_crow, aR_srow, aR_prow, aR_rrow, aI_crow, sI_crow, len_crow, aI_srow, sI_srow, len_srow, aI_prow, sI_prow, len_prow, aI_rrow, sI_rrow, len_rrow, aI_t25, sI_t25, len_t25, aI_t31, sI_t31, len_t31, aI_t32, sI_t32, len_t32, aI_t34, sI_t34, len_t34, aI_t35, sI_t35, len_t35, aI_t36, sI_t36, len_t36, aI_t37, sI_t37, len_t37, aL_t38, sL_t38, len_t38, aL_t39, sL_t39, len_t39, bq_s, bd_s, mp_s, rz_0, rz_1, bI_rz, if_true, if_false, ite_true, ite_false, reduceIte, not_true, not_false, and_true, true_and, and_false, false_and, or_true, true_or, or_false, false_or, eq_self, hp, tr_C h.1, le_nI, show (nC D ≤ k) = True from eq_true (by omega)]
    rw [hp', bq_s, gI_t hw' htn, bq_s, tr_C h'.1, en]
    have hf0 : fp (bel D) (nC D) (nC D - nC D) = none := by rw [Nat.sub_self]; rfl
    obtain ⟨ρ, g1, g2, g3, g4, g5⟩ := c_jn91 h0 hj (nC D) 5000 _ (Nat.le_refl _) (by omega) (hfr.wI (Xj34 (Or.inl rfl))) h' (by rw [rI_eq, hf0]; rfl) (by rw [rI_ne (Or.inr (by omega)), h4, hf0]; rfl)
    exact ⟨ρ, g1, g2, g3, g4, g5⟩
  | succ m ih =>
    intro k fu τ hk hf hfr h h4
    obtain ⟨fu, rfl⟩ : ∃ q, fu = q + 1 := ⟨fu - 1, by omega⟩
    have hk' : k < nC D := by omega
    have hw := h.w
    have hp := h.2.2.1
    have ef : fp (fun c => brkc D c ≠ 0) k (m + 1) = cif (brkc D k ≠ 0) (some k) (fp (fun c => brkc D c ≠ 0) (k + 1) m) := rfl
    show ∃ ρ, f_X3_judgeNet_21_b _ _ _ _ = _ ∧ _
    unfold f_X3_judgeNet_21_b f_X3_judgeNet_54 f_X3_judgeNet_59
    simp only [to_bq, l_0, l_1, l_2, l_3, l_4, l_5, l_6, l_7, l_8, l_9, l_10, l_11, l_12, l_13, l_14, l_15, l_16, l_17, l_18, l_19, l_20, l_21, l_22, l_23, l_24, l_25, l_26, l_27, l_28, l_29, l_30, l_31, l_32, l_40, l_41, l_42, l_43, l_44, l_45, l_46, l_47, l_48, l_49, l_50, l_51, l_52, l_53, l_54, l_55, l_56, l_57, l_58, l_59, l_60, l_61, l_62, l_63, l_64, l_72, l_97, l_99, l_100, l_104, l_120, l_122, l_128, l_140, l_255, l_256, l_257, l_258, l_260, l_261, l_262, l_364, l_680, l_700, l_701, l_840, l_999, l_1023, l_1024, l_9999, l_10000, l_1000000, lm]
    simp (disch := first | (with_reducible assumption) | omega | exact ⟨by omega, by omega⟩ | ((with_reducible first | apply Wf.wI | apply Wf.wL | apply Wf.fL | apply Wf.fI | apply Wf.fr); (repeat (with_reducible first | assumption | apply Wf.wI | apply Wf.wL | apply Wf.fL | apply Wf.fI | apply Wf.fr)))) only [ck_117, gI_117, gL_117, pI_117, pZ0_117, pZ1_117, pL_117, gR_117_0, gR_117_1, gR_117_5, pR_117_6, gR_117_6, ck_90, gI_90, gL_90, pI_90, pZ0_90, pZ1_90, pL_90, gR_90_0, gR_90_1, gR_90_2, gR_90_3, gR_90_6, gR_90_8, ck_t, gI_t, gL_t, pI_t, pZ0_t, pZ1_t, pL_t, ck_w, gI_w, gL_w, pI_w, pZ0_w, pZ1_w, pL_w, gR_t_1, gR_t_5, gR_t_7, gR_t_9, gR_t_10, gR_t_11, gR_t_12, gR_t_15, gR_w_2, gR_w_3, gR_w_4, gR_w_5, gR_w_6, gR_w_7, aR_crow, aR_srow, aR_prow, aR_rrow, aI_crow, sI_crow, len_crow, aI_srow, sI_srow, len_srow, aI_prow, sI_prow, len_prow, aI_rrow, sI_rrow, len_rrow, aI_t25, sI_t25, len_t25, aI_t31, sI_t31, len_t31, aI_t32, sI_t32, len_t32, aI_t34, sI_t34, len_t34, aI_t35, sI_t35, len_t35, aI_t36, sI_t36, len_t36, aI_t37, sI_t37, len_t37, aL_t38, sL_t38, len_t38, aL_t39, sL_t39, len_t39, bq_s, bd_s, mp_s, rz_0, rz_1, bI_rz, zadd, zmul, zsub, le_nI, lt_nI, eq_nI, neg_nI, gen_nI, neg_lt, neg_le, neg_lt', neg_le', nI_lt0, if_true, if_false, ite_true, ite_false, reduceIte, not_true, not_false, and_true, true_and, and_false, false_and, or_true, true_or, or_false, false_or, eq_self, hp, tr_C h.1, aI_91, lm, h.sn hk', show (nC D ≤ k) = False from eq_false (by omega)]
    cases hx : stD D k with
    | none =>
      have : brkc D k = 0 := by unfold brkc; rw [hx]
      rw [cif_f (fun z => z this)] at ef
      rw [if_pos rfl, ef]
      exact ih (k + 1) fu τ (by omega) (by omega) hfr h h4
    | some s =>
      have eb : brkc D k = brk D k s := by unfold brkc; rw [hx]
      have hb := brk_b D k s
      obtain ⟨⟨r1, r2⟩, k1, k2, k3, k4⟩ := c_lawBrokenBy h hk' hx
      have k2 : r1 = _ := k2
      subst k2
      rw [if_neg (by intro z; cases z), k1, bq_s]
      simp (disch := first | (with_reducible assumption) | omega | exact ⟨by omega, by omega⟩ | ((with_reducible first | apply Wf.wI | apply Wf.wL | apply Wf.fL | apply Wf.fI | apply Wf.fr); (repeat (with_reducible first | assumption | apply Wf.wI | apply Wf.wL | apply Wf.fL | apply Wf.fI | apply Wf.fr)))) only [zadd, zmul, zsub, le_nI, lt_nI, eq_nI, neg_nI, gen_nI, neg_lt, neg_le, neg_lt', neg_le', nI_lt0]
      by_cases q2 : brk D k s = 0
      · rw [if_pos q2]
        rw [cif_f (fun z => z (eb.trans q2))] at ef
        rw [ef]
        refine ih (k + 1) fu r2 (by omega) (by omega) (hfr.trans (k3.mono Xj_k)) k4 ?_
        rw [k3.I (by unfold Xj Xl Xn Xf; omega)]; exact h4
      · rw [if_neg q2]
        rw [cif_t (by rw [eb]; exact q2)] at ef
        have hw2 : Wf r2 := k4.w
        rw [pI_117 hw2, bq_s, pI_117 (hw2.wI _ _ _), bq_s, ef]
        refine ⟨_, rfl, ((hfr.trans (k3.mono Xj_k)).wI (Xj34 (Or.inl rfl))).wI (Xj34 (Or.inr rfl)), (k4.w34 (Or.inl rfl)).w34 (Or.inr rfl), ?_, ?_⟩
        · rw [rI_ne (Or.inr (by omega)), rI_eq]
          show nI (brk D k s) = nI (brkc D k)
          rw [eb]
        · rw [rI_eq]
theorem c_judgeNet (h : JE σ t D) : ∃ ρ, f_X3_judgeNet 117 σ = some ρ ∧ Fr (Xk t) σ ρ ∧ JE ρ t D ∧ ah_I ρ 117 3 = jdl D ∧ ah_I ρ 117 4 = jdc D := by
  have b1 := h.1.bd
  have h1 : JE (ah_wI σ 117 3 (nI 7)) t D := h.w34 (Or.inl rfl)
  have h2 : JE (ah_wI (ah_wI σ 117 3 (nI 7)) 117 4 (mI 1)) t D := h1.w34 (Or.inr rfl)
  have f2 : Fr (Xk t) σ (ah_wI (ah_wI σ 117 3 (nI 7)) 117 4 (mI 1)) := (Fr.rfl.wI (Xj34 (Or.inl rfl))).wI (Xj34 (Or.inr rfl))
  unfold f_X3_judgeNet f_X3_judgeNet_0 jdl jdc
  simp only [to_bq, l_0, l_1, l_2, l_3, l_4, l_5, l_6, l_7, l_8, l_9, l_10, l_11, l_12, l_13, l_14, l_15, l_16, l_17, l_18, l_19, l_20, l_21, l_22, l_23, l_24, l_25, l_26, l_27, l_28, l_29, l_30, l_31, l_32, l_40, l_41, l_42, l_43, l_44, l_45, l_46, l_47, l_48, l_49, l_50, l_51, l_52, l_53, l_54, l_55, l_56, l_57, l_58, l_59, l_60, l_61, l_62, l_63, l_64, l_72, l_97, l_99, l_100, l_104, l_120, l_122, l_128, l_140, l_255, l_256, l_257, l_258, l_260, l_261, l_262, l_364, l_680, l_700, l_701, l_840, l_999, l_1023, l_1024, l_9999, l_10000, l_1000000, lm]
  rw [ck_117 h.w, pI_117 h.w, bq_s, pI_117 h1.w, bq_s, c_allRunOut h2, bq_s]
  by_cases qj : jnd D
  · rw [cif_t qj, cif_t qj, cI_t qj, if_neg (show ¬ nI 1 = nI 0 by decide)]
    obtain ⟨ρ, g1, g2, g3, g4, g5⟩ := c_jn21 h2 qj (nC D) 0 5000 _ (by omega) (by omega) Fr.rfl h2 rI_eq
    refine ⟨ρ, g1, f2.trans g2, g3, ?_, ?_⟩
    · rw [g4]
      cases fp (fun c => brkc D c ≠ 0) 0 (nC D) with
      | some c => rfl
      | none =>
        show jd8 D _ _ = _
        unfold jd8
        cases fp (bel D) 0 (nC D) with
        | some c => rfl
        | none => rfl
    · rw [g5]
      cases fp (fun c => brkc D c ≠ 0) 0 (nC D) with
      | some c => rfl
      | none =>
        show jd8 D _ _ = _
        unfold jd8
        cases fp (bel D) 0 (nC D) with
        | some c => exact if_neg (by decide)
        | none => exact if_neg (by decide)
  · rw [cif_f qj, cif_f qj, cI_f qj, if_pos rfl]
    exact ⟨_, rfl, f2, h2, by rw [rI_ne (Or.inr (by omega)), rI_eq], rI_eq⟩
theorem CJ.xk {τ : ah_H} (h : CJ σ t D) (g : Fr (Xk t) σ τ) (hj : JE τ t D) : CJ τ t D := by
  obtain ⟨h1, h2, h3, h4, ⟨h5, h6⟩, ⟨h7, h8⟩, h9⟩ := h
  have hT : t = 2 ∨ t = 42 := h1.1.tn
  have hX : ∀ a j, a < 2 ∨ 82 ≤ a ∧ a ≤ 116 → ¬ Xk t a j := fun a j _ => by unfold Xk Xj Xl Xn Xf; omega
  exact ⟨hj, h2.fr g (fun a j _ => hX a j (by omega)), (g.R (Or.inr (hX _ _ (by omega)))).trans h3, (g.R (Or.inr (hX _ _ (by omega)))).trans h4, ⟨(g.I (hX _ _ (by omega))).trans h5, fun j hj => (g.I (hX _ _ (by omega))).trans (h6 j hj)⟩, ⟨(g.I (hX _ _ (by omega))).trans h7, (g.I (hX _ _ (by omega))).trans h8⟩, fun k hk => (g.I (hX _ _ (by omega))).trans (h9 k hk)⟩
def CK {α : Type} (σ : ah_H) (t : Nat) (D : DD) (v : α) (r : α × ah_H) : Prop := r.1 = v ∧ Fr (Xk t) σ r.2 ∧ CJ r.2 t D
theorem CK.z {α : Type} (h : CJ σ t D) {v : α} : CK σ t D v (v, σ) := ⟨rfl, Fr.rfl, h⟩
theorem c_judged (h : CJ σ t D) (w : Int32) : Ok (f_X11_judged 0 w σ) (CK σ t D (sJudged D w)) := by
  have hw := h.w
  unfold f_X11_judged f_X11_judged_0 sJudged
  simp only [to_bq, l_0, l_1, l_2, l_3, l_4, l_5, l_6, l_7, l_8, l_9, l_10, l_11, l_12, l_13, l_14, l_15, l_16, l_17, l_18, l_19, l_20, l_21, l_22, l_23, l_24, l_25, l_26, l_27, l_28, l_29, l_30, l_31, l_32, l_40, l_41, l_42, l_43, l_44, l_45, l_46, l_47, l_48, l_49, l_50, l_51, l_52, l_53, l_54, l_55, l_56, l_57, l_58, l_59, l_60, l_61, l_62, l_63, l_64, l_72, l_97, l_99, l_100, l_104, l_120, l_122, l_128, l_140, l_255, l_256, l_257, l_258, l_260, l_261, l_262, l_364, l_680, l_700, l_701, l_840, l_999, l_1023, l_1024, l_9999, l_10000, l_1000000, lm]
  rw [ck_0 hw]
  by_cases q1 : w < nI 0
  · rw [if_pos q1, if_pos q1]; exact ⟨_, rfl, CK.z h⟩
  rw [if_neg q1, if_neg q1]
  by_cases q2 : w ≤ nI 1
  · obtain ⟨ρ, g1, g2, g3, g4, g5⟩ := c_judgeNet h.1
    have hw3 := g3.w
    have h3 := h.xk g2 g3
    rw [if_pos q2, if_pos q2, gR_0_6 hw, bq_s, g1, bq_s]
    simp (disch := first | (with_reducible assumption) | omega | exact ⟨by omega, by omega⟩ | ((with_reducible first | apply Wf.wI | apply Wf.wL | apply Wf.fL | apply Wf.fI | apply Wf.fr); (repeat (with_reducible first | assumption | apply Wf.wI | apply Wf.wL | apply Wf.fL | apply Wf.fI | apply Wf.fr)))) only [ck_0, gI_0, gL_0, pI_0, pZ0_0, pZ1_0, pL_0, gR_0_0, pR_0_2, gR_0_2, pR_0_3, gR_0_3, gR_0_4, gR_0_5, gR_0_6, gR_0_7, gR_0_8, ck_117, gI_117, gL_117, pI_117, pZ0_117, pZ1_117, pL_117, gR_117_0, gR_117_1, gR_117_5, pR_117_6, gR_117_6, bq_s, bd_s, mp_s, rz_0, rz_1, bI_rz, g4, g5, iteS]
    exact ⟨_, rfl, rfl, g2, h3⟩
  · rw [if_neg q2, if_neg q2]; exact ⟨_, rfl, CK.z h⟩
end
