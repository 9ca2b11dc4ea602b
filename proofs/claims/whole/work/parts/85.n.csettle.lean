/-! THE CLASS: the least of all trees -/
section
variable {σ τ : ah_H} {t : Nat} {D : DD} {w : Nat}
theorem ltF_c (hb : CB D) : ∀ k, (ltF D w k).2.2 = mI 1 ∧ (ltF D w k).1 = 4000000000000000000 ∨ ∃ i y, i < k ∧ (ltF D w k).2.2 = nI i ∧ TrQ D i ∧ cpv D i = some y ∧ (ltF D w k).1 = (y.1 : Int) := by
  intro k
  induction k with
  | zero => exact Or.inl ⟨rfl, rfl⟩
  | succ k ih =>
    have ih' : (ltF D w k).2.2 = mI 1 ∧ (ltF D w k).1 = 4000000000000000000 ∨ ∃ i y, i < k + 1 ∧ (ltF D w k).2.2 = nI i ∧ TrQ D i ∧ cpv D i = some y ∧ (ltF D w k).1 = (y.1 : Int) := ih.imp (fun z => z) (fun ⟨i, y, h1, h2⟩ => ⟨i, y, by omega, h2⟩)
    unfold ltF
    by_cases q : k &&& w = 0 ∧ TrQ D k
    · rw [cif_t q]
      by_cases q2 : lv (cpv D k) < (ltF D w k).1
      · rw [if_pos q2]
        cases e : cpv D k with
        | none =>
          rw [e] at q2
          have q2 : (4000000000000000000 : Int) < (ltF D w k).1 := q2
          rcases ih with ⟨-, z⟩ | ⟨i, y, h1, h2, h3, h4, h5⟩
          · omega
          · have := hb i h3 y h4; omega
        | some y => exact Or.inr ⟨k, y, by omega, rfl, q.2, e, rfl⟩
      · rw [if_neg q2]; exact ih'
    · rw [cif_f q]; exact ih'
theorem cst_s {m : Nat} {y : Nat × Nat} (h : TrQ D m) (e : cpv D m = some y) : cst D m = iL (y.1 : Int) := by
  unfold cst
  rw [cif_t h, e]; rfl
theorem c_ba4 (h : TR σ t D) (hp : ah_R σ 160 6 = some t) (hb : CB D) (hw : w < 2147483648) (hk : ∀ m, m < 2 ^ nS D → CkR σ D m) : ∀ i k fu, k + i = 2 ^ nS D → i < fu → f_X10_bestAvoiding_4 fu 160 (nI w) (ltF D w k).2.2 (nI k) σ = some ((ltF D w (2 ^ nS D)).2.2, σ) := by
  have htn := h.tn
  have hW := h.w
  have h2 := p2S h.t
  have b10 := h.t.qs10
  intro i
  induction i with
  | zero =>
    intro k fu hki hf
    obtain ⟨fu, rfl⟩ : ∃ q, fu = q + 1 := ⟨fu - 1, by omega⟩
    show f_X10_bestAvoiding_4_b _ _ _ _ _ _ = _
    unfold f_X10_bestAvoiding_4_b
    simp only [to_bq, l_0, l_1, l_2, l_3, l_4, l_5, l_6, l_7, l_8, l_9, l_10, l_11, l_12, l_13, l_14, l_15, l_16, l_17, l_18, l_19, l_20, l_21, l_22, l_23, l_24, l_25, l_26, l_27, l_28, l_29, l_30, l_31, l_32, l_40, l_41, l_42, l_43, l_44, l_45, l_46, l_47, l_48, l_49, l_50, l_51, l_52, l_53, l_54, l_55, l_56, l_57, l_58, l_59, l_60, l_61, l_62, l_63, l_64, l_72, l_97, l_99, l_100, l_104, l_120, l_122, l_128, l_140, l_255, l_256, l_257, l_258, l_260, l_261, l_262, l_364, l_680, l_700, l_701, l_840, l_999, l_1023, l_1024, l_9999, l_10000, l_1000000, lm]
    simp (disch := first | (with_reducible assumption) | omega | exact ⟨by omega, by omega⟩ | ((with_reducible first | apply Wf.wI | apply Wf.wL | apply Wf.fL | apply Wf.fI | apply Wf.fr); (repeat (with_reducible first | assumption | apply Wf.wI | apply Wf.wL | apply Wf.fL | apply Wf.fI | apply Wf.fr)))) only [ck_160, gI_160, gL_160, pI_160, pZ0_160, pZ1_160, pL_160, gR_160_3, gR_160_4, gR_160_5, pR_160_6, gR_160_6, ck_t, gI_t, gL_t, pI_t, pZ0_t, pZ1_t, pL_t, ck_w, gI_w, gL_w, pI_w, pZ0_w, pZ1_w, pL_w, gR_t_1, gR_t_5, gR_t_7, gR_t_9, gR_t_10, gR_t_11, gR_t_12, gR_t_15, gR_w_2, gR_w_3, gR_w_4, gR_w_5, gR_w_6, gR_w_7, aR_crow, aR_srow, aR_prow, aR_rrow, aI_crow, sI_crow, len_crow, aI_srow, sI_srow, len_srow, aI_prow, sI_prow, len_prow, aI_rrow, sI_rrow, len_rrow, aI_t25, sI_t25, len_t25, aI_t31, sI_t31, len_t31, aI_t32, sI_t32, len_t32, aI_t34, sI_t34, len_t34, aI_t35, sI_t35, len_t35, aI_t36, sI_t36, len_t36, aI_t37, sI_t37, len_t37, aL_t38, sL_t38, len_t38, aL_t39, sL_t39, len_t39, bq_n, bd_s, mp_s, rz_0, rz_1, bI_rz, zadd, zmul, zsub, le_nI, lt_nI, eq_nI, neg_nI, gen_nI, neg_lt, neg_le, neg_lt', neg_le', nI_lt0, if_true, if_false, ite_true, ite_false, reduceIte, not_true, not_false, and_true, true_and, and_false, false_and, or_true, true_or, or_false, false_or, eq_self, hp, tr_S h, z_one (show nS D < 31 by omega)]
    rw [if_pos (by omega), show k = 2 ^ nS D by omega]
  | succ i ih =>
    intro k fu hki hf
    obtain ⟨fu, rfl⟩ : ∃ q, fu = q + 1 := ⟨fu - 1, by omega⟩
    have hkl : k < 2 ^ nS D := by omega
    have ck := (hk k hkl).1
    have hkw : k &&& w < 2147483648 := Nat.lt_of_le_of_lt Nat.and_le_left (by omega)
    have es : ltF D w (k + 1) = cif (k &&& w = 0 ∧ TrQ D k) (if lv (cpv D k) < (ltF D w k).1 then (lv (cpv D k), (ltF D w k).2.1 + 1, nI k) else ((ltF D w k).1, (ltF D w k).2.1 + 1, (ltF D w k).2.2)) (ltF D w k) := rfl
    have hi := ih (k + 1) fu (by omega) (by omega)
    rw [← hi]
    show f_X10_bestAvoiding_4_b (f_X10_bestAvoiding_4 fu) 160 (nI w) _ (nI k) σ = f_X10_bestAvoiding_4 fu 160 (nI w) _ _ _
    have hfalse : (2 ^ nS D ≤ k) = False := eq_false (by omega)
    by_cases qw : k &&& w = 0
    · by_cases qt : TrQ D k
      · rw [cif_t ⟨qw, qt⟩] at es
        cases e : cpv D k with
        | none =>
          have cs : cst D k = iL (-2) := by unfold cst; rw [cif_t qt, e]; rfl
          rw [e, if_neg (by
            show ¬ (4000000000000000000 : Int) < _
            rcases ltF_c (w := w) hb k with ⟨-, z⟩ | ⟨i, y, h1, h2, h3, h4, h5⟩
            · omega
            · have := hb i h3 y h4; omega)] at es
          rw [show (ltF D w (k + 1)).2.2 = (ltF D w k).2.2 by rw [es]]
          unfold f_X10_bestAvoiding_4_b f_X10_bestAvoiding_57
          simp only [to_bq, l_0, l_1, l_2, l_3, l_4, l_5, l_6, l_7, l_8, l_9, l_10, l_11, l_12, l_13, l_14, l_15, l_16, l_17, l_18, l_19, l_20, l_21, l_22, l_23, l_24, l_25, l_26, l_27, l_28, l_29, l_30, l_31, l_32, l_40, l_41, l_42, l_43, l_44, l_45, l_46, l_47, l_48, l_49, l_50, l_51, l_52, l_53, l_54, l_55, l_56, l_57, l_58, l_59, l_60, l_61, l_62, l_63, l_64, l_72, l_97, l_99, l_100, l_104, l_120, l_122, l_128, l_140, l_255, l_256, l_257, l_258, l_260, l_261, l_262, l_364, l_680, l_700, l_701, l_840, l_999, l_1023, l_1024, l_9999, l_10000, l_1000000, lm]
          simp (disch := first | (with_reducible assumption) | omega | exact ⟨by omega, by omega⟩ | ((with_reducible first | apply Wf.wI | apply Wf.wL | apply Wf.fL | apply Wf.fI | apply Wf.fr); (repeat (with_reducible first | assumption | apply Wf.wI | apply Wf.wL | apply Wf.fL | apply Wf.fI | apply Wf.fr)))) only [ck_160, gI_160, gL_160, pI_160, pZ0_160, pZ1_160, pL_160, gR_160_3, gR_160_4, gR_160_5, pR_160_6, gR_160_6, aL_161, sL_161, len_161, ck_t, gI_t, gL_t, pI_t, pZ0_t, pZ1_t, pL_t, ck_w, gI_w, gL_w, pI_w, pZ0_w, pZ1_w, pL_w, gR_t_1, gR_t_5, gR_t_7, gR_t_9, gR_t_10, gR_t_11, gR_t_12, gR_t_15, gR_w_2, gR_w_3, gR_w_4, gR_w_5, gR_w_6, gR_w_7, aR_crow, aR_srow, aR_prow, aR_rrow, aI_crow, sI_crow, len_crow, aI_srow, sI_srow, len_srow, aI_prow, sI_prow, len_prow, aI_rrow, sI_rrow, len_rrow, aI_t25, sI_t25, len_t25, aI_t31, sI_t31, len_t31, aI_t32, sI_t32, len_t32, aI_t34, sI_t34, len_t34, aI_t35, sI_t35, len_t35, aI_t36, sI_t36, len_t36, aI_t37, sI_t37, len_t37, aL_t38, sL_t38, len_t38, aL_t39, sL_t39, len_t39, bq_n, bd_s, mp_s, rz_0, rz_1, bI_rz, zadd, zmul, zsub, le_nI, lt_nI, eq_nI, neg_nI, gen_nI, neg_lt, neg_le, neg_lt', neg_le', nI_lt0, if_true, if_false, ite_true, ite_false, reduceIte, not_true, not_false, and_true, true_and, and_false, false_and, or_true, true_or, or_false, false_or, eq_self, hp, tr_S h, z_one (show nS D < 31 by omega), hfalse, show nI k &&& nI w = nI (k &&& w) from z_and _ _, qw, ck, cs, show lg_cmp (iL (-2)) 0 < nI 0 from (by decide : lg_cmp (iL (-2)) 0 < nI 0)]
        | some y =>
          have cs := cst_s qt e
          have yb := hb k qt y e
          have n0 : ¬ lg_cmp (iL (y.1 : Int)) 0 < nI 0 := by rw [q_0, cmp_lt ⟨by omega, by omega⟩ ⟨by omega, by omega⟩]; omega
          have el : lv (some y) = (y.1 : Int) := rfl
          rcases ltF_c (w := w) hb k with ⟨z1, z2⟩ | ⟨j, u, h1, h2, h3, h4, h5⟩
          · rw [e, if_pos (by rw [el, z2]; omega)] at es
            rw [show (ltF D w (k + 1)).2.2 = nI k by rw [es], z1]
            unfold f_X10_bestAvoiding_4_b f_X10_bestAvoiding_55 f_X10_bestAvoiding_57
            simp only [to_bq, l_0, l_1, l_2, l_3, l_4, l_5, l_6, l_7, l_8, l_9, l_10, l_11, l_12, l_13, l_14, l_15, l_16, l_17, l_18, l_19, l_20, l_21, l_22, l_23, l_24, l_25, l_26, l_27, l_28, l_29, l_30, l_31, l_32, l_40, l_41, l_42, l_43, l_44, l_45, l_46, l_47, l_48, l_49, l_50, l_51, l_52, l_53, l_54, l_55, l_56, l_57, l_58, l_59, l_60, l_61, l_62, l_63, l_64, l_72, l_97, l_99, l_100, l_104, l_120, l_122, l_128, l_140, l_255, l_256, l_257, l_258, l_260, l_261, l_262, l_364, l_680, l_700, l_701, l_840, l_999, l_1023, l_1024, l_9999, l_10000, l_1000000, lm]
            simp (disch := first | (with_reducible assumption) | omega | exact ⟨by omega, by omega⟩ | ((with_reducible first | apply Wf.wI | apply Wf.wL | apply Wf.fL | apply Wf.fI | apply Wf.fr); (repeat (with_reducible first | assumption | apply Wf.wI | apply Wf.wL | apply Wf.fL | apply Wf.fI | apply Wf.fr)))) only [ck_160, gI_160, gL_160, pI_160, pZ0_160, pZ1_160, pL_160, gR_160_3, gR_160_4, gR_160_5, pR_160_6, gR_160_6, aL_161, sL_161, len_161, ck_t, gI_t, gL_t, pI_t, pZ0_t, pZ1_t, pL_t, ck_w, gI_w, gL_w, pI_w, pZ0_w, pZ1_w, pL_w, gR_t_1, gR_t_5, gR_t_7, gR_t_9, gR_t_10, gR_t_11, gR_t_12, gR_t_15, gR_w_2, gR_w_3, gR_w_4, gR_w_5, gR_w_6, gR_w_7, aR_crow, aR_srow, aR_prow, aR_rrow, aI_crow, sI_crow, len_crow, aI_srow, sI_srow, len_srow, aI_prow, sI_prow, len_prow, aI_rrow, sI_rrow, len_rrow, aI_t25, sI_t25, len_t25, aI_t31, sI_t31, len_t31, aI_t32, sI_t32, len_t32, aI_t34, sI_t34, len_t34, aI_t35, sI_t35, len_t35, aI_t36, sI_t36, len_t36, aI_t37, sI_t37, len_t37, aL_t38, sL_t38, len_t38, aL_t39, sL_t39, len_t39, bq_n, bd_s, mp_s, rz_0, rz_1, bI_rz, zadd, zmul, zsub, le_nI, lt_nI, eq_nI, neg_nI, gen_nI, neg_lt, neg_le, neg_lt', neg_le', nI_lt0, if_true, if_false, ite_true, ite_false, reduceIte, not_true, not_false, and_true, true_and, and_false, false_and, or_true, true_or, or_false, false_or, eq_self, hp, tr_S h, z_one (show nS D < 31 by omega), hfalse, show nI k &&& nI w = nI (k &&& w) from z_and _ _, qw, ck, cs, if_neg n0]
          · have ub := hb j h3 u h4
            have cj := (hk j (by omega)).1
            have csj := cst_s h3 h4
            have nj : ¬ nI j = mI 1 := fun z => by rw [neg_nI (by omega) (by omega) (by omega)] at z; exact z
            by_cases q2 : (y.1 : Int) < (u.1 : Int)
            · have n5 : ¬ nI 0 ≤ lg_cmp (iL (y.1 : Int)) (iL (u.1 : Int)) := by rw [cmp_ge ⟨by omega, by omega⟩ ⟨by omega, by omega⟩]; omega
              rw [e, if_pos (by rw [el, h5]; exact q2)] at es
              rw [show (ltF D w (k + 1)).2.2 = nI k by rw [es], h2]
              unfold f_X10_bestAvoiding_4_b f_X10_bestAvoiding_55 f_X10_bestAvoiding_57
              simp only [to_bq, l_0, l_1, l_2, l_3, l_4, l_5, l_6, l_7, l_8, l_9, l_10, l_11, l_12, l_13, l_14, l_15, l_16, l_17, l_18, l_19, l_20, l_21, l_22, l_23, l_24, l_25, l_26, l_27, l_28, l_29, l_30, l_31, l_32, l_40, l_41, l_42, l_43, l_44, l_45, l_46, l_47, l_48, l_49, l_50, l_51, l_52, l_53, l_54, l_55, l_56, l_57, l_58, l_59, l_60, l_61, l_62, l_63, l_64, l_72, l_97, l_99, l_100, l_104, l_120, l_122, l_128, l_140, l_255, l_256, l_257, l_258, l_260, l_261, l_262, l_364, l_680, l_700, l_701, l_840, l_999, l_1023, l_1024, l_9999, l_10000, l_1000000, lm]
              simp (disch := first | (with_reducible assumption) | omega | exact ⟨by omega, by omega⟩ | ((with_reducible first | apply Wf.wI | apply Wf.wL | apply Wf.fL | apply Wf.fI | apply Wf.fr); (repeat (with_reducible first | assumption | apply Wf.wI | apply Wf.wL | apply Wf.fL | apply Wf.fI | apply Wf.fr)))) only [ck_160, gI_160, gL_160, pI_160, pZ0_160, pZ1_160, pL_160, gR_160_3, gR_160_4, gR_160_5, pR_160_6, gR_160_6, aL_161, sL_161, len_161, ck_t, gI_t, gL_t, pI_t, pZ0_t, pZ1_t, pL_t, ck_w, gI_w, gL_w, pI_w, pZ0_w, pZ1_w, pL_w, gR_t_1, gR_t_5, gR_t_7, gR_t_9, gR_t_10, gR_t_11, gR_t_12, gR_t_15, gR_w_2, gR_w_3, gR_w_4, gR_w_5, gR_w_6, gR_w_7, aR_crow, aR_srow, aR_prow, aR_rrow, aI_crow, sI_crow, len_crow, aI_srow, sI_srow, len_srow, aI_prow, sI_prow, len_prow, aI_rrow, sI_rrow, len_rrow, aI_t25, sI_t25, len_t25, aI_t31, sI_t31, len_t31, aI_t32, sI_t32, len_t32, aI_t34, sI_t34, len_t34, aI_t35, sI_t35, len_t35, aI_t36, sI_t36, len_t36, aI_t37, sI_t37, len_t37, aL_t38, sL_t38, len_t38, aL_t39, sL_t39, len_t39, bq_n, bd_s, mp_s, rz_0, rz_1, bI_rz, zadd, le_nI, eq_nI, if_true, if_false, ite_true, ite_false, reduceIte, not_true, not_false, and_true, true_and, and_false, false_and, or_true, true_or, or_false, false_or, eq_self, hp, tr_S h, z_one (show nS D < 31 by omega), hfalse, show nI k &&& nI w = nI (k &&& w) from z_and _ _, qw, ck, cs, if_neg n0, if_neg nj, cj, csj, if_neg n5]
            · have n5 : nI 0 ≤ lg_cmp (iL (y.1 : Int)) (iL (u.1 : Int)) := by rw [cmp_ge ⟨by omega, by omega⟩ ⟨by omega, by omega⟩]; omega
              rw [e, if_neg (by rw [el, h5]; exact q2)] at es
              rw [show (ltF D w (k + 1)).2.2 = (ltF D w k).2.2 by rw [es], h2]
              unfold f_X10_bestAvoiding_4_b f_X10_bestAvoiding_55 f_X10_bestAvoiding_57
              simp only [to_bq, l_0, l_1, l_2, l_3, l_4, l_5, l_6, l_7, l_8, l_9, l_10, l_11, l_12, l_13, l_14, l_15, l_16, l_17, l_18, l_19, l_20, l_21, l_22, l_23, l_24, l_25, l_26, l_27, l_28, l_29, l_30, l_31, l_32, l_40, l_41, l_42, l_43, l_44, l_45, l_46, l_47, l_48, l_49, l_50, l_51, l_52, l_53, l_54, l_55, l_56, l_57, l_58, l_59, l_60, l_61, l_62, l_63, l_64, l_72, l_97, l_99, l_100, l_104, l_120, l_122, l_128, l_140, l_255, l_256, l_257, l_258, l_260, l_261, l_262, l_364, l_680, l_700, l_701, l_840, l_999, l_1023, l_1024, l_9999, l_10000, l_1000000, lm]
              simp (disch := first | (with_reducible assumption) | omega | exact ⟨by omega, by omega⟩ | ((with_reducible first | apply Wf.wI | apply Wf.wL | apply Wf.fL | apply Wf.fI | apply Wf.fr); (repeat (with_reducible first | assumption | apply Wf.wI | apply Wf.wL | apply Wf.fL | apply Wf.fI | apply Wf.fr)))) only [ck_160, gI_160, gL_160, pI_160, pZ0_160, pZ1_160, pL_160, gR_160_3, gR_160_4, gR_160_5, pR_160_6, gR_160_6, aL_161, sL_161, len_161, ck_t, gI_t, gL_t, pI_t, pZ0_t, pZ1_t, pL_t, ck_w, gI_w, gL_w, pI_w, pZ0_w, pZ1_w, pL_w, gR_t_1, gR_t_5, gR_t_7, gR_t_9, gR_t_10, gR_t_11, gR_t_12, gR_t_15, gR_w_2, gR_w_3, gR_w_4, gR_w_5, gR_w_6, gR_w_7, aR_crow, aR_srow, aR_prow, aR_rrow, aI_crow, sI_crow, len_crow, aI_srow, sI_srow, len_srow, aI_prow, sI_prow, len_prow, aI_rrow, sI_rrow, len_rrow, aI_t25, sI_t25, len_t25, aI_t31, sI_t31, len_t31, aI_t32, sI_t32, len_t32, aI_t34, sI_t34, len_t34, aI_t35, sI_t35, len_t35, aI_t36, sI_t36, len_t36, aI_t37, sI_t37, len_t37, aL_t38, sL_t38, len_t38, aL_t39, sL_t39, len_t39, bq_n, bd_s, mp_s, rz_0, rz_1, bI_rz, zadd, le_nI, eq_nI, if_true, if_false, ite_true, ite_false, reduceIte, not_true, not_false, and_true, true_and, and_false, false_and, or_true, true_or, or_false, false_or, eq_self, hp, tr_S h, z_one (show nS D < 31 by omega), hfalse, show nI k &&& nI w = nI (k &&& w) from z_and _ _, qw, ck, cs, if_neg n0, if_neg nj, cj, csj, if_pos n5]
      · rw [cif_f (fun z => qt z.2)] at es
        have cs : cst D k = iL (-1) := by unfold cst; rw [cif_f qt]
        rw [show (ltF D w (k + 1)).2.2 = (ltF D w k).2.2 by rw [es]]
        unfold f_X10_bestAvoiding_4_b f_X10_bestAvoiding_57
        simp only [to_bq, l_0, l_1, l_2, l_3, l_4, l_5, l_6, l_7, l_8, l_9, l_10, l_11, l_12, l_13, l_14, l_15, l_16, l_17, l_18, l_19, l_20, l_21, l_22, l_23, l_24, l_25, l_26, l_27, l_28, l_29, l_30, l_31, l_32, l_40, l_41, l_42, l_43, l_44, l_45, l_46, l_47, l_48, l_49, l_50, l_51, l_52, l_53, l_54, l_55, l_56, l_57, l_58, l_59, l_60, l_61, l_62, l_63, l_64, l_72, l_97, l_99, l_100, l_104, l_120, l_122, l_128, l_140, l_255, l_256, l_257, l_258, l_260, l_261, l_262, l_364, l_680, l_700, l_701, l_840, l_999, l_1023, l_1024, l_9999, l_10000, l_1000000, lm]
        simp (disch := first | (with_reducible assumption) | omega | exact ⟨by omega, by omega⟩ | ((with_reducible first | apply Wf.wI | apply Wf.wL | apply Wf.fL | apply Wf.fI | apply Wf.fr); (repeat (with_reducible first | assumption | apply Wf.wI | apply Wf.wL | apply Wf.fL | apply Wf.fI | apply Wf.fr)))) only [ck_160, gI_160, gL_160, pI_160, pZ0_160, pZ1_160, pL_160, gR_160_3, gR_160_4, gR_160_5, pR_160_6, gR_160_6, aL_161, sL_161, len_161, ck_t, gI_t, gL_t, pI_t, pZ0_t, pZ1_t, pL_t, ck_w, gI_w, gL_w, pI_w, pZ0_w, pZ1_w, pL_w, gR_t_1, gR_t_5, gR_t_7, gR_t_9, gR_t_10, gR_t_11, gR_t_12, gR_t_15, gR_w_2, gR_w_3, gR_w_4, gR_w_5, gR_w_6, gR_w_7, aR_crow, aR_srow, aR_prow, aR_rrow, aI_crow, sI_crow, len_crow, aI_srow, sI_srow, len_srow, aI_prow, sI_prow, len_prow, aI_rrow, sI_rrow, len_rrow, aI_t25, sI_t25, len_t25, aI_t31, sI_t31, len_t31, aI_t32, sI_t32, len_t32, aI_t34, sI_t34, len_t34, aI_t35, sI_t35, len_t35, aI_t36, sI_t36, len_t36, aI_t37, sI_t37, len_t37, aL_t38, sL_t38, len_t38, aL_t39, sL_t39, len_t39, bq_n, bd_s, mp_s, rz_0, rz_1, bI_rz, zadd, zmul, zsub, le_nI, lt_nI, eq_nI, neg_nI, gen_nI, neg_lt, neg_le, neg_lt', neg_le', nI_lt0, if_true, if_false, ite_true, ite_false, reduceIte, not_true, not_false, and_true, true_and, and_false, false_and, or_true, true_or, or_false, false_or, eq_self, hp, tr_S h, z_one (show nS D < 31 by omega), hfalse, show nI k &&& nI w = nI (k &&& w) from z_and _ _, qw, ck, cs, show lg_cmp (iL (-1)) 0 < nI 0 from (by decide : lg_cmp (iL (-1)) 0 < nI 0)]
    · rw [cif_f (fun z => qw z.1)] at es
      rw [show (ltF D w (k + 1)).2.2 = (ltF D w k).2.2 by rw [es]]
      unfold f_X10_bestAvoiding_4_b f_X10_bestAvoiding_57
      simp only [to_bq, l_0, l_1, l_2, l_3, l_4, l_5, l_6, l_7, l_8, l_9, l_10, l_11, l_12, l_13, l_14, l_15, l_16, l_17, l_18, l_19, l_20, l_21, l_22, l_23, l_24, l_25, l_26, l_27, l_28, l_29, l_30, l_31, l_32, l_40, l_41, l_42, l_43, l_44, l_45, l_46, l_47, l_48, l_49, l_50, l_51, l_52, l_53, l_54, l_55, l_56, l_57, l_58, l_59, l_60, l_61, l_62, l_63, l_64, l_72, l_97, l_99, l_100, l_104, l_120, l_122, l_128, l_140, l_255, l_256, l_257, l_258, l_260, l_261, l_262, l_364, l_680, l_700, l_701, l_840, l_999, l_1023, l_1024, l_9999, l_10000, l_1000000, lm]
      simp (disch := first | (with_reducible assumption) | omega | exact ⟨by omega, by omega⟩ | ((with_reducible first | apply Wf.wI | apply Wf.wL | apply Wf.fL | apply Wf.fI | apply Wf.fr); (repeat (with_reducible first | assumption | apply Wf.wI | apply Wf.wL | apply Wf.fL | apply Wf.fI | apply Wf.fr)))) only [ck_160, gI_160, gL_160, pI_160, pZ0_160, pZ1_160, pL_160, gR_160_3, gR_160_4, gR_160_5, pR_160_6, gR_160_6, aL_161, sL_161, len_161, ck_t, gI_t, gL_t, pI_t, pZ0_t, pZ1_t, pL_t, ck_w, gI_w, gL_w, pI_w, pZ0_w, pZ1_w, pL_w, gR_t_1, gR_t_5, gR_t_7, gR_t_9, gR_t_10, gR_t_11, gR_t_12, gR_t_15, gR_w_2, gR_w_3, gR_w_4, gR_w_5, gR_w_6, gR_w_7, aR_crow, aR_srow, aR_prow, aR_rrow, aI_crow, sI_crow, len_crow, aI_srow, sI_srow, len_srow, aI_prow, sI_prow, len_prow, aI_rrow, sI_rrow, len_rrow, aI_t25, sI_t25, len_t25, aI_t31, sI_t31, len_t31, aI_t32, sI_t32, len_t32, aI_t34, sI_t34, len_t34, aI_t35, sI_t35, len_t35, aI_t36, sI_t36, len_t36, aI_t37, sI_t37, len_t37, aL_t38, sL_t38, len_t38, aL_t39, sL_t39, len_t39, bq_n, bd_s, mp_s, rz_0, rz_1, bI_rz, zadd, zmul, zsub, le_nI, lt_nI, eq_nI, neg_nI, gen_nI, neg_lt, neg_le, neg_lt', neg_le', nI_lt0, if_true, if_false, ite_true, ite_false, reduceIte, not_true, not_false, and_true, true_and, and_false, false_and, or_true, true_or, or_false, false_or, eq_self, hp, tr_S h, z_one (show nS D < 31 by omega), hfalse, show nI k &&& nI w = nI (k &&& w) from z_and _ _, qw]
theorem c_best (h : TR σ t D) (hp : ah_R σ 160 6 = some t) (hb : CB D) (hw : w < 2147483648) (hk : ∀ m, m < 2 ^ nS D → CkR σ D m) : f_X10_bestAvoiding 160 (nI w) σ = some ((ltF D w (2 ^ nS D)).2.2, σ) := by
  have h2 := p2S h.t
  have e := c_ba4 h hp hb hw hk (2 ^ nS D) 0 5000 (by omega) (by omega)
  unfold f_X10_bestAvoiding f_X10_bestAvoiding_0
  rw [ck_160 h.w]
  exact e
/-- what the least of some costs -/
noncomputable def lsA (D : DD) (w : Nat) : Int64 := if (ltF D w (2 ^ nS D)).1 < 4000000000000000000 then iL (ltF D w (2 ^ nS D)).1 else iL (-2)
theorem lsA_c (hb : CB D) : (ltF D w (2 ^ nS D)).2.2 = mI 1 ∧ lsA D w = iL (-2) ∨ ∃ i, i < 2 ^ nS D ∧ (ltF D w (2 ^ nS D)).2.2 = nI i ∧ lsA D w = cst D i := by
  unfold lsA
  rcases ltF_c (w := w) hb (2 ^ nS D) with ⟨z1, z2⟩ | ⟨j, u, h1, h2, h3, h4, h5⟩
  · exact Or.inl ⟨z1, by rw [if_neg (by omega)]⟩
  · have := hb j h3 u h4
    exact Or.inr ⟨j, h1, h2, by rw [if_pos (by omega), h5, cst_s h3 h4]⟩
theorem c_leastAvoiding (h : TR σ t D) (hp : ah_R σ 160 6 = some t) (hb : CB D) (hw : w < 2147483648) (hk : ∀ m, m < 2 ^ nS D → CkR σ D m) : f_X10_leastAvoiding 160 (nI w) σ = some (lsA D w, σ) := by
  have hW := h.w
  have h2 := p2S h.t
  have e := c_best h hp hb hw hk
  unfold f_X10_leastAvoiding f_X10_leastAvoiding_0
  simp only [to_bq, l_0, l_1, l_2, l_3, l_4, l_5, l_6, l_7, l_8, l_9, l_10, l_11, l_12, l_13, l_14, l_15, l_16, l_17, l_18, l_19, l_20, l_21, l_22, l_23, l_24, l_25, l_26, l_27, l_28, l_29, l_30, l_31, l_32, l_40, l_41, l_42, l_43, l_44, l_45, l_46, l_47, l_48, l_49, l_50, l_51, l_52, l_53, l_54, l_55, l_56, l_57, l_58, l_59, l_60, l_61, l_62, l_63, l_64, l_72, l_97, l_99, l_100, l_104, l_120, l_122, l_128, l_140, l_255, l_256, l_257, l_258, l_260, l_261, l_262, l_364, l_680, l_700, l_701, l_840, l_999, l_1023, l_1024, l_9999, l_10000, l_1000000, lm]
  rw [ck_160 hW, e, bq_n]
  rcases lsA_c (w := w) hb with ⟨z1, z2⟩ | ⟨i, h1, h3, h4⟩
  · rw [z1, z2]; rfl
  · have nj : ¬ nI i = mI 1 := fun z => by rw [neg_nI (by omega) (by omega) (by omega)] at z; exact z
    rw [h3, h4]
    show (if nI i = mI 1 then _ else _) = _
    rw [if_neg nj]
    simp (disch := first | (with_reducible assumption) | omega | exact ⟨by omega, by omega⟩ | ((with_reducible first | apply Wf.wI | apply Wf.wL | apply Wf.fL | apply Wf.fI | apply Wf.fr); (repeat (with_reducible first | assumption | apply Wf.wI | apply Wf.wL | apply Wf.fL | apply Wf.fI | apply Wf.fr)))) only [ck_160, gI_160, gL_160, pI_160, pZ0_160, pZ1_160, pL_160, gR_160_3, gR_160_4, gR_160_5, pR_160_6, gR_160_6, aL_161, sL_161, len_161, bq_n, bd_s, mp_s, rz_0, rz_1, bI_rz, (hk i h1).1]
end
