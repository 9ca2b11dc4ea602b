/-! THE REFERENCE: the least of all trees -/
/-- of the sets below k without some streets: the least cost, how many trees, and the first of the least -/
noncomputable def ltF (D : DD) (w : Nat) : Nat → Int × Nat × Int32
  | 0 => (4000000000000000000, 0, mI 1)
  | k + 1 => cif (k &&& w = 0 ∧ TrQ D k) (if lv (cpv D k) < (ltF D w k).1 then (lv (cpv D k), (ltF D w k).2.1 + 1, nI k) else ((ltF D w k).1, (ltF D w k).2.1 + 1, (ltF D w k).2.2)) (ltF D w k)
section
variable {σ : ah_H} {D : DD} {w : Nat}
theorem ltF_b (h : MInv σ D) : ∀ k, 0 ≤ (ltF D w k).1 ∧ (ltF D w k).1 ≤ 4000000000000000000 ∧ (ltF D w k).2.1 ≤ k ∧ ((ltF D w k).2.2 = mI 1 ∨ ∃ i, i < k ∧ (ltF D w k).2.2 = nI i) := by
  intro k
  induction k with
  | zero => exact ⟨(by decide : (0 : Int) ≤ 4000000000000000000), Int.le_refl _, Nat.le_refl _, Or.inl rfl⟩
  | succ k ih =>
    obtain ⟨h1, h2, h3, h4⟩ := ih
    have h4' : (ltF D w k).2.2 = mI 1 ∨ ∃ i, i < k + 1 ∧ (ltF D w k).2.2 = nI i := h4.imp (fun z => z) (fun ⟨i, z1, z2⟩ => ⟨i, by omega, z2⟩)
    unfold ltF
    by_cases q : k &&& w = 0 ∧ TrQ D k
    · rw [cif_t q]
      have lb := lv_b (cpv_b h q.2) (by decide)
      by_cases q2 : lv (cpv D k) < (ltF D w k).1
      · rw [if_pos q2]; exact ⟨lb.1, lb.2, by show _ + 1 ≤ _; omega, Or.inr ⟨k, by omega, rfl⟩⟩
      · rw [if_neg q2]; exact ⟨h1, h2, by show _ + 1 ≤ _; omega, h4'⟩
    · rw [cif_f q]; exact ⟨h1, h2, by omega, h4'⟩
def LtS (σ τ : ah_H) (D : DD) (w k : Nat) : Prop := Fr Xq σ τ ∧ ah_I τ 225 64 = nI (ltF D w k).2.1 ∧ ah_I τ 225 65 = (ltF D w k).2.2
theorem m_lt17 (h0 : MInv σ D) (hw : w < 2147483648) : ∀ i k fu τ, k + i = 2 ^ nS D → i < fu → LtS σ τ D w k → ∃ τ', f_X12_leastTree_17 fu 225 (nI w) (iL (ltF D w k).1) (nI k) τ = some (iL (ltF D w (2 ^ nS D)).1, τ') ∧ LtS σ τ' D w (2 ^ nS D) := by
  have hb := h0.bd
  have h2 := p2S h0.t
  intro i
  induction i with
  | zero =>
    intro k fu τ hk hf g
    obtain ⟨fu, rfl⟩ : ∃ q, fu = q + 1 := ⟨fu - 1, by omega⟩
    have h := h0.q g.1
    have hW := h.w
    refine ⟨τ, ?_, by rw [← show k = 2 ^ nS D by omega]; exact g⟩
    show f_X12_leastTree_17_b _ _ _ _ _ _ = _
    unfold f_X12_leastTree_17_b
    simp only [to_bq, l_0, l_1, l_2, l_3, l_4, l_5, l_6, l_7, l_8, l_9, l_10, l_11, l_12, l_13, l_14, l_15, l_16, l_17, l_18, l_19, l_20, l_21, l_22, l_23, l_24, l_25, l_26, l_27, l_28, l_29, l_30, l_31, l_32, l_40, l_41, l_42, l_43, l_44, l_45, l_46, l_47, l_48, l_49, l_50, l_51, l_52, l_53, l_54, l_55, l_56, l_57, l_58, l_59, l_60, l_61, l_62, l_63, l_64, l_72, l_97, l_99, l_100, l_104, l_120, l_122, l_128, l_140, l_255, l_256, l_257, l_258, l_260, l_261, l_262, l_364, l_680, l_700, l_701, l_840, l_999, l_1023, l_1024, l_9999, l_10000, l_1000000, lm]
    simp (disch := first | (with_reducible assumption) | omega | exact ⟨by omega, by omega⟩ | ((with_reducible first | apply Wf.wI | apply Wf.wL | apply Wf.fL | apply Wf.fI | apply Wf.fr); (repeat (with_reducible first | assumption | apply Wf.wI | apply Wf.wL | apply Wf.fL | apply Wf.fI | apply Wf.fr)))) only [ck_225, gI_225, gL_225, pI_225, pZ0_225, pZ1_225, pL_225, gR_225_1, gR_225_3, gR_225_4, gR_225_5, gR_225_6, gR_225_7, gR_225_8, gR_225_9, gR_225_10, gR_225_11, gR_225_12, gR_225_13, gR_225_14, gR_225_15, gR_225_16, gR_225_17, gR_225_18, gR_225_19, gR_225_20, gR_225_21, gR_225_35, gR_225_36, gR_225_38, gR_225_39, gR_225_40, gR_225_41, gR_225_43, gR_225_44, gR_225_45, gR_225_48, gR_225_49, gR_225_50, gR_225_51, gR_225_53, gR_225_54, gR_225_55, gR_225_56, gR_225_58, gR_225_59, gR_225_60, gR_225_61, gR_225_62, gR_225_63, gR_225_66, gR_225_67, bq_n, bd_s, mp_s, rz_0, rz_1, bI_rz, zadd, zmul, zsub, le_nI, lt_nI, eq_nI, neg_nI, gen_nI, neg_lt, neg_le, neg_lt', neg_le', nI_lt0, if_true, if_false, ite_true, ite_false, reduceIte, not_true, not_false, and_true, true_and, and_false, false_and, or_true, true_or, or_false, false_or, eq_self, aI_227, rd_S h, z_one (show nS D < 31 by omega)]
    rw [if_pos (by omega), show k = 2 ^ nS D by omega]
  | succ i ih =>
    intro k fu τ hk hf g
    obtain ⟨fu, rfl⟩ : ∃ q, fu = q + 1 := ⟨fu - 1, by omega⟩
    have h := h0.q g.1
    have hW := h.w
    have hkl : k < 2 ^ nS D := by omega
    obtain ⟨b1, b2, b3, b4⟩ := ltF_b (w := w) h0 k
    show ∃ τ', f_X12_leastTree_17_b (f_X12_leastTree_17 fu) 225 (nI w) (iL (ltF D w k).1) (nI k) τ = _ ∧ _
    have es : ltF D w (k + 1) = cif (k &&& w = 0 ∧ TrQ D k) (if lv (cpv D k) < (ltF D w k).1 then (lv (cpv D k), (ltF D w k).2.1 + 1, nI k) else ((ltF D w k).1, (ltF D w k).2.1 + 1, (ltF D w k).2.2)) (ltF D w k) := rfl
    have hkw : k &&& w < 2147483648 := Nat.lt_of_le_of_lt Nat.and_le_left (by omega)
    by_cases qw : k &&& w = 0
    · obtain ⟨τ1, e1, e2⟩ := m_isTree_n h hkl
      have h1 := h.q (e2.mono Xjf_q)
      have hW1 := h1.w
      have n64 : ah_I τ1 225 64 = nI (ltF D w k).2.1 := by rw [e2.I (by unfold Xjf; omega)]; exact g.2.1
      have n65 : ah_I τ1 225 65 = (ltF D w k).2.2 := by rw [e2.I (by unfold Xjf; omega)]; exact g.2.2
      by_cases qt : TrQ D k
      · have f5 : Fr Xq τ1 (ah_wI τ1 225 64 (nI ((ltF D w k).2.1 + 1))) := Fr.q0 (by omega)
        obtain ⟨τ2, g1, g2, -⟩ := m_cheapestOf (h1.q f5) qt
        have h3 := (h1.q f5).q (g2.mono (fun a j z => z.1))
        have hW3 := h3.w
        have cb := cpv_b h0 qt
        have lb := lv_b cb (by decide)
        have m64 : ah_I τ2 225 64 = nI ((ltF D w k).2.1 + 1) := by rw [g2.I (by unfold Xcq; omega), rI_eq]
        have m65 : ah_I τ2 225 65 = (ltF D w k).2.2 := by rw [g2.I (by unfold Xcq; omega), rI_ne (by omega)]; exact n65
        have fr2 : Fr Xq σ τ2 := (((g.1).trans (e2.mono Xjf_q)).trans f5).trans (g2.mono (fun a j z => z.1))
        rw [cif_t ⟨qw, qt⟩] at es
        by_cases q2 : lv (cpv D k) < (ltF D w k).1
        · rw [if_pos q2] at es
          have he : f_X12_leastTree_17_b (f_X12_leastTree_17 fu) 225 (nI w) (iL (ltF D w k).1) (nI k) τ = f_X12_leastTree_17 fu 225 (nI w) (iL (ltF D w (k + 1)).1) (nI (k + 1)) (ah_wI τ2 225 65 (nI k)) := by
            unfold f_X12_leastTree_17_b f_X12_leastTree_86
            simp only [to_bq, l_0, l_1, l_2, l_3, l_4, l_5, l_6, l_7, l_8, l_9, l_10, l_11, l_12, l_13, l_14, l_15, l_16, l_17, l_18, l_19, l_20, l_21, l_22, l_23, l_24, l_25, l_26, l_27, l_28, l_29, l_30, l_31, l_32, l_40, l_41, l_42, l_43, l_44, l_45, l_46, l_47, l_48, l_49, l_50, l_51, l_52, l_53, l_54, l_55, l_56, l_57, l_58, l_59, l_60, l_61, l_62, l_63, l_64, l_72, l_97, l_99, l_100, l_104, l_120, l_122, l_128, l_140, l_255, l_256, l_257, l_258, l_260, l_261, l_262, l_364, l_680, l_700, l_701, l_840, l_999, l_1023, l_1024, l_9999, l_10000, l_1000000, lm]
            simp (disch := first | (with_reducible assumption) | omega | exact ⟨by omega, by omega⟩ | ((with_reducible first | apply Wf.wI | apply Wf.wL | apply Wf.fL | apply Wf.fI | apply Wf.fr); (repeat (with_reducible first | assumption | apply Wf.wI | apply Wf.wL | apply Wf.fL | apply Wf.fI | apply Wf.fr)))) only [ck_225, gI_225, gL_225, pI_225, pZ0_225, pZ1_225, pL_225, gR_225_1, gR_225_3, gR_225_4, gR_225_5, gR_225_6, gR_225_7, gR_225_8, gR_225_9, gR_225_10, gR_225_11, gR_225_12, gR_225_13, gR_225_14, gR_225_15, gR_225_16, gR_225_17, gR_225_18, gR_225_19, gR_225_20, gR_225_21, gR_225_35, gR_225_36, gR_225_38, gR_225_39, gR_225_40, gR_225_41, gR_225_43, gR_225_44, gR_225_45, gR_225_48, gR_225_49, gR_225_50, gR_225_51, gR_225_53, gR_225_54, gR_225_55, gR_225_56, gR_225_58, gR_225_59, gR_225_60, gR_225_61, gR_225_62, gR_225_63, gR_225_66, gR_225_67, bq_n, bd_s, mp_s, rz_0, rz_1, bI_rz, zadd, zmul, zsub, le_nI, lt_nI, eq_nI, neg_nI, gen_nI, neg_lt, neg_le, neg_lt', neg_le', nI_lt0, if_true, if_false, ite_true, ite_false, reduceIte, not_true, not_false, and_true, true_and, and_false, false_and, or_true, true_or, or_false, false_or, eq_self, aI_227, rd_S h, z_one (show nS D < 31 by omega), show (2 ^ nS D ≤ k) = False from eq_false (by omega), show nI k &&& nI w = nI (k &&& w) from z_and _ _, qw, e1, cI_t qt, Nat.reduceEqDiff, Nat.reduceAdd, Nat.reduceMul, Nat.reduceSub, Nat.reduceLT, Nat.reduceLeDiff, Nat.add_sub_cancel, Nat.zero_add, Nat.add_zero, Nat.mul_zero, Nat.zero_mul, n64, g1, cmp_lt, q2, es]
          rw [he]
          refine ih (k + 1) fu _ (by omega) (by omega) ⟨fr2.trans (Fr.q0 (by omega)), ?_, ?_⟩
          · rw [rI_ne (by omega), m64, es]
          · rw [rI_eq, es]
        · rw [if_neg q2] at es
          have he : f_X12_leastTree_17_b (f_X12_leastTree_17 fu) 225 (nI w) (iL (ltF D w k).1) (nI k) τ = f_X12_leastTree_17 fu 225 (nI w) (iL (ltF D w (k + 1)).1) (nI (k + 1)) τ2 := by
            unfold f_X12_leastTree_17_b f_X12_leastTree_86
            simp only [to_bq, l_0, l_1, l_2, l_3, l_4, l_5, l_6, l_7, l_8, l_9, l_10, l_11, l_12, l_13, l_14, l_15, l_16, l_17, l_18, l_19, l_20, l_21, l_22, l_23, l_24, l_25, l_26, l_27, l_28, l_29, l_30, l_31, l_32, l_40, l_41, l_42, l_43, l_44, l_45, l_46, l_47, l_48, l_49, l_50, l_51, l_52, l_53, l_54, l_55, l_56, l_57, l_58, l_59, l_60, l_61, l_62, l_63, l_64, l_72, l_97, l_99, l_100, l_104, l_120, l_122, l_128, l_140, l_255, l_256, l_257, l_258, l_260, l_261, l_262, l_364, l_680, l_700, l_701, l_840, l_999, l_1023, l_1024, l_9999, l_10000, l_1000000, lm]
            simp (disch := first | (with_reducible assumption) | omega | exact ⟨by omega, by omega⟩ | ((with_reducible first | apply Wf.wI | apply Wf.wL | apply Wf.fL | apply Wf.fI | apply Wf.fr); (repeat (with_reducible first | assumption | apply Wf.wI | apply Wf.wL | apply Wf.fL | apply Wf.fI | apply Wf.fr)))) only [ck_225, gI_225, gL_225, pI_225, pZ0_225, pZ1_225, pL_225, gR_225_1, gR_225_3, gR_225_4, gR_225_5, gR_225_6, gR_225_7, gR_225_8, gR_225_9, gR_225_10, gR_225_11, gR_225_12, gR_225_13, gR_225_14, gR_225_15, gR_225_16, gR_225_17, gR_225_18, gR_225_19, gR_225_20, gR_225_21, gR_225_35, gR_225_36, gR_225_38, gR_225_39, gR_225_40, gR_225_41, gR_225_43, gR_225_44, gR_225_45, gR_225_48, gR_225_49, gR_225_50, gR_225_51, gR_225_53, gR_225_54, gR_225_55, gR_225_56, gR_225_58, gR_225_59, gR_225_60, gR_225_61, gR_225_62, gR_225_63, gR_225_66, gR_225_67, bq_n, bd_s, mp_s, rz_0, rz_1, bI_rz, zadd, zmul, zsub, le_nI, lt_nI, eq_nI, neg_nI, gen_nI, neg_lt, neg_le, neg_lt', neg_le', nI_lt0, if_true, if_false, ite_true, ite_false, reduceIte, not_true, not_false, and_true, true_and, and_false, false_and, or_true, true_or, or_false, false_or, eq_self, aI_227, rd_S h, z_one (show nS D < 31 by omega), show (2 ^ nS D ≤ k) = False from eq_false (by omega), show nI k &&& nI w = nI (k &&& w) from z_and _ _, qw, e1, cI_t qt, Nat.reduceEqDiff, Nat.reduceAdd, Nat.reduceMul, Nat.reduceSub, Nat.reduceLT, Nat.reduceLeDiff, Nat.add_sub_cancel, Nat.zero_add, Nat.add_zero, Nat.mul_zero, Nat.zero_mul, n64, g1, cmp_lt, q2, es]
          rw [he]
          refine ih (k + 1) fu _ (by omega) (by omega) ⟨fr2, ?_, ?_⟩
          · rw [m64, es]
          · rw [m65, es]
      · rw [cif_f (fun z => qt z.2)] at es
        have he : f_X12_leastTree_17_b (f_X12_leastTree_17 fu) 225 (nI w) (iL (ltF D w k).1) (nI k) τ = f_X12_leastTree_17 fu 225 (nI w) (iL (ltF D w (k + 1)).1) (nI (k + 1)) τ1 := by
          unfold f_X12_leastTree_17_b f_X12_leastTree_86
          simp only [to_bq, l_0, l_1, l_2, l_3, l_4, l_5, l_6, l_7, l_8, l_9, l_10, l_11, l_12, l_13, l_14, l_15, l_16, l_17, l_18, l_19, l_20, l_21, l_22, l_23, l_24, l_25, l_26, l_27, l_28, l_29, l_30, l_31, l_32, l_40, l_41, l_42, l_43, l_44, l_45, l_46, l_47, l_48, l_49, l_50, l_51, l_52, l_53, l_54, l_55, l_56, l_57, l_58, l_59, l_60, l_61, l_62, l_63, l_64, l_72, l_97, l_99, l_100, l_104, l_120, l_122, l_128, l_140, l_255, l_256, l_257, l_258, l_260, l_261, l_262, l_364, l_680, l_700, l_701, l_840, l_999, l_1023, l_1024, l_9999, l_10000, l_1000000, lm]
          simp (disch := first | (with_reducible assumption) | omega | exact ⟨by omega, by omega⟩ | ((with_reducible first | apply Wf.wI | apply Wf.wL | apply Wf.fL | apply Wf.fI | apply Wf.fr); (repeat (with_reducible first | assumption | apply Wf.wI | apply Wf.wL | apply Wf.fL | apply Wf.fI | apply Wf.fr)))) only [ck_225, gI_225, gL_225, pI_225, pZ0_225, pZ1_225, pL_225, gR_225_1, gR_225_3, gR_225_4, gR_225_5, gR_225_6, gR_225_7, gR_225_8, gR_225_9, gR_225_10, gR_225_11, gR_225_12, gR_225_13, gR_225_14, gR_225_15, gR_225_16, gR_225_17, gR_225_18, gR_225_19, gR_225_20, gR_225_21, gR_225_35, gR_225_36, gR_225_38, gR_225_39, gR_225_40, gR_225_41, gR_225_43, gR_225_44, gR_225_45, gR_225_48, gR_225_49, gR_225_50, gR_225_51, gR_225_53, gR_225_54, gR_225_55, gR_225_56, gR_225_58, gR_225_59, gR_225_60, gR_225_61, gR_225_62, gR_225_63, gR_225_66, gR_225_67, bq_n, bd_s, mp_s, rz_0, rz_1, bI_rz, zadd, zmul, zsub, le_nI, lt_nI, eq_nI, neg_nI, gen_nI, neg_lt, neg_le, neg_lt', neg_le', nI_lt0, if_true, if_false, ite_true, ite_false, reduceIte, not_true, not_false, and_true, true_and, and_false, false_and, or_true, true_or, or_false, false_or, eq_self, aI_227, rd_S h, z_one (show nS D < 31 by omega), show (2 ^ nS D ≤ k) = False from eq_false (by omega), show nI k &&& nI w = nI (k &&& w) from z_and _ _, qw, e1, cI_f qt, Nat.reduceEqDiff, Nat.reduceAdd, Nat.reduceMul, Nat.reduceSub, Nat.reduceLT, Nat.reduceLeDiff, Nat.add_sub_cancel, Nat.zero_add, Nat.add_zero, Nat.mul_zero, Nat.zero_mul, es]
        rw [he]
        refine ih (k + 1) fu _ (by omega) (by omega) ⟨(g.1).trans (e2.mono Xjf_q), ?_, ?_⟩
        · rw [n64, es]
        · rw [n65, es]
    · rw [cif_f (fun z => qw z.1)] at es
      have he : f_X12_leastTree_17_b (f_X12_leastTree_17 fu) 225 (nI w) (iL (ltF D w k).1) (nI k) τ = f_X12_leastTree_17 fu 225 (nI w) (iL (ltF D w (k + 1)).1) (nI (k + 1)) τ := by
        unfold f_X12_leastTree_17_b f_X12_leastTree_86
        simp only [to_bq, l_0, l_1, l_2, l_3, l_4, l_5, l_6, l_7, l_8, l_9, l_10, l_11, l_12, l_13, l_14, l_15, l_16, l_17, l_18, l_19, l_20, l_21, l_22, l_23, l_24, l_25, l_26, l_27, l_28, l_29, l_30, l_31, l_32, l_40, l_41, l_42, l_43, l_44, l_45, l_46, l_47, l_48, l_49, l_50, l_51, l_52, l_53, l_54, l_55, l_56, l_57, l_58, l_59, l_60, l_61, l_62, l_63, l_64, l_72, l_97, l_99, l_100, l_104, l_120, l_122, l_128, l_140, l_255, l_256, l_257, l_258, l_260, l_261, l_262, l_364, l_680, l_700, l_701, l_840, l_999, l_1023, l_1024, l_9999, l_10000, l_1000000, lm]
        simp (disch := first | (with_reducible assumption) | omega | exact ⟨by omega, by omega⟩ | ((with_reducible first | apply Wf.wI | apply Wf.wL | apply Wf.fL | apply Wf.fI | apply Wf.fr); (repeat (with_reducible first | assumption | apply Wf.wI | apply Wf.wL | apply Wf.fL | apply Wf.fI | apply Wf.fr)))) only [ck_225, gI_225, gL_225, pI_225, pZ0_225, pZ1_225, pL_225, gR_225_1, gR_225_3, gR_225_4, gR_225_5, gR_225_6, gR_225_7, gR_225_8, gR_225_9, gR_225_10, gR_225_11, gR_225_12, gR_225_13, gR_225_14, gR_225_15, gR_225_16, gR_225_17, gR_225_18, gR_225_19, gR_225_20, gR_225_21, gR_225_35, gR_225_36, gR_225_38, gR_225_39, gR_225_40, gR_225_41, gR_225_43, gR_225_44, gR_225_45, gR_225_48, gR_225_49, gR_225_50, gR_225_51, gR_225_53, gR_225_54, gR_225_55, gR_225_56, gR_225_58, gR_225_59, gR_225_60, gR_225_61, gR_225_62, gR_225_63, gR_225_66, gR_225_67, bq_n, bd_s, mp_s, rz_0, rz_1, bI_rz, zadd, zmul, zsub, le_nI, lt_nI, eq_nI, neg_nI, gen_nI, neg_lt, neg_le, neg_lt', neg_le', nI_lt0, if_true, if_false, ite_true, ite_false, reduceIte, not_true, not_false, and_true, true_and, and_false, false_and, or_true, true_or, or_false, false_or, eq_self, aI_227, rd_S h, z_one (show nS D < 31 by omega), show (2 ^ nS D ≤ k) = False from eq_false (by omega), show nI k &&& nI w = nI (k &&& w) from z_and _ _, qw, es]
      rw [he]
      refine ih (k + 1) fu _ (by omega) (by omega) ⟨g.1, ?_, ?_⟩
      · rw [es]; exact g.2.1
      · rw [es]; exact g.2.2
theorem m_leastTree (h : MInv σ D) (hw : w < 2147483648) : ∃ τ, f_X12_leastTree 225 (nI w) σ = some (iL (ltF D w (2 ^ nS D)).1, τ) ∧ LtS σ τ D w (2 ^ nS D) := by
  have hW := h.w
  have h2 := p2S h.t
  obtain ⟨τ, e1, e2⟩ := m_lt17 h hw (2 ^ nS D) 0 5000 (ah_wI (ah_wI σ 225 64 (nI 0)) 225 65 (mI 1)) (by omega) (by omega) ⟨(Fr.q0 (by omega)).trans (Fr.q0 (by omega)), by rw [rI_ne (by omega), rI_eq]; rfl, by rw [rI_eq]; rfl⟩
  refine ⟨τ, ?_, e2⟩
  unfold f_X12_leastTree f_X12_leastTree_0
  simp only [to_bq, l_0, l_1, l_2, l_3, l_4, l_5, l_6, l_7, l_8, l_9, l_10, l_11, l_12, l_13, l_14, l_15, l_16, l_17, l_18, l_19, l_20, l_21, l_22, l_23, l_24, l_25, l_26, l_27, l_28, l_29, l_30, l_31, l_32, l_40, l_41, l_42, l_43, l_44, l_45, l_46, l_47, l_48, l_49, l_50, l_51, l_52, l_53, l_54, l_55, l_56, l_57, l_58, l_59, l_60, l_61, l_62, l_63, l_64, l_72, l_97, l_99, l_100, l_104, l_120, l_122, l_128, l_140, l_255, l_256, l_257, l_258, l_260, l_261, l_262, l_364, l_680, l_700, l_701, l_840, l_999, l_1023, l_1024, l_9999, l_10000, l_1000000, lm]
  simp (disch := first | (with_reducible assumption) | omega | exact ⟨by omega, by omega⟩ | ((with_reducible first | apply Wf.wI | apply Wf.wL | apply Wf.fL | apply Wf.fI | apply Wf.fr); (repeat (with_reducible first | assumption | apply Wf.wI | apply Wf.wL | apply Wf.fL | apply Wf.fI | apply Wf.fr)))) only [ck_225, gI_225, gL_225, pI_225, pZ0_225, pZ1_225, pL_225, gR_225_1, gR_225_3, gR_225_4, gR_225_5, gR_225_6, gR_225_7, gR_225_8, gR_225_9, gR_225_10, gR_225_11, gR_225_12, gR_225_13, gR_225_14, gR_225_15, gR_225_16, gR_225_17, gR_225_18, gR_225_19, gR_225_20, gR_225_21, gR_225_35, gR_225_36, gR_225_38, gR_225_39, gR_225_40, gR_225_41, gR_225_43, gR_225_44, gR_225_45, gR_225_48, gR_225_49, gR_225_50, gR_225_51, gR_225_53, gR_225_54, gR_225_55, gR_225_56, gR_225_58, gR_225_59, gR_225_60, gR_225_61, gR_225_62, gR_225_63, gR_225_66, gR_225_67, bq_n, bd_s, mp_s, rz_0, rz_1, bI_rz, q_4000000000000000000]
  exact e1
/-- the questions about all trees -/
noncomputable def sTree (D : DD) (x : Int32) : Int64 := if x < nI 0 then iL (-1) else if x ≤ nI 2 then (if x = nI 2 then iL (((ltF D 0 (2 ^ nS D)).2.1 : Nat) : Int) else if (ltF D 0 (2 ^ nS D)).1 < 4000000000000000000 then (if x = nI 0 then iL (ltF D 0 (2 ^ nS D)).1 else Int32.toInt64 (ltF D 0 (2 ^ nS D)).2.2) else iL (-2)) else iL (-1)
theorem m_tree (h : MInv σ D) (x : Int32) : ∃ τ, f_X12_tree 225 x σ = some (sTree D x, τ) ∧ Fr Xq σ τ := by
  have hW := h.w
  have f0 : Fr Xq σ (ah_wI σ 225 0 (nI 0)) := Fr.q0 (by omega)
  have hq := h.q f0
  have h2 := p2S h.t
  obtain ⟨τ, e1, e2, e3, e4⟩ := m_leastTree (w := 0) hq (by omega)
  obtain ⟨b1, b2, b3, b4⟩ := ltF_b (w := 0) h (2 ^ nS D)
  have hW2 := (hq.q e2).w
  unfold f_X12_tree f_X12_tree_0 sTree
  simp only [to_bq, l_0, l_1, l_2, l_3, l_4, l_5, l_6, l_7, l_8, l_9, l_10, l_11, l_12, l_13, l_14, l_15, l_16, l_17, l_18, l_19, l_20, l_21, l_22, l_23, l_24, l_25, l_26, l_27, l_28, l_29, l_30, l_31, l_32, l_40, l_41, l_42, l_43, l_44, l_45, l_46, l_47, l_48, l_49, l_50, l_51, l_52, l_53, l_54, l_55, l_56, l_57, l_58, l_59, l_60, l_61, l_62, l_63, l_64, l_72, l_97, l_99, l_100, l_104, l_120, l_122, l_128, l_140, l_255, l_256, l_257, l_258, l_260, l_261, l_262, l_364, l_680, l_700, l_701, l_840, l_999, l_1023, l_1024, l_9999, l_10000, l_1000000, lm]
  simp (disch := first | (with_reducible assumption) | omega | exact ⟨by omega, by omega⟩ | ((with_reducible first | apply Wf.wI | apply Wf.wL | apply Wf.fL | apply Wf.fI | apply Wf.fr); (repeat (with_reducible first | assumption | apply Wf.wI | apply Wf.wL | apply Wf.fL | apply Wf.fI | apply Wf.fr)))) only [ck_225, gI_225, gL_225, pI_225, pZ0_225, pZ1_225, pL_225, gR_225_1, gR_225_3, gR_225_4, gR_225_5, gR_225_6, gR_225_7, gR_225_8, gR_225_9, gR_225_10, gR_225_11, gR_225_12, gR_225_13, gR_225_14, gR_225_15, gR_225_16, gR_225_17, gR_225_18, gR_225_19, gR_225_20, gR_225_21, gR_225_35, gR_225_36, gR_225_38, gR_225_39, gR_225_40, gR_225_41, gR_225_43, gR_225_44, gR_225_45, gR_225_48, gR_225_49, gR_225_50, gR_225_51, gR_225_53, gR_225_54, gR_225_55, gR_225_56, gR_225_58, gR_225_59, gR_225_60, gR_225_61, gR_225_62, gR_225_63, gR_225_66, gR_225_67, bq_n, bd_s, mp_s, rz_0, rz_1, bI_rz, q_m1, q_m2, q_4000000000000000000]
  by_cases q1 : x < nI 0
  · rw [if_pos q1, if_pos q1]; exact ⟨_, rfl, f0⟩
  rw [if_neg q1, if_neg q1]
  by_cases q2 : x ≤ nI 2
  · rw [if_pos q2, if_pos q2, e1, bq_n]
    refine ⟨τ, ?_, f0.trans e2⟩
    simp (disch := first | (with_reducible assumption) | omega | exact ⟨by omega, by omega⟩ | ((with_reducible first | apply Wf.wI | apply Wf.wL | apply Wf.fL | apply Wf.fI | apply Wf.fr); (repeat (with_reducible first | assumption | apply Wf.wI | apply Wf.wL | apply Wf.fL | apply Wf.fI | apply Wf.fr)))) only [ck_225, gI_225, gL_225, pI_225, pZ0_225, pZ1_225, pL_225, gR_225_1, gR_225_3, gR_225_4, gR_225_5, gR_225_6, gR_225_7, gR_225_8, gR_225_9, gR_225_10, gR_225_11, gR_225_12, gR_225_13, gR_225_14, gR_225_15, gR_225_16, gR_225_17, gR_225_18, gR_225_19, gR_225_20, gR_225_21, gR_225_35, gR_225_36, gR_225_38, gR_225_39, gR_225_40, gR_225_41, gR_225_43, gR_225_44, gR_225_45, gR_225_48, gR_225_49, gR_225_50, gR_225_51, gR_225_53, gR_225_54, gR_225_55, gR_225_56, gR_225_58, gR_225_59, gR_225_60, gR_225_61, gR_225_62, gR_225_63, gR_225_66, gR_225_67, bq_n, bd_s, mp_s, rz_0, rz_1, bI_rz, e3, e4, toL_n]
    by_cases q3 : x = nI 2
    · rw [if_pos q3, if_pos q3]
    rw [if_neg q3, if_neg q3]
    by_cases q4 : (ltF D 0 (2 ^ nS D)).1 < 4000000000000000000
    · rw [if_pos (by rw [cmp_lt ⟨by omega, by omega⟩ ⟨by omega, by omega⟩]; exact q4), if_pos q4]
      by_cases q5 : x = nI 0
      · rw [if_pos q5, if_pos q5]
      · rw [if_neg q5, if_neg q5]
    · rw [if_neg (by rw [cmp_lt ⟨by omega, by omega⟩ ⟨by omega, by omega⟩]; exact q4), if_neg q4]
  · rw [if_neg q2, if_neg q2]; exact ⟨_, rfl, f0⟩
noncomputable def sWithout (D : DD) (x y : Int32) : Int64 := if okS D x ∧ okS D y then (if (ltF D 0 (2 ^ nS D)).1 < 4000000000000000000 then (if (ltF D (2 ^ ix x ||| 2 ^ ix y) (2 ^ nS D)).1 < 4000000000000000000 then iL ((ltF D (2 ^ ix x ||| 2 ^ ix y) (2 ^ nS D)).1 - (ltF D 0 (2 ^ nS D)).1) else iL (-2)) else iL (-1)) else iL (-1)
theorem m_without (h : MInv σ D) (x y : Int32) : ∃ τ, f_X12_without 225 x y σ = some (sWithout D x y, τ) ∧ Fr Xq σ τ := by
  have hW := h.w
  have hb := h.bd
  have f0 : Fr Xq σ (ah_wI σ 225 0 (nI 0)) := Fr.q0 (by omega)
  have hq := h.q f0
  unfold f_X12_without f_X12_without_0 sWithout
  simp only [to_bq, l_0, l_1, l_2, l_3, l_4, l_5, l_6, l_7, l_8, l_9, l_10, l_11, l_12, l_13, l_14, l_15, l_16, l_17, l_18, l_19, l_20, l_21, l_22, l_23, l_24, l_25, l_26, l_27, l_28, l_29, l_30, l_31, l_32, l_40, l_41, l_42, l_43, l_44, l_45, l_46, l_47, l_48, l_49, l_50, l_51, l_52, l_53, l_54, l_55, l_56, l_57, l_58, l_59, l_60, l_61, l_62, l_63, l_64, l_72, l_97, l_99, l_100, l_104, l_120, l_122, l_128, l_140, l_255, l_256, l_257, l_258, l_260, l_261, l_262, l_364, l_680, l_700, l_701, l_840, l_999, l_1023, l_1024, l_9999, l_10000, l_1000000, lm]
  simp (disch := first | (with_reducible assumption) | omega | exact ⟨by omega, by omega⟩ | ((with_reducible first | apply Wf.wI | apply Wf.wL | apply Wf.fL | apply Wf.fI | apply Wf.fr); (repeat (with_reducible first | assumption | apply Wf.wI | apply Wf.wL | apply Wf.fL | apply Wf.fI | apply Wf.fr)))) only [ck_225, gI_225, gL_225, pI_225, pZ0_225, pZ1_225, pL_225, gR_225_1, gR_225_3, gR_225_4, gR_225_5, gR_225_6, gR_225_7, gR_225_8, gR_225_9, gR_225_10, gR_225_11, gR_225_12, gR_225_13, gR_225_14, gR_225_15, gR_225_16, gR_225_17, gR_225_18, gR_225_19, gR_225_20, gR_225_21, gR_225_35, gR_225_36, gR_225_38, gR_225_39, gR_225_40, gR_225_41, gR_225_43, gR_225_44, gR_225_45, gR_225_48, gR_225_49, gR_225_50, gR_225_51, gR_225_53, gR_225_54, gR_225_55, gR_225_56, gR_225_58, gR_225_59, gR_225_60, gR_225_61, gR_225_62, gR_225_63, gR_225_66, gR_225_67, bq_n, bd_s, mp_s, rz_0, rz_1, bI_rz, q_m1, q_m2, q_4000000000000000000, m_isStreet hq, bI_0, ite_n]
  by_cases q1 : okS D x
  · rw [if_pos q1]
    by_cases q2 : okS D y
    · rw [if_pos q2, if_pos ⟨q1, q2⟩]
      obtain ⟨i, hi, rfl⟩ := okS_of h.t q1
      obtain ⟨j, hj, rfl⟩ := okS_of h.t q2
      rw [ix_nI (by omega), ix_nI (by omega)]
      obtain ⟨τ, e1, e2, -⟩ := m_leastTree (w := 0) hq (by omega)
      obtain ⟨b1, b2, -⟩ := ltF_b (w := 0) h (2 ^ nS D)
      rw [e1, bq_n]
      show ∃ τ', (if lg_cmp (iL (ltF D 0 (2 ^ nS D)).1) (iL 4000000000000000000) < nI 0 then _ else _) = _ ∧ _
      by_cases q3 : (ltF D 0 (2 ^ nS D)).1 < 4000000000000000000
      · rw [if_pos (show lg_cmp (iL (ltF D 0 (2 ^ nS D)).1) (iL 4000000000000000000) < nI 0 by rw [cmp_lt ⟨by omega, by omega⟩ ⟨by omega, by omega⟩]; exact q3), if_pos q3]
        rw [z_one (show i < 31 by omega), z_one (show j < 31 by omega), z_or]
        have hw2 : 2 ^ i ||| 2 ^ j < 2147483648 := Nat.lt_trans (or_b (k := 10) (pw_b (by omega)) (pw_b (by omega))) (by decide)
        obtain ⟨τ2, g1, g2, -⟩ := m_leastTree (w := 2 ^ i ||| 2 ^ j) (hq.q e2) hw2
        obtain ⟨c1, c2, -⟩ := ltF_b (w := 2 ^ i ||| 2 ^ j) h (2 ^ nS D)
        show ∃ τ', bq _ _ (f_X12_leastTree 225 (nI (2 ^ i ||| 2 ^ j)) τ) = _ ∧ _
        rw [g1, bq_n]
        refine ⟨τ2, ?_, (f0.trans e2).trans g2⟩
        show (if lg_cmp (iL (ltF D (2 ^ i ||| 2 ^ j) (2 ^ nS D)).1) (iL 4000000000000000000) < nI 0 then _ else _) = _
        by_cases q4 : (ltF D (2 ^ i ||| 2 ^ j) (2 ^ nS D)).1 < 4000000000000000000
        · rw [if_pos (show lg_cmp (iL (ltF D (2 ^ i ||| 2 ^ j) (2 ^ nS D)).1) (iL 4000000000000000000) < nI 0 by rw [cmp_lt ⟨by omega, by omega⟩ ⟨by omega, by omega⟩]; exact q4), if_pos q4, isub]
        · rw [if_neg (show ¬ lg_cmp (iL (ltF D (2 ^ i ||| 2 ^ j) (2 ^ nS D)).1) (iL 4000000000000000000) < nI 0 by rw [cmp_lt ⟨by omega, by omega⟩ ⟨by omega, by omega⟩]; exact q4), if_neg q4]
      · rw [if_neg (show ¬ lg_cmp (iL (ltF D 0 (2 ^ nS D)).1) (iL 4000000000000000000) < nI 0 by rw [cmp_lt ⟨by omega, by omega⟩ ⟨by omega, by omega⟩]; exact q3), if_neg q3]
        exact ⟨_, rfl, f0.trans e2⟩
    · rw [if_neg q2, if_neg (fun z => q2 z.2)]; exact ⟨_, rfl, f0⟩
  · rw [if_neg q1, if_neg (fun z => q1 z.1)]; exact ⟨_, rfl, f0⟩
end
