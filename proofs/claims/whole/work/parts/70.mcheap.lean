/-! THE REFERENCE: the cheapest of a tree -/
section
variable {σ : ah_H} {D : DD} {m : Nat} {st : Nat → Option Nat}
theorem m_ch23 {x1 x2 : Int32} : ∀ i k fu τ, k + i = 7 → i < fu → Wf τ → f_X12_cheapestOf_23 fu 225 x1 x2 (nI k) τ = f_X12_cheapestOf_45 225 x1 x2 (ah_fI τ 248 (7 + k) 14 (mI 1)) := by
  intro i
  induction i with
  | zero =>
    intro k fu τ hk hf hW
    obtain ⟨fu, rfl⟩ : ∃ q, fu = q + 1 := ⟨fu - 1, by omega⟩
    show f_X12_cheapestOf_23_b _ _ _ _ _ _ = _
    unfold f_X12_cheapestOf_23_b
    simp only [to_bq, l_0, l_1, l_2, l_3, l_4, l_5, l_6, l_7, l_8, l_9, l_10, l_11, l_12, l_13, l_14, l_15, l_16, l_17, l_18, l_19, l_20, l_21, l_22, l_23, l_24, l_25, l_26, l_27, l_28, l_29, l_30, l_31, l_32, l_40, l_41, l_42, l_43, l_44, l_45, l_46, l_47, l_48, l_49, l_50, l_51, l_52, l_53, l_54, l_55, l_56, l_57, l_58, l_59, l_60, l_61, l_62, l_63, l_64, l_72, l_97, l_99, l_100, l_104, l_120, l_122, l_128, l_140, l_255, l_256, l_257, l_258, l_260, l_261, l_262, l_364, l_680, l_700, l_701, l_840, l_999, l_1023, l_1024, l_9999, l_10000, l_1000000, lm]
    rw [if_pos (by rw [le_nI (by omega) (by omega)]; omega), show 7 + k = 14 by omega, fI_0]
  | succ i ih =>
    intro k fu τ hk hf hW
    obtain ⟨fu, rfl⟩ : ∃ q, fu = q + 1 := ⟨fu - 1, by omega⟩
    show f_X12_cheapestOf_23_b _ _ _ _ _ _ = _
    unfold f_X12_cheapestOf_23_b
    simp only [to_bq, l_0, l_1, l_2, l_3, l_4, l_5, l_6, l_7, l_8, l_9, l_10, l_11, l_12, l_13, l_14, l_15, l_16, l_17, l_18, l_19, l_20, l_21, l_22, l_23, l_24, l_25, l_26, l_27, l_28, l_29, l_30, l_31, l_32, l_40, l_41, l_42, l_43, l_44, l_45, l_46, l_47, l_48, l_49, l_50, l_51, l_52, l_53, l_54, l_55, l_56, l_57, l_58, l_59, l_60, l_61, l_62, l_63, l_64, l_72, l_97, l_99, l_100, l_104, l_120, l_122, l_128, l_140, l_255, l_256, l_257, l_258, l_260, l_261, l_262, l_364, l_680, l_700, l_701, l_840, l_999, l_1023, l_1024, l_9999, l_10000, l_1000000, lm]
    rw [if_neg (by rw [le_nI (by omega) (by omega)]; omega)]
    simp (disch := first | (with_reducible assumption) | omega | exact ⟨by omega, by omega⟩ | ((with_reducible first | apply Wf.wI | apply Wf.wL | apply Wf.fL | apply Wf.fI | apply Wf.fr); (repeat (with_reducible first | assumption | apply Wf.wI | apply Wf.wL | apply Wf.fL | apply Wf.fI | apply Wf.fr)))) only [ck_225, gI_225, gL_225, pI_225, pZ0_225, pZ1_225, pL_225, gR_225_1, gR_225_3, gR_225_4, gR_225_5, gR_225_6, gR_225_7, gR_225_8, gR_225_9, gR_225_10, gR_225_11, gR_225_12, gR_225_13, gR_225_14, gR_225_15, gR_225_16, gR_225_17, gR_225_18, gR_225_19, gR_225_20, gR_225_21, gR_225_35, gR_225_36, gR_225_38, gR_225_39, gR_225_40, gR_225_41, gR_225_43, gR_225_44, gR_225_45, gR_225_48, gR_225_49, gR_225_50, gR_225_51, gR_225_53, gR_225_54, gR_225_55, gR_225_56, gR_225_58, gR_225_59, gR_225_60, gR_225_61, gR_225_62, gR_225_63, gR_225_66, gR_225_67, bq_n, bd_s, mp_s, rz_0, rz_1, bI_rz, zadd, zmul, zsub, le_nI, lt_nI, eq_nI, neg_nI, gen_nI, neg_lt, neg_le, neg_lt', neg_le', nI_lt0, if_true, if_false, ite_true, ite_false, reduceIte, not_true, not_false, and_true, true_and, and_false, false_and, or_true, true_or, or_false, false_or, eq_self, aI_248, sI_248, len_248]
    rw [ih (k + 1) fu _ (by omega) (by omega) (hW.wI _ _ _), show 7 + (k + 1) = 7 + k + 1 by omega, fI_s _ _ (by omega)]
theorem m_ch88 : ∀ i k fu τ, k + i = 364 → i < fu → Wf τ → f_X12_cheapestOf_88 fu 225 (nI k) τ = f_X12_cheapestOf_112 225 (ah_fL τ 264 k 364 (iL 4000000000000000000)) := by
  intro i
  induction i with
  | zero =>
    intro k fu τ hk hf hW
    obtain ⟨fu, rfl⟩ : ∃ q, fu = q + 1 := ⟨fu - 1, by omega⟩
    show f_X12_cheapestOf_88_b _ _ _ _ = _
    unfold f_X12_cheapestOf_88_b
    simp only [to_bq, l_0, l_1, l_2, l_3, l_4, l_5, l_6, l_7, l_8, l_9, l_10, l_11, l_12, l_13, l_14, l_15, l_16, l_17, l_18, l_19, l_20, l_21, l_22, l_23, l_24, l_25, l_26, l_27, l_28, l_29, l_30, l_31, l_32, l_40, l_41, l_42, l_43, l_44, l_45, l_46, l_47, l_48, l_49, l_50, l_51, l_52, l_53, l_54, l_55, l_56, l_57, l_58, l_59, l_60, l_61, l_62, l_63, l_64, l_72, l_97, l_99, l_100, l_104, l_120, l_122, l_128, l_140, l_255, l_256, l_257, l_258, l_260, l_261, l_262, l_364, l_680, l_700, l_701, l_840, l_999, l_1023, l_1024, l_9999, l_10000, l_1000000, lm]
    simp (disch := first | (with_reducible assumption) | omega | exact ⟨by omega, by omega⟩ | ((with_reducible first | apply Wf.wI | apply Wf.wL | apply Wf.fL | apply Wf.fI | apply Wf.fr); (repeat (with_reducible first | assumption | apply Wf.wI | apply Wf.wL | apply Wf.fL | apply Wf.fI | apply Wf.fr)))) only [ck_225, gI_225, gL_225, pI_225, pZ0_225, pZ1_225, pL_225, gR_225_1, gR_225_3, gR_225_4, gR_225_5, gR_225_6, gR_225_7, gR_225_8, gR_225_9, gR_225_10, gR_225_11, gR_225_12, gR_225_13, gR_225_14, gR_225_15, gR_225_16, gR_225_17, gR_225_18, gR_225_19, gR_225_20, gR_225_21, gR_225_35, gR_225_36, gR_225_38, gR_225_39, gR_225_40, gR_225_41, gR_225_43, gR_225_44, gR_225_45, gR_225_48, gR_225_49, gR_225_50, gR_225_51, gR_225_53, gR_225_54, gR_225_55, gR_225_56, gR_225_58, gR_225_59, gR_225_60, gR_225_61, gR_225_62, gR_225_63, gR_225_66, gR_225_67, bq_n, bd_s, mp_s, rz_0, rz_1, bI_rz, zadd, zmul, zsub, le_nI, lt_nI, eq_nI, neg_nI, gen_nI, neg_lt, neg_le, neg_lt', neg_le', nI_lt0, if_true, if_false, ite_true, ite_false, reduceIte, not_true, not_false, and_true, true_and, and_false, false_and, or_true, true_or, or_false, false_or, eq_self, aL_264, sL_264, len_264, ofN]
    rw [if_pos (by omega), show k = 364 by omega, fL_0]
  | succ i ih =>
    intro k fu τ hk hf hW
    obtain ⟨fu, rfl⟩ : ∃ q, fu = q + 1 := ⟨fu - 1, by omega⟩
    show f_X12_cheapestOf_88_b _ _ _ _ = _
    unfold f_X12_cheapestOf_88_b
    simp only [to_bq, l_0, l_1, l_2, l_3, l_4, l_5, l_6, l_7, l_8, l_9, l_10, l_11, l_12, l_13, l_14, l_15, l_16, l_17, l_18, l_19, l_20, l_21, l_22, l_23, l_24, l_25, l_26, l_27, l_28, l_29, l_30, l_31, l_32, l_40, l_41, l_42, l_43, l_44, l_45, l_46, l_47, l_48, l_49, l_50, l_51, l_52, l_53, l_54, l_55, l_56, l_57, l_58, l_59, l_60, l_61, l_62, l_63, l_64, l_72, l_97, l_99, l_100, l_104, l_120, l_122, l_128, l_140, l_255, l_256, l_257, l_258, l_260, l_261, l_262, l_364, l_680, l_700, l_701, l_840, l_999, l_1023, l_1024, l_9999, l_10000, l_1000000, lm]
    simp (disch := first | (with_reducible assumption) | omega | exact ⟨by omega, by omega⟩ | ((with_reducible first | apply Wf.wI | apply Wf.wL | apply Wf.fL | apply Wf.fI | apply Wf.fr); (repeat (with_reducible first | assumption | apply Wf.wI | apply Wf.wL | apply Wf.fL | apply Wf.fI | apply Wf.fr)))) only [ck_225, gI_225, gL_225, pI_225, pZ0_225, pZ1_225, pL_225, gR_225_1, gR_225_3, gR_225_4, gR_225_5, gR_225_6, gR_225_7, gR_225_8, gR_225_9, gR_225_10, gR_225_11, gR_225_12, gR_225_13, gR_225_14, gR_225_15, gR_225_16, gR_225_17, gR_225_18, gR_225_19, gR_225_20, gR_225_21, gR_225_35, gR_225_36, gR_225_38, gR_225_39, gR_225_40, gR_225_41, gR_225_43, gR_225_44, gR_225_45, gR_225_48, gR_225_49, gR_225_50, gR_225_51, gR_225_53, gR_225_54, gR_225_55, gR_225_56, gR_225_58, gR_225_59, gR_225_60, gR_225_61, gR_225_62, gR_225_63, gR_225_66, gR_225_67, bq_n, bd_s, mp_s, rz_0, rz_1, bI_rz, zadd, zmul, zsub, le_nI, lt_nI, eq_nI, neg_nI, gen_nI, neg_lt, neg_le, neg_lt', neg_le', nI_lt0, if_true, if_false, ite_true, ite_false, reduceIte, not_true, not_false, and_true, true_and, and_false, false_and, or_true, true_or, or_false, false_or, eq_self, aL_264, sL_264, len_264, q_4000000000000000000, ofN]
    rw [if_neg (by omega)]
    rw [ih (k + 1) fu _ (by omega) (by omega) (hW.wL _ _ _), fL_s _ _ (by omega)]
theorem m_free2 : ∀ i k fu τ, k + i = 7 → i < fu → Wf τ → ∃ τ', f_X12_free_2 fu 225 (nI k) τ = some τ' ∧ Fr (fun a j => 266 ≤ a ∧ a ≤ 268 ∧ k ≤ j) τ τ' ∧ ∀ c, k ≤ c → c < 7 → ah_I τ' 266 c = mI 1 ∧ ah_I τ' 267 c = mI 1 ∧ ah_I τ' 268 c = mI 1 := by
  intro i
  induction i with
  | zero =>
    intro k fu τ hk hf hW
    obtain ⟨fu, rfl⟩ : ∃ q, fu = q + 1 := ⟨fu - 1, by omega⟩
    refine ⟨τ, ?_, Fr.rfl, fun c h1 h2 => by omega⟩
    show f_X12_free_2_b _ _ _ _ = _
    unfold f_X12_free_2_b
    simp only [to_bq, l_0, l_1, l_2, l_3, l_4, l_5, l_6, l_7, l_8, l_9, l_10, l_11, l_12, l_13, l_14, l_15, l_16, l_17, l_18, l_19, l_20, l_21, l_22, l_23, l_24, l_25, l_26, l_27, l_28, l_29, l_30, l_31, l_32, l_40, l_41, l_42, l_43, l_44, l_45, l_46, l_47, l_48, l_49, l_50, l_51, l_52, l_53, l_54, l_55, l_56, l_57, l_58, l_59, l_60, l_61, l_62, l_63, l_64, l_72, l_97, l_99, l_100, l_104, l_120, l_122, l_128, l_140, l_255, l_256, l_257, l_258, l_260, l_261, l_262, l_364, l_680, l_700, l_701, l_840, l_999, l_1023, l_1024, l_9999, l_10000, l_1000000, lm]
    rw [if_pos (by rw [le_nI (by omega) (by omega)]; omega)]
  | succ i ih =>
    intro k fu τ hk hf hW
    obtain ⟨fu, rfl⟩ : ∃ q, fu = q + 1 := ⟨fu - 1, by omega⟩
    have he : f_X12_free_2 (fu + 1) 225 (nI k) τ = f_X12_free_2 fu 225 (nI (k + 1)) (ah_wI (ah_wI (ah_wI τ 266 k (mI 1)) 267 k (mI 1)) 268 k (mI 1)) := by
      show f_X12_free_2_b _ _ _ _ = _
      unfold f_X12_free_2_b
      simp only [to_bq, l_0, l_1, l_2, l_3, l_4, l_5, l_6, l_7, l_8, l_9, l_10, l_11, l_12, l_13, l_14, l_15, l_16, l_17, l_18, l_19, l_20, l_21, l_22, l_23, l_24, l_25, l_26, l_27, l_28, l_29, l_30, l_31, l_32, l_40, l_41, l_42, l_43, l_44, l_45, l_46, l_47, l_48, l_49, l_50, l_51, l_52, l_53, l_54, l_55, l_56, l_57, l_58, l_59, l_60, l_61, l_62, l_63, l_64, l_72, l_97, l_99, l_100, l_104, l_120, l_122, l_128, l_140, l_255, l_256, l_257, l_258, l_260, l_261, l_262, l_364, l_680, l_700, l_701, l_840, l_999, l_1023, l_1024, l_9999, l_10000, l_1000000, lm]
      rw [if_neg (by rw [le_nI (by omega) (by omega)]; omega)]
      simp (disch := first | (with_reducible assumption) | omega | exact ⟨by omega, by omega⟩ | ((with_reducible first | apply Wf.wI | apply Wf.wL | apply Wf.fL | apply Wf.fI | apply Wf.fr); (repeat (with_reducible first | assumption | apply Wf.wI | apply Wf.wL | apply Wf.fL | apply Wf.fI | apply Wf.fr)))) only [ck_225, gI_225, gL_225, pI_225, pZ0_225, pZ1_225, pL_225, gR_225_1, gR_225_3, gR_225_4, gR_225_5, gR_225_6, gR_225_7, gR_225_8, gR_225_9, gR_225_10, gR_225_11, gR_225_12, gR_225_13, gR_225_14, gR_225_15, gR_225_16, gR_225_17, gR_225_18, gR_225_19, gR_225_20, gR_225_21, gR_225_35, gR_225_36, gR_225_38, gR_225_39, gR_225_40, gR_225_41, gR_225_43, gR_225_44, gR_225_45, gR_225_48, gR_225_49, gR_225_50, gR_225_51, gR_225_53, gR_225_54, gR_225_55, gR_225_56, gR_225_58, gR_225_59, gR_225_60, gR_225_61, gR_225_62, gR_225_63, gR_225_66, gR_225_67, bq_n, bd_s, mp_s, rz_0, rz_1, bI_rz, zadd, zmul, zsub, le_nI, lt_nI, eq_nI, neg_nI, gen_nI, neg_lt, neg_le, neg_lt', neg_le', nI_lt0, if_true, if_false, ite_true, ite_false, reduceIte, not_true, not_false, and_true, true_and, and_false, false_and, or_true, true_or, or_false, false_or, eq_self, sI_266, sI_267, sI_268]
    obtain ⟨τ', e1, e2, e3⟩ := ih (k + 1) fu (ah_wI (ah_wI (ah_wI τ 266 k (mI 1)) 267 k (mI 1)) 268 k (mI 1)) (by omega) (by omega) (((hW.wI _ _ _).wI _ _ _).wI _ _ _)
    rw [he, e1]
    refine ⟨τ', rfl, ((((Fr.rfl (X := fun a j => 266 ≤ a ∧ a ≤ 268 ∧ k ≤ j) (σ := τ)).wI ⟨by omega, by omega, by omega⟩).wI ⟨by omega, by omega, by omega⟩).wI ⟨by omega, by omega, by omega⟩).trans (e2.mono (fun a j z => ⟨z.1, z.2.1, by have := z.2.2; omega⟩)), fun c h1 h2 => ?_⟩
    by_cases q : c = k
    · subst q
      rw [e2.I (fun z => by have := z.2.2; omega), e2.I (fun z => by have := z.2.2; omega), e2.I (fun z => by have := z.2.2; omega)]
      simp (disch := first | (with_reducible assumption) | omega | exact ⟨by omega, by omega⟩ | ((with_reducible first | apply Wf.wI | apply Wf.wL | apply Wf.fL | apply Wf.fI | apply Wf.fr); (repeat (with_reducible first | assumption | apply Wf.wI | apply Wf.wL | apply Wf.fL | apply Wf.fI | apply Wf.fr)))) only [rI_ne, rI_eq, if_true, if_false, ite_true, ite_false, reduceIte, not_true, not_false, and_true, true_and, and_false, false_and, or_true, true_or, or_false, false_or, eq_self]
    · exact e3 c (by omega) h2
theorem m_free (hW : Wf σ) : ∃ τ, f_X12_free 225 σ = some τ ∧ Fr (fun a _ => 266 ≤ a ∧ a ≤ 268) σ τ ∧ ∀ c, c < 7 → ah_I τ 266 c = mI 1 ∧ ah_I τ 267 c = mI 1 ∧ ah_I τ 268 c = mI 1 := by
  obtain ⟨τ, e1, e2, e3⟩ := m_free2 7 0 5000 σ (by omega) (by omega) hW
  refine ⟨τ, ?_, e2.mono (fun a j z => ⟨z.1, z.2.1⟩), fun c hc => e3 c (by omega) hc⟩
  unfold f_X12_free f_X12_free_0
  rw [ck_225 hW]
  exact e1
/-- the greatest flows are kept -/
theorem m_ch59 (h0 : MInv σ D) (hF0 : FlR σ D st plain) : ∀ i k fu τ, k + i = nC D → i < fu → Fr (fun a j => Xg a j ∨ a = 265) σ τ → (∀ c, c < k → ah_L τ 265 c = iL ((gmx D st plain c : Nat) : Int)) → ∃ τ', f_X12_cheapestOf_59 fu 225 (nI k) τ = f_X12_cheapestOf_86 225 τ' ∧ Fr (fun a j => Xg a j ∨ a = 265) σ τ' ∧ (∀ c, c < nC D → ah_L τ' 265 c = iL ((gmx D st plain c : Nat) : Int)) := by
  have hb := h0.bd
  have hq : ∀ a j, (Xg a j ∨ a = 265) → Xq a j := fun a j z => z.elim (Xg_q a j) (fun z => by unfold Xq; omega)
  intro i
  induction i with
  | zero =>
    intro k fu τ hk hf g hr
    obtain ⟨fu, rfl⟩ : ∃ q, fu = q + 1 := ⟨fu - 1, by omega⟩
    have h := h0.q (g.mono hq)
    have hW := h.w
    refine ⟨τ, ?_, g, fun c hc => hr c (by omega)⟩
    show f_X12_cheapestOf_59_b _ _ _ _ = _
    unfold f_X12_cheapestOf_59_b
    simp only [to_bq, l_0, l_1, l_2, l_3, l_4, l_5, l_6, l_7, l_8, l_9, l_10, l_11, l_12, l_13, l_14, l_15, l_16, l_17, l_18, l_19, l_20, l_21, l_22, l_23, l_24, l_25, l_26, l_27, l_28, l_29, l_30, l_31, l_32, l_40, l_41, l_42, l_43, l_44, l_45, l_46, l_47, l_48, l_49, l_50, l_51, l_52, l_53, l_54, l_55, l_56, l_57, l_58, l_59, l_60, l_61, l_62, l_63, l_64, l_72, l_97, l_99, l_100, l_104, l_120, l_122, l_128, l_140, l_255, l_256, l_257, l_258, l_260, l_261, l_262, l_364, l_680, l_700, l_701, l_840, l_999, l_1023, l_1024, l_9999, l_10000, l_1000000, lm]
    simp (disch := first | (with_reducible assumption) | omega | exact ⟨by omega, by omega⟩ | ((with_reducible first | apply Wf.wI | apply Wf.wL | apply Wf.fL | apply Wf.fI | apply Wf.fr); (repeat (with_reducible first | assumption | apply Wf.wI | apply Wf.wL | apply Wf.fL | apply Wf.fI | apply Wf.fr)))) only [ck_225, gI_225, gL_225, pI_225, pZ0_225, pZ1_225, pL_225, gR_225_1, gR_225_3, gR_225_4, gR_225_5, gR_225_6, gR_225_7, gR_225_8, gR_225_9, gR_225_10, gR_225_11, gR_225_12, gR_225_13, gR_225_14, gR_225_15, gR_225_16, gR_225_17, gR_225_18, gR_225_19, gR_225_20, gR_225_21, gR_225_35, gR_225_36, gR_225_38, gR_225_39, gR_225_40, gR_225_41, gR_225_43, gR_225_44, gR_225_45, gR_225_48, gR_225_49, gR_225_50, gR_225_51, gR_225_53, gR_225_54, gR_225_55, gR_225_56, gR_225_58, gR_225_59, gR_225_60, gR_225_61, gR_225_62, gR_225_63, gR_225_66, gR_225_67, bq_n, bd_s, mp_s, rz_0, rz_1, bI_rz, zadd, zmul, zsub, le_nI, lt_nI, eq_nI, neg_nI, gen_nI, neg_lt, neg_le, neg_lt', neg_le', nI_lt0, if_true, if_false, ite_true, ite_false, reduceIte, not_true, not_false, and_true, true_and, and_false, false_and, or_true, true_or, or_false, false_or, eq_self, aI_227, rd_C h, show (nC D ≤ k) = True from eq_true (by omega)]
  | succ i ih =>
    intro k fu τ hk hf g hr
    obtain ⟨fu, rfl⟩ : ∃ q, fu = q + 1 := ⟨fu - 1, by omega⟩
    have h := h0.q (g.mono hq)
    have hW := h.w
    have hF : FlR τ D st plain := fun c hc r hr t ht => by
      rw [g.L (by unfold Xg; omega), g.L (by unfold Xg; omega)]
      exact hF0 c hc r hr t ht
    obtain ⟨⟨r1, r2⟩, e1, e2, e3, -⟩ := m_greatest h hF (show k < nC D by omega)
    have e2 : r1 = iL ((gmx D st plain k : Nat) : Int) := e2
    have e3 : Fr Xg τ r2 := e3
    have hW2 : Wf r2 := (h.q (e3.mono Xg_q)).w
    have he : f_X12_cheapestOf_59 (fu + 1) 225 (nI k) τ = f_X12_cheapestOf_59 fu 225 (nI (k + 1)) (ah_wL r2 265 k (iL ((gmx D st plain k : Nat) : Int))) := by
      show f_X12_cheapestOf_59_b _ _ _ _ = _
      unfold f_X12_cheapestOf_59_b
      simp only [to_bq, l_0, l_1, l_2, l_3, l_4, l_5, l_6, l_7, l_8, l_9, l_10, l_11, l_12, l_13, l_14, l_15, l_16, l_17, l_18, l_19, l_20, l_21, l_22, l_23, l_24, l_25, l_26, l_27, l_28, l_29, l_30, l_31, l_32, l_40, l_41, l_42, l_43, l_44, l_45, l_46, l_47, l_48, l_49, l_50, l_51, l_52, l_53, l_54, l_55, l_56, l_57, l_58, l_59, l_60, l_61, l_62, l_63, l_64, l_72, l_97, l_99, l_100, l_104, l_120, l_122, l_128, l_140, l_255, l_256, l_257, l_258, l_260, l_261, l_262, l_364, l_680, l_700, l_701, l_840, l_999, l_1023, l_1024, l_9999, l_10000, l_1000000, lm]
      rw [e2] at e1
      simp (disch := first | (with_reducible assumption) | omega | exact ⟨by omega, by omega⟩ | ((with_reducible first | apply Wf.wI | apply Wf.wL | apply Wf.fL | apply Wf.fI | apply Wf.fr); (repeat (with_reducible first | assumption | apply Wf.wI | apply Wf.wL | apply Wf.fL | apply Wf.fI | apply Wf.fr)))) only [ck_225, gI_225, gL_225, pI_225, pZ0_225, pZ1_225, pL_225, gR_225_1, gR_225_3, gR_225_4, gR_225_5, gR_225_6, gR_225_7, gR_225_8, gR_225_9, gR_225_10, gR_225_11, gR_225_12, gR_225_13, gR_225_14, gR_225_15, gR_225_16, gR_225_17, gR_225_18, gR_225_19, gR_225_20, gR_225_21, gR_225_35, gR_225_36, gR_225_38, gR_225_39, gR_225_40, gR_225_41, gR_225_43, gR_225_44, gR_225_45, gR_225_48, gR_225_49, gR_225_50, gR_225_51, gR_225_53, gR_225_54, gR_225_55, gR_225_56, gR_225_58, gR_225_59, gR_225_60, gR_225_61, gR_225_62, gR_225_63, gR_225_66, gR_225_67, bq_n, bd_s, mp_s, rz_0, rz_1, bI_rz, zadd, zmul, zsub, le_nI, lt_nI, eq_nI, neg_nI, gen_nI, neg_lt, neg_le, neg_lt', neg_le', nI_lt0, if_true, if_false, ite_true, ite_false, reduceIte, not_true, not_false, and_true, true_and, and_false, false_and, or_true, true_or, or_false, false_or, eq_self, aI_227, rd_C h, show (nC D ≤ k) = False from eq_false (by omega), e1, aL_265, sL_265, len_265]
    rw [he]
    refine ih (k + 1) fu _ (by omega) (by omega) ((g.trans (e3.mono (fun a j z => Or.inl z))).wL (Or.inr rfl)) (fun c hc => ?_)
    by_cases q : c = k
    · rw [q, rL_eq]
    · rw [rL_ne (by omega), e3.L (by unfold Xg; omega)]
      exact hr c (by omega)
end
