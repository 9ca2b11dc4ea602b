/-! THE REFERENCE: changes -/
theorem mI_id (σ : ah_H) {g : Nat → Nat → Int32} (h : ∀ a j, g a j = ah_I σ a j) : ah_mI σ g = σ := by
  have : g = σ.1 := funext fun a => funext fun j => h a j
  rw [this]; rfl
theorem L_mI (σ : ah_H) (g : Nat → Nat → Int32) (a j : Nat) : ah_L (ah_mI σ g) a j = ah_L σ a j := rfl
theorem mI_ext {σ τ : ah_H} {g g' : Nat → Nat → Int32} (h0 : σ.2 = τ.2) (h : ∀ a j, g a j = g' a j) : ah_mI σ g = ah_mI τ g' := by
  have : g = g' := funext fun a => funext fun j => h a j
  unfold ah_mI
  rw [this, h0]
theorem I_cg {σ : ah_H} {a a' j j' : Nat} (h1 : a = a') (h2 : j = j') : ah_I σ a j = ah_I σ a' j' := by rw [h1, h2]
set_option maxRecDepth 100000 in
theorem lp_shift {n : Nat} : ∀ m k fu (σ : ah_H), k + m = 140 → 7 ≤ k → m < fu → Wf σ → ah_I σ 225 52 = nI n → f_X12_keepNow_12 fu 225 (nI k) σ = f_X12_keepNow_85 225 (ah_mI σ (fun a j => if 255 ≤ a ∧ a ≤ 258 ∧ k ≤ j + 7 ∧ j + 7 < 140 then ah_I σ a (j + 7) else ah_I σ a j)) := by
  intro m
  induction m with
  | zero =>
    intro k fu σ hk hl hf hw hm
    obtain ⟨fu, rfl⟩ : ∃ q, fu = q + 1 := ⟨fu - 1, by omega⟩
    show f_X12_keepNow_12_b _ _ _ _ = _
    unfold f_X12_keepNow_12_b
    simp only [to_bq, l_0, l_1, l_2, l_3, l_4, l_5, l_6, l_7, l_8, l_9, l_10, l_11, l_12, l_13, l_14, l_15, l_16, l_17, l_18, l_19, l_20, l_21, l_22, l_23, l_24, l_25, l_26, l_27, l_28, l_29, l_30, l_31, l_32, l_40, l_41, l_42, l_43, l_44, l_45, l_46, l_47, l_48, l_49, l_50, l_51, l_52, l_53, l_54, l_55, l_56, l_57, l_58, l_59, l_60, l_61, l_62, l_63, l_64, l_72, l_97, l_99, l_100, l_104, l_120, l_122, l_128, l_140, l_255, l_256, l_257, l_258, l_260, l_261, l_262, l_364, l_680, l_700, l_701, l_840, l_999, l_1023, l_1024, l_9999, l_10000, l_1000000, lm]
    rw [mI_id σ (fun a j => if_neg (by omega))]
    obtain rfl : k = 140 := by omega
    simp only [Int32.le_refl, if_true, if_false, ite_true, ite_false, reduceIte, not_true, not_false, and_true, true_and, and_false, false_and, or_true, true_or, or_false, false_or, eq_self]
  | succ m ih =>
    intro k fu σ hk hl hf hw hm
    obtain ⟨fu, rfl⟩ : ∃ q, fu = q + 1 := ⟨fu - 1, by omega⟩
    show f_X12_keepNow_12_b _ _ _ _ = _
    unfold f_X12_keepNow_12_b
    simp only [to_bq, l_0, l_1, l_2, l_3, l_4, l_5, l_6, l_7, l_8, l_9, l_10, l_11, l_12, l_13, l_14, l_15, l_16, l_17, l_18, l_19, l_20, l_21, l_22, l_23, l_24, l_25, l_26, l_27, l_28, l_29, l_30, l_31, l_32, l_40, l_41, l_42, l_43, l_44, l_45, l_46, l_47, l_48, l_49, l_50, l_51, l_52, l_53, l_54, l_55, l_56, l_57, l_58, l_59, l_60, l_61, l_62, l_63, l_64, l_72, l_97, l_99, l_100, l_104, l_120, l_122, l_128, l_140, l_255, l_256, l_257, l_258, l_260, l_261, l_262, l_364, l_680, l_700, l_701, l_840, l_999, l_1023, l_1024, l_9999, l_10000, l_1000000, lm]
    simp (disch := first | (with_reducible assumption) | omega | exact ⟨by omega, by omega⟩ | ((with_reducible first | apply Wf.wI | apply Wf.wL | apply Wf.fr); (repeat (with_reducible first | assumption | apply Wf.wI | apply Wf.wL | apply Wf.fr)))) only [ck_225, gI_225, gL_225, pI_225, pZ0_225, pZ1_225, pL_225, gR_225_1, gR_225_3, gR_225_4, gR_225_5, gR_225_6, gR_225_7, gR_225_8, gR_225_9, gR_225_10, gR_225_11, gR_225_12, gR_225_13, gR_225_14, gR_225_15, gR_225_16, gR_225_17, gR_225_18, gR_225_19, gR_225_20, gR_225_21, gR_225_35, gR_225_36, gR_225_38, gR_225_39, gR_225_40, gR_225_41, gR_225_43, gR_225_44, gR_225_45, gR_225_48, gR_225_49, gR_225_50, gR_225_51, gR_225_53, gR_225_54, gR_225_55, gR_225_56, gR_225_58, gR_225_59, gR_225_60, gR_225_61, gR_225_62, gR_225_63, gR_225_66, gR_225_67, bq_s, bd_s, mp_s, rz_0, rz_1, bI_rz, zadd, zmul, zsub, le_nI, lt_nI, eq_nI, neg_nI, gen_nI, neg_lt, neg_le, neg_lt', neg_le', nI_lt0, if_true, if_false, ite_true, ite_false, reduceIte, not_true, not_false, and_true, true_and, and_false, false_and, or_true, true_or, or_false, false_or, eq_self, rI_ne, rI_eq, rL_ne, rL_eq, ah_I_wL, ah_L_wI, ah_R_wI, ah_R_wL, ah_I_wR, ah_L_wR, rR_ne, rR_eq, aI_255, aI_256, aI_257, aI_258, sI_255, sI_256, sI_257, sI_258, hm, show (140 ≤ k) = False from eq_false (by omega)]
    rw [ih (k + 1) fu _ (by omega) (by omega) (by omega) (by repeat first | assumption | apply Wf.wI) (by rw [rI_ne, rI_ne, rI_ne, rI_ne, hm] <;> omega)]
    refine congrArg _ (mI_ext rfl fun a j => ?_)
    simp only [ah_I_wI]
    (repeat' split) <;> first | exact I_cg (by omega) (by omega) | (exfalso; omega)
set_option maxRecDepth 100000 in
theorem lp_keep {n : Nat} (hn : n < 20) : ∀ m k fu (σ : ah_H), k + m = 7 → 0 ≤ k → m < fu → Wf σ → ah_I σ 225 52 = nI n → f_X12_keepNow_97 fu 225 (nI k) σ = f_X12_keepNow_189 225 (ah_mI σ (fun a j => if 255 ≤ a ∧ a ≤ 258 ∧ 7 * n + k ≤ j ∧ j < 7 * n + 7 then ah_I σ (a - 7) (j - 7 * n) else ah_I σ a j)) := by
  intro m
  induction m with
  | zero =>
    intro k fu σ hk hl hf hw hm
    obtain ⟨fu, rfl⟩ : ∃ q, fu = q + 1 := ⟨fu - 1, by omega⟩
    show f_X12_keepNow_97_b _ _ _ _ = _
    unfold f_X12_keepNow_97_b
    simp only [to_bq, l_0, l_1, l_2, l_3, l_4, l_5, l_6, l_7, l_8, l_9, l_10, l_11, l_12, l_13, l_14, l_15, l_16, l_17, l_18, l_19, l_20, l_21, l_22, l_23, l_24, l_25, l_26, l_27, l_28, l_29, l_30, l_31, l_32, l_40, l_41, l_42, l_43, l_44, l_45, l_46, l_47, l_48, l_49, l_50, l_51, l_52, l_53, l_54, l_55, l_56, l_57, l_58, l_59, l_60, l_61, l_62, l_63, l_64, l_72, l_97, l_99, l_100, l_104, l_120, l_122, l_128, l_140, l_255, l_256, l_257, l_258, l_260, l_261, l_262, l_364, l_680, l_700, l_701, l_840, l_999, l_1023, l_1024, l_9999, l_10000, l_1000000, lm]
    rw [mI_id σ (fun a j => if_neg (by omega))]
    obtain rfl : k = 7 := by omega
    simp only [Int32.le_refl, if_true, if_false, ite_true, ite_false, reduceIte, not_true, not_false, and_true, true_and, and_false, false_and, or_true, true_or, or_false, false_or, eq_self]
  | succ m ih =>
    intro k fu σ hk hl hf hw hm
    obtain ⟨fu, rfl⟩ : ∃ q, fu = q + 1 := ⟨fu - 1, by omega⟩
    show f_X12_keepNow_97_b _ _ _ _ = _
    unfold f_X12_keepNow_97_b
    simp only [to_bq, l_0, l_1, l_2, l_3, l_4, l_5, l_6, l_7, l_8, l_9, l_10, l_11, l_12, l_13, l_14, l_15, l_16, l_17, l_18, l_19, l_20, l_21, l_22, l_23, l_24, l_25, l_26, l_27, l_28, l_29, l_30, l_31, l_32, l_40, l_41, l_42, l_43, l_44, l_45, l_46, l_47, l_48, l_49, l_50, l_51, l_52, l_53, l_54, l_55, l_56, l_57, l_58, l_59, l_60, l_61, l_62, l_63, l_64, l_72, l_97, l_99, l_100, l_104, l_120, l_122, l_128, l_140, l_255, l_256, l_257, l_258, l_260, l_261, l_262, l_364, l_680, l_700, l_701, l_840, l_999, l_1023, l_1024, l_9999, l_10000, l_1000000, lm]
    simp (disch := first | (with_reducible assumption) | omega | exact ⟨by omega, by omega⟩ | ((with_reducible first | apply Wf.wI | apply Wf.wL | apply Wf.fr); (repeat (with_reducible first | assumption | apply Wf.wI | apply Wf.wL | apply Wf.fr)))) only [ck_225, gI_225, gL_225, pI_225, pZ0_225, pZ1_225, pL_225, gR_225_1, gR_225_3, gR_225_4, gR_225_5, gR_225_6, gR_225_7, gR_225_8, gR_225_9, gR_225_10, gR_225_11, gR_225_12, gR_225_13, gR_225_14, gR_225_15, gR_225_16, gR_225_17, gR_225_18, gR_225_19, gR_225_20, gR_225_21, gR_225_35, gR_225_36, gR_225_38, gR_225_39, gR_225_40, gR_225_41, gR_225_43, gR_225_44, gR_225_45, gR_225_48, gR_225_49, gR_225_50, gR_225_51, gR_225_53, gR_225_54, gR_225_55, gR_225_56, gR_225_58, gR_225_59, gR_225_60, gR_225_61, gR_225_62, gR_225_63, gR_225_66, gR_225_67, bq_s, bd_s, mp_s, rz_0, rz_1, bI_rz, zadd, zmul, zsub, le_nI, lt_nI, eq_nI, neg_nI, gen_nI, neg_lt, neg_le, neg_lt', neg_le', nI_lt0, if_true, if_false, ite_true, ite_false, reduceIte, not_true, not_false, and_true, true_and, and_false, false_and, or_true, true_or, or_false, false_or, eq_self, rI_ne, rI_eq, rL_ne, rL_eq, ah_I_wL, ah_L_wI, ah_R_wI, ah_R_wL, ah_I_wR, ah_L_wR, rR_ne, rR_eq, aI_248, aI_249, aI_250, aI_251, sI_255, sI_256, sI_257, sI_258, hm, show (7 ≤ k) = False from eq_false (by omega)]
    rw [ih (k + 1) fu _ (by omega) (by omega) (by omega) (by repeat first | assumption | apply Wf.wI) (by rw [rI_ne, rI_ne, rI_ne, rI_ne, hm] <;> omega)]
    refine congrArg _ (mI_ext rfl fun a j => ?_)
    simp only [ah_I_wI]
    (repeat' split) <;> first | exact I_cg (by omega) (by omega) | (exfalso; omega)
def Xu (a j : Nat) : Prop := 248 ≤ a ∧ a ≤ 251 ∧ j < 7
theorem lp_undo_e {n k i fu : Nat} {τ : ah_H} (hw : Wf τ) (hm : ah_I τ 225 52 = nI n) (hi : nI 7 * nI n + nI k = nI i) (hb : i < 140) (hk : k < 7) : f_X12_undo_26 (fu + 1) 225 (nI k) τ = f_X12_undo_26 fu 225 (nI (k + 1)) (ah_wI (ah_wI (ah_wI (ah_wI τ 248 k (ah_I τ 255 i)) 249 k (ah_I τ 256 i)) 250 k (ah_I τ 257 i)) 251 k (ah_I τ 258 i)) := by
  have w1 := hw.wI 248 k (ah_I τ 255 i)
  have w2 := w1.wI 249 k (ah_I τ 256 i)
  have w3 := w2.wI 250 k (ah_I τ 257 i)
  have k14 : k < 14 := by omega
  have m1 : ah_I (ah_wI τ 248 k (ah_I τ 255 i)) 225 52 = nI n := (rI_ne (Or.inl (by omega))).trans hm
  have m2 : ah_I (ah_wI (ah_wI τ 248 k (ah_I τ 255 i)) 249 k (ah_I τ 256 i)) 225 52 = nI n := (rI_ne (Or.inl (by omega))).trans m1
  have m3 : ah_I (ah_wI (ah_wI (ah_wI τ 248 k (ah_I τ 255 i)) 249 k (ah_I τ 256 i)) 250 k (ah_I τ 257 i)) 225 52 = nI n := (rI_ne (Or.inl (by omega))).trans m2
  have r1 : ah_I (ah_wI τ 248 k (ah_I τ 255 i)) 256 i = ah_I τ 256 i := rI_ne (Or.inl (by omega))
  have r2 : ah_I (ah_wI (ah_wI τ 248 k (ah_I τ 255 i)) 249 k (ah_I τ 256 i)) 257 i = ah_I τ 257 i := by rw [rI_ne (Or.inl (by omega)), rI_ne (Or.inl (by omega))]
  have r3 : ah_I (ah_wI (ah_wI (ah_wI τ 248 k (ah_I τ 255 i)) 249 k (ah_I τ 256 i)) 250 k (ah_I τ 257 i)) 258 i = ah_I τ 258 i := by rw [rI_ne (Or.inl (by omega)), rI_ne (Or.inl (by omega)), rI_ne (Or.inl (by omega))]
  show f_X12_undo_26_b _ _ _ _ = _
  unfold f_X12_undo_26_b
  simp only [to_bq, l_0, l_1, l_2, l_3, l_4, l_5, l_6, l_7, l_8, l_9, l_10, l_11, l_12, l_13, l_14, l_15, l_16, l_17, l_18, l_19, l_20, l_21, l_22, l_23, l_24, l_25, l_26, l_27, l_28, l_29, l_30, l_31, l_32, l_40, l_41, l_42, l_43, l_44, l_45, l_46, l_47, l_48, l_49, l_50, l_51, l_52, l_53, l_54, l_55, l_56, l_57, l_58, l_59, l_60, l_61, l_62, l_63, l_64, l_72, l_97, l_99, l_100, l_104, l_120, l_122, l_128, l_140, l_255, l_256, l_257, l_258, l_260, l_261, l_262, l_364, l_680, l_700, l_701, l_840, l_999, l_1023, l_1024, l_9999, l_10000, l_1000000, lm]
  rw [if_neg (by rw [le_nI (by omega) (by omega)]; omega), gR_225_38 hw, bq_s, gR_225_48 hw, bq_s, gI_225 (j := 52) hw, bq_s, hm, hi, aI_255 hw hb, bq_s, sI_248 hw k14, bq_s]
  rw [gR_225_39 w1, bq_s, gR_225_49 w1, bq_s, gI_225 (j := 52) w1, bq_s, m1, hi, aI_256 w1 hb, bq_s, r1, sI_249 w1 k14, bq_s]
  rw [gR_225_40 w2, bq_s, gR_225_50 w2, bq_s, gI_225 (j := 52) w2, bq_s, m2, hi, aI_257 w2 hb, bq_s, r2, sI_250 w2 k14, bq_s]
  rw [gR_225_41 w3, bq_s, gR_225_51 w3, bq_s, gI_225 (j := 52) w3, bq_s, m3, hi, aI_258 w3 hb, bq_s, r3, sI_251 w3 k14, bq_s, zadd]
theorem lp_undo {n : Nat} (hn : n < 20) (σ : ah_H) (hw0 : Wf σ) (hm0 : ah_I σ 225 52 = nI n) : ∀ m k fu (τ : ah_H), k + m = 7 → m < fu → Fr Xu σ τ → (∀ a j, 248 ≤ a → a ≤ 251 → j < k → ah_I τ a j = ah_I σ (a + 7) (7 * n + j)) → ∃ ρ, f_X12_undo_26 fu 225 (nI k) τ = f_X12_undo_118 225 ρ ∧ Fr Xu σ ρ ∧ ∀ a j, 248 ≤ a → a ≤ 251 → j < 7 → ah_I ρ a j = ah_I σ (a + 7) (7 * n + j) := by
  intro m
  induction m with
  | zero =>
    intro k fu τ hk hf hfr hv
    obtain ⟨fu, rfl⟩ : ∃ q, fu = q + 1 := ⟨fu - 1, by omega⟩
    obtain rfl : k = 7 := by omega
    refine ⟨τ, ?_, hfr, hv⟩
    show f_X12_undo_26_b _ _ _ _ = _
    unfold f_X12_undo_26_b
    simp only [to_bq, l_0, l_1, l_2, l_3, l_4, l_5, l_6, l_7, l_8, l_9, l_10, l_11, l_12, l_13, l_14, l_15, l_16, l_17, l_18, l_19, l_20, l_21, l_22, l_23, l_24, l_25, l_26, l_27, l_28, l_29, l_30, l_31, l_32, l_40, l_41, l_42, l_43, l_44, l_45, l_46, l_47, l_48, l_49, l_50, l_51, l_52, l_53, l_54, l_55, l_56, l_57, l_58, l_59, l_60, l_61, l_62, l_63, l_64, l_72, l_97, l_99, l_100, l_104, l_120, l_122, l_128, l_140, l_255, l_256, l_257, l_258, l_260, l_261, l_262, l_364, l_680, l_700, l_701, l_840, l_999, l_1023, l_1024, l_9999, l_10000, l_1000000, lm]
    simp only [Int32.le_refl, if_true, if_false, ite_true, ite_false, reduceIte, not_true, not_false, and_true, true_and, and_false, false_and, or_true, true_or, or_false, false_or, eq_self]
  | succ m ih =>
    intro k fu τ hk hf hfr hv
    obtain ⟨fu, rfl⟩ : ∃ q, fu = q + 1 := ⟨fu - 1, by omega⟩
    have hw : Wf τ := hw0.fr hfr
    have hm : ah_I τ 225 52 = nI n := (hfr.I (by unfold Xu; omega)).trans hm0
    have r5 : ah_I τ 255 (7 * n + k) = ah_I σ 255 (7 * n + k) := hfr.I (by unfold Xu; omega)
    have r6 : ah_I τ 256 (7 * n + k) = ah_I σ 256 (7 * n + k) := hfr.I (by unfold Xu; omega)
    have r7 : ah_I τ 257 (7 * n + k) = ah_I σ 257 (7 * n + k) := hfr.I (by unfold Xu; omega)
    have r8 : ah_I τ 258 (7 * n + k) = ah_I σ 258 (7 * n + k) := hfr.I (by unfold Xu; omega)
    have hb : 7 * n + k < 140 := by omega
    have e := lp_undo_e (fu := fu) hw hm (show nI 7 * nI n + nI k = nI (7 * n + k) by rw [zmul, zadd]) hb (show k < 7 by omega)
    rw [r5, r6, r7, r8] at e
    rw [e]
    refine ih (k + 1) fu _ (by omega) (by omega) ((((hfr.wI (by unfold Xu; omega)).wI (by unfold Xu; omega)).wI (by unfold Xu; omega)).wI (by unfold Xu; omega)) ?_
    intro a j h1 h2 h3
    by_cases q : j = k
    · subst q
      rcases (show a = 248 ∨ a = 249 ∨ a = 250 ∨ a = 251 by omega) with rfl | rfl | rfl | rfl
      · rw [rI_ne (Or.inl (by omega)), rI_ne (Or.inl (by omega)), rI_ne (Or.inl (by omega)), rI_eq]
      · rw [rI_ne (Or.inl (by omega)), rI_ne (Or.inl (by omega)), rI_eq]
      · rw [rI_ne (Or.inl (by omega)), rI_eq]
      · rw [rI_eq]
    · rw [rI_ne (Or.inr q), rI_ne (Or.inr q), rI_ne (Or.inr q), rI_ne (Or.inr q)]
      exact hv a j h1 h2 (by omega)
set_option maxRecDepth 100000 in
theorem lp_img {n : Nat} : ∀ m k fu (σ : ah_H), k + m = 7 → 0 ≤ k → m < fu → Wf σ → ah_I σ 225 52 = nI n → f_X12_keep_7 fu 225 (nI k) σ = f_X12_keep_67 225 (ah_mI σ (fun a j => if 259 ≤ a ∧ a ≤ 262 ∧ k ≤ j ∧ j < 7 then ah_I σ (a - 11) j else ah_I σ a j)) := by
  intro m
  induction m with
  | zero =>
    intro k fu σ hk hl hf hw hm
    obtain ⟨fu, rfl⟩ : ∃ q, fu = q + 1 := ⟨fu - 1, by omega⟩
    show f_X12_keep_7_b _ _ _ _ = _
    unfold f_X12_keep_7_b
    simp only [to_bq, l_0, l_1, l_2, l_3, l_4, l_5, l_6, l_7, l_8, l_9, l_10, l_11, l_12, l_13, l_14, l_15, l_16, l_17, l_18, l_19, l_20, l_21, l_22, l_23, l_24, l_25, l_26, l_27, l_28, l_29, l_30, l_31, l_32, l_40, l_41, l_42, l_43, l_44, l_45, l_46, l_47, l_48, l_49, l_50, l_51, l_52, l_53, l_54, l_55, l_56, l_57, l_58, l_59, l_60, l_61, l_62, l_63, l_64, l_72, l_97, l_99, l_100, l_104, l_120, l_122, l_128, l_140, l_255, l_256, l_257, l_258, l_260, l_261, l_262, l_364, l_680, l_700, l_701, l_840, l_999, l_1023, l_1024, l_9999, l_10000, l_1000000, lm]
    rw [mI_id σ (fun a j => if_neg (by omega))]
    obtain rfl : k = 7 := by omega
    simp only [Int32.le_refl, if_true, if_false, ite_true, ite_false, reduceIte, not_true, not_false, and_true, true_and, and_false, false_and, or_true, true_or, or_false, false_or, eq_self]
  | succ m ih =>
    intro k fu σ hk hl hf hw hm
    obtain ⟨fu, rfl⟩ : ∃ q, fu = q + 1 := ⟨fu - 1, by omega⟩
    show f_X12_keep_7_b _ _ _ _ = _
    unfold f_X12_keep_7_b
    simp only [to_bq, l_0, l_1, l_2, l_3, l_4, l_5, l_6, l_7, l_8, l_9, l_10, l_11, l_12, l_13, l_14, l_15, l_16, l_17, l_18, l_19, l_20, l_21, l_22, l_23, l_24, l_25, l_26, l_27, l_28, l_29, l_30, l_31, l_32, l_40, l_41, l_42, l_43, l_44, l_45, l_46, l_47, l_48, l_49, l_50, l_51, l_52, l_53, l_54, l_55, l_56, l_57, l_58, l_59, l_60, l_61, l_62, l_63, l_64, l_72, l_97, l_99, l_100, l_104, l_120, l_122, l_128, l_140, l_255, l_256, l_257, l_258, l_260, l_261, l_262, l_364, l_680, l_700, l_701, l_840, l_999, l_1023, l_1024, l_9999, l_10000, l_1000000, lm]
    simp (disch := first | (with_reducible assumption) | omega | exact ⟨by omega, by omega⟩ | ((with_reducible first | apply Wf.wI | apply Wf.wL | apply Wf.fr); (repeat (with_reducible first | assumption | apply Wf.wI | apply Wf.wL | apply Wf.fr)))) only [ck_225, gI_225, gL_225, pI_225, pZ0_225, pZ1_225, pL_225, gR_225_1, gR_225_3, gR_225_4, gR_225_5, gR_225_6, gR_225_7, gR_225_8, gR_225_9, gR_225_10, gR_225_11, gR_225_12, gR_225_13, gR_225_14, gR_225_15, gR_225_16, gR_225_17, gR_225_18, gR_225_19, gR_225_20, gR_225_21, gR_225_35, gR_225_36, gR_225_38, gR_225_39, gR_225_40, gR_225_41, gR_225_43, gR_225_44, gR_225_45, gR_225_48, gR_225_49, gR_225_50, gR_225_51, gR_225_53, gR_225_54, gR_225_55, gR_225_56, gR_225_58, gR_225_59, gR_225_60, gR_225_61, gR_225_62, gR_225_63, gR_225_66, gR_225_67, bq_s, bd_s, mp_s, rz_0, rz_1, bI_rz, zadd, zmul, zsub, le_nI, lt_nI, eq_nI, neg_nI, gen_nI, neg_lt, neg_le, neg_lt', neg_le', nI_lt0, if_true, if_false, ite_true, ite_false, reduceIte, not_true, not_false, and_true, true_and, and_false, false_and, or_true, true_or, or_false, false_or, eq_self, rI_ne, rI_eq, rL_ne, rL_eq, ah_I_wL, ah_L_wI, ah_R_wI, ah_R_wL, ah_I_wR, ah_L_wR, rR_ne, rR_eq, aI_248, aI_249, aI_250, aI_251, sI_259, sI_260, sI_261, sI_262, hm, show (7 ≤ k) = False from eq_false (by omega)]
    rw [ih (k + 1) fu _ (by omega) (by omega) (by omega) (by repeat first | assumption | apply Wf.wI) (by rw [rI_ne, rI_ne, rI_ne, rI_ne, hm] <;> omega)]
    refine congrArg _ (mI_ext rfl fun a j => ?_)
    simp only [ah_I_wI]
    (repeat' split) <;> first | exact I_cg (by omega) (by omega) | (exfalso; omega)
set_option maxRecDepth 100000 in
theorem lp_back {n : Nat} : ∀ m k fu (σ : ah_H), k + m = 7 → 0 ≤ k → m < fu → Wf σ → ah_I σ 225 52 = nI n → f_X12_back_16 fu 225 (nI k) σ = f_X12_back_76 225 (ah_mI σ (fun a j => if 248 ≤ a ∧ a ≤ 251 ∧ k ≤ j ∧ j < 7 then ah_I σ (a + 11) j else ah_I σ a j)) := by
  intro m
  induction m with
  | zero =>
    intro k fu σ hk hl hf hw hm
    obtain ⟨fu, rfl⟩ : ∃ q, fu = q + 1 := ⟨fu - 1, by omega⟩
    show f_X12_back_16_b _ _ _ _ = _
    unfold f_X12_back_16_b
    simp only [to_bq, l_0, l_1, l_2, l_3, l_4, l_5, l_6, l_7, l_8, l_9, l_10, l_11, l_12, l_13, l_14, l_15, l_16, l_17, l_18, l_19, l_20, l_21, l_22, l_23, l_24, l_25, l_26, l_27, l_28, l_29, l_30, l_31, l_32, l_40, l_41, l_42, l_43, l_44, l_45, l_46, l_47, l_48, l_49, l_50, l_51, l_52, l_53, l_54, l_55, l_56, l_57, l_58, l_59, l_60, l_61, l_62, l_63, l_64, l_72, l_97, l_99, l_100, l_104, l_120, l_122, l_128, l_140, l_255, l_256, l_257, l_258, l_260, l_261, l_262, l_364, l_680, l_700, l_701, l_840, l_999, l_1023, l_1024, l_9999, l_10000, l_1000000, lm]
    rw [mI_id σ (fun a j => if_neg (by omega))]
    obtain rfl : k = 7 := by omega
    simp only [Int32.le_refl, if_true, if_false, ite_true, ite_false, reduceIte, not_true, not_false, and_true, true_and, and_false, false_and, or_true, true_or, or_false, false_or, eq_self]
  | succ m ih =>
    intro k fu σ hk hl hf hw hm
    obtain ⟨fu, rfl⟩ : ∃ q, fu = q + 1 := ⟨fu - 1, by omega⟩
    show f_X12_back_16_b _ _ _ _ = _
    unfold f_X12_back_16_b
    simp only [to_bq, l_0, l_1, l_2, l_3, l_4, l_5, l_6, l_7, l_8, l_9, l_10, l_11, l_12, l_13, l_14, l_15, l_16, l_17, l_18, l_19, l_20, l_21, l_22, l_23, l_24, l_25, l_26, l_27, l_28, l_29, l_30, l_31, l_32, l_40, l_41, l_42, l_43, l_44, l_45, l_46, l_47, l_48, l_49, l_50, l_51, l_52, l_53, l_54, l_55, l_56, l_57, l_58, l_59, l_60, l_61, l_62, l_63, l_64, l_72, l_97, l_99, l_100, l_104, l_120, l_122, l_128, l_140, l_255, l_256, l_257, l_258, l_260, l_261, l_262, l_364, l_680, l_700, l_701, l_840, l_999, l_1023, l_1024, l_9999, l_10000, l_1000000, lm]
    simp (disch := first | (with_reducible assumption) | omega | exact ⟨by omega, by omega⟩ | ((with_reducible first | apply Wf.wI | apply Wf.wL | apply Wf.fr); (repeat (with_reducible first | assumption | apply Wf.wI | apply Wf.wL | apply Wf.fr)))) only [ck_225, gI_225, gL_225, pI_225, pZ0_225, pZ1_225, pL_225, gR_225_1, gR_225_3, gR_225_4, gR_225_5, gR_225_6, gR_225_7, gR_225_8, gR_225_9, gR_225_10, gR_225_11, gR_225_12, gR_225_13, gR_225_14, gR_225_15, gR_225_16, gR_225_17, gR_225_18, gR_225_19, gR_225_20, gR_225_21, gR_225_35, gR_225_36, gR_225_38, gR_225_39, gR_225_40, gR_225_41, gR_225_43, gR_225_44, gR_225_45, gR_225_48, gR_225_49, gR_225_50, gR_225_51, gR_225_53, gR_225_54, gR_225_55, gR_225_56, gR_225_58, gR_225_59, gR_225_60, gR_225_61, gR_225_62, gR_225_63, gR_225_66, gR_225_67, bq_s, bd_s, mp_s, rz_0, rz_1, bI_rz, zadd, zmul, zsub, le_nI, lt_nI, eq_nI, neg_nI, gen_nI, neg_lt, neg_le, neg_lt', neg_le', nI_lt0, if_true, if_false, ite_true, ite_false, reduceIte, not_true, not_false, and_true, true_and, and_false, false_and, or_true, true_or, or_false, false_or, eq_self, rI_ne, rI_eq, rL_ne, rL_eq, ah_I_wL, ah_L_wI, ah_R_wI, ah_R_wL, ah_I_wR, ah_L_wR, rR_ne, rR_eq, aI_259, aI_260, aI_261, aI_262, sI_248, sI_249, sI_250, sI_251, hm, show (7 ≤ k) = False from eq_false (by omega)]
    rw [ih (k + 1) fu _ (by omega) (by omega) (by omega) (by repeat first | assumption | apply Wf.wI) (by rw [rI_ne, rI_ne, rI_ne, rI_ne, hm] <;> omega)]
    refine congrArg _ (mI_ext rfl fun a j => ?_)
    simp only [ah_I_wI]
    (repeat' split) <;> first | exact I_cg (by omega) (by omega) | (exfalso; omega)

/-- what the town says depends on the town's cells alone -/
theorem stps_congr {D D' : DD} (h1 : D' 244 = D 244) (h2 : D' 245 = D 245) : ∀ k i n, stps D' i k n = stps D i k n := by
  intro k
  induction k with
  | zero => intro i n; rfl
  | succ k ih =>
    intro i n
    show (stp (D' 244 i) (D' 245 i) n).bind _ = (stp (D 244 i) (D 245 i) n).bind _
    rw [h1, h2]
    congr 1
    exact funext fun x => ih (i + 1) x
theorem MT.congr {D D' : DD} (h : MT D) (e : ∀ a, 227 ≤ a → a ≤ 245 → D' a = D a) : MT D' := by
  have e0 := e 227 (by omega) (by omega)
  have e1 := e 228 (by omega) (by omega)
  have e2 := e 229 (by omega) (by omega)
  have e3 := e 230 (by omega) (by omega)
  have e4 := e 231 (by omega) (by omega)
  have e5 := e 232 (by omega) (by omega)
  have e6 := e 233 (by omega) (by omega)
  have e7 := e 234 (by omega) (by omega)
  have e8 := e 235 (by omega) (by omega)
  have e9 := e 236 (by omega) (by omega)
  have e10 := e 237 (by omega) (by omega)
  have e11 := e 238 (by omega) (by omega)
  have e12 := e 240 (by omega) (by omega)
  have e13 := e 241 (by omega) (by omega)
  have e14 := e 242 (by omega) (by omega)
  have e15 := e 243 (by omega) (by omega)
  have e16 := e 244 (by omega) (by omega)
  have e17 := e 245 (by omega) (by omega)
  unfold MT MB1 MBc MBs MBp MBr LawOK nC nS nP nR lf mf lc mc nK sA sB len wid rnh at *
  simp only [stps_congr e16 e17, e0, e1, e2, e3, e4, e5, e6, e7, e8, e9, e10, e11, e12, e13, e14, e15, e16, e17]
  exact h
theorem NetOK.congr {D D' : DD} {st pi a b : Nat → Int32} (h : NetOK D st pi a b) (e0 : D' 227 = D 227) (e5 : D' 232 = D 232) (e6 : D' 233 = D 233) : NetOK D' st pi a b := by
  unfold NetOK nC nS nP sA sB at *
  simp only [e0, e5, e6]
  exact h
theorem NetOK.to {D : DD} {st pi a b st' pi' a' b' : Nat → Int32} (h : NetOK D st pi a b) (e1 : ∀ c, c < 7 → st' c = st c) (e2 : ∀ c, c < 7 → pi' c = pi c) (e3 : ∀ c, c < 7 → a' c = a c) (e4 : ∀ c, c < 7 → b' c = b c) : NetOK D st' pi' a' b' := by
  intro c hc
  rw [e1 c hc, e2 c hc, e3 c hc, e4 c hc]
  exact h c hc
/-- the town and the tape are the same -/
def SameT (D' D : DD) : Prop := ∀ a, 226 ≤ a → a ≤ 245 → D' a = D a
def dKeep (D : DD) : DD := fun a j => if a = 225 ∧ j = 52 then nI (if km D = 20 then 20 else km D + 1) else if 255 ≤ a ∧ a ≤ 258 then (if km D = 20 then (if 133 ≤ j ∧ j < 140 then D (a - 7) (j - 133) else if j < 133 then D a (j + 7) else D a j) else (if 7 * km D ≤ j ∧ j < 7 * km D + 7 then D (a - 7) (j - 7 * km D) else D a j)) else D a j
theorem dKeep_t (D : DD) : SameT (dKeep D) D := by
  intro a h1 h2; funext j; unfold dKeep; rw [if_neg (by omega), if_neg (by omega)]
theorem dKeep_o (D : DD) {a j : Nat} (h : ¬ (a = 225 ∧ j = 52) ∧ ¬ (255 ≤ a ∧ a ≤ 258)) : dKeep D a j = D a j := by
  unfold dKeep; rw [if_neg h.1, if_neg h.2]
section
variable {σ : ah_H} {D : DD}
theorem SameT.mt {D' : DD} (e : SameT D' D) (h : MT D) : MT D' := h.congr (fun a h1 h2 => e a (by omega) h2)
theorem SameT.net {D' : DD} (e : SameT D' D) {st pi a b : Nat → Int32} (h : NetOK D st pi a b) : NetOK D' st pi a b := h.congr (e 227 (by omega) (by omega)) (e 232 (by omega) (by omega)) (e 233 (by omega) (by omega))
theorem MN.qkm (h : MN D) : D 225 52 = nI (km D) := h.2.1.1
theorem MN.qk20 (h : MN D) : km D ≤ 20 := h.2.1.2
theorem dKeep_km (h : MN D) : km (dKeep D) = if km D = 20 then 20 else km D + 1 := by
  have := h.qk20
  show ix (dKeep D 225 52) = _
  unfold dKeep
  rw [if_pos ⟨rfl, rfl⟩]
  exact ix_nI (by split <;> omega)
theorem dKeep_n (h : MN D) : MN (dKeep D) := by
  have h20 := h.qk20
  have hk := dKeep_km h
  have hT := dKeep_t D
  have row : ∀ i, i < km (dKeep D) → ∃ st pi a b, NetOK D st pi a b ∧ ∀ c, c < 7 → dKeep D 255 (7 * i + c) = st c ∧ dKeep D 256 (7 * i + c) = pi c ∧ dKeep D 257 (7 * i + c) = a c ∧ dKeep D 258 (7 * i + c) = b c := by
    intro i hi
    rw [hk] at hi
    by_cases q : km D = 20
    · rw [if_pos q] at hi
      by_cases q1 : i = 19
      · subst q1
        refine ⟨_, _, _, _, h.1, fun c hc => ?_⟩
        have e : ∀ x, 255 ≤ x → x ≤ 258 → dKeep D x (7 * 19 + c) = D (x - 7) c := by
          intro x h1 h2
          unfold dKeep
          rw [if_neg (by omega), if_pos ⟨h1, h2⟩, if_pos q, if_pos (by omega), show 7 * 19 + c - 133 = c by omega]
        exact ⟨e 255 (by omega) (by omega), e 256 (by omega) (by omega), e 257 (by omega) (by omega), e 258 (by omega) (by omega)⟩
      · refine ⟨_, _, _, _, h.2.2.1 (i + 1) (by omega), fun c hc => ?_⟩
        have e : ∀ x, 255 ≤ x → x ≤ 258 → dKeep D x (7 * i + c) = D x (7 * (i + 1) + c) := by
          intro x h1 h2
          unfold dKeep
          rw [if_neg (by omega), if_pos ⟨h1, h2⟩, if_pos q, if_neg (by omega), if_pos (by omega), show 7 * i + c + 7 = 7 * (i + 1) + c by omega]
        exact ⟨e 255 (by omega) (by omega), e 256 (by omega) (by omega), e 257 (by omega) (by omega), e 258 (by omega) (by omega)⟩
    · rw [if_neg q] at hi
      by_cases q1 : i = km D
      · subst q1
        refine ⟨_, _, _, _, h.1, fun c hc => ?_⟩
        have e : ∀ x, 255 ≤ x → x ≤ 258 → dKeep D x (7 * km D + c) = D (x - 7) c := by
          intro x h1 h2
          unfold dKeep
          rw [if_neg (by omega), if_pos ⟨h1, h2⟩, if_neg q, if_pos (by omega), show 7 * km D + c - 7 * km D = c by omega]
        exact ⟨e 255 (by omega) (by omega), e 256 (by omega) (by omega), e 257 (by omega) (by omega), e 258 (by omega) (by omega)⟩
      · refine ⟨_, _, _, _, h.2.2.1 i (by omega), fun c hc => ?_⟩
        have e : ∀ x, 255 ≤ x → x ≤ 258 → dKeep D x (7 * i + c) = D x (7 * i + c) := by
          intro x h1 h2
          unfold dKeep
          rw [if_neg (by omega), if_pos ⟨h1, h2⟩, if_neg q, if_neg (by omega)]
        exact ⟨e 255 (by omega) (by omega), e 256 (by omega) (by omega), e 257 (by omega) (by omega), e 258 (by omega) (by omega)⟩
  have o : ∀ a, 226 ≤ a → a < 255 ∨ 258 < a → dKeep D a = D a := fun a h1 h2 => funext fun j => dKeep_o D (by omega)
  refine ⟨?_, ?_, ?_, ?_, ?_⟩
  · rw [o 248 (by omega) (by omega), o 249 (by omega) (by omega), o 250 (by omega) (by omega), o 251 (by omega) (by omega)]
    exact hT.net h.1
  · show Nn (dKeep D 225 52) 20
    unfold dKeep
    rw [if_pos ⟨rfl, rfl⟩]
    exact Nn.mk (by split <;> omega) (by omega)
  · intro i hi
    obtain ⟨st, pi, a, b, h1, h2⟩ := row i hi
    exact hT.net (h1.to (fun c hc => (h2 c hc).1) (fun c hc => (h2 c hc).2.1) (fun c hc => (h2 c hc).2.2.1) (fun c hc => (h2 c hc).2.2.2))
  · rw [dKeep_o D (by omega)]; exact h.2.2.2.1
  · rw [dKeep_o D (by omega), o 259 (by omega) (by omega), o 260 (by omega) (by omega), o 261 (by omega) (by omega), o 262 (by omega) (by omega)]
    exact fun q => hT.net (h.2.2.2.2 q)
end
