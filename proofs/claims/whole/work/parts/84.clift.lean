/-! THE CLASS: lifts are priced -/
def Xpl (t a j : Nat) : Prop := Xl t a j ∨ a = 187
section
variable {σ : ah_H} {t : Nat} {D : DD} {st : Nat → Option Nat} {c n : Nat}
theorem c_pl2 (h0 : TR σ t D) (hp0 : ah_R σ 163 17 = some t) (hc : c < nC D) (hn : n ≤ 7) (hn0 : n ≠ 0) (h8 : ah_I σ 163 8 = nI n) (hfp : ah_R σ 201 8 = some t) (hFD : FD σ 201 D st cpM c) (hsn : st c ≠ none) (hX : ∀ a j, Xl t a j → t ≤ a ∧ a < t + 40) (hT : ∀ τ, Fr (Xpl t) σ τ → TR τ t D) : ∀ i l fu τ, l + i = 13 → i < fu → 1 ≤ l → Fr (Xpl t) σ τ → (∀ k, 1 ≤ k → k < l → ah_L τ 187 k = iL (pumpv D k (gq D st c))) → ∃ τ', f_X0_priceLifts_2 fu 163 (nI c) (nI l) τ = some τ' ∧ Fr (Xpl t) σ τ' ∧ ∀ k, 1 ≤ k → k < 13 → ah_L τ' 187 k = iL (pumpv D k (gq D st c)) := by
  have htn := h0.tn
  have b7 := h0.t.qc7
  have hgb := gmx_b (st := st) (cp := plain) h0.t hc
  have hno : ∀ a j, 81 < a → a ≠ 187 → ¬ Xpl t a j := fun a j z1 z2 z => z.elim (fun z => by have := hX a j z; rcases htn with y | y <;> omega) z2
  intro i
  induction i with
  | zero =>
    intro l fu τ hl hf h1 gf hr
    obtain ⟨fu, rfl⟩ : ∃ q, fu = q + 1 := ⟨fu - 1, by omega⟩
    refine ⟨τ, ?_, gf, fun k z1 z2 => hr k z1 (by omega)⟩
    show f_X0_priceLifts_2_b _ _ _ _ _ = _
    unfold f_X0_priceLifts_2_b
    simp only [to_bq, l_0, l_1, l_2, l_3, l_4, l_5, l_6, l_7, l_8, l_9, l_10, l_11, l_12, l_13, l_14, l_15, l_16, l_17, l_18, l_19, l_20, l_21, l_22, l_23, l_24, l_25, l_26, l_27, l_28, l_29, l_30, l_31, l_32, l_40, l_41, l_42, l_43, l_44, l_45, l_46, l_47, l_48, l_49, l_50, l_51, l_52, l_53, l_54, l_55, l_56, l_57, l_58, l_59, l_60, l_61, l_62, l_63, l_64, l_72, l_97, l_99, l_100, l_104, l_120, l_122, l_128, l_140, l_255, l_256, l_257, l_258, l_260, l_261, l_262, l_364, l_680, l_700, l_701, l_840, l_999, l_1023, l_1024, l_9999, l_10000, l_1000000, lm]
    rw [if_pos (by rw [le_nI (by omega) (by omega)]; omega)]
  | succ i ih =>
    intro l fu τ hl hf h1 gf hr
    obtain ⟨fu, rfl⟩ : ∃ q, fu = q + 1 := ⟨fu - 1, by omega⟩
    have h := hT τ gf
    have hW := h.w
    have hpp : ah_R τ 163 17 = some t := by rw [gf.R (Or.inr (hno _ _ (by omega) (by omega)))]; exact hp0
    have hpf : ah_R τ 201 8 = some t := by rw [gf.R (Or.inr (hno _ _ (by omega) (by omega)))]; exact hfp
    have h8' : ah_I τ 163 8 = nI n := by rw [gf.I (hno _ _ (by omega) (by omega))]; exact h8
    have hFD' : FD τ 201 D st cpM c := ⟨fun j hj => by rw [gf.L (hno _ _ (by omega) (by omega))]; exact hFD.1 j hj, by rw [gf.I (hno _ _ (by omega) (by omega))]; exact hFD.2.1, fun z r u hr hu => by rw [gf.L (hno _ _ (by omega) (by omega))]; exact hFD.2.2 z r u hr hu⟩
    have egr : f_X1_greatest 201 (nI c) τ = some (iL (gq D st c), τ) := by
      rw [c_greatest h Fl_201 hpf hc hFD', gwt_gm h.t hc hsn]; rfl
    obtain ⟨⟨r1, r2⟩, e1, e2, e3⟩ := c_pumps h (l := l) (f := gq D st c) (by omega) (by omega) (by unfold gq; omega) (by unfold gq; omega)
    have e2 : r1 = iL (pumpv D l (gq D st c)) := e2
    have e3 : Fr (Xl t) τ r2 := e3
    have g2 : Fr (Xpl t) σ r2 := gf.trans (e3.mono (fun a j z => Or.inl z))
    have hW2 := (hT r2 g2).w
    have he : f_X0_priceLifts_2 (fu + 1) 163 (nI c) (nI l) τ = f_X0_priceLifts_2 fu 163 (nI c) (nI (l + 1)) (ah_wL r2 187 l (iL (pumpv D l (gq D st c)))) := by
      show f_X0_priceLifts_2_b _ _ _ _ _ = _
      unfold f_X0_priceLifts_2_b
      simp only [to_bq, l_0, l_1, l_2, l_3, l_4, l_5, l_6, l_7, l_8, l_9, l_10, l_11, l_12, l_13, l_14, l_15, l_16, l_17, l_18, l_19, l_20, l_21, l_22, l_23, l_24, l_25, l_26, l_27, l_28, l_29, l_30, l_31, l_32, l_40, l_41, l_42, l_43, l_44, l_45, l_46, l_47, l_48, l_49, l_50, l_51, l_52, l_53, l_54, l_55, l_56, l_57, l_58, l_59, l_60, l_61, l_62, l_63, l_64, l_72, l_97, l_99, l_100, l_104, l_120, l_122, l_128, l_140, l_255, l_256, l_257, l_258, l_260, l_261, l_262, l_364, l_680, l_700, l_701, l_840, l_999, l_1023, l_1024, l_9999, l_10000, l_1000000, lm]
      rw [e2] at e1
      rw [if_neg (by rw [le_nI (by omega) (by omega)]; omega)]
      simp (disch := first | (with_reducible assumption) | omega | exact ⟨by omega, by omega⟩ | ((with_reducible first | apply Wf.wI | apply Wf.wL | apply Wf.fL | apply Wf.fI | apply Wf.fr); (repeat (with_reducible first | assumption | apply Wf.wI | apply Wf.wL | apply Wf.fL | apply Wf.fI | apply Wf.fr)))) only [ck_163, gI_163, gL_163, pI_163, pZ0_163, pZ1_163, pL_163, gR_163_1, gR_163_2, gR_163_3, gR_163_5, gR_163_6, gR_163_7, gR_163_9, gR_163_10, gR_163_11, gR_163_12, gR_163_13, gR_163_14, gR_163_15, pR_163_17, gR_163_17, ck_t, gI_t, gL_t, pI_t, pZ0_t, pZ1_t, pL_t, ck_w, gI_w, gL_w, pI_w, pZ0_w, pZ1_w, pL_w, gR_t_1, gR_t_5, gR_t_7, gR_t_9, gR_t_10, gR_t_11, gR_t_12, gR_t_15, gR_w_2, gR_w_3, gR_w_4, gR_w_5, gR_w_6, gR_w_7, aR_crow, aR_srow, aR_prow, aR_rrow, aI_crow, sI_crow, len_crow, aI_srow, sI_srow, len_srow, aI_prow, sI_prow, len_prow, aI_rrow, sI_rrow, len_rrow, aI_t25, sI_t25, len_t25, aI_t31, sI_t31, len_t31, aI_t32, sI_t32, len_t32, aI_t34, sI_t34, len_t34, aI_t35, sI_t35, len_t35, aI_t36, sI_t36, len_t36, aI_t37, sI_t37, len_t37, aL_t38, sL_t38, len_t38, aL_t39, sL_t39, len_t39, bq_n, bd_s, mp_s, rz_0, rz_1, bI_rz, zadd, zmul, zsub, le_nI, lt_nI, eq_nI, neg_nI, gen_nI, neg_lt, neg_le, neg_lt', neg_le', nI_lt0, if_true, if_false, ite_true, ite_false, reduceIte, not_true, not_false, and_true, true_and, and_false, false_and, or_true, true_or, or_false, false_or, eq_self, h8', show (n ≤ 0) = False from eq_false (by omega), hpp, egr, e1, aL_187, sL_187, len_187]
    rw [he]
    refine ih (l + 1) fu _ (by omega) (by omega) (by omega) (g2.wL (Or.inr rfl)) (fun k z1 z2 => ?_)
    by_cases q : k = l
    · rw [q, rL_eq]
    · rw [rL_ne (by omega), e3.L (fun z => by have := hX _ _ z; rcases htn with y | y <;> omega)]
      exact hr k z1 (by omega)
theorem c_priceLifts (h : TR σ t D) (hp : ah_R σ 163 17 = some t) (hc : c < nC D) (hn : n ≤ 7) (h8 : ah_I σ 163 8 = nI n) (hfp : ah_R σ 201 8 = some t) (hFD : FD σ 201 D st cpM c) (hsn : st c ≠ none) : ∃ τ, f_X0_priceLifts 163 (nI c) σ = some τ ∧ Fr (Xpl t) σ τ ∧ (n ≠ 0 → ∀ k, 1 ≤ k → k < 13 → ah_L τ 187 k = iL (pumpv D k (gq D st c))) := by
  have htn := h.tn
  have hW := h.w
  by_cases q : n = 0
  · refine ⟨σ, ?_, Fr.rfl, fun z => absurd q z⟩
    unfold f_X0_priceLifts f_X0_priceLifts_0
    rw [ck_163 hW]
    show f_X0_priceLifts_2_b (f_X0_priceLifts_2 4999) _ _ _ _ = _
    unfold f_X0_priceLifts_2_b
    simp only [to_bq, l_0, l_1, l_2, l_3, l_4, l_5, l_6, l_7, l_8, l_9, l_10, l_11, l_12, l_13, l_14, l_15, l_16, l_17, l_18, l_19, l_20, l_21, l_22, l_23, l_24, l_25, l_26, l_27, l_28, l_29, l_30, l_31, l_32, l_40, l_41, l_42, l_43, l_44, l_45, l_46, l_47, l_48, l_49, l_50, l_51, l_52, l_53, l_54, l_55, l_56, l_57, l_58, l_59, l_60, l_61, l_62, l_63, l_64, l_72, l_97, l_99, l_100, l_104, l_120, l_122, l_128, l_140, l_255, l_256, l_257, l_258, l_260, l_261, l_262, l_364, l_680, l_700, l_701, l_840, l_999, l_1023, l_1024, l_9999, l_10000, l_1000000, lm]
    rw [if_neg (by decide)]
    simp (disch := first | (with_reducible assumption) | omega | exact ⟨by omega, by omega⟩ | ((with_reducible first | apply Wf.wI | apply Wf.wL | apply Wf.fL | apply Wf.fI | apply Wf.fr); (repeat (with_reducible first | assumption | apply Wf.wI | apply Wf.wL | apply Wf.fL | apply Wf.fI | apply Wf.fr)))) only [ck_163, gI_163, gL_163, pI_163, pZ0_163, pZ1_163, pL_163, gR_163_1, gR_163_2, gR_163_3, gR_163_5, gR_163_6, gR_163_7, gR_163_9, gR_163_10, gR_163_11, gR_163_12, gR_163_13, gR_163_14, gR_163_15, pR_163_17, gR_163_17, bq_n, bd_s, mp_s, rz_0, rz_1, bI_rz, zadd, zmul, zsub, le_nI, lt_nI, eq_nI, neg_nI, gen_nI, neg_lt, neg_le, neg_lt', neg_le', nI_lt0, if_true, if_false, ite_true, ite_false, reduceIte, not_true, not_false, and_true, true_and, and_false, false_and, or_true, true_or, or_false, false_or, eq_self, h8, show (n ≤ 0) = True from eq_true (by omega)]
  · obtain ⟨τ, e1, e2, e3⟩ := c_pl2 h hp hc hn q h8 hfp hFD hsn (fun a j z => by unfold Xl at z; omega) (fun τ gf => h.fr gf (fun a j z1 z2 => by unfold Xpl Xl; rcases htn with y | y <;> omega)) 12 1 5000 σ (by omega) (by omega) (by omega) Fr.rfl (fun k z1 z2 => by omega)
    refine ⟨τ, ?_, e2, fun _ => e3⟩
    unfold f_X0_priceLifts f_X0_priceLifts_0
    rw [ck_163 hW]
    exact e1
end
