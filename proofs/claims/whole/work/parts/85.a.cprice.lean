/-! THE CLASS: laws are worked out ahead -/
def Xpr (t a j : Nat) : Prop := Xl t a j ∨ 189 ≤ a ∧ a < 201 ∨ a = 163 ∧ j = 16
section
variable {σ : ah_H} {t : Nat} {D : DD} {w c : Nat}
theorem Xpr_tr {τ : ah_H} (h : TR σ t D) (hp : ah_R σ 163 17 = some t) (g : Fr (Xpr t) σ τ) : TR τ t D ∧ ah_R τ 163 17 = some t := by
  have htn := h.tn
  refine ⟨h.fr g (fun a j z1 z2 => by unfold Xpr Xl; rcases htn with y | y <;> omega), ?_⟩
  rw [g.R (Or.inr (by unfold Xpr Xl; rcases htn with y | y <;> omega))]
  exact hp
/-- as far as width w -/
def PrW (τ : ah_H) (D : DD) (w : Nat) : Prop := (∀ v, v < w → ∀ f, lf D ≤ f → f ≤ mf D → ah_L τ (197 + v) f = iL (carv D (wid D v) (f : Int))) ∧ ∀ o, o < nC D → ∀ v, v < w → ∀ d, lc D ≤ d → d ≤ mc D → ah_L τ (189 + o) (v * 13 + d) = iL (digv D (wid D v) d (d - rck D o))
def PrF (τ : ah_H) (D : DD) (w k : Nat) : Prop := ∀ f, lf D ≤ f → f < k → ah_L τ (197 + w) f = iL (carv D (wid D w) (f : Int))
def PrD (τ : ah_H) (D : DD) (w c k : Nat) : Prop := ∀ o, o < nC D → ∀ d, lc D ≤ d → d ≤ mc D → (o < c ∨ o = c ∧ d < k) → ah_L τ (189 + o) (w * 13 + d) = iL (digv D (wid D w) d (d - rck D o))
theorem c_pr40 {K7 : Nat → Int32 → ah_H → Option (ah_H)} (h0 : TR σ t D) (hp0 : ah_R σ 163 17 = some t) (hw : w < nP D) : ∀ i k fu τ, k + i = mf D + 1 → i < fu → lf D ≤ k → Fr (Xpr t) σ τ → PrW τ D w → PrF τ D w k → ∃ τ', f_X0_price_40 K7 fu 163 (nI w) (nI (wid D w)) (nI k) τ = f_X0_price_85 K7 163 (nI w) (nI (wid D w)) τ' ∧ Fr (Xpr t) σ τ' ∧ PrW τ' D w ∧ PrF τ' D w (mf D + 1) := by
  have htn := h0.tn
  have b4 := h0.t.qp4
  have b7 := h0.t.qc7
  have bmf := h0.t.qmf99
  have bw := h0.t.qwid99 hw
  intro i
  induction i with
  | zero =>
    intro k fu τ hk hf hl gf h1 h2
    obtain ⟨fu, rfl⟩ : ∃ q, fu = q + 1 := ⟨fu - 1, by omega⟩
    obtain ⟨h, hp⟩ := Xpr_tr h0 hp0 gf
    have hW := h.w
    refine ⟨τ, ?_, gf, h1, by rw [← show k = mf D + 1 by omega]; exact h2⟩
    show f_X0_price_40_b _ _ _ _ _ _ _ = _
    unfold f_X0_price_40_b
    simp only [to_bq, l_0, l_1, l_2, l_3, l_4, l_5, l_6, l_7, l_8, l_9, l_10, l_11, l_12, l_13, l_14, l_15, l_16, l_17, l_18, l_19, l_20, l_21, l_22, l_23, l_24, l_25, l_26, l_27, l_28, l_29, l_30, l_31, l_32, l_40, l_41, l_42, l_43, l_44, l_45, l_46, l_47, l_48, l_49, l_50, l_51, l_52, l_53, l_54, l_55, l_56, l_57, l_58, l_59, l_60, l_61, l_62, l_63, l_64, l_72, l_97, l_99, l_100, l_104, l_120, l_122, l_128, l_140, l_255, l_256, l_257, l_258, l_260, l_261, l_262, l_364, l_680, l_700, l_701, l_840, l_999, l_1023, l_1024, l_9999, l_10000, l_1000000, lm]
    simp (disch := first | (with_reducible assumption) | omega | exact ⟨by omega, by omega⟩ | ((with_reducible first | apply Wf.wI | apply Wf.wL | apply Wf.fL | apply Wf.fI | apply Wf.fr); (repeat (with_reducible first | assumption | apply Wf.wI | apply Wf.wL | apply Wf.fL | apply Wf.fI | apply Wf.fr)))) only [ck_163, gI_163, gL_163, pI_163, pZ0_163, pZ1_163, pL_163, gR_163_1, gR_163_2, gR_163_3, gR_163_5, gR_163_6, gR_163_7, gR_163_9, gR_163_10, gR_163_11, gR_163_12, gR_163_13, gR_163_14, gR_163_15, pR_163_17, gR_163_17, ck_t, gI_t, gL_t, pI_t, pZ0_t, pZ1_t, pL_t, ck_w, gI_w, gL_w, pI_w, pZ0_w, pZ1_w, pL_w, gR_t_1, gR_t_5, gR_t_7, gR_t_9, gR_t_10, gR_t_11, gR_t_12, gR_t_15, gR_w_2, gR_w_3, gR_w_4, gR_w_5, gR_w_6, gR_w_7, aR_crow, aR_srow, aR_prow, aR_rrow, aI_crow, sI_crow, len_crow, aI_srow, sI_srow, len_srow, aI_prow, sI_prow, len_prow, aI_rrow, sI_rrow, len_rrow, aI_t25, sI_t25, len_t25, aI_t31, sI_t31, len_t31, aI_t32, sI_t32, len_t32, aI_t34, sI_t34, len_t34, aI_t35, sI_t35, len_t35, aI_t36, sI_t36, len_t36, aI_t37, sI_t37, len_t37, aL_t38, sL_t38, len_t38, aL_t39, sL_t39, len_t39, bq_n, bd_s, mp_s, rz_0, rz_1, bI_rz, zadd, zmul, zsub, le_nI, lt_nI, eq_nI, neg_nI, gen_nI, neg_lt, neg_le, neg_lt', neg_le', nI_lt0, if_true, if_false, ite_true, ite_false, reduceIte, not_true, not_false, and_true, true_and, and_false, false_and, or_true, true_or, or_false, false_or, eq_self, hp, tr_mf h, show (mf D < k) = True from eq_true (by omega)]
  | succ i ih =>
    intro k fu τ hk hf hl gf h1 h2
    obtain ⟨fu, rfl⟩ : ∃ q, fu = q + 1 := ⟨fu - 1, by omega⟩
    obtain ⟨h, hp⟩ := Xpr_tr h0 hp0 gf
    have hW := h.w
    obtain ⟨⟨r1, r2⟩, e1, e2, e3⟩ := c_carried h (w := wid D w) (f := (k : Int)) bw ⟨by omega, by omega⟩
    have e2 : r1 = iL (carv D (wid D w) (k : Int)) := e2
    have e3 : Fr (Xl t) τ r2 := e3
    have g2 : Fr (Xpr t) σ r2 := gf.trans (e3.mono (fun a j z => Or.inl z))
    have hW2 := (Xpr_tr h0 hp0 g2).1.w
    have hno : ∀ a j, 189 ≤ a → ah_L r2 a j = ah_L τ a j := fun a j z => e3.L (by unfold Xl; rcases htn with y | y <;> omega)
    have he : f_X0_price_40 K7 (fu + 1) 163 (nI w) (nI (wid D w)) (nI k) τ = f_X0_price_40 K7 fu 163 (nI w) (nI (wid D w)) (nI (k + 1)) (ah_wL r2 (197 + w) k (iL (carv D (wid D w) (k : Int)))) := by
      show f_X0_price_40_b _ _ _ _ _ _ _ = _
      unfold f_X0_price_40_b
      simp only [to_bq, l_0, l_1, l_2, l_3, l_4, l_5, l_6, l_7, l_8, l_9, l_10, l_11, l_12, l_13, l_14, l_15, l_16, l_17, l_18, l_19, l_20, l_21, l_22, l_23, l_24, l_25, l_26, l_27, l_28, l_29, l_30, l_31, l_32, l_40, l_41, l_42, l_43, l_44, l_45, l_46, l_47, l_48, l_49, l_50, l_51, l_52, l_53, l_54, l_55, l_56, l_57, l_58, l_59, l_60, l_61, l_62, l_63, l_64, l_72, l_97, l_99, l_100, l_104, l_120, l_122, l_128, l_140, l_255, l_256, l_257, l_258, l_260, l_261, l_262, l_364, l_680, l_700, l_701, l_840, l_999, l_1023, l_1024, l_9999, l_10000, l_1000000, lm]
      rw [e2, ← jI_n k] at e1
      simp (disch := first | (with_reducible assumption) | omega | exact ⟨by omega, by omega⟩ | ((with_reducible first | apply Wf.wI | apply Wf.wL | apply Wf.fL | apply Wf.fI | apply Wf.fr); (repeat (with_reducible first | assumption | apply Wf.wI | apply Wf.wL | apply Wf.fL | apply Wf.fI | apply Wf.fr)))) only [ck_163, gI_163, gL_163, pI_163, pZ0_163, pZ1_163, pL_163, gR_163_1, gR_163_2, gR_163_3, gR_163_5, gR_163_6, gR_163_7, gR_163_9, gR_163_10, gR_163_11, gR_163_12, gR_163_13, gR_163_14, gR_163_15, pR_163_17, gR_163_17, ck_t, gI_t, gL_t, pI_t, pZ0_t, pZ1_t, pL_t, ck_w, gI_w, gL_w, pI_w, pZ0_w, pZ1_w, pL_w, gR_t_1, gR_t_5, gR_t_7, gR_t_9, gR_t_10, gR_t_11, gR_t_12, gR_t_15, gR_w_2, gR_w_3, gR_w_4, gR_w_5, gR_w_6, gR_w_7, aR_crow, aR_srow, aR_prow, aR_rrow, aI_crow, sI_crow, len_crow, aI_srow, sI_srow, len_srow, aI_prow, sI_prow, len_prow, aI_rrow, sI_rrow, len_rrow, aI_t25, sI_t25, len_t25, aI_t31, sI_t31, len_t31, aI_t32, sI_t32, len_t32, aI_t34, sI_t34, len_t34, aI_t35, sI_t35, len_t35, aI_t36, sI_t36, len_t36, aI_t37, sI_t37, len_t37, aL_t38, sL_t38, len_t38, aL_t39, sL_t39, len_t39, bq_n, bd_s, mp_s, rz_0, rz_1, bI_rz, zadd, zmul, zsub, le_nI, lt_nI, eq_nI, neg_nI, gen_nI, neg_lt, neg_le, neg_lt', neg_le', nI_lt0, if_true, if_false, ite_true, ite_false, reduceIte, not_true, not_false, and_true, true_and, and_false, false_and, or_true, true_or, or_false, false_or, eq_self, hp, tr_mf h, show (mf D < k) = False from eq_false (by omega), show (100 ≤ k) = False from eq_false (by omega), aR_carr, e1, sL_carr]
    rw [he]
    refine ih (k + 1) fu _ (by omega) (by omega) (by omega) (g2.wL (Or.inr (Or.inl ⟨by omega, by omega⟩))) ⟨fun v hv f z1 z2 => ?_, fun o ho v hv d z1 z2 => ?_⟩ (fun f z1 z2 => ?_)
    · rw [rL_ne (by omega), hno _ _ (by omega)]; exact h1.1 v hv f z1 z2
    · rw [rL_ne (by omega), hno _ _ (by omega)]; exact h1.2 o ho v hv d z1 z2
    · by_cases q : f = k
      · rw [q, rL_eq]
      · rw [rL_ne (by omega), hno _ _ (by omega)]; exact h2 f z1 (by omega)
theorem c_pr109 {K7 : Nat → Int32 → ah_H → Option (ah_H)} {K87 : Nat → Int32 → Int32 → Int32 → ah_H → Option (ah_H)} (h0 : TR σ t D) (hp0 : ah_R σ 163 17 = some t) (hw : w < nP D) (hc : c < nC D) : ∀ i k fu τ, k + i = mc D + 1 → i < fu → lc D ≤ k → Fr (Xpr t) σ τ → PrW τ D w → PrF τ D w (mf D + 1) → PrD τ D w c k → ∃ τ', f_X0_price_109 K7 K87 fu 163 (nI w) (nI (wid D w)) (nI c) (nI k) τ = K87 163 (nI w) (nI (wid D w)) (nI (c + 1)) τ' ∧ Fr (Xpr t) σ τ' ∧ PrW τ' D w ∧ PrF τ' D w (mf D + 1) ∧ PrD τ' D w (c + 1) 0 := by
  have htn := h0.tn
  have b4 := h0.t.qp4
  have b7 := h0.t.qc7
  have b12 := h0.t.qmc12
  have bw := h0.t.qwid99 hw
  intro i
  induction i with
  | zero =>
    intro k fu τ hk hf hl gf h1 h2 h3
    obtain ⟨fu, rfl⟩ : ∃ q, fu = q + 1 := ⟨fu - 1, by omega⟩
    obtain ⟨h, hp⟩ := Xpr_tr h0 hp0 gf
    have hW := h.w
    refine ⟨τ, ?_, gf, h1, h2, fun o ho d z1 z2 z3 => h3 o ho d z1 z2 (by omega)⟩
    show f_X0_price_109_b _ _ _ _ _ _ _ _ _ = _
    unfold f_X0_price_109_b f_X0_price_166
    simp only [to_bq, l_0, l_1, l_2, l_3, l_4, l_5, l_6, l_7, l_8, l_9, l_10, l_11, l_12, l_13, l_14, l_15, l_16, l_17, l_18, l_19, l_20, l_21, l_22, l_23, l_24, l_25, l_26, l_27, l_28, l_29, l_30, l_31, l_32, l_40, l_41, l_42, l_43, l_44, l_45, l_46, l_47, l_48, l_49, l_50, l_51, l_52, l_53, l_54, l_55, l_56, l_57, l_58, l_59, l_60, l_61, l_62, l_63, l_64, l_72, l_97, l_99, l_100, l_104, l_120, l_122, l_128, l_140, l_255, l_256, l_257, l_258, l_260, l_261, l_262, l_364, l_680, l_700, l_701, l_840, l_999, l_1023, l_1024, l_9999, l_10000, l_1000000, lm]
    simp (disch := first | (with_reducible assumption) | omega | exact ⟨by omega, by omega⟩ | ((with_reducible first | apply Wf.wI | apply Wf.wL | apply Wf.fL | apply Wf.fI | apply Wf.fr); (repeat (with_reducible first | assumption | apply Wf.wI | apply Wf.wL | apply Wf.fL | apply Wf.fI | apply Wf.fr)))) only [ck_163, gI_163, gL_163, pI_163, pZ0_163, pZ1_163, pL_163, gR_163_1, gR_163_2, gR_163_3, gR_163_5, gR_163_6, gR_163_7, gR_163_9, gR_163_10, gR_163_11, gR_163_12, gR_163_13, gR_163_14, gR_163_15, pR_163_17, gR_163_17, ck_t, gI_t, gL_t, pI_t, pZ0_t, pZ1_t, pL_t, ck_w, gI_w, gL_w, pI_w, pZ0_w, pZ1_w, pL_w, gR_t_1, gR_t_5, gR_t_7, gR_t_9, gR_t_10, gR_t_11, gR_t_12, gR_t_15, gR_w_2, gR_w_3, gR_w_4, gR_w_5, gR_w_6, gR_w_7, aR_crow, aR_srow, aR_prow, aR_rrow, aI_crow, sI_crow, len_crow, aI_srow, sI_srow, len_srow, aI_prow, sI_prow, len_prow, aI_rrow, sI_rrow, len_rrow, aI_t25, sI_t25, len_t25, aI_t31, sI_t31, len_t31, aI_t32, sI_t32, len_t32, aI_t34, sI_t34, len_t34, aI_t35, sI_t35, len_t35, aI_t36, sI_t36, len_t36, aI_t37, sI_t37, len_t37, aL_t38, sL_t38, len_t38, aL_t39, sL_t39, len_t39, bq_n, bd_s, mp_s, rz_0, rz_1, bI_rz, zadd, zmul, zsub, le_nI, lt_nI, eq_nI, neg_nI, gen_nI, neg_lt, neg_le, neg_lt', neg_le', nI_lt0, if_true, if_false, ite_true, ite_false, reduceIte, not_true, not_false, and_true, true_and, and_false, false_and, or_true, true_or, or_false, false_or, eq_self, hp, tr_mc h, show (mc D < k) = True from eq_true (by omega)]
  | succ i ih =>
    intro k fu τ hk hf hl gf h1 h2 h3
    obtain ⟨fu, rfl⟩ : ∃ q, fu = q + 1 := ⟨fu - 1, by omega⟩
    obtain ⟨h, hp⟩ := Xpr_tr h0 hp0 gf
    have hW := h.w
    obtain ⟨⟨r1, r2⟩, e1, e2, e3⟩ := c_digs h (w := wid D w) (d := k) (r := k - rck D c) bw (by omega) (by omega)
    have e2 : r1 = iL (digv D (wid D w) k (k - rck D c)) := e2
    have e3 : Fr (Xl t) τ r2 := e3
    have g2 : Fr (Xpr t) σ r2 := gf.trans (e3.mono (fun a j z => Or.inl z))
    have hW2 := (Xpr_tr h0 hp0 g2).1.w
    have hno : ∀ a j, 189 ≤ a → ah_L r2 a j = ah_L τ a j := fun a j z => e3.L (by unfold Xl; rcases htn with y | y <;> omega)
    have sLd : op_sL r2 (189 + c) (nI (w * 13 + k)) (iL (digv D (wid D w) k (k - rck D c))) = some (ah_wL r2 (189 + c) (w * 13 + k) (iL (digv D (wid D w) k (k - rck D c)))) := sL_digg hW2 (by omega) (by omega)
    have he : f_X0_price_109 K7 K87 (fu + 1) 163 (nI w) (nI (wid D w)) (nI c) (nI k) τ = f_X0_price_109 K7 K87 fu 163 (nI w) (nI (wid D w)) (nI c) (nI (k + 1)) (ah_wL r2 (189 + c) (w * 13 + k) (iL (digv D (wid D w) k (k - rck D c)))) := by
      show f_X0_price_109_b _ _ _ _ _ _ _ _ _ = _
      unfold f_X0_price_109_b
      simp only [to_bq, l_0, l_1, l_2, l_3, l_4, l_5, l_6, l_7, l_8, l_9, l_10, l_11, l_12, l_13, l_14, l_15, l_16, l_17, l_18, l_19, l_20, l_21, l_22, l_23, l_24, l_25, l_26, l_27, l_28, l_29, l_30, l_31, l_32, l_40, l_41, l_42, l_43, l_44, l_45, l_46, l_47, l_48, l_49, l_50, l_51, l_52, l_53, l_54, l_55, l_56, l_57, l_58, l_59, l_60, l_61, l_62, l_63, l_64, l_72, l_97, l_99, l_100, l_104, l_120, l_122, l_128, l_140, l_255, l_256, l_257, l_258, l_260, l_261, l_262, l_364, l_680, l_700, l_701, l_840, l_999, l_1023, l_1024, l_9999, l_10000, l_1000000, lm]
      rw [e2] at e1
      simp (disch := first | (with_reducible assumption) | omega | exact ⟨by omega, by omega⟩ | ((with_reducible first | apply Wf.wI | apply Wf.wL | apply Wf.fL | apply Wf.fI | apply Wf.fr); (repeat (with_reducible first | assumption | apply Wf.wI | apply Wf.wL | apply Wf.fL | apply Wf.fI | apply Wf.fr)))) only [ck_163, gI_163, gL_163, pI_163, pZ0_163, pZ1_163, pL_163, gR_163_1, gR_163_2, gR_163_3, gR_163_5, gR_163_6, gR_163_7, gR_163_9, gR_163_10, gR_163_11, gR_163_12, gR_163_13, gR_163_14, gR_163_15, pR_163_17, gR_163_17, ck_t, gI_t, gL_t, pI_t, pZ0_t, pZ1_t, pL_t, ck_w, gI_w, gL_w, pI_w, pZ0_w, pZ1_w, pL_w, gR_t_1, gR_t_5, gR_t_7, gR_t_9, gR_t_10, gR_t_11, gR_t_12, gR_t_15, gR_w_2, gR_w_3, gR_w_4, gR_w_5, gR_w_6, gR_w_7, aR_crow, aR_srow, aR_prow, aR_rrow, aI_crow, sI_crow, len_crow, aI_srow, sI_srow, len_srow, aI_prow, sI_prow, len_prow, aI_rrow, sI_rrow, len_rrow, aI_t25, sI_t25, len_t25, aI_t31, sI_t31, len_t31, aI_t32, sI_t32, len_t32, aI_t34, sI_t34, len_t34, aI_t35, sI_t35, len_t35, aI_t36, sI_t36, len_t36, aI_t37, sI_t37, len_t37, aL_t38, sL_t38, len_t38, aL_t39, sL_t39, len_t39, bq_n, bd_s, mp_s, rz_0, rz_1, bI_rz, zadd, zmul, zsub, le_nI, lt_nI, eq_nI, neg_nI, gen_nI, neg_lt, neg_le, neg_lt', neg_le', nI_lt0, if_true, if_false, ite_true, ite_false, reduceIte, not_true, not_false, and_true, true_and, and_false, false_and, or_true, true_or, or_false, false_or, eq_self, hp, tr_mc h, show (mc D < k) = False from eq_false (by omega), aR_digg, c_rockyAt h hc (show k ≤ 12 by omega), e1, sLd]
    rw [he]
    refine ih (k + 1) fu _ (by omega) (by omega) (by omega) (g2.wL (Or.inr (Or.inl ⟨by omega, by omega⟩))) ⟨fun v hv f z1 z2 => ?_, fun o ho v hv d z1 z2 => ?_⟩ (fun f z1 z2 => ?_) (fun o ho d z1 z2 z3 => ?_)
    · rw [rL_ne (by omega), hno _ _ (by omega)]; exact h1.1 v hv f z1 z2
    · rw [rL_ne (by omega), hno _ _ (by omega)]; exact h1.2 o ho v hv d z1 z2
    · rw [rL_ne (by omega), hno _ _ (by omega)]; exact h2 f z1 z2
    · by_cases q : o = c ∧ d = k
      · rw [q.1, q.2, rL_eq]
      · rw [rL_ne (by omega), hno _ _ (by omega)]; exact h3 o ho d z1 z2 (by omega)
theorem c_pr87 {K7 : Nat → Int32 → ah_H → Option (ah_H)} (h0 : TR σ t D) (hp0 : ah_R σ 163 17 = some t) (hw : w < nP D) : ∀ i c fu τ, c + i = nC D → i < fu → Fr (Xpr t) σ τ → PrW τ D w → PrF τ D w (mf D + 1) → PrD τ D w c 0 → ∃ τ', f_X0_price_87 K7 fu 163 (nI w) (nI (wid D w)) (nI c) τ = K7 163 (nI (w + 1)) τ' ∧ Fr (Xpr t) σ τ' ∧ PrW τ' D (w + 1) := by
  have b7 := h0.t.qc7
  have b4 := h0.t.qp4
  have b12 := h0.t.qmc12
  have hlm := h0.t.qlmc
  have htn := h0.tn
  intro i
  induction i with
  | zero =>
    intro c fu τ hc hf gf h1 h2 h3
    obtain ⟨fu, rfl⟩ : ∃ q, fu = q + 1 := ⟨fu - 1, by omega⟩
    obtain ⟨h, hp⟩ := Xpr_tr h0 hp0 gf
    have hW := h.w
    refine ⟨τ, ?_, gf, fun v hv f z1 z2 => ?_, fun o ho v hv d z1 z2 => ?_⟩
    · show f_X0_price_87_b _ _ _ _ _ _ _ = _
      unfold f_X0_price_87_b f_X0_price_172
      simp only [to_bq, l_0, l_1, l_2, l_3, l_4, l_5, l_6, l_7, l_8, l_9, l_10, l_11, l_12, l_13, l_14, l_15, l_16, l_17, l_18, l_19, l_20, l_21, l_22, l_23, l_24, l_25, l_26, l_27, l_28, l_29, l_30, l_31, l_32, l_40, l_41, l_42, l_43, l_44, l_45, l_46, l_47, l_48, l_49, l_50, l_51, l_52, l_53, l_54, l_55, l_56, l_57, l_58, l_59, l_60, l_61, l_62, l_63, l_64, l_72, l_97, l_99, l_100, l_104, l_120, l_122, l_128, l_140, l_255, l_256, l_257, l_258, l_260, l_261, l_262, l_364, l_680, l_700, l_701, l_840, l_999, l_1023, l_1024, l_9999, l_10000, l_1000000, lm]
      simp (disch := first | (with_reducible assumption) | omega | exact ⟨by omega, by omega⟩ | ((with_reducible first | apply Wf.wI | apply Wf.wL | apply Wf.fL | apply Wf.fI | apply Wf.fr); (repeat (with_reducible first | assumption | apply Wf.wI | apply Wf.wL | apply Wf.fL | apply Wf.fI | apply Wf.fr)))) only [ck_163, gI_163, gL_163, pI_163, pZ0_163, pZ1_163, pL_163, gR_163_1, gR_163_2, gR_163_3, gR_163_5, gR_163_6, gR_163_7, gR_163_9, gR_163_10, gR_163_11, gR_163_12, gR_163_13, gR_163_14, gR_163_15, pR_163_17, gR_163_17, ck_t, gI_t, gL_t, pI_t, pZ0_t, pZ1_t, pL_t, ck_w, gI_w, gL_w, pI_w, pZ0_w, pZ1_w, pL_w, gR_t_1, gR_t_5, gR_t_7, gR_t_9, gR_t_10, gR_t_11, gR_t_12, gR_t_15, gR_w_2, gR_w_3, gR_w_4, gR_w_5, gR_w_6, gR_w_7, aR_crow, aR_srow, aR_prow, aR_rrow, aI_crow, sI_crow, len_crow, aI_srow, sI_srow, len_srow, aI_prow, sI_prow, len_prow, aI_rrow, sI_rrow, len_rrow, aI_t25, sI_t25, len_t25, aI_t31, sI_t31, len_t31, aI_t32, sI_t32, len_t32, aI_t34, sI_t34, len_t34, aI_t35, sI_t35, len_t35, aI_t36, sI_t36, len_t36, aI_t37, sI_t37, len_t37, aL_t38, sL_t38, len_t38, aL_t39, sL_t39, len_t39, bq_n, bd_s, mp_s, rz_0, rz_1, bI_rz, zadd, zmul, zsub, le_nI, lt_nI, eq_nI, neg_nI, gen_nI, neg_lt, neg_le, neg_lt', neg_le', nI_lt0, if_true, if_false, ite_true, ite_false, reduceIte, not_true, not_false, and_true, true_and, and_false, false_and, or_true, true_or, or_false, false_or, eq_self, hp, tr_C h, show (nC D ≤ c) = True from eq_true (by omega)]
    · by_cases q : v = w
      · rw [q]; exact h2 f z1 (by omega)
      · exact h1.1 v (by omega) f z1 z2
    · by_cases q : v = w
      · rw [q]; exact h3 o ho d z1 z2 (by omega)
      · exact h1.2 o ho v (by omega) d z1 z2
  | succ i ih =>
    intro c fu τ hc hf gf h1 h2 h3
    obtain ⟨fu, rfl⟩ : ∃ q, fu = q + 1 := ⟨fu - 1, by omega⟩
    obtain ⟨h, hp⟩ := Xpr_tr h0 hp0 gf
    have hW := h.w
    obtain ⟨τ1, e1, e2, e3, e4, e5⟩ := c_pr109 (K7 := K7) (K87 := f_X0_price_87 K7 fu) h0 hp0 hw (show c < nC D by omega) (mc D + 1 - lc D) (lc D) 5000 τ (by omega) (by omega) (Nat.le_refl _) gf h1 h2 (fun o ho d z1 z2 z3 => h3 o ho d z1 z2 (by omega))
    have he : f_X0_price_87 K7 (fu + 1) 163 (nI w) (nI (wid D w)) (nI c) τ = f_X0_price_109 K7 (f_X0_price_87 K7 fu) 5000 163 (nI w) (nI (wid D w)) (nI c) (nI (lc D)) τ := by
      show f_X0_price_87_b _ _ _ _ _ _ _ = _
      unfold f_X0_price_87_b
      simp only [to_bq, l_0, l_1, l_2, l_3, l_4, l_5, l_6, l_7, l_8, l_9, l_10, l_11, l_12, l_13, l_14, l_15, l_16, l_17, l_18, l_19, l_20, l_21, l_22, l_23, l_24, l_25, l_26, l_27, l_28, l_29, l_30, l_31, l_32, l_40, l_41, l_42, l_43, l_44, l_45, l_46, l_47, l_48, l_49, l_50, l_51, l_52, l_53, l_54, l_55, l_56, l_57, l_58, l_59, l_60, l_61, l_62, l_63, l_64, l_72, l_97, l_99, l_100, l_104, l_120, l_122, l_128, l_140, l_255, l_256, l_257, l_258, l_260, l_261, l_262, l_364, l_680, l_700, l_701, l_840, l_999, l_1023, l_1024, l_9999, l_10000, l_1000000, lm]
      simp (disch := first | (with_reducible assumption) | omega | exact ⟨by omega, by omega⟩ | ((with_reducible first | apply Wf.wI | apply Wf.wL | apply Wf.fL | apply Wf.fI | apply Wf.fr); (repeat (with_reducible first | assumption | apply Wf.wI | apply Wf.wL | apply Wf.fL | apply Wf.fI | apply Wf.fr)))) only [ck_163, gI_163, gL_163, pI_163, pZ0_163, pZ1_163, pL_163, gR_163_1, gR_163_2, gR_163_3, gR_163_5, gR_163_6, gR_163_7, gR_163_9, gR_163_10, gR_163_11, gR_163_12, gR_163_13, gR_163_14, gR_163_15, pR_163_17, gR_163_17, ck_t, gI_t, gL_t, pI_t, pZ0_t, pZ1_t, pL_t, ck_w, gI_w, gL_w, pI_w, pZ0_w, pZ1_w, pL_w, gR_t_1, gR_t_5, gR_t_7, gR_t_9, gR_t_10, gR_t_11, gR_t_12, gR_t_15, gR_w_2, gR_w_3, gR_w_4, gR_w_5, gR_w_6, gR_w_7, aR_crow, aR_srow, aR_prow, aR_rrow, aI_crow, sI_crow, len_crow, aI_srow, sI_srow, len_srow, aI_prow, sI_prow, len_prow, aI_rrow, sI_rrow, len_rrow, aI_t25, sI_t25, len_t25, aI_t31, sI_t31, len_t31, aI_t32, sI_t32, len_t32, aI_t34, sI_t34, len_t34, aI_t35, sI_t35, len_t35, aI_t36, sI_t36, len_t36, aI_t37, sI_t37, len_t37, aL_t38, sL_t38, len_t38, aL_t39, sL_t39, len_t39, bq_n, bd_s, mp_s, rz_0, rz_1, bI_rz, zadd, zmul, zsub, le_nI, lt_nI, eq_nI, neg_nI, gen_nI, neg_lt, neg_le, neg_lt', neg_le', nI_lt0, if_true, if_false, ite_true, ite_false, reduceIte, not_true, not_false, and_true, true_and, and_false, false_and, or_true, true_or, or_false, false_or, eq_self, hp, tr_C h, tr_lc h, show (nC D ≤ c) = False from eq_false (by omega)]
    rw [he, e1]
    exact ih (c + 1) fu τ1 (by omega) (by omega) e2 e3 e4 e5
theorem c_pr7 (h0 : TR σ t D) (hp0 : ah_R σ 163 17 = some t) : ∀ i w fu τ, w + i = nP D → i < fu → Fr (Xpr t) σ τ → PrW τ D w → ∃ τ', f_X0_price_7 fu 163 (nI w) τ = some τ' ∧ Fr (Xpr t) σ τ' ∧ PrW τ' D (nP D) := by
  have b7 := h0.t.qc7
  have b4 := h0.t.qp4
  have hlm := h0.t.qlmf
  have bmf := h0.t.qmf99
  have htn := h0.tn
  intro i
  induction i with
  | zero =>
    intro w fu τ hw hf gf h1
    obtain ⟨fu, rfl⟩ : ∃ q, fu = q + 1 := ⟨fu - 1, by omega⟩
    obtain ⟨h, hp⟩ := Xpr_tr h0 hp0 gf
    have hW := h.w
    refine ⟨τ, ?_, gf, by rw [← show w = nP D by omega]; exact h1⟩
    show f_X0_price_7_b _ _ _ _ = _
    unfold f_X0_price_7_b
    simp only [to_bq, l_0, l_1, l_2, l_3, l_4, l_5, l_6, l_7, l_8, l_9, l_10, l_11, l_12, l_13, l_14, l_15, l_16, l_17, l_18, l_19, l_20, l_21, l_22, l_23, l_24, l_25, l_26, l_27, l_28, l_29, l_30, l_31, l_32, l_40, l_41, l_42, l_43, l_44, l_45, l_46, l_47, l_48, l_49, l_50, l_51, l_52, l_53, l_54, l_55, l_56, l_57, l_58, l_59, l_60, l_61, l_62, l_63, l_64, l_72, l_97, l_99, l_100, l_104, l_120, l_122, l_128, l_140, l_255, l_256, l_257, l_258, l_260, l_261, l_262, l_364, l_680, l_700, l_701, l_840, l_999, l_1023, l_1024, l_9999, l_10000, l_1000000, lm]
    simp (disch := first | (with_reducible assumption) | omega | exact ⟨by omega, by omega⟩ | ((with_reducible first | apply Wf.wI | apply Wf.wL | apply Wf.fL | apply Wf.fI | apply Wf.fr); (repeat (with_reducible first | assumption | apply Wf.wI | apply Wf.wL | apply Wf.fL | apply Wf.fI | apply Wf.fr)))) only [ck_163, gI_163, gL_163, pI_163, pZ0_163, pZ1_163, pL_163, gR_163_1, gR_163_2, gR_163_3, gR_163_5, gR_163_6, gR_163_7, gR_163_9, gR_163_10, gR_163_11, gR_163_12, gR_163_13, gR_163_14, gR_163_15, pR_163_17, gR_163_17, ck_t, gI_t, gL_t, pI_t, pZ0_t, pZ1_t, pL_t, ck_w, gI_w, gL_w, pI_w, pZ0_w, pZ1_w, pL_w, gR_t_1, gR_t_5, gR_t_7, gR_t_9, gR_t_10, gR_t_11, gR_t_12, gR_t_15, gR_w_2, gR_w_3, gR_w_4, gR_w_5, gR_w_6, gR_w_7, aR_crow, aR_srow, aR_prow, aR_rrow, aI_crow, sI_crow, len_crow, aI_srow, sI_srow, len_srow, aI_prow, sI_prow, len_prow, aI_rrow, sI_rrow, len_rrow, aI_t25, sI_t25, len_t25, aI_t31, sI_t31, len_t31, aI_t32, sI_t32, len_t32, aI_t34, sI_t34, len_t34, aI_t35, sI_t35, len_t35, aI_t36, sI_t36, len_t36, aI_t37, sI_t37, len_t37, aL_t38, sL_t38, len_t38, aL_t39, sL_t39, len_t39, bq_n, bd_s, mp_s, rz_0, rz_1, bI_rz, zadd, zmul, zsub, le_nI, lt_nI, eq_nI, neg_nI, gen_nI, neg_lt, neg_le, neg_lt', neg_le', nI_lt0, if_true, if_false, ite_true, ite_false, reduceIte, not_true, not_false, and_true, true_and, and_false, false_and, or_true, true_or, or_false, false_or, eq_self, hp, tr_P h, show (nP D ≤ w) = True from eq_true (by omega)]
  | succ i ih =>
    intro w fu τ hw hf gf h1
    obtain ⟨fu, rfl⟩ : ∃ q, fu = q + 1 := ⟨fu - 1, by omega⟩
    obtain ⟨h, hp⟩ := Xpr_tr h0 hp0 gf
    have hW := h.w
    obtain ⟨τ1, e1, e2, e3, e4⟩ := c_pr40 (K7 := f_X0_price_7 fu) h0 hp0 (show w < nP D by omega) (mf D + 1 - lf D) (lf D) 5000 τ (by omega) (by omega) (Nat.le_refl _) gf h1 (fun f z1 z2 => by omega)
    obtain ⟨τ2, f1, f2, f3⟩ := c_pr87 (K7 := f_X0_price_7 fu) h0 hp0 (show w < nP D by omega) (nC D) 0 5000 τ1 (by omega) (by omega) e2 e3 e4 (fun o ho d z1 z2 z3 => by omega)
    have he : f_X0_price_7 (fu + 1) 163 (nI w) τ = f_X0_price_40 (f_X0_price_7 fu) 5000 163 (nI w) (nI (wid D w)) (nI (lf D)) τ := by
      show f_X0_price_7_b _ _ _ _ = _
      unfold f_X0_price_7_b
      simp only [to_bq, l_0, l_1, l_2, l_3, l_4, l_5, l_6, l_7, l_8, l_9, l_10, l_11, l_12, l_13, l_14, l_15, l_16, l_17, l_18, l_19, l_20, l_21, l_22, l_23, l_24, l_25, l_26, l_27, l_28, l_29, l_30, l_31, l_32, l_40, l_41, l_42, l_43, l_44, l_45, l_46, l_47, l_48, l_49, l_50, l_51, l_52, l_53, l_54, l_55, l_56, l_57, l_58, l_59, l_60, l_61, l_62, l_63, l_64, l_72, l_97, l_99, l_100, l_104, l_120, l_122, l_128, l_140, l_255, l_256, l_257, l_258, l_260, l_261, l_262, l_364, l_680, l_700, l_701, l_840, l_999, l_1023, l_1024, l_9999, l_10000, l_1000000, lm]
      simp (disch := first | (with_reducible assumption) | omega | exact ⟨by omega, by omega⟩ | ((with_reducible first | apply Wf.wI | apply Wf.wL | apply Wf.fL | apply Wf.fI | apply Wf.fr); (repeat (with_reducible first | assumption | apply Wf.wI | apply Wf.wL | apply Wf.fL | apply Wf.fI | apply Wf.fr)))) only [ck_163, gI_163, gL_163, pI_163, pZ0_163, pZ1_163, pL_163, gR_163_1, gR_163_2, gR_163_3, gR_163_5, gR_163_6, gR_163_7, gR_163_9, gR_163_10, gR_163_11, gR_163_12, gR_163_13, gR_163_14, gR_163_15, pR_163_17, gR_163_17, ck_t, gI_t, gL_t, pI_t, pZ0_t, pZ1_t, pL_t, ck_w, gI_w, gL_w, pI_w, pZ0_w, pZ1_w, pL_w, gR_t_1, gR_t_5, gR_t_7, gR_t_9, gR_t_10, gR_t_11, gR_t_12, gR_t_15, gR_w_2, gR_w_3, gR_w_4, gR_w_5, gR_w_6, gR_w_7, aR_crow, aR_srow, aR_prow, aR_rrow, aI_crow, sI_crow, len_crow, aI_srow, sI_srow, len_srow, aI_prow, sI_prow, len_prow, aI_rrow, sI_rrow, len_rrow, aI_t25, sI_t25, len_t25, aI_t31, sI_t31, len_t31, aI_t32, sI_t32, len_t32, aI_t34, sI_t34, len_t34, aI_t35, sI_t35, len_t35, aI_t36, sI_t36, len_t36, aI_t37, sI_t37, len_t37, aL_t38, sL_t38, len_t38, aL_t39, sL_t39, len_t39, bq_n, bd_s, mp_s, rz_0, rz_1, bI_rz, zadd, zmul, zsub, le_nI, lt_nI, eq_nI, neg_nI, gen_nI, neg_lt, neg_le, neg_lt', neg_le', nI_lt0, if_true, if_false, ite_true, ite_false, reduceIte, not_true, not_false, and_true, true_and, and_false, false_and, or_true, true_or, or_false, false_or, eq_self, hp, tr_P h, tr_wid h (show w < nP D by omega), tr_lf h, show (nP D ≤ w) = False from eq_false (by omega)]
    have he2 : f_X0_price_85 (f_X0_price_7 fu) 163 (nI w) (nI (wid D w)) τ1 = f_X0_price_87 (f_X0_price_7 fu) 5000 163 (nI w) (nI (wid D w)) (nI 0) τ1 := by
      unfold f_X0_price_85
      simp only [to_bq, l_0, l_1, l_2, l_3, l_4, l_5, l_6, l_7, l_8, l_9, l_10, l_11, l_12, l_13, l_14, l_15, l_16, l_17, l_18, l_19, l_20, l_21, l_22, l_23, l_24, l_25, l_26, l_27, l_28, l_29, l_30, l_31, l_32, l_40, l_41, l_42, l_43, l_44, l_45, l_46, l_47, l_48, l_49, l_50, l_51, l_52, l_53, l_54, l_55, l_56, l_57, l_58, l_59, l_60, l_61, l_62, l_63, l_64, l_72, l_97, l_99, l_100, l_104, l_120, l_122, l_128, l_140, l_255, l_256, l_257, l_258, l_260, l_261, l_262, l_364, l_680, l_700, l_701, l_840, l_999, l_1023, l_1024, l_9999, l_10000, l_1000000, lm]
    rw [he, e1, he2, f1]
    exact ih (w + 1) fu τ2 (by omega) (by omega) f2 f3
theorem c_price (h : TR σ t D) (hp : ah_R σ 163 17 = some t) : ∃ τ, f_X0_price 163 σ = some τ ∧ Fr (Xpr t) σ τ ∧ PrT τ D := by
  have hW := h.w
  have b4 := h.t.qp4
  have f1 : Fr (Xpr t) σ (ah_wI σ 163 16 (nI 1)) := (Fr.rfl (X := Xpr t) (σ := σ)).wI (Or.inr (Or.inr ⟨rfl, rfl⟩))
  obtain ⟨τ, e1, e2, e3⟩ := c_pr7 h hp (nP D) 0 5000 (ah_wI σ 163 16 (nI 1)) (by omega) (by omega) f1 ⟨fun v hv => by omega, fun o ho v hv => by omega⟩
  refine ⟨τ, ?_, e2, e3⟩
  unfold f_X0_price f_X0_price_0
  simp only [to_bq, l_0, l_1, l_2, l_3, l_4, l_5, l_6, l_7, l_8, l_9, l_10, l_11, l_12, l_13, l_14, l_15, l_16, l_17, l_18, l_19, l_20, l_21, l_22, l_23, l_24, l_25, l_26, l_27, l_28, l_29, l_30, l_31, l_32, l_40, l_41, l_42, l_43, l_44, l_45, l_46, l_47, l_48, l_49, l_50, l_51, l_52, l_53, l_54, l_55, l_56, l_57, l_58, l_59, l_60, l_61, l_62, l_63, l_64, l_72, l_97, l_99, l_100, l_104, l_120, l_122, l_128, l_140, l_255, l_256, l_257, l_258, l_260, l_261, l_262, l_364, l_680, l_700, l_701, l_840, l_999, l_1023, l_1024, l_9999, l_10000, l_1000000, lm]
  simp (disch := first | (with_reducible assumption) | omega | exact ⟨by omega, by omega⟩ | ((with_reducible first | apply Wf.wI | apply Wf.wL | apply Wf.fL | apply Wf.fI | apply Wf.fr); (repeat (with_reducible first | assumption | apply Wf.wI | apply Wf.wL | apply Wf.fL | apply Wf.fI | apply Wf.fr)))) only [ck_163, gI_163, gL_163, pI_163, pZ0_163, pZ1_163, pL_163, gR_163_1, gR_163_2, gR_163_3, gR_163_5, gR_163_6, gR_163_7, gR_163_9, gR_163_10, gR_163_11, gR_163_12, gR_163_13, gR_163_14, gR_163_15, pR_163_17, gR_163_17, bq_n, bd_s, mp_s, rz_0, rz_1, bI_rz]
  exact e1
end
