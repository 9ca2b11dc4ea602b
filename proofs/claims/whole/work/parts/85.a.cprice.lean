/-! THE CLASS: laws are worked out ahead -/
def Xpr (t a j : Nat) : Prop := Xl t a j ∨ 189 ≤ a ∧ a < 201 ∨ a = 163 ∧ j = 16
section
variable {σ : ah_H} {t : Nat} {D : DD} {w c : Nat}
theorem Xpr_tr {τ : ah_H} (h : TR σ t D) (hp : ah_R σ 163 17 = some t) (g : Fr (Xpr t) σ τ) : TR τ t D ∧ ah_R τ 163 17 = some t := by
  have htn := h.tn
  refine ⟨h.fr g (fun a j z1 z2 => by unfold Xpr Xl; rcases htn with y | y <;> omega), ?_⟩
  rw [g.R (Or.inr (by unfold Xpr Xl; rcases htn with y | y <;> omega))]
  exact hp
/-- as far as width w -/
def PrW (τ : ah_H) (D : DD) (w : Nat) : Prop := (∀ v, v < w → ∀ f, lf D ≤ f → f ≤ mf D → ah_L τ (197 + v) f = iL (carv D (wid D v) (f : Int))) ∧ ∀ o, o < nC D → ∀ v, v < w → ∀ d, lc D ≤ d → d ≤ mc D → ah_L τ (189 + o) (v * 13 + d) = iL (digv D (wid D v) d (d - rck D o))
def PrF (τ : ah_H) (D : DD) (w k : Nat) : Prop := ∀ f, lf D ≤ f → f < k → ah_L τ (197 + w) f = iL (carv D (wid D w) (f : Int))
def PrD (τ : ah_H) (D : DD) (w c k : Nat) : Prop := ∀ o, o < nC D → ∀ d, lc D ≤ d → d ≤ mc D → (o < c ∨ o = c ∧ d < k) → ah_L τ (189 + o) (w * 13 + d) = iL (digv D (wid D w) d (d - rck D o))
theorem c_pr40 {K7 : Nat → Int32 → ah_H → Option (ah_H)} (h0 : TR σ t D) (hp0 : ah_R σ 163 17 = some t) (hw : w < nP D) : ∀ i k fu τ, k + i = mf D + 1 → i < fu → lf D ≤ k → Fr (Xpr t) σ τ → PrW τ D w → PrF τ D w k → ∃ τ', f_X0_price_40 K7 fu 163 (nI w) (nI (wid D w)) (nI k) τ = f_X0_price_85 K7 163 (nI w) (nI (wid D w)) τ' ∧ Fr (Xpr t) σ τ' ∧ PrW τ' D w ∧ PrF τ' D w (mf D + 1) := by
  have htn := h0.tn
  have b4 := h0.t.qp4
  have b7 := h0.t.qc7
  have bmf := h0.t.qmf99
  have bw := h0.t.qwid99 hw
  intro i
  induction i with
  | zero =>
    intro k fu τ hk hf hl gf h1 h2
    obtain ⟨fu, rfl⟩ : ∃ q, fu = q + 1 := ⟨fu - 1, by omega⟩
    obtain ⟨h, hp⟩ := Xpr_tr h0 hp0 gf
    have hW := h.w
    refine ⟨τ, ?_, gf, h1, by rw [← show k = mf D + 1 by omega]; exact h2⟩
    show f_X0_price_40_b _ _ _ _ _ _ _ = _
    unfold f_X0_price_40_b
    simp only [to_bq, l_0, l_1, l_2, l_3, l_4, l_5, l_6, l_7, l_8, l_9, l_10, l_11, l_12, l_13, l_14, l_15, l_16, l_17, l_18, l_19, l_20, l_21, l_22, l_23, l_24, l_25, l_26, l_27, l_28, l_29, l_30, l_31, l_32, l_40, l_41, l_42, l_43, l_44, l_45, l_46, l_47, l_48, l_49, l_50, l_51, l_52, l_53, l_54, l_55, l_56, l_57, l_58, l_59, l_60, l_61, l_62, l_63, l_64, l_72, l_97, l_99, l_100, l_104, l_120, l_122, l_128, l_140, l_255, l_256, l_257, l_258, l_260, l_261, l_262, l_364, l_680, l_700, l_701, l_840, l_999, l_1023, l_1024, l_9999, l_10000, l_1000000, lm]
    simp (disch := first | (with_reducible assumption) | omega | exact ⟨by omega, by omega⟩ | ((with_reducible first | apply Wf.wI | apply Wf.wL | apply Wf.fL | apply Wf.fI | apply Wf.fr); (repeat (with_reducible first | assumption | apply Wf.wI | apply Wf.wL | apply Wf.fL | apply Wf.fI | apply Wf.fr)))) only [ck_163, gI_163, gL_163, pI_163, pZ0_163, pZ1_163, pL_163, gR_163_1, gR_163_2, gR_163_3, gR_163_5, gR_163_6, gR_163_7, gR_163_9, gR_163_10, gR_163_11, gR_163_12, gR_163_13, gR_163_14, gR_163_15, pR_163_17, gR_163_17, ck_t, gI_t, gL_t, pI_t, pZ0_t, pZ1_t, pL_t, ck_w, gI_w, gL_w, pI_w, pZ0_w, pZ1_w, pL_w, gR_t_1, gR_t_5, gR_t_7, gR_t_9, gR_t_10, gR_t_11, gR_t_12, gR_t_15, gR_w_2, gR_w_3, gR_w_4, gR_w_5, gR_w_6, gR_w_7, aR_crow, aR_srow, aR_prow, aR_rrow, aI_crow, sI_crow, len_crow, aI_srow, sI_srow, len_srow, aI_prow, sI_prow, len_prow, aI_rrow, sI_rrow, len_rrow, aI_t25, sI_t25, len_t25, aI_t31, sI_t31, len_t31, aI_t32, sI_t32, len_t32, aI_t34, sI_t34, len_t34, aI_t35, sI_t35, len_t35, aI_t36, sI_t36, len_t36, aI_t37, sI_t37, len_t37, aL_t38, sL_t38, len_t38, aL_t39, sL_t39, len_t39, bq_n, bd_s, mp_s, rz_0, rz_1, bI_rz, zadd, zmul, zsub, le_nI, lt_nI, eq_nI, neg_nI, gen_nI, neg_lt, neg_le, neg_lt', neg_le', nI_lt0, if_true, if_false, ite_true, ite_false, reduceIte, not_true, not_false, and_true, true_and, and_false, false_and, or_true, true_or, or_false, false_or, eq_self, hp, tr_mf h, show (mf D < k) = True from eq_true (by omega)]
  | succ i ih =>
    intro k fu τ hk hf hl gf h1 h2
    obtain ⟨fu, rfl⟩ : ∃ q, fu = q + 1 := ⟨fu - 1, by omega⟩
    obtain ⟨h, hp⟩ := Xpr_tr h0 hp0 gf
    have hW := h.w
    obtain ⟨⟨r1, r2⟩, e1, e2, e3⟩ := c_carried h (w := wid D w) (f := (k : Int)) bw ⟨by omega, by omega⟩
    have e2 : r1 = iL (carv D (wid D w) (k : Int)) := e2
    have e3 : Fr (Xl t) τ r2 := e3
    have g2 : Fr (Xpr t) σ r2 := gf.trans (e3.mono (fun a j z => Or.inl z))
    have hW2 := (Xpr_tr h0 hp0 g2).1.w
    have hno : ∀ a j, 189 ≤ a → ah_L r2 a j = ah_L τ a j := fun a j z => e3.L (by unfold Xl; rcases htn with y | y <;> omega)
    have he : f_X0_price_40 K7 (fu + 1) 163 (nI w) (nI (wid D w)) (nI k) τ = f_X0_price_40 K7 fu 163 (nI w) (nI (wid D w)) (nI (k + 1)) (ah_wL r2 (197 + w) k (iL (carv D (wid D w) (k : Int)))) := by
      show f_X0_price_40_b _ _ _ _ _ _ _ = _
      unfold f_X0_price_40_b
      simp only [to_bq, l_0, l_1, l_2, l_3, l_4, l_5, l_6, l_7, l_8, l_9, l_10, l_11, l_12, l_13, l_14, l_15, l_16, l_17, l_18, l_19, l_20, l_21, l_22, l_23, l_24, l_25, l_26, l_27, l_28, l_29, l_30, l_31, l_32, l_40, l_41, l_42, l_43, l_44, l_45, l_46, l_47, l_48, l_49, l_50, l_51, l_52, l_53, l_54, l_55, l_56, l_57, l_58, l_59, l_60, l_61, l_62, l_63, l_64, l_72, l_97, l_99, l_100, l_104, l_120, l_122, l_128, l_140, l_255, l_256, l_257, l_258, l_260, l_261, l_262, l_364, l_680, l_700, l_701, l_840, l_999, l_1023, l_1024, l_9999, l_10000, l_1000000, lm]
      rw [e2, ← jI_n k] at e1
      simp (disch := first | (with_reducible assumption) | omega | exact ⟨by omega, by omega⟩ | ((with_reducible first | apply Wf.wI | apply Wf.wL | apply Wf.fL | apply Wf.fI | apply Wf.fr); (repeat (with_reducible first | assumption | apply Wf.wI | apply Wf.wL | apply Wf.fL | apply Wf.fI | apply Wf.fr)))) only [ck_163, gI_163, gL_163, pI_163, pZ0_163, pZ1_163, pL_163, gR_163_1, gR_163_2, gR_163_3, gR_163_5, gR_163_6, gR_163_7, gR_163_9, gR_163_10, gR_163_11, gR_163_12, gR_163_13, gR_163_14, gR_163_15, pR_163_17, gR_163_17, ck_t, gI_t, gL_t, pI_t, pZ0_t, pZ1_t, pL_t, ck_w, gI_w, gL_w, pI_w, pZ0_w, pZ1_w, pL_w, gR_t_1, gR_t_5, gR_t_7, gR_t_9, gR_t_10, gR_t_11, gR_t_12, gR_t_15, gR_w_2, gR_w_3, gR_w_4, gR_w_5, gR_w_6, gR_w_7, aR_crow, aR_srow, aR_prow, aR_rrow, aI_crow, sI_crow, len_crow, aI_srow, sI_srow, len_srow, aI_prow, sI_prow, len_prow, aI_rrow, sI_rrow, len_rrow, aI_t25, sI_t25, len_t25, aI_t31, sI_t31, len_t31, aI_t32, sI_t32, len_t32, aI_t34, sI_t34, len_t34, aI_t35, sI_t35, len_t35, aI_t36, sI_t36, len_t36, aI_t37, sI_t37, len_t37, aL_t38, sL_t38, len_t38, aL_t39, sL_t39, len_t39, bq_n, bd_s, mp_s, rz_0, rz_1, bI_rz, zadd, zmul, zsub, le_nI, lt_nI, eq_nI, neg_nI, gen_nI, neg_lt, neg_le, neg_lt', neg_le', nI_lt0, if_true, if_false, ite_true, ite_false, reduceIte, not_true, not_false, and_true, true_and, and_false, false_and, or_true, true_or, or_false, false_or, eq_self, hp, tr_mf h, show (mf D < k) = False from eq_false (by omega), show (100 ≤ k) = False from eq_false (by omega), aR_carr, e1, sL_carr]
    rw [he]
    refine ih (k + 1) fu _ (by omega) (by omega) (by omega) (g2.wL (Or.inr (Or.inl ⟨by omega, by omega⟩))) ⟨fun v hv f z1 z2 => ?_, fun o ho v hv d z1 z2 => ?_⟩ (fun f z1 z2 => ?_)
    · rw [rL_ne (by omega), hno _ _ (by omega)]; exact h1.1 v hv f z1 z2
    · rw [rL_ne (by omega), hno _ _ (by omega)]; exact h1.2 o ho v hv d z1 z2
    · by_cases q : f = k
      · rw [q, rL_eq]
      · rw [rL_ne (by omega), hno _ _ (by omega)]; exact h2 f z1 (by omega)
end
