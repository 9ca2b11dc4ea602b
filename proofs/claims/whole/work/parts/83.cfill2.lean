/-! THE CLASS: the table of a corner, whole -/
section
variable {σ : ah_H} {t : Nat} {D : DD} {st : Nat → Option Nat} {T : Tbl} {g : Nat → Nat} {c s w a : Nat}
theorem ownC_no {Q : Nat → Int} (h : ¬ (w < nP D ∧ lc D ≤ a ∧ a ≤ mc D)) (b : Nat) : ownC D st Q c w a b = none := by
  unfold ownC
  by_cases z : nx D st c = some (riv D) ∧ (hgt D (riv D) : Int) - b < lev D
  · rw [cif_t z]
  · rw [cif_f z, own_no h]
theorem ownC_nb {Q : Nat → Int} {b : Nat} (h : ¬ (lc D ≤ b ∧ b ≤ mc D)) : ownC D st Q c w a b = none := by
  unfold ownC
  by_cases z : nx D st c = some (riv D) ∧ (hgt D (riv D) : Int) - b < lev D
  · rw [cif_t z]
  · rw [cif_f z, own_nb h]
theorem c_fi92 {K14 : Nat → Int32 → Int32 → ah_H → Option (ah_H)} (h0 : FiC σ t D st T g c s) (hw : w < nP D) : ∀ i a fu τ, a + i = mc D + 1 → i < fu → lc D ≤ a → Fr (Xfi c) σ τ → JbR τ D (dpC D st) T c w → RwE τ D c (layG (dpC D st) T c w a) → ∃ τ', f_X0_fill_92 K14 fu 163 (nI c) (nI w) (nI a) τ = K14 163 (nI c) (nI (w + 1)) τ' ∧ Fr (Xfi c) σ τ' ∧ RwE τ' D c (layG (dpC D st) T c (w + 1) 0) := by
  have hNV : NV = 100000000000000000 := rfl
  have htn := h0.1.tn
  have b7 := h0.1.t.qc7
  have b4 := h0.1.t.qp4
  have b12 := h0.1.t.qmc12
  have hc := h0.2.2.2.2.1
  have hfin : ∀ v b, layG (dpC D st) T c (w + 1) 0 v b = layG (dpC D st) T c w (mc D + 1) v b := fun v b => by
    unfold layG
    by_cases q : v < w
    · rw [if_pos q, if_pos (by omega)]
    · by_cases q2 : v = w
      · rw [if_neg q, if_pos q2, if_pos (by omega), q2]; rfl
      · rw [if_neg q, if_neg q2, if_neg (by omega)]
        by_cases q3 : v = w + 1
        · rw [if_pos q3]; rfl
        · rw [if_neg q3]
  intro i
  induction i with
  | zero =>
    intro a fu τ ha hf hla gf hj hr
    obtain ⟨fu, rfl⟩ : ∃ q, fu = q + 1 := ⟨fu - 1, by omega⟩
    have h := h0.fr gf
    have hW := h.1.w
    have hpp := h.2.1
    refine ⟨τ, ?_, gf, hr.cg (fun v b _ _ _ => by rw [hfin, show a = mc D + 1 by omega])⟩
    show f_X0_fill_92_b _ _ _ _ _ _ _ = _
    unfold f_X0_fill_92_b f_X0_fill_135
    simp only [to_bq, l_0, l_1, l_2, l_3, l_4, l_5, l_6, l_7, l_8, l_9, l_10, l_11, l_12, l_13, l_14, l_15, l_16, l_17, l_18, l_19, l_20, l_21, l_22, l_23, l_24, l_25, l_26, l_27, l_28, l_29, l_30, l_31, l_32, l_40, l_41, l_42, l_43, l_44, l_45, l_46, l_47, l_48, l_49, l_50, l_51, l_52, l_53, l_54, l_55, l_56, l_57, l_58, l_59, l_60, l_61, l_62, l_63, l_64, l_72, l_97, l_99, l_100, l_104, l_120, l_122, l_128, l_140, l_255, l_256, l_257, l_258, l_260, l_261, l_262, l_364, l_680, l_700, l_701, l_840, l_999, l_1023, l_1024, l_9999, l_10000, l_1000000, lm]
    simp (disch := first | (with_reducible assumption) | omega | exact ⟨by omega, by omega⟩ | ((with_reducible first | apply Wf.wI | apply Wf.wL | apply Wf.fL | apply Wf.fI | apply Wf.fr); (repeat (with_reducible first | assumption | apply Wf.wI | apply Wf.wL | apply Wf.fL | apply Wf.fI | apply Wf.fr)))) only [ck_163, gI_163, gL_163, pI_163, pZ0_163, pZ1_163, pL_163, gR_163_1, gR_163_2, gR_163_3, gR_163_5, gR_163_6, gR_163_7, gR_163_9, gR_163_10, gR_163_11, gR_163_12, gR_163_13, gR_163_14, gR_163_15, pR_163_17, gR_163_17, ck_t, gI_t, gL_t, pI_t, pZ0_t, pZ1_t, pL_t, ck_w, gI_w, gL_w, pI_w, pZ0_w, pZ1_w, pL_w, gR_t_1, gR_t_5, gR_t_7, gR_t_9, gR_t_10, gR_t_11, gR_t_12, gR_t_15, gR_w_2, gR_w_3, gR_w_4, gR_w_5, gR_w_6, gR_w_7, aR_crow, aR_srow, aR_prow, aR_rrow, aI_crow, sI_crow, len_crow, aI_srow, sI_srow, len_srow, aI_prow, sI_prow, len_prow, aI_rrow, sI_rrow, len_rrow, aI_t25, sI_t25, len_t25, aI_t31, sI_t31, len_t31, aI_t32, sI_t32, len_t32, aI_t34, sI_t34, len_t34, aI_t35, sI_t35, len_t35, aI_t36, sI_t36, len_t36, aI_t37, sI_t37, len_t37, aL_t38, sL_t38, len_t38, aL_t39, sL_t39, len_t39, bq_n, bd_s, mp_s, rz_0, rz_1, bI_rz, zadd, zmul, zsub, le_nI, lt_nI, eq_nI, neg_nI, gen_nI, neg_lt, neg_le, neg_lt', neg_le', nI_lt0, if_true, if_false, ite_true, ite_false, reduceIte, not_true, not_false, and_true, true_and, and_false, false_and, or_true, true_or, or_false, false_or, eq_self, hpp, tr_mc h.1, show (mc D < a) = True from eq_true (by omega)]
  | succ i ih =>
    intro a fu τ ha hf hla gf hj hr
    obtain ⟨fu, rfl⟩ : ∃ q, fu = q + 1 := ⟨fu - 1, by omega⟩
    have h := h0.fr gf
    have hW := h.1.w
    have hpp := h.2.1
    have hgb := gmx_b (st := st) (cp := plain) h.1.t hc
    obtain ⟨v1, v2⟩ := vb_beh (w := w) h hla (show a ≤ mc D by omega)
    obtain ⟨τ1, e1, e2, e3⟩ := c_enter h.1 hpp (dpC_q D st).1 h.2.2.2.2.2.2.2.2.2.2.1 hj hw hla (show a ≤ mc D by omega) ⟨by unfold gq; omega, by unfold gq; omega⟩ h.2.2.2.2.2.2.2.2.2.2.2.2.2.2.1 v1
    have g1 := gf.trans (e2.mono (Xen_f (c := c)))
    have h1 := h0.fr g1
    have hW1 := h1.1.w
    have hr1 : RwE τ1 D c (layG (dpC D st) T c w a) := fun v b z1 z2 z3 => by rw [e2.L (by unfold Xen; omega), e2.L (by unfold Xen; omega)]; exact hr v b z1 z2 z3
    have hj1 : JbR τ1 D (dpC D st) T c w := fun m z1 z2 => by
      rw [e2.L (by unfold Xen; omega), e2.L (by unfold Xen; omega), e2.L (by unfold Xen; omega), e2.L (by unfold Xen; omega)]
      exact hj m z1 z2
    cases hbe : behT (dpC D st) T c w a with
    | none =>
      rw [hbe] at e3
      obtain ⟨y, y1, y2, y3⟩ := e3
      rw [hNV] at y3
      have hcmp : (nI 0 ≤ lg_cmp (iL y) (iL 100000000000000000)) = True := by
        rw [cmp_ge ⟨by omega, by omega⟩ ⟨by omega, by omega⟩]; exact eq_true y2
      have he : f_X0_fill_92 K14 (fu + 1) 163 (nI c) (nI w) (nI a) τ = f_X0_fill_92 K14 fu 163 (nI c) (nI w) (nI (a + 1)) τ1 := by
        show f_X0_fill_92_b _ _ _ _ _ _ _ = _
        unfold f_X0_fill_92_b f_X0_fill_129
        simp only [to_bq, l_0, l_1, l_2, l_3, l_4, l_5, l_6, l_7, l_8, l_9, l_10, l_11, l_12, l_13, l_14, l_15, l_16, l_17, l_18, l_19, l_20, l_21, l_22, l_23, l_24, l_25, l_26, l_27, l_28, l_29, l_30, l_31, l_32, l_40, l_41, l_42, l_43, l_44, l_45, l_46, l_47, l_48, l_49, l_50, l_51, l_52, l_53, l_54, l_55, l_56, l_57, l_58, l_59, l_60, l_61, l_62, l_63, l_64, l_72, l_97, l_99, l_100, l_104, l_120, l_122, l_128, l_140, l_255, l_256, l_257, l_258, l_260, l_261, l_262, l_364, l_680, l_700, l_701, l_840, l_999, l_1023, l_1024, l_9999, l_10000, l_1000000, lm]
        simp (disch := first | (with_reducible assumption) | omega | exact ⟨by omega, by omega⟩ | ((with_reducible first | apply Wf.wI | apply Wf.wL | apply Wf.fL | apply Wf.fI | apply Wf.fr); (repeat (with_reducible first | assumption | apply Wf.wI | apply Wf.wL | apply Wf.fL | apply Wf.fI | apply Wf.fr)))) only [ck_163, gI_163, gL_163, pI_163, pZ0_163, pZ1_163, pL_163, gR_163_1, gR_163_2, gR_163_3, gR_163_5, gR_163_6, gR_163_7, gR_163_9, gR_163_10, gR_163_11, gR_163_12, gR_163_13, gR_163_14, gR_163_15, pR_163_17, gR_163_17, ck_t, gI_t, gL_t, pI_t, pZ0_t, pZ1_t, pL_t, ck_w, gI_w, gL_w, pI_w, pZ0_w, pZ1_w, pL_w, gR_t_1, gR_t_5, gR_t_7, gR_t_9, gR_t_10, gR_t_11, gR_t_12, gR_t_15, gR_w_2, gR_w_3, gR_w_4, gR_w_5, gR_w_6, gR_w_7, aR_crow, aR_srow, aR_prow, aR_rrow, aI_crow, sI_crow, len_crow, aI_srow, sI_srow, len_srow, aI_prow, sI_prow, len_prow, aI_rrow, sI_rrow, len_rrow, aI_t25, sI_t25, len_t25, aI_t31, sI_t31, len_t31, aI_t32, sI_t32, len_t32, aI_t34, sI_t34, len_t34, aI_t35, sI_t35, len_t35, aI_t36, sI_t36, len_t36, aI_t37, sI_t37, len_t37, aL_t38, sL_t38, len_t38, aL_t39, sL_t39, len_t39, bq_n, bd_s, mp_s, rz_0, rz_1, bI_rz, zadd, zmul, zsub, le_nI, lt_nI, eq_nI, neg_nI, gen_nI, neg_lt, neg_le, neg_lt', neg_le', nI_lt0, if_true, if_false, ite_true, ite_false, reduceIte, not_true, not_false, and_true, true_and, and_false, false_and, or_true, true_or, or_false, false_or, eq_self, hpp, tr_mc h.1, show (mc D < a) = False from eq_false (by omega), e1, y1, q_100000000000000000, hcmp]
      rw [he]
      refine ih (a + 1) fu τ1 (by omega) (by omega) (by omega) g1 hj1 (hr1.cg (fun v b _ _ _ => ?_))
      unfold layG
      by_cases q : v < w
      · rw [if_pos q, if_pos q]
      · rw [if_neg q, if_neg q]
        by_cases q2 : v = w
        · rw [if_pos q2, if_pos q2]
          show vmin (vmn (layE (dpC D st) T c w b) a) (layE (dpC D st) T c w b a) = _
          rw [show layE (dpC D st) T c w b a = none by unfold layE; rw [hbe]; rfl, vmin_n]
        · rw [if_neg q2, if_neg q2]
    | some x =>
      rw [hbe] at e3
      obtain ⟨y1, y2, y3, y4⟩ := e3
      obtain ⟨x1, x2⟩ := v2 x hbe
      have hcmp : (nI 0 ≤ lg_cmp (iL (x.1 : Int)) (iL 100000000000000000)) = False := by
        rw [cmp_ge ⟨by omega, by omega⟩ ⟨by omega, by omega⟩]; exact eq_false (by omega)
      obtain ⟨τ2, f1, f2, f3⟩ := c_layEnds h1.1 h1.2.1 h1.2.2.1 h1.2.2.2.1 hc h1.2.2.2.2.2.1 h1.2.2.2.2.2.2.1 h1.2.2.2.2.2.2.2.1 hw hla (show a ≤ mc D by omega) h1.2.2.2.2.2.2.2.2.1 h1.2.2.2.2.2.2.2.2.2.1 hbe x1 y1 y2 (fun b hb => by
        have : (w * 256 + a * 16 + b) * uD D c ≤ 1024 * uD D c := Nat.mul_le_mul_right _ (by omega)
        omega) hr1
      have he : f_X0_fill_92 K14 (fu + 1) 163 (nI c) (nI w) (nI a) τ = f_X0_fill_92 K14 fu 163 (nI c) (nI w) (nI (a + 1)) τ2 := by
        show f_X0_fill_92_b _ _ _ _ _ _ _ = _
        unfold f_X0_fill_92_b f_X0_fill_129
        simp only [to_bq, l_0, l_1, l_2, l_3, l_4, l_5, l_6, l_7, l_8, l_9, l_10, l_11, l_12, l_13, l_14, l_15, l_16, l_17, l_18, l_19, l_20, l_21, l_22, l_23, l_24, l_25, l_26, l_27, l_28, l_29, l_30, l_31, l_32, l_40, l_41, l_42, l_43, l_44, l_45, l_46, l_47, l_48, l_49, l_50, l_51, l_52, l_53, l_54, l_55, l_56, l_57, l_58, l_59, l_60, l_61, l_62, l_63, l_64, l_72, l_97, l_99, l_100, l_104, l_120, l_122, l_128, l_140, l_255, l_256, l_257, l_258, l_260, l_261, l_262, l_364, l_680, l_700, l_701, l_840, l_999, l_1023, l_1024, l_9999, l_10000, l_1000000, lm]
        simp (disch := first | (with_reducible assumption) | omega | exact ⟨by omega, by omega⟩ | ((with_reducible first | apply Wf.wI | apply Wf.wL | apply Wf.fL | apply Wf.fI | apply Wf.fr); (repeat (with_reducible first | assumption | apply Wf.wI | apply Wf.wL | apply Wf.fL | apply Wf.fI | apply Wf.fr)))) only [ck_163, gI_163, gL_163, pI_163, pZ0_163, pZ1_163, pL_163, gR_163_1, gR_163_2, gR_163_3, gR_163_5, gR_163_6, gR_163_7, gR_163_9, gR_163_10, gR_163_11, gR_163_12, gR_163_13, gR_163_14, gR_163_15, pR_163_17, gR_163_17, ck_t, gI_t, gL_t, pI_t, pZ0_t, pZ1_t, pL_t, ck_w, gI_w, gL_w, pI_w, pZ0_w, pZ1_w, pL_w, gR_t_1, gR_t_5, gR_t_7, gR_t_9, gR_t_10, gR_t_11, gR_t_12, gR_t_15, gR_w_2, gR_w_3, gR_w_4, gR_w_5, gR_w_6, gR_w_7, aR_crow, aR_srow, aR_prow, aR_rrow, aI_crow, sI_crow, len_crow, aI_srow, sI_srow, len_srow, aI_prow, sI_prow, len_prow, aI_rrow, sI_rrow, len_rrow, aI_t25, sI_t25, len_t25, aI_t31, sI_t31, len_t31, aI_t32, sI_t32, len_t32, aI_t34, sI_t34, len_t34, aI_t35, sI_t35, len_t35, aI_t36, sI_t36, len_t36, aI_t37, sI_t37, len_t37, aL_t38, sL_t38, len_t38, aL_t39, sL_t39, len_t39, bq_n, bd_s, mp_s, rz_0, rz_1, bI_rz, zadd, zmul, zsub, le_nI, lt_nI, eq_nI, neg_nI, gen_nI, neg_lt, neg_le, neg_lt', neg_le', nI_lt0, if_true, if_false, ite_true, ite_false, reduceIte, not_true, not_false, and_true, true_and, and_false, false_and, or_true, true_or, or_false, false_or, eq_self, hpp, tr_mc h.1, show (mc D < a) = False from eq_false (by omega), e1, y1, q_100000000000000000, hcmp, f1]
      rw [he]
      exact ih (a + 1) fu τ2 (by omega) (by omega) (by omega) (g1.trans (f2.mono Xex_f)) (fun m z1 z2 => by
        rw [f2.L (by unfold Xex; omega), f2.L (by unfold Xex; omega), f2.L (by unfold Xex; omega), f2.L (by unfold Xex; omega)]
        exact hj1 m z1 z2) f3
theorem c_fi14 (h0 : FiC σ t D st T g c s) : ∀ i w fu τ, w + i = nP D → i < fu → Fr (Xfi c) σ τ → RwE τ D c (layG (dpC D st) T c w 0) → ∃ τ', f_X0_fill_14 fu 163 (nI c) (nI w) τ = some τ' ∧ Fr (Xfi c) σ τ' ∧ CRow τ' D (layT (dpC D st) T) c := by
  have htn := h0.1.tn
  have b7 := h0.1.t.qc7
  have b4 := h0.1.t.qp4
  have b12 := h0.1.t.qmc12
  have hlm := h0.1.t.qlmc
  have hc := h0.2.2.2.2.1
  intro i
  induction i with
  | zero =>
    intro w fu τ hw hf gf hr
    obtain ⟨fu, rfl⟩ : ∃ q, fu = q + 1 := ⟨fu - 1, by omega⟩
    have h := h0.fr gf
    have hW := h.1.w
    have hpp := h.2.1
    obtain ⟨τ1, e1, e2, e3⟩ := c_spread (c := c) (T := layT (dpC D st) T) h.1 hpp (by omega) (fun o v b hb => vmn_none _ (fun j _ => by
      show vadd _ (dpo (dpC D st) o v j b) = none
      rw [(dpC_q D st).2, ownC_nb (by omega), vadd_n])) (fun v b z1 z2 z3 => by
      have := hr v b z1 z2 z3
      unfold layG at this
      rw [if_pos (by omega)] at this
      exact this)
    refine ⟨τ1, ?_, gf.trans (e2.mono (fun a j z => by unfold Xsp at z; unfold Xfi; omega)), e3⟩
    show f_X0_fill_14_b _ _ _ _ _ = _
    unfold f_X0_fill_14_b f_X0_fill_141
    simp only [to_bq, l_0, l_1, l_2, l_3, l_4, l_5, l_6, l_7, l_8, l_9, l_10, l_11, l_12, l_13, l_14, l_15, l_16, l_17, l_18, l_19, l_20, l_21, l_22, l_23, l_24, l_25, l_26, l_27, l_28, l_29, l_30, l_31, l_32, l_40, l_41, l_42, l_43, l_44, l_45, l_46, l_47, l_48, l_49, l_50, l_51, l_52, l_53, l_54, l_55, l_56, l_57, l_58, l_59, l_60, l_61, l_62, l_63, l_64, l_72, l_97, l_99, l_100, l_104, l_120, l_122, l_128, l_140, l_255, l_256, l_257, l_258, l_260, l_261, l_262, l_364, l_680, l_700, l_701, l_840, l_999, l_1023, l_1024, l_9999, l_10000, l_1000000, lm]
    simp (disch := first | (with_reducible assumption) | omega | exact ⟨by omega, by omega⟩ | ((with_reducible first | apply Wf.wI | apply Wf.wL | apply Wf.fL | apply Wf.fI | apply Wf.fr); (repeat (with_reducible first | assumption | apply Wf.wI | apply Wf.wL | apply Wf.fL | apply Wf.fI | apply Wf.fr)))) only [ck_163, gI_163, gL_163, pI_163, pZ0_163, pZ1_163, pL_163, gR_163_1, gR_163_2, gR_163_3, gR_163_5, gR_163_6, gR_163_7, gR_163_9, gR_163_10, gR_163_11, gR_163_12, gR_163_13, gR_163_14, gR_163_15, pR_163_17, gR_163_17, ck_t, gI_t, gL_t, pI_t, pZ0_t, pZ1_t, pL_t, ck_w, gI_w, gL_w, pI_w, pZ0_w, pZ1_w, pL_w, gR_t_1, gR_t_5, gR_t_7, gR_t_9, gR_t_10, gR_t_11, gR_t_12, gR_t_15, gR_w_2, gR_w_3, gR_w_4, gR_w_5, gR_w_6, gR_w_7, aR_crow, aR_srow, aR_prow, aR_rrow, aI_crow, sI_crow, len_crow, aI_srow, sI_srow, len_srow, aI_prow, sI_prow, len_prow, aI_rrow, sI_rrow, len_rrow, aI_t25, sI_t25, len_t25, aI_t31, sI_t31, len_t31, aI_t32, sI_t32, len_t32, aI_t34, sI_t34, len_t34, aI_t35, sI_t35, len_t35, aI_t36, sI_t36, len_t36, aI_t37, sI_t37, len_t37, aL_t38, sL_t38, len_t38, aL_t39, sL_t39, len_t39, bq_n, bd_s, mp_s, rz_0, rz_1, bI_rz, zadd, zmul, zsub, le_nI, lt_nI, eq_nI, neg_nI, gen_nI, neg_lt, neg_le, neg_lt', neg_le', nI_lt0, if_true, if_false, ite_true, ite_false, reduceIte, not_true, not_false, and_true, true_and, and_false, false_and, or_true, true_or, or_false, false_or, eq_self, hpp, tr_P h.1, show (nP D ≤ w) = True from eq_true (by omega), aR_exact, aR_under, e1]
  | succ i ih =>
    intro w fu τ hw hf gf hr
    obtain ⟨fu, rfl⟩ : ∃ q, fu = q + 1 := ⟨fu - 1, by omega⟩
    have h := h0.fr gf
    have hW := h.1.w
    have hpp := h.2.1
    obtain ⟨τ1, e1, e2, e3, e4⟩ := c_fi35 (K14 := f_X0_fill_14 fu) h0 (show w < nP D by omega) (mc D + 1 - lc D) (lc D) 5000 τ (by omega) (by omega) (Nat.le_refl _) gf hr (fun m' z1 z2 => by omega)
    have h1 := h0.fr e2
    have hW1 := h1.1.w
    have hpp1 := h1.2.1
    obtain ⟨τ2, f1, f2, f3⟩ := c_fi92 (K14 := f_X0_fill_14 fu) h0 (show w < nP D by omega) (mc D + 1 - lc D) (lc D) 5000 τ1 (by omega) (by omega) (Nat.le_refl _) e2 e4 (e3.cg (fun v b _ _ _ => by
      unfold layG
      by_cases q : v < w
      · rw [if_pos q, if_pos q]
      · rw [if_neg q, if_neg q]
        by_cases q2 : v = w
        · rw [if_pos q2, if_pos q2, vmn_none (f := layE (dpC D st) T c w b) (lc D) (fun j hj => by unfold layE; rw [(dpC_q D st).2, ownC_no (by omega), vadd_n])]; rfl
        · rw [if_neg q2, if_neg q2]))
    have he : f_X0_fill_14 (fu + 1) 163 (nI c) (nI w) τ = f_X0_fill_35 (f_X0_fill_14 fu) 5000 163 (nI c) (nI w) (nI (lc D)) τ := by
      show f_X0_fill_14_b _ _ _ _ _ = _
      unfold f_X0_fill_14_b
      simp only [to_bq, l_0, l_1, l_2, l_3, l_4, l_5, l_6, l_7, l_8, l_9, l_10, l_11, l_12, l_13, l_14, l_15, l_16, l_17, l_18, l_19, l_20, l_21, l_22, l_23, l_24, l_25, l_26, l_27, l_28, l_29, l_30, l_31, l_32, l_40, l_41, l_42, l_43, l_44, l_45, l_46, l_47, l_48, l_49, l_50, l_51, l_52, l_53, l_54, l_55, l_56, l_57, l_58, l_59, l_60, l_61, l_62, l_63, l_64, l_72, l_97, l_99, l_100, l_104, l_120, l_122, l_128, l_140, l_255, l_256, l_257, l_258, l_260, l_261, l_262, l_364, l_680, l_700, l_701, l_840, l_999, l_1023, l_1024, l_9999, l_10000, l_1000000, lm]
      simp (disch := first | (with_reducible assumption) | omega | exact ⟨by omega, by omega⟩ | ((with_reducible first | apply Wf.wI | apply Wf.wL | apply Wf.fL | apply Wf.fI | apply Wf.fr); (repeat (with_reducible first | assumption | apply Wf.wI | apply Wf.wL | apply Wf.fL | apply Wf.fI | apply Wf.fr)))) only [ck_163, gI_163, gL_163, pI_163, pZ0_163, pZ1_163, pL_163, gR_163_1, gR_163_2, gR_163_3, gR_163_5, gR_163_6, gR_163_7, gR_163_9, gR_163_10, gR_163_11, gR_163_12, gR_163_13, gR_163_14, gR_163_15, pR_163_17, gR_163_17, ck_t, gI_t, gL_t, pI_t, pZ0_t, pZ1_t, pL_t, ck_w, gI_w, gL_w, pI_w, pZ0_w, pZ1_w, pL_w, gR_t_1, gR_t_5, gR_t_7, gR_t_9, gR_t_10, gR_t_11, gR_t_12, gR_t_15, gR_w_2, gR_w_3, gR_w_4, gR_w_5, gR_w_6, gR_w_7, aR_crow, aR_srow, aR_prow, aR_rrow, aI_crow, sI_crow, len_crow, aI_srow, sI_srow, len_srow, aI_prow, sI_prow, len_prow, aI_rrow, sI_rrow, len_rrow, aI_t25, sI_t25, len_t25, aI_t31, sI_t31, len_t31, aI_t32, sI_t32, len_t32, aI_t34, sI_t34, len_t34, aI_t35, sI_t35, len_t35, aI_t36, sI_t36, len_t36, aI_t37, sI_t37, len_t37, aL_t38, sL_t38, len_t38, aL_t39, sL_t39, len_t39, bq_n, bd_s, mp_s, rz_0, rz_1, bI_rz, zadd, zmul, zsub, le_nI, lt_nI, eq_nI, neg_nI, gen_nI, neg_lt, neg_le, neg_lt', neg_le', nI_lt0, if_true, if_false, ite_true, ite_false, reduceIte, not_true, not_false, and_true, true_and, and_false, false_and, or_true, true_or, or_false, false_or, eq_self, hpp, tr_P h.1, tr_lc h.1, show (nP D ≤ w) = False from eq_false (by omega)]
    have he2 : f_X0_fill_82 (f_X0_fill_14 fu) 163 (nI c) (nI w) τ1 = f_X0_fill_92 (f_X0_fill_14 fu) 5000 163 (nI c) (nI w) (nI (lc D)) τ1 := by
      unfold f_X0_fill_82
      simp only [to_bq, l_0, l_1, l_2, l_3, l_4, l_5, l_6, l_7, l_8, l_9, l_10, l_11, l_12, l_13, l_14, l_15, l_16, l_17, l_18, l_19, l_20, l_21, l_22, l_23, l_24, l_25, l_26, l_27, l_28, l_29, l_30, l_31, l_32, l_40, l_41, l_42, l_43, l_44, l_45, l_46, l_47, l_48, l_49, l_50, l_51, l_52, l_53, l_54, l_55, l_56, l_57, l_58, l_59, l_60, l_61, l_62, l_63, l_64, l_72, l_97, l_99, l_100, l_104, l_120, l_122, l_128, l_140, l_255, l_256, l_257, l_258, l_260, l_261, l_262, l_364, l_680, l_700, l_701, l_840, l_999, l_1023, l_1024, l_9999, l_10000, l_1000000, lm]
      simp (disch := first | (with_reducible assumption) | omega | exact ⟨by omega, by omega⟩ | ((with_reducible first | apply Wf.wI | apply Wf.wL | apply Wf.fL | apply Wf.fI | apply Wf.fr); (repeat (with_reducible first | assumption | apply Wf.wI | apply Wf.wL | apply Wf.fL | apply Wf.fI | apply Wf.fr)))) only [ck_163, gI_163, gL_163, pI_163, pZ0_163, pZ1_163, pL_163, gR_163_1, gR_163_2, gR_163_3, gR_163_5, gR_163_6, gR_163_7, gR_163_9, gR_163_10, gR_163_11, gR_163_12, gR_163_13, gR_163_14, gR_163_15, pR_163_17, gR_163_17, ck_t, gI_t, gL_t, pI_t, pZ0_t, pZ1_t, pL_t, ck_w, gI_w, gL_w, pI_w, pZ0_w, pZ1_w, pL_w, gR_t_1, gR_t_5, gR_t_7, gR_t_9, gR_t_10, gR_t_11, gR_t_12, gR_t_15, gR_w_2, gR_w_3, gR_w_4, gR_w_5, gR_w_6, gR_w_7, aR_crow, aR_srow, aR_prow, aR_rrow, aI_crow, sI_crow, len_crow, aI_srow, sI_srow, len_srow, aI_prow, sI_prow, len_prow, aI_rrow, sI_rrow, len_rrow, aI_t25, sI_t25, len_t25, aI_t31, sI_t31, len_t31, aI_t32, sI_t32, len_t32, aI_t34, sI_t34, len_t34, aI_t35, sI_t35, len_t35, aI_t36, sI_t36, len_t36, aI_t37, sI_t37, len_t37, aL_t38, sL_t38, len_t38, aL_t39, sL_t39, len_t39, bq_n, bd_s, mp_s, rz_0, rz_1, bI_rz, hpp1, tr_lc h1.1]
    rw [he, e1, he2, f1]
    exact ih (w + 1) fu τ2 (by omega) (by omega) f2 f3
theorem c_fill (h : FiC σ t D st T g c s) : ∃ τ, f_X0_fill 163 (nI c) σ = some τ ∧ Fr (Xfi c) σ τ ∧ CRow τ D (layT (dpC D st) T) c := by
  have hNV : NV = 100000000000000000 := rfl
  have hW := h.1.w
  have b7 := h.1.t.qc7
  have b4 := h.1.t.qp4
  have b12 := h.1.t.qmc12
  have hc := h.2.2.2.2.1
  have hc7 : c < 7 := by omega
  have f1 : Fr (Xfi c) σ (ah_fL σ (170 + c) 0 104 (iL 100000000000000000)) := (Fr.rfl (X := Xfi c) (σ := σ)).fL (fun j _ _ => Or.inl rfl)
  obtain ⟨τ, e1, e2, e3⟩ := c_fi14 h (nP D) 0 5000 _ (by omega) (by omega) f1 (fun v b z1 z2 z3 => by
    have : layG (dpC D st) T c 0 0 v b = none := by
      unfold layG
      rw [if_neg (by omega)]
      by_cases q : v = 0
      · rw [if_pos q]; rfl
      · rw [if_neg q]
    rw [this, L_fL, if_pos ⟨rfl, by omega, by omega⟩]
    exact ⟨100000000000000000, rfl, by omega, by rw [hNV]; omega⟩)
  refine ⟨τ, ?_, e2, e3⟩
  unfold f_X0_fill f_X0_fill_0
  simp only [to_bq, l_0, l_1, l_2, l_3, l_4, l_5, l_6, l_7, l_8, l_9, l_10, l_11, l_12, l_13, l_14, l_15, l_16, l_17, l_18, l_19, l_20, l_21, l_22, l_23, l_24, l_25, l_26, l_27, l_28, l_29, l_30, l_31, l_32, l_40, l_41, l_42, l_43, l_44, l_45, l_46, l_47, l_48, l_49, l_50, l_51, l_52, l_53, l_54, l_55, l_56, l_57, l_58, l_59, l_60, l_61, l_62, l_63, l_64, l_72, l_97, l_99, l_100, l_104, l_120, l_122, l_128, l_140, l_255, l_256, l_257, l_258, l_260, l_261, l_262, l_364, l_680, l_700, l_701, l_840, l_999, l_1023, l_1024, l_9999, l_10000, l_1000000, lm]
  rw [ck_163 hW, gR_163_9 hW, bq_n, aR_exact hW hc7, bq_n, q_100000000000000000, c_fillL (iL 100000000000000000) hW (S0_exact hc7) (by decide), bq_n]
  exact e1
end
