/-! THE CLASS: the table of a corner -/
def Xfi (c a j : Nat) : Prop := a = 170 + c ∨ a = 178 + c ∨ a = 185 ∨ a = 186 ∨ a = 163 ∧ (j = 18 ∨ j = 19)
/-- all that the table of a corner rests on -/
def FiC (σ : ah_H) (t : Nat) (D : DD) (st : Nat → Option Nat) (T : Tbl) (g : Nat → Nat) (c s : Nat) : Prop := TR σ t D ∧ ah_R σ 163 17 = some t ∧ D 227 4 ≠ mI 1 ∧ PrT σ D ∧ c < nC D ∧ ah_I σ 164 c = nI s ∧ st c = some s ∧ s < nS D ∧ ah_R σ 201 8 = some t ∧ FD σ 201 D st cpM c ∧ GaR σ D st c (nC D) ∧ CKid σ D st T c ∧ CBd D st T g c ∧ (∀ o v b, b < lc D → T o v b = none) ∧ (cnt (kd (nx D st) c) (nC D) ≠ 0 → ∀ l, 1 ≤ l → l < 13 → ah_L σ 187 l = iL (pumpv D l (gq D st c))) ∧ (∀ o, o < nC D → nx D st o = some c → o ≠ c) ∧ sm (fun o => if nx D st o = some c then g o else 0) (nC D) + 1024 * uD D c < 9223372036854775808
section
variable {σ : ah_H} {t : Nat} {D : DD} {st : Nat → Option Nat} {T : Tbl} {g : Nat → Nat} {c s w a : Nat}
theorem FiC.fr {τ : ah_H} (h : FiC σ t D st T g c s) (f : Fr (Xfi c) σ τ) : FiC τ t D st T g c s := by
  obtain ⟨h1, h2, h3, h4, h5, h6, h7, h8, h9, h10, h11, h12, h13, h14, h15, h16, h17⟩ := h
  have htn := h1.tn
  have b7 := h1.t.qc7
  have b4 := h1.t.qp4
  have b12 := h1.t.qmc12
  refine ⟨h1.fr f (fun a j z1 z2 => by unfold Xfi; rcases htn with z | z <;> omega), by rw [f.R (Or.inr (by unfold Xfi; omega))]; exact h2, h3, ⟨fun w hw x z1 z2 => by rw [f.L (by unfold Xfi; omega)]; exact h4.1 w hw x z1 z2, fun o ho w hw d z1 z2 => by rw [f.L (by unfold Xfi; omega)]; exact h4.2 o ho w hw d z1 z2⟩, h5, by rw [f.I (by unfold Xfi; omega)]; exact h6, h7, h8, by rw [f.R (Or.inr (by unfold Xfi; omega))]; exact h9, ⟨fun j hj => by rw [f.L (by unfold Xfi; omega)]; exact h10.1 j hj, by rw [f.I (by unfold Xfi; omega)]; exact h10.2.1, fun z r u hr hu => by rw [f.L (by unfold Xfi; omega)]; exact h10.2.2 z r u hr hu⟩, ⟨by rw [f.I (by unfold Xfi; omega)]; exact h11.1, fun o ho hx => by rw [f.I (by unfold Xfi; omega)]; exact h11.2 o ho hx⟩, fun o ho hx v b z1 z2 z3 => ?_, h13, h14, fun z l z1 z2 => by rw [f.L (by unfold Xfi; omega)]; exact h15 z l z1 z2, h16, h17⟩
  have hoc := h16 o ho hx
  rw [f.L (by unfold Xfi; omega), f.L (by unfold Xfi; omega), f.L (by unfold Xfi; omega), f.L (by unfold Xfi; omega)]
  exact h12 o ho hx v b z1 z2 z3
theorem Xjb_f {i : Nat} : ∀ a j, Xjb i a j → Xfi c a j := by
  intro a j h; unfold Xjb at h; unfold Xfi; omega
theorem Xen_f : ∀ a j, Xen a j → Xfi c a j := by
  intro a j h; unfold Xen at h; unfold Xfi; omega
theorem Xex_f : ∀ a j, Xex c a j → Xfi c a j := by
  intro a j h; unfold Xex at h; unfold Xfi; omega
theorem c_fi35 {K14 : Nat → Int32 → Int32 → ah_H → Option (ah_H)} (h0 : FiC σ t D st T g c s) (hw : w < nP D) {G : Nat → Nat → VV} : ∀ i m fu τ, m + i = mc D + 1 → i < fu → lc D ≤ m → Fr (Xfi c) σ τ → RwE τ D c G → (∀ m', lc D ≤ m' → m' < m → Rp NV (ah_L τ 186 (w * 13 + m')) (ah_L τ 186 (52 + (w * 13 + m'))) (chsT (dpC D st) T c w m') ∧ Rp NV (ah_L τ 185 (w * 13 + m')) (ah_L τ 185 (52 + (w * 13 + m'))) (chjT (dpC D st) T c w m')) → ∃ τ', f_X0_fill_35 K14 fu 163 (nI c) (nI w) (nI m) τ = f_X0_fill_82 K14 163 (nI c) (nI w) τ' ∧ Fr (Xfi c) σ τ' ∧ RwE τ' D c G ∧ JbR τ' D (dpC D st) T c w := by
  have htn := h0.1.tn
  have b7 := h0.1.t.qc7
  have b4 := h0.1.t.qp4
  have b12 := h0.1.t.qmc12
  intro i
  induction i with
  | zero =>
    intro m fu τ hm hf hlm gf hrow hj
    obtain ⟨fu, rfl⟩ : ∃ q, fu = q + 1 := ⟨fu - 1, by omega⟩
    have h := h0.fr gf
    have hW := h.1.w
    have hpp := h.2.1
    refine ⟨τ, ?_, gf, hrow, fun m' z1 z2 => hj m' z1 (by omega)⟩
    show f_X0_fill_35_b _ _ _ _ _ _ _ = _
    unfold f_X0_fill_35_b
    simp only [to_bq, l_0, l_1, l_2, l_3, l_4, l_5, l_6, l_7, l_8, l_9, l_10, l_11, l_12, l_13, l_14, l_15, l_16, l_17, l_18, l_19, l_20, l_21, l_22, l_23, l_24, l_25, l_26, l_27, l_28, l_29, l_30, l_31, l_32, l_40, l_41, l_42, l_43, l_44, l_45, l_46, l_47, l_48, l_49, l_50, l_51, l_52, l_53, l_54, l_55, l_56, l_57, l_58, l_59, l_60, l_61, l_62, l_63, l_64, l_72, l_97, l_99, l_100, l_104, l_120, l_122, l_128, l_140, l_255, l_256, l_257, l_258, l_260, l_261, l_262, l_364, l_680, l_700, l_701, l_840, l_999, l_1023, l_1024, l_9999, l_10000, l_1000000, lm]
    simp (disch := first | (with_reducible assumption) | omega | exact ⟨by omega, by omega⟩ | ((with_reducible first | apply Wf.wI | apply Wf.wL | apply Wf.fL | apply Wf.fI | apply Wf.fr); (repeat (with_reducible first | assumption | apply Wf.wI | apply Wf.wL | apply Wf.fL | apply Wf.fI | apply Wf.fr)))) only [ck_163, gI_163, gL_163, pI_163, pZ0_163, pZ1_163, pL_163, gR_163_1, gR_163_2, gR_163_3, gR_163_5, gR_163_6, gR_163_7, gR_163_9, gR_163_10, gR_163_11, gR_163_12, gR_163_13, gR_163_14, gR_163_15, pR_163_17, gR_163_17, ck_t, gI_t, gL_t, pI_t, pZ0_t, pZ1_t, pL_t, ck_w, gI_w, gL_w, pI_w, pZ0_w, pZ1_w, pL_w, gR_t_1, gR_t_5, gR_t_7, gR_t_9, gR_t_10, gR_t_11, gR_t_12, gR_t_15, gR_w_2, gR_w_3, gR_w_4, gR_w_5, gR_w_6, gR_w_7, aR_crow, aR_srow, aR_prow, aR_rrow, aI_crow, sI_crow, len_crow, aI_srow, sI_srow, len_srow, aI_prow, sI_prow, len_prow, aI_rrow, sI_rrow, len_rrow, aI_t25, sI_t25, len_t25, aI_t31, sI_t31, len_t31, aI_t32, sI_t32, len_t32, aI_t34, sI_t34, len_t34, aI_t35, sI_t35, len_t35, aI_t36, sI_t36, len_t36, aI_t37, sI_t37, len_t37, aL_t38, sL_t38, len_t38, aL_t39, sL_t39, len_t39, bq_n, bd_s, mp_s, rz_0, rz_1, bI_rz, zadd, zmul, zsub, le_nI, lt_nI, eq_nI, neg_nI, gen_nI, neg_lt, neg_le, neg_lt', neg_le', nI_lt0, if_true, if_false, ite_true, ite_false, reduceIte, not_true, not_false, and_true, true_and, and_false, false_and, or_true, true_or, or_false, false_or, eq_self, hpp, tr_mc h.1, show (mc D < m) = True from eq_true (by omega)]
  | succ i ih =>
    intro m fu τ hm hf hlm gf hrow hj
    obtain ⟨fu, rfl⟩ : ∃ q, fu = q + 1 := ⟨fu - 1, by omega⟩
    have h := h0.fr gf
    have hW := h.1.w
    have hpp := h.2.1
    obtain ⟨τ1, e1, e2, e3, e4⟩ := c_joinBranches (w := w) (m := m) hW b7 (dpC_q D st).1 h.2.2.2.2.2.2.2.2.2.2.2.2.2.1 h.2.2.2.2.2.2.2.2.2.2.1 h.2.2.2.2.2.2.2.2.2.2.2.1 h.2.2.2.2.2.2.2.2.2.2.2.2.1 b12 hw b4 hlm (by omega)
    have he : f_X0_fill_35 K14 (fu + 1) 163 (nI c) (nI w) (nI m) τ = f_X0_fill_35 K14 fu 163 (nI c) (nI w) (nI (m + 1)) τ1 := by
      show f_X0_fill_35_b _ _ _ _ _ _ _ = _
      unfold f_X0_fill_35_b f_X0_fill_73
      simp only [to_bq, l_0, l_1, l_2, l_3, l_4, l_5, l_6, l_7, l_8, l_9, l_10, l_11, l_12, l_13, l_14, l_15, l_16, l_17, l_18, l_19, l_20, l_21, l_22, l_23, l_24, l_25, l_26, l_27, l_28, l_29, l_30, l_31, l_32, l_40, l_41, l_42, l_43, l_44, l_45, l_46, l_47, l_48, l_49, l_50, l_51, l_52, l_53, l_54, l_55, l_56, l_57, l_58, l_59, l_60, l_61, l_62, l_63, l_64, l_72, l_97, l_99, l_100, l_104, l_120, l_122, l_128, l_140, l_255, l_256, l_257, l_258, l_260, l_261, l_262, l_364, l_680, l_700, l_701, l_840, l_999, l_1023, l_1024, l_9999, l_10000, l_1000000, lm]
      by_cases q : lc D < m
      · rw [show bI (lc D < m) = nI 1 from if_pos q] at e1
        simp (disch := first | (with_reducible assumption) | omega | exact ⟨by omega, by omega⟩ | ((with_reducible first | apply Wf.wI | apply Wf.wL | apply Wf.fL | apply Wf.fI | apply Wf.fr); (repeat (with_reducible first | assumption | apply Wf.wI | apply Wf.wL | apply Wf.fL | apply Wf.fI | apply Wf.fr)))) only [ck_163, gI_163, gL_163, pI_163, pZ0_163, pZ1_163, pL_163, gR_163_1, gR_163_2, gR_163_3, gR_163_5, gR_163_6, gR_163_7, gR_163_9, gR_163_10, gR_163_11, gR_163_12, gR_163_13, gR_163_14, gR_163_15, pR_163_17, gR_163_17, ck_t, gI_t, gL_t, pI_t, pZ0_t, pZ1_t, pL_t, ck_w, gI_w, gL_w, pI_w, pZ0_w, pZ1_w, pL_w, gR_t_1, gR_t_5, gR_t_7, gR_t_9, gR_t_10, gR_t_11, gR_t_12, gR_t_15, gR_w_2, gR_w_3, gR_w_4, gR_w_5, gR_w_6, gR_w_7, aR_crow, aR_srow, aR_prow, aR_rrow, aI_crow, sI_crow, len_crow, aI_srow, sI_srow, len_srow, aI_prow, sI_prow, len_prow, aI_rrow, sI_rrow, len_rrow, aI_t25, sI_t25, len_t25, aI_t31, sI_t31, len_t31, aI_t32, sI_t32, len_t32, aI_t34, sI_t34, len_t34, aI_t35, sI_t35, len_t35, aI_t36, sI_t36, len_t36, aI_t37, sI_t37, len_t37, aL_t38, sL_t38, len_t38, aL_t39, sL_t39, len_t39, bq_n, bd_s, mp_s, rz_0, rz_1, bI_rz, zadd, zmul, zsub, le_nI, lt_nI, eq_nI, neg_nI, gen_nI, neg_lt, neg_le, neg_lt', neg_le', nI_lt0, if_true, if_false, ite_true, ite_false, reduceIte, not_true, not_false, and_true, true_and, and_false, false_and, or_true, true_or, or_false, false_or, eq_self, hpp, tr_mc h.1, tr_lc h.1, show (mc D < m) = False from eq_false (by omega), show (m ≤ lc D) = False from eq_false (by omega), e1]
      · rw [show bI (lc D < m) = nI 0 from if_neg q] at e1
        simp (disch := first | (with_reducible assumption) | omega | exact ⟨by omega, by omega⟩ | ((with_reducible first | apply Wf.wI | apply Wf.wL | apply Wf.fL | apply Wf.fI | apply Wf.fr); (repeat (with_reducible first | assumption | apply Wf.wI | apply Wf.wL | apply Wf.fL | apply Wf.fI | apply Wf.fr)))) only [ck_163, gI_163, gL_163, pI_163, pZ0_163, pZ1_163, pL_163, gR_163_1, gR_163_2, gR_163_3, gR_163_5, gR_163_6, gR_163_7, gR_163_9, gR_163_10, gR_163_11, gR_163_12, gR_163_13, gR_163_14, gR_163_15, pR_163_17, gR_163_17, ck_t, gI_t, gL_t, pI_t, pZ0_t, pZ1_t, pL_t, ck_w, gI_w, gL_w, pI_w, pZ0_w, pZ1_w, pL_w, gR_t_1, gR_t_5, gR_t_7, gR_t_9, gR_t_10, gR_t_11, gR_t_12, gR_t_15, gR_w_2, gR_w_3, gR_w_4, gR_w_5, gR_w_6, gR_w_7, aR_crow, aR_srow, aR_prow, aR_rrow, aI_crow, sI_crow, len_crow, aI_srow, sI_srow, len_srow, aI_prow, sI_prow, len_prow, aI_rrow, sI_rrow, len_rrow, aI_t25, sI_t25, len_t25, aI_t31, sI_t31, len_t31, aI_t32, sI_t32, len_t32, aI_t34, sI_t34, len_t34, aI_t35, sI_t35, len_t35, aI_t36, sI_t36, len_t36, aI_t37, sI_t37, len_t37, aL_t38, sL_t38, len_t38, aL_t39, sL_t39, len_t39, bq_n, bd_s, mp_s, rz_0, rz_1, bI_rz, zadd, zmul, zsub, le_nI, lt_nI, eq_nI, neg_nI, gen_nI, neg_lt, neg_le, neg_lt', neg_le', nI_lt0, if_true, if_false, ite_true, ite_false, reduceIte, not_true, not_false, and_true, true_and, and_false, false_and, or_true, true_or, or_false, false_or, eq_self, hpp, tr_mc h.1, tr_lc h.1, show (mc D < m) = False from eq_false (by omega), show (m ≤ lc D) = True from eq_true (by omega), e1]
    rw [he]
    have hc := h.2.2.2.2.1
    refine ih (m + 1) fu τ1 (by omega) (by omega) (by omega) (gf.trans (e2.mono Xjb_f)) (fun v b z1 z2 z3 => by rw [e2.L (by unfold Xjb; omega), e2.L (by unfold Xjb; omega)]; exact hrow v b z1 z2 z3) (fun m' z1 z2 => ?_)
    by_cases q : m' = m
    · rw [q]; exact ⟨e3, e4⟩
    · rw [e2.L (by unfold Xjb; omega), e2.L (by unfold Xjb; omega), e2.L (by unfold Xjb; omega), e2.L (by unfold Xjb; omega)]
      exact hj m' z1 (by omega)
theorem vb_beh (h : FiC σ t D st T g c s) (ha : lc D ≤ a) (ha2 : a ≤ mc D) : (∀ m, lc D ≤ m → m ≤ mc D → vb (chjT (dpC D st) T c w m) 90000000000000000) ∧ ∀ x, behT (dpC D st) T c w a = some x → x.1 < 90000000000000000 ∧ x.2 + 1024 * uD D c < 9223372036854775808 := by
  have b7 := h.1.t.qc7
  have b12 := h.1.t.qmc12
  have hb := h.2.2.2.2.2.2.2.2.2.2.2.2.1
  have hT := h.2.2.2.2.2.2.2.2.2.2.2.2.2.1
  have hS := h.2.2.2.2.2.2.2.2.2.2.2.2.2.2.2.2
  have hq := gmx_b (st := st) (cp := plain) h.1.t h.2.2.2.2.1
  have hJ : ∀ m, lc D ≤ m → VBk D st g c (nC D) (chjT (dpC D st) T c w m) := fun m hm => by
    rw [chj_d (dpC_q D st).1 hT hm]
    exact dD_b hb w m (nC D) (Nat.le_refl _)
  have hSs : VBk D st g c (nC D) (chsT (dpC D st) T c w a) := by
    rw [chs_d (dpC_q D st).1]
    exact dS_b hb (coT T w a) (fun o ho hx => com_b hb ho hx w a) (nC D) (Nat.le_refl _)
  refine ⟨fun m h1 _ => vb_mono (hJ m h1).1 (by omega), fun x hx => ?_⟩
  have key : vb (behT (dpC D st) T c w a) 80000000000000000 ∧ vk (behT (dpC D st) T c w a) (sm (fun o => if nx D st o = some c then g o else 0) (nC D)) := by
    unfold behT
    refine ⟨vb_min (vb_mono hSs.1 (by omega)) (vb_mn _ (fun m hm => ?_)), vk_min hSs.2 (vk_mn _ (fun m hm => ?_))⟩
    · by_cases z : a < m
      · rw [if_pos z]
        have hm2 : m < mc D + 1 := hm
        refine vb_mono (vb_add (A := 1000000000000) ?_ (hJ m (by omega)).1) (by omega)
        rw [(dpC_q D st).1.2.2]
        exact pmv_b h.1.t ⟨by unfold gq; omega, by unfold gq; omega⟩ (by omega)
      · rw [if_neg z]; exact vb_none _
    · by_cases z : a < m
      · rw [if_pos z]
        refine vk_mono (vk_add (A := 0) ?_ (hJ m (by omega)).2) (by omega)
        rw [(dpC_q D st).1.2.2]
        unfold pmv
        by_cases y : told D 2
        · rw [if_pos y]; intro x hx; cases hx; exact Nat.le_refl _
        · rw [if_neg y]; exact vk_none _
      · rw [if_neg z]; exact vk_none _
  have k1 := key.1 x hx
  have k2 := key.2 x hx
  exact ⟨by omega, by omega⟩
end
