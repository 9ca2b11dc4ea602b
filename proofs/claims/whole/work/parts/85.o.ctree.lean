/-! THE CLASS: the questions about trees -/
def Xse (t a j : Nat) : Prop := Xco t a j ∨ a = 160
section
variable {σ τ : ah_H} {t : Nat} {D : DD}
theorem Xse_t (htn : Tn t) : ∀ a j, Xse t a j → a = t + 38 ∨ a = t + 39 ∨ 160 ≤ a ∧ a ≤ 221 := by
  intro a j h
  unfold Tn at htn
  unfold Xse Xco Xso Xsv Xot Xn Xf Xpr Xl at h
  omega
theorem CJ.ft {X : Nat → Nat → Prop} (h : CJ σ t D) (g : Fr X σ τ) (hX : ∀ a j, X a j → a = t + 38 ∨ a = t + 39 ∨ 160 ≤ a) : CJ τ t D := by
  obtain ⟨h1, h2, h3, h4, ⟨h5, h6⟩, ⟨h7, h8⟩, h9⟩ := h
  have hT : t = 2 ∨ t = 42 := h1.1.tn
  have hx : ∀ a j, a < 160 → a ≠ t + 38 → a ≠ t + 39 → ¬ X a j := fun a j z1 z2 z3 z4 => by have := hX a j z4; omega
  exact ⟨h1.fr g (fun a j _ => hx a j (by omega) (by omega) (by omega)), h2.fr g (fun a j _ => hx a j (by omega) (by omega) (by omega)), (g.R (Or.inr (hx _ _ (by omega) (by omega) (by omega)))).trans h3, (g.R (Or.inr (hx _ _ (by omega) (by omega) (by omega)))).trans h4, ⟨(g.I (hx _ _ (by omega) (by omega) (by omega))).trans h5, fun j hj => (g.I (hx _ _ (by omega) (by omega) (by omega))).trans (h6 j hj)⟩, ⟨(g.I (hx _ _ (by omega) (by omega) (by omega))).trans h7, (g.I (hx _ _ (by omega) (by omega) (by omega))).trans h8⟩, fun k hk => (g.I (hx _ _ (by omega) (by omega) (by omega))).trans (h9 k hk)⟩
theorem TI0.w160 {j : Nat} {x : Int32} (h : TI0 σ t D) (h4 : nP D ≤ 4) (h7 : nC D ≤ 7) : TI0 (ah_wI σ 160 j x) t D := by
  obtain ⟨i1, i2, i3, i4, i5, i6⟩ := h
  exact ⟨i1, i2, i3.imp (fun z => by rw [rI_ne (by omega)]; exact z) (fun z => z.fr h4 h7 (fun a j _ _ => rfl)), i4.fr h7 (fun c => rI_ne (by omega)) (fun a j _ _ => rfl), i5, i6⟩
theorem TI0.l160 {j : Nat} {x : Int64} (h : TI0 σ t D) (h4 : nP D ≤ 4) (h7 : nC D ≤ 7) : TI0 (ah_wL σ 160 j x) t D := by
  obtain ⟨i1, i2, i3, i4, i5, i6⟩ := h
  exact ⟨i1, i2, i3.imp (fun z => z) (fun z => z.fr h4 h7 (fun a j _ _ => rL_ne (by omega))), i4.fr h7 (fun c => rfl) (fun a j _ _ => rL_ne (by omega)), fun c hc => by rw [rL_ne (by omega)]; exact i5 c hc, fun m hm => (i6 m hm).imp (fun z => by rw [rL_ne (by omega)]; exact z) (fun z => z.fr (rL_ne (by omega)) (rL_ne (by omega)))⟩
theorem cst_1 (hb : CB D) {k : Nat} : lg_cmp (cst D k) (iL (-1)) = nI 0 ↔ ¬ TrQ D k := by
  unfold cst
  by_cases q : TrQ D k
  · rw [cif_t q]
    refine ⟨fun z => ?_, fun z => absurd q z⟩
    cases e : cpv D k with
    | none => rw [e] at z; exact absurd z (by decide : ¬ lg_cmp (iL (-2)) (iL (-1)) = nI 0)
    | some x =>
      have := hb k q x e
      rw [e] at z
      have z : lg_cmp (iL (x.1 : Int)) (iL (-1)) = nI 0 := z
      rw [cmp_e ⟨by omega, by omega⟩ ⟨by omega, by omega⟩] at z
      omega
  · rw [cif_f q]
    exact ⟨fun _ => q, fun _ => (by decide : lg_cmp (iL (-1)) (iL (-1)) = nI 0)⟩
theorem c_st20 (h0 : TR σ t D) (hb : CB D) : ∀ i k fu τ, k + i = 2 ^ nS D → i < fu → Fr (Xse t) σ τ → TI0 τ t D → (∀ m, m < k → CkR τ D m) → ah_I τ 160 2 = nI (ltF D 0 k).2.1 → (ltF D 0 k).2.1 ≤ k → ∃ τ', f_X10_settle_20 fu 160 (nI k) τ = some τ' ∧ Fr (Xse t) σ τ' ∧ TI0 τ' t D ∧ StL τ' D := by
  have htn := h0.tn
  have h2 := p2S h0.t
  have b10 := h0.t.qs10
  have b7 := h0.t.qc7
  have b4 := h0.t.qp4
  have hT : t = 2 ∨ t = 42 := htn
  intro i
  induction i with
  | zero =>
    intro k fu τ hk hf g hi hc hn hl
    obtain ⟨fu, rfl⟩ : ∃ q, fu = q + 1 := ⟨fu - 1, by omega⟩
    obtain rfl : k = 2 ^ nS D := by omega
    have h : TR τ t D := h0.fr g (fun a j _ _ z => by have := Xse_t htn a j z; omega)
    have hW := h.w
    have hp := hi.1
    have e1 := c_best (w := 0) h hp hb (by omega) hc
    have f1 : Fr (Xse t) σ (ah_wI τ 160 1 (ltF D 0 (2 ^ nS D)).2.2) := g.wI (Or.inr rfl)
    have i1 : TI0 (ah_wI τ 160 1 (ltF D 0 (2 ^ nS D)).2.2) t D := hi.w160 b4 b7
    have v2 : ah_I (ah_wI τ 160 1 (ltF D 0 (2 ^ nS D)).2.2) 160 2 = nI (ltF D 0 (2 ^ nS D)).2.1 := by rw [rI_ne (by omega)]; exact hn
    have v1 : ah_I (ah_wI τ 160 1 (ltF D 0 (2 ^ nS D)).2.2) 160 1 = (ltF D 0 (2 ^ nS D)).2.2 := rI_eq
    have c1 : ∀ m, m < 2 ^ nS D → CkR (ah_wI τ 160 1 (ltF D 0 (2 ^ nS D)).2.2) D m := fun m hm => (hc m hm).fr rfl rfl
    have hstart : f_X10_settle_20 (fu + 1) 160 (nI (2 ^ nS D)) τ = bq (fun σ2 => bq (fun v3 => if v3 = mI 1 then f_X10_settle_94 160 (iL (-2)) σ2 else bq (fun v4 => bq (fun v5 => bq (fun v6 => f_X10_settle_94 160 v6 σ2) (Unit.unit : Unit) (op_aL σ2 v4 v5)) (Unit.unit : Unit) (op_gI 10 1 σ2 160)) (Unit.unit : Unit) (op_gR 10 4 σ2 160)) (Unit.unit : Unit) (op_gI 10 1 σ2 160)) (Unit.unit : Unit) (some (ah_wI τ 160 1 (ltF D 0 (2 ^ nS D)).2.2)) := by
      show f_X10_settle_20_b _ _ _ _ = _
      unfold f_X10_settle_20_b f_X10_settle_61
      simp only [to_bq, l_0, l_1, l_2, l_3, l_4, l_5, l_6, l_7, l_8, l_9, l_10, l_11, l_12, l_13, l_14, l_15, l_16, l_17, l_18, l_19, l_20, l_21, l_22, l_23, l_24, l_25, l_26, l_27, l_28, l_29, l_30, l_31, l_32, l_40, l_41, l_42, l_43, l_44, l_45, l_46, l_47, l_48, l_49, l_50, l_51, l_52, l_53, l_54, l_55, l_56, l_57, l_58, l_59, l_60, l_61, l_62, l_63, l_64, l_72, l_97, l_99, l_100, l_104, l_120, l_122, l_128, l_140, l_255, l_256, l_257, l_258, l_260, l_261, l_262, l_364, l_680, l_700, l_701, l_840, l_999, l_1023, l_1024, l_9999, l_10000, l_1000000, lm]
      simp (disch := first | (with_reducible assumption) | omega | exact ⟨by omega, by omega⟩ | ((with_reducible first | apply Wf.wI | apply Wf.wL | apply Wf.fL | apply Wf.fI | apply Wf.fr); (repeat (with_reducible first | assumption | apply Wf.wI | apply Wf.wL | apply Wf.fL | apply Wf.fI | apply Wf.fr)))) only [ck_160, gI_160, gL_160, pI_160, pZ0_160, pZ1_160, pL_160, gR_160_3, gR_160_4, gR_160_5, pR_160_6, gR_160_6, ck_t, gI_t, gL_t, pI_t, pZ0_t, pZ1_t, pL_t, ck_w, gI_w, gL_w, pI_w, pZ0_w, pZ1_w, pL_w, gR_t_1, gR_t_5, gR_t_7, gR_t_9, gR_t_10, gR_t_11, gR_t_12, gR_t_15, gR_w_2, gR_w_3, gR_w_4, gR_w_5, gR_w_6, gR_w_7, aR_crow, aR_srow, aR_prow, aR_rrow, aI_crow, sI_crow, len_crow, aI_srow, sI_srow, len_srow, aI_prow, sI_prow, len_prow, aI_rrow, sI_rrow, len_rrow, aI_t25, sI_t25, len_t25, aI_t31, sI_t31, len_t31, aI_t32, sI_t32, len_t32, aI_t34, sI_t34, len_t34, aI_t35, sI_t35, len_t35, aI_t36, sI_t36, len_t36, aI_t37, sI_t37, len_t37, aL_t38, sL_t38, len_t38, aL_t39, sL_t39, len_t39, bq_n, bd_s, le_nI, if_true, if_false, ite_true, ite_false, reduceIte, not_true, not_false, and_true, true_and, and_false, false_and, or_true, true_or, or_false, false_or, eq_self, hp, tr_S h, z_one (show nS D < 31 by omega), Nat.le_refl, e1]
      rfl
    rw [hstart, bq_n]
    generalize ah_wI τ 160 1 (ltF D 0 (2 ^ nS D)).2.2 = ρ at *
    have hWρ : Wf ρ := (h0.fr f1 (fun a j _ _ z => by have := Xse_t htn a j z; omega)).w
    simp (disch := first | (with_reducible assumption) | omega | exact ⟨by omega, by omega⟩ | ((with_reducible first | apply Wf.wI | apply Wf.wL | apply Wf.fL | apply Wf.fI | apply Wf.fr); (repeat (with_reducible first | assumption | apply Wf.wI | apply Wf.wL | apply Wf.fL | apply Wf.fI | apply Wf.fr)))) only [ck_160, gI_160, gL_160, pI_160, pZ0_160, pZ1_160, pL_160, gR_160_3, gR_160_4, gR_160_5, pR_160_6, gR_160_6, bq_n, bd_s, mp_s, rz_0, rz_1, bI_rz, v1]
    have key : ∀ z, z = lsA D 0 → ∃ τ', f_X10_settle_94 160 z ρ = some τ' ∧ Fr (Xse t) σ τ' ∧ TI0 τ' t D ∧ StL τ' D := by
      intro z hz
      refine ⟨ah_wL ρ 160 0 z, ?_, f1.wL (Or.inr rfl), i1.l160 b4 b7, fun m hm => (c1 m hm).fr (rL_ne (by omega)) (rL_ne (by omega)), v2, v1, ?_⟩
      · unfold f_X10_settle_94
        simp only [to_bq, l_0, l_1, l_2, l_3, l_4, l_5, l_6, l_7, l_8, l_9, l_10, l_11, l_12, l_13, l_14, l_15, l_16, l_17, l_18, l_19, l_20, l_21, l_22, l_23, l_24, l_25, l_26, l_27, l_28, l_29, l_30, l_31, l_32, l_40, l_41, l_42, l_43, l_44, l_45, l_46, l_47, l_48, l_49, l_50, l_51, l_52, l_53, l_54, l_55, l_56, l_57, l_58, l_59, l_60, l_61, l_62, l_63, l_64, l_72, l_97, l_99, l_100, l_104, l_120, l_122, l_128, l_140, l_255, l_256, l_257, l_258, l_260, l_261, l_262, l_364, l_680, l_700, l_701, l_840, l_999, l_1023, l_1024, l_9999, l_10000, l_1000000, lm]
        simp (disch := first | (with_reducible assumption) | omega | exact ⟨by omega, by omega⟩ | ((with_reducible first | apply Wf.wI | apply Wf.wL | apply Wf.fL | apply Wf.fI | apply Wf.fr); (repeat (with_reducible first | assumption | apply Wf.wI | apply Wf.wL | apply Wf.fL | apply Wf.fI | apply Wf.fr)))) only [ck_160, gI_160, gL_160, pI_160, pZ0_160, pZ1_160, pL_160, gR_160_3, gR_160_4, gR_160_5, pR_160_6, gR_160_6, bq_n, bd_s, mp_s, rz_0, rz_1, bI_rz]
      · rw [rL_eq, hz]; rfl
    rcases lsA_c (w := 0) hb with ⟨z1, z2⟩ | ⟨i, z1, z3, z4⟩
    · rw [z1, if_pos rfl]
      exact key _ z2.symm
    · have nj : ¬ nI i = mI 1 := fun z => by rw [neg_nI (by omega) (by omega) (by omega)] at z; exact z
      rw [z3, if_neg nj]
      simp (disch := first | (with_reducible assumption) | omega | exact ⟨by omega, by omega⟩ | ((with_reducible first | apply Wf.wI | apply Wf.wL | apply Wf.fL | apply Wf.fI | apply Wf.fr); (repeat (with_reducible first | assumption | apply Wf.wI | apply Wf.wL | apply Wf.fL | apply Wf.fI | apply Wf.fr)))) only [aL_161, sL_161, len_161, bq_n, bd_s, mp_s, rz_0, rz_1, bI_rz, (c1 i z1).1]
      exact key _ z4.symm
  | succ i ih =>
    intro k fu τ hk hf g hi hc hn hl
    obtain ⟨fu, rfl⟩ : ∃ q, fu = q + 1 := ⟨fu - 1, by omega⟩
    have h : TR τ t D := h0.fr g (fun a j _ _ z => by have := Xse_t htn a j z; omega)
    have hW := h.w
    have hp := hi.1
    have hkl : k < 2 ^ nS D := by omega
    obtain ⟨τ1, e1, f1, i1, k1, kk⟩ := c_costOf_n h hb hi hkl
    have f1' : Fr (Xse t) τ τ1 := f1.mono (fun a j z => Or.inl z)
    have hW1 : Wf τ1 := hW.fr f1
    have hn1 : ah_I τ1 160 2 = nI (ltF D 0 k).2.1 := by
      rw [f1.I (by unfold Xco Xso Xsv Xot Xn Xf Xpr Xl; omega)]; exact hn
    have hc1 : ∀ m, m < k + 1 → CkR τ1 D m := fun m hm => by
      by_cases q : m = k
      · rw [q]; exact k1
      · exact kk m (hc m (by omega)) (by omega)
    have es : ltF D 0 (k + 1) = cif (k &&& 0 = 0 ∧ TrQ D k) (if lv (cpv D k) < (ltF D 0 k).1 then (lv (cpv D k), (ltF D 0 k).2.1 + 1, nI k) else ((ltF D 0 k).1, (ltF D 0 k).2.1 + 1, (ltF D 0 k).2.2)) (ltF D 0 k) := rfl
    have hc9 := cst_1 (k := k) hb
    by_cases qt : TrQ D k
    · have e2 : (ltF D 0 (k + 1)).2.1 = (ltF D 0 k).2.1 + 1 := by
        rw [es, cif_t ⟨Nat.and_zero k, qt⟩]
        split <;> rfl
      have hne : ¬ lg_cmp (cst D k) (iL (-1)) = nI 0 := fun z => hc9.mp z qt
      have he : f_X10_settle_20 (fu + 1) 160 (nI k) τ = f_X10_settle_20 fu 160 (nI (k + 1)) (ah_wI τ1 160 2 (nI ((ltF D 0 k).2.1 + 1))) := by
        show f_X10_settle_20_b _ _ _ _ = _
        unfold f_X10_settle_20_b f_X10_settle_55
        simp only [to_bq, l_0, l_1, l_2, l_3, l_4, l_5, l_6, l_7, l_8, l_9, l_10, l_11, l_12, l_13, l_14, l_15, l_16, l_17, l_18, l_19, l_20, l_21, l_22, l_23, l_24, l_25, l_26, l_27, l_28, l_29, l_30, l_31, l_32, l_40, l_41, l_42, l_43, l_44, l_45, l_46, l_47, l_48, l_49, l_50, l_51, l_52, l_53, l_54, l_55, l_56, l_57, l_58, l_59, l_60, l_61, l_62, l_63, l_64, l_72, l_97, l_99, l_100, l_104, l_120, l_122, l_128, l_140, l_255, l_256, l_257, l_258, l_260, l_261, l_262, l_364, l_680, l_700, l_701, l_840, l_999, l_1023, l_1024, l_9999, l_10000, l_1000000, lm]
        simp (disch := first | (with_reducible assumption) | omega | exact ⟨by omega, by omega⟩ | ((with_reducible first | apply Wf.wI | apply Wf.wL | apply Wf.fL | apply Wf.fI | apply Wf.fr); (repeat (with_reducible first | assumption | apply Wf.wI | apply Wf.wL | apply Wf.fL | apply Wf.fI | apply Wf.fr)))) only [ck_160, gI_160, gL_160, pI_160, pZ0_160, pZ1_160, pL_160, gR_160_3, gR_160_4, gR_160_5, pR_160_6, gR_160_6, ck_t, gI_t, gL_t, pI_t, pZ0_t, pZ1_t, pL_t, ck_w, gI_w, gL_w, pI_w, pZ0_w, pZ1_w, pL_w, gR_t_1, gR_t_5, gR_t_7, gR_t_9, gR_t_10, gR_t_11, gR_t_12, gR_t_15, gR_w_2, gR_w_3, gR_w_4, gR_w_5, gR_w_6, gR_w_7, aR_crow, aR_srow, aR_prow, aR_rrow, aI_crow, sI_crow, len_crow, aI_srow, sI_srow, len_srow, aI_prow, sI_prow, len_prow, aI_rrow, sI_rrow, len_rrow, aI_t25, sI_t25, len_t25, aI_t31, sI_t31, len_t31, aI_t32, sI_t32, len_t32, aI_t34, sI_t34, len_t34, aI_t35, sI_t35, len_t35, aI_t36, sI_t36, len_t36, aI_t37, sI_t37, len_t37, aL_t38, sL_t38, len_t38, aL_t39, sL_t39, len_t39, bq_n, bd_s, mp_s, rz_0, rz_1, bI_rz, zadd, zmul, zsub, le_nI, lt_nI, eq_nI, neg_nI, gen_nI, neg_lt, neg_le, neg_lt', neg_le', nI_lt0, if_true, if_false, ite_true, ite_false, reduceIte, not_true, not_false, and_true, true_and, and_false, false_and, or_true, true_or, or_false, false_or, eq_self, hp, tr_S h, z_one (show nS D < 31 by omega), show (2 ^ nS D ≤ k) = False from eq_false (by omega), e1, q_m1, if_neg hne, hn1]
      rw [he]
      refine ih (k + 1) fu _ (by omega) (by omega) ((g.trans f1').wI (Or.inr rfl)) (i1.w160 b4 b7) (fun m hm => (hc1 m hm).fr rfl rfl) ?_ ?_
      · rw [rI_eq, e2]
      · rw [e2]; omega
    · have e2 : ltF D 0 (k + 1) = ltF D 0 k := by rw [es, cif_f (fun z => qt z.2)]
      have he : f_X10_settle_20 (fu + 1) 160 (nI k) τ = f_X10_settle_20 fu 160 (nI (k + 1)) τ1 := by
        show f_X10_settle_20_b _ _ _ _ = _
        unfold f_X10_settle_20_b f_X10_settle_55
        simp only [to_bq, l_0, l_1, l_2, l_3, l_4, l_5, l_6, l_7, l_8, l_9, l_10, l_11, l_12, l_13, l_14, l_15, l_16, l_17, l_18, l_19, l_20, l_21, l_22, l_23, l_24, l_25, l_26, l_27, l_28, l_29, l_30, l_31, l_32, l_40, l_41, l_42, l_43, l_44, l_45, l_46, l_47, l_48, l_49, l_50, l_51, l_52, l_53, l_54, l_55, l_56, l_57, l_58, l_59, l_60, l_61, l_62, l_63, l_64, l_72, l_97, l_99, l_100, l_104, l_120, l_122, l_128, l_140, l_255, l_256, l_257, l_258, l_260, l_261, l_262, l_364, l_680, l_700, l_701, l_840, l_999, l_1023, l_1024, l_9999, l_10000, l_1000000, lm]
        simp (disch := first | (with_reducible assumption) | omega | exact ⟨by omega, by omega⟩ | ((with_reducible first | apply Wf.wI | apply Wf.wL | apply Wf.fL | apply Wf.fI | apply Wf.fr); (repeat (with_reducible first | assumption | apply Wf.wI | apply Wf.wL | apply Wf.fL | apply Wf.fI | apply Wf.fr)))) only [ck_160, gI_160, gL_160, pI_160, pZ0_160, pZ1_160, pL_160, gR_160_3, gR_160_4, gR_160_5, pR_160_6, gR_160_6, ck_t, gI_t, gL_t, pI_t, pZ0_t, pZ1_t, pL_t, ck_w, gI_w, gL_w, pI_w, pZ0_w, pZ1_w, pL_w, gR_t_1, gR_t_5, gR_t_7, gR_t_9, gR_t_10, gR_t_11, gR_t_12, gR_t_15, gR_w_2, gR_w_3, gR_w_4, gR_w_5, gR_w_6, gR_w_7, aR_crow, aR_srow, aR_prow, aR_rrow, aI_crow, sI_crow, len_crow, aI_srow, sI_srow, len_srow, aI_prow, sI_prow, len_prow, aI_rrow, sI_rrow, len_rrow, aI_t25, sI_t25, len_t25, aI_t31, sI_t31, len_t31, aI_t32, sI_t32, len_t32, aI_t34, sI_t34, len_t34, aI_t35, sI_t35, len_t35, aI_t36, sI_t36, len_t36, aI_t37, sI_t37, len_t37, aL_t38, sL_t38, len_t38, aL_t39, sL_t39, len_t39, bq_n, bd_s, mp_s, rz_0, rz_1, bI_rz, zadd, zmul, zsub, le_nI, lt_nI, eq_nI, neg_nI, gen_nI, neg_lt, neg_le, neg_lt', neg_le', nI_lt0, if_true, if_false, ite_true, ite_false, reduceIte, not_true, not_false, and_true, true_and, and_false, false_and, or_true, true_or, or_false, false_or, eq_self, hp, tr_S h, z_one (show nS D < 31 by omega), show (2 ^ nS D ≤ k) = False from eq_false (by omega), e1, q_m1, if_pos (hc9.mpr qt)]
      rw [he]
      refine ih (k + 1) fu _ (by omega) (by omega) (g.trans f1') i1 hc1 ?_ ?_
      · rw [e2]; exact hn1
      · rw [e2]; omega
theorem c_settleT (h : TR σ t D) (hb : CB D) (hi : TI σ t D) : ∃ τ, f_X10_settle 160 σ = some τ ∧ Fr (Xse t) σ τ ∧ TI τ t D ∧ StL τ D := by
  have hW := h.w
  have h2 := p2S h.t
  have b7 := h.t.qc7
  have b4 := h.t.qp4
  by_cases q : ah_I σ 160 7 = nI 0
  · obtain ⟨τ, e1, e2, e3, e4⟩ := c_st20 h hb (2 ^ nS D) 0 5000 (ah_wI (ah_wI σ 160 7 (nI 1)) 160 2 (nI 0)) (by omega) (by omega) ((Fr.rfl.wI (Or.inr rfl)).wI (Or.inr rfl)) ((hi.1.w160 b4 b7).w160 b4 b7) (fun m hm => by omega) rI_eq (Nat.le_refl _)
    refine ⟨τ, ?_, e2, ⟨e3, Or.inr e4⟩, e4⟩
    unfold f_X10_settle f_X10_settle_0
    simp only [to_bq, l_0, l_1, l_2, l_3, l_4, l_5, l_6, l_7, l_8, l_9, l_10, l_11, l_12, l_13, l_14, l_15, l_16, l_17, l_18, l_19, l_20, l_21, l_22, l_23, l_24, l_25, l_26, l_27, l_28, l_29, l_30, l_31, l_32, l_40, l_41, l_42, l_43, l_44, l_45, l_46, l_47, l_48, l_49, l_50, l_51, l_52, l_53, l_54, l_55, l_56, l_57, l_58, l_59, l_60, l_61, l_62, l_63, l_64, l_72, l_97, l_99, l_100, l_104, l_120, l_122, l_128, l_140, l_255, l_256, l_257, l_258, l_260, l_261, l_262, l_364, l_680, l_700, l_701, l_840, l_999, l_1023, l_1024, l_9999, l_10000, l_1000000, lm]
    simp (disch := first | (with_reducible assumption) | omega | exact ⟨by omega, by omega⟩ | ((with_reducible first | apply Wf.wI | apply Wf.wL | apply Wf.fL | apply Wf.fI | apply Wf.fr); (repeat (with_reducible first | assumption | apply Wf.wI | apply Wf.wL | apply Wf.fL | apply Wf.fI | apply Wf.fr)))) only [ck_160, gI_160, gL_160, pI_160, pZ0_160, pZ1_160, pL_160, gR_160_3, gR_160_4, gR_160_5, pR_160_6, gR_160_6, bq_n, bd_s, mp_s, rz_0, rz_1, bI_rz, q, if_true, if_false, ite_true, ite_false, reduceIte, not_true, not_false, and_true, true_and, and_false, false_and, or_true, true_or, or_false, false_or, eq_self]
    exact e1
  · refine ⟨σ, ?_, Fr.rfl, hi, hi.2.resolve_left q⟩
    unfold f_X10_settle f_X10_settle_0
    simp only [to_bq, l_0, l_1, l_2, l_3, l_4, l_5, l_6, l_7, l_8, l_9, l_10, l_11, l_12, l_13, l_14, l_15, l_16, l_17, l_18, l_19, l_20, l_21, l_22, l_23, l_24, l_25, l_26, l_27, l_28, l_29, l_30, l_31, l_32, l_40, l_41, l_42, l_43, l_44, l_45, l_46, l_47, l_48, l_49, l_50, l_51, l_52, l_53, l_54, l_55, l_56, l_57, l_58, l_59, l_60, l_61, l_62, l_63, l_64, l_72, l_97, l_99, l_100, l_104, l_120, l_122, l_128, l_140, l_255, l_256, l_257, l_258, l_260, l_261, l_262, l_364, l_680, l_700, l_701, l_840, l_999, l_1023, l_1024, l_9999, l_10000, l_1000000, lm]
    simp (disch := first | (with_reducible assumption) | omega | exact ⟨by omega, by omega⟩ | ((with_reducible first | apply Wf.wI | apply Wf.wL | apply Wf.fL | apply Wf.fI | apply Wf.fr); (repeat (with_reducible first | assumption | apply Wf.wI | apply Wf.wL | apply Wf.fL | apply Wf.fI | apply Wf.fr)))) only [ck_160, gI_160, gL_160, pI_160, pZ0_160, pZ1_160, pL_160, gR_160_3, gR_160_4, gR_160_5, pR_160_6, gR_160_6, bq_n, bd_s, mp_s, rz_0, rz_1, bI_rz, q, if_true, if_false, ite_true, ite_false, reduceIte, not_true, not_false, and_true, true_and, and_false, false_and, or_true, true_or, or_false, false_or, eq_self]
/-- a question that may work out trees -/
def CT {α : Type} (σ : ah_H) (t : Nat) (D : DD) (v : α) (r : α × ah_H) : Prop := r.1 = v ∧ Fr (Xse t) σ r.2 ∧ CJ r.2 t D ∧ TI r.2 t D
theorem CT.z {α : Type} (h : CJ σ t D) (hi : TI σ t D) {v : α} : CT σ t D v (v, σ) := ⟨rfl, Fr.rfl, h, hi⟩
theorem CJ.xe (h : CJ σ t D) (g : Fr (Xse t) σ τ) : CJ τ t D := h.ft g (fun a j z => by have := Xse_t h.r.tn a j z; omega)
/-- what is settled stays so -/
theorem TI.co (h : TI σ t D) (htn : Tn t) (g : Fr (Xco t) σ τ) (i : TI0 τ t D) (hk : ∀ k, CkR σ D k → k < 2 ^ nS D → CkR τ D k) : TI τ t D := by
  unfold Tn at htn
  have x : ∀ j, ¬ Xco t 160 j := fun j => by unfold Xco Xso Xsv Xot Xn Xf Xpr Xl; omega
  refine ⟨i, h.2.imp (fun z => (g.I (x _)).trans z) (fun ⟨z1, z2, z3, z4⟩ => ⟨fun m hm => hk m (z1 m hm) hm, (g.I (x _)).trans z2, (g.I (x _)).trans z3, (g.L (x _)).trans z4⟩)⟩
theorem c_costOf (h : TR σ t D) (hb : CB D) (hi : TI σ t D) (x : Int32) : ∃ τ, f_X10_costOf 160 x σ = some (sCheap D x, τ) ∧ Fr (Xse t) σ τ ∧ TI τ t D ∧ ∀ m, m < 2 ^ nS D → x = nI m → CkR τ D m := by
  have h2 := p2S h.t
  by_cases q : x < nI 0 ∨ nI (2 ^ nS D) ≤ x
  · refine ⟨σ, ?_, Fr.rfl, hi, fun m hm hx => ?_⟩
    · rw [c_costOf_o h hi.1.1 q]
      unfold sCheap
      rw [if_pos q]
    · rw [hx, lt_nI (by omega) (by omega), le_nI (by omega) (by omega)] at q; omega
  · obtain ⟨m, hm, rfl⟩ := nI_set (by omega) (fun z => q (Or.inl z)) (fun z => q (Or.inr z))
    obtain ⟨τ, e1, f1, i1, k1, kk⟩ := c_costOf_n h hb hi.1 hm
    rw [sCheap_n h.t hm]
    refine ⟨τ, e1, f1.mono (fun a j z => Or.inl z), hi.co h.tn f1 i1 kk, fun m' hm' e => ?_⟩
    rw [eq_nI (by omega) (by omega)] at e
    rw [← e]; exact k1
theorem c_cheapest (h : CJ σ t D) (hb : CB D) (hi : TI σ t D) (x : Int32) : Ok (f_X11_cheapest 0 x σ) (CT σ t D (sCheap D x)) := by
  have hW := h.w
  obtain ⟨τ, e1, f1, i1, -⟩ := c_costOf h.r hb hi x
  refine ⟨(sCheap D x, τ), ?_, rfl, f1, h.xe f1, i1⟩
  unfold f_X11_cheapest f_X11_cheapest_0
  simp only [to_bq, l_0, l_1, l_2, l_3, l_4, l_5, l_6, l_7, l_8, l_9, l_10, l_11, l_12, l_13, l_14, l_15, l_16, l_17, l_18, l_19, l_20, l_21, l_22, l_23, l_24, l_25, l_26, l_27, l_28, l_29, l_30, l_31, l_32, l_40, l_41, l_42, l_43, l_44, l_45, l_46, l_47, l_48, l_49, l_50, l_51, l_52, l_53, l_54, l_55, l_56, l_57, l_58, l_59, l_60, l_61, l_62, l_63, l_64, l_72, l_97, l_99, l_100, l_104, l_120, l_122, l_128, l_140, l_255, l_256, l_257, l_258, l_260, l_261, l_262, l_364, l_680, l_700, l_701, l_840, l_999, l_1023, l_1024, l_9999, l_10000, l_1000000, lm]
  simp (disch := first | (with_reducible assumption) | omega | exact ⟨by omega, by omega⟩ | ((with_reducible first | apply Wf.wI | apply Wf.wL | apply Wf.fL | apply Wf.fI | apply Wf.fr); (repeat (with_reducible first | assumption | apply Wf.wI | apply Wf.wL | apply Wf.fL | apply Wf.fI | apply Wf.fr)))) only [ck_0, gI_0, gL_0, pI_0, pZ0_0, pZ1_0, pL_0, gR_0_0, pR_0_2, gR_0_2, pR_0_3, gR_0_3, gR_0_4, gR_0_5, gR_0_6, gR_0_7, gR_0_8, bq_n, bd_s, mp_s, rz_0, rz_1, bI_rz, e1]
theorem c_tree (h : CJ σ t D) (hb : CB D) (hi : TI σ t D) (x : Int32) : Ok (f_X11_tree 0 x σ) (CT σ t D (sTree D x)) := by
  have hW := h.w
  have h2 := p2S h.r.t
  obtain ⟨τ, e1, f1, i1, s1, s2, s3, s4⟩ := c_settleT h.r hb hi
  have hj := h.xe f1
  have hW1 := hj.w
  unfold f_X11_tree f_X11_tree_0 f_X11_tree_50 sTree
  simp only [to_bq, l_0, l_1, l_2, l_3, l_4, l_5, l_6, l_7, l_8, l_9, l_10, l_11, l_12, l_13, l_14, l_15, l_16, l_17, l_18, l_19, l_20, l_21, l_22, l_23, l_24, l_25, l_26, l_27, l_28, l_29, l_30, l_31, l_32, l_40, l_41, l_42, l_43, l_44, l_45, l_46, l_47, l_48, l_49, l_50, l_51, l_52, l_53, l_54, l_55, l_56, l_57, l_58, l_59, l_60, l_61, l_62, l_63, l_64, l_72, l_97, l_99, l_100, l_104, l_120, l_122, l_128, l_140, l_255, l_256, l_257, l_258, l_260, l_261, l_262, l_364, l_680, l_700, l_701, l_840, l_999, l_1023, l_1024, l_9999, l_10000, l_1000000, lm]
  simp (disch := first | (with_reducible assumption) | omega | exact ⟨by omega, by omega⟩ | ((with_reducible first | apply Wf.wI | apply Wf.wL | apply Wf.fL | apply Wf.fI | apply Wf.fr); (repeat (with_reducible first | assumption | apply Wf.wI | apply Wf.wL | apply Wf.fL | apply Wf.fI | apply Wf.fr)))) only [ck_0, gI_0, gL_0, pI_0, pZ0_0, pZ1_0, pL_0, gR_0_0, pR_0_2, gR_0_2, pR_0_3, gR_0_3, gR_0_4, gR_0_5, gR_0_6, gR_0_7, gR_0_8, bq_n, bd_s, q_m1]
  by_cases q1 : x < nI 0
  · rw [if_pos q1, if_pos q1]; exact ⟨_, rfl, CT.z h hi⟩
  rw [if_neg q1, if_neg q1]
  by_cases q2 : x ≤ nI 2
  · rw [if_pos q2, if_pos q2, e1, bq_n]
    simp (disch := first | (with_reducible assumption) | omega | exact ⟨by omega, by omega⟩ | ((with_reducible first | apply Wf.wI | apply Wf.wL | apply Wf.fL | apply Wf.fI | apply Wf.fr); (repeat (with_reducible first | assumption | apply Wf.wI | apply Wf.wL | apply Wf.fL | apply Wf.fI | apply Wf.fr)))) only [ck_0, gI_0, gL_0, pI_0, pZ0_0, pZ1_0, pL_0, gR_0_0, pR_0_2, gR_0_2, pR_0_3, gR_0_3, gR_0_4, gR_0_5, gR_0_6, gR_0_7, gR_0_8, ck_160, gI_160, gL_160, pI_160, pZ0_160, pZ1_160, pL_160, gR_160_3, gR_160_4, gR_160_5, pR_160_6, gR_160_6, bq_n, bd_s, s2, s3, s4]
    by_cases q3 : x = nI 2
    · rw [if_pos q3, if_pos q3]
      have hl : (ltF D 0 (2 ^ nS D)).2.1 ≤ 2 ^ nS D := by
        have : ∀ k, (ltF D 0 k).2.1 ≤ k := by
          intro k
          induction k with
          | zero => exact Nat.le_refl _
          | succ k ih =>
            unfold ltF
            by_cases q : k &&& 0 = 0 ∧ TrQ D k
            · rw [cif_t q]
              split <;> (show _ + 1 ≤ _; omega)
            · rw [cif_f q]; omega
        exact this _
      refine ⟨_, rfl, ?_, f1, hj, i1⟩
      exact toL_n (by omega)
    rw [if_neg q3, if_neg q3]
    by_cases q4 : (ltF D 0 (2 ^ nS D)).1 < 4000000000000000000
    · rw [if_pos q4]
      simp only [if_pos q4]
      by_cases q5 : x = nI 0
      · rw [if_pos q5]
        simp only [if_pos q5]
        exact ⟨_, rfl, rfl, f1, hj, i1⟩
      · rw [if_neg q5]
        simp only [if_neg q5]
        have hnn : 0 ≤ (ltF D 0 (2 ^ nS D)).1 := by
          rcases ltF_c (w := 0) hb (2 ^ nS D) with ⟨z1, z2⟩ | ⟨j, u, h1, h2, h3, h4, h5⟩ <;> omega
        rw [if_pos (show nI 0 ≤ lg_cmp (iL (ltF D 0 (2 ^ nS D)).1) 0 by rw [q_0, cmp_ge ⟨by omega, by omega⟩ ⟨by omega, by omega⟩]; exact hnn)]
        exact ⟨_, rfl, rfl, f1, hj, i1⟩
    · rw [if_neg q4]
      simp only [if_neg q4]
      by_cases q5 : x = nI 0
      · rw [if_pos q5]
        exact ⟨_, rfl, rfl, f1, hj, i1⟩
      · rw [if_neg q5, if_neg (by decide : ¬ nI 0 ≤ lg_cmp (iL (-2)) 0)]
        exact ⟨_, rfl, rfl, f1, hj, i1⟩
  · rw [if_neg q2, if_neg q2]; exact ⟨_, rfl, CT.z h hi⟩
theorem c_without (h : CJ σ t D) (hb : CB D) (hi : TI σ t D) (x y : Int32) : Ok (f_X11_without 0 x y σ) (CT σ t D (sWithout D x y)) := by
  have hW := h.w
  have h2 := p2S h.r.t
  have b10 := h.r.t.qs10
  obtain ⟨τ, e1, f1, i1, s1, s2, s3, s4⟩ := c_settleT h.r hb hi
  have hj := h.xe f1
  have hW1 := hj.w
  unfold f_X11_without f_X11_without_0 sWithout
  simp only [to_bq, l_0, l_1, l_2, l_3, l_4, l_5, l_6, l_7, l_8, l_9, l_10, l_11, l_12, l_13, l_14, l_15, l_16, l_17, l_18, l_19, l_20, l_21, l_22, l_23, l_24, l_25, l_26, l_27, l_28, l_29, l_30, l_31, l_32, l_40, l_41, l_42, l_43, l_44, l_45, l_46, l_47, l_48, l_49, l_50, l_51, l_52, l_53, l_54, l_55, l_56, l_57, l_58, l_59, l_60, l_61, l_62, l_63, l_64, l_72, l_97, l_99, l_100, l_104, l_120, l_122, l_128, l_140, l_255, l_256, l_257, l_258, l_260, l_261, l_262, l_364, l_680, l_700, l_701, l_840, l_999, l_1023, l_1024, l_9999, l_10000, l_1000000, lm]
  simp (disch := first | (with_reducible assumption) | omega | exact ⟨by omega, by omega⟩ | ((with_reducible first | apply Wf.wI | apply Wf.wL | apply Wf.fL | apply Wf.fI | apply Wf.fr); (repeat (with_reducible first | assumption | apply Wf.wI | apply Wf.wL | apply Wf.fL | apply Wf.fI | apply Wf.fr)))) only [ck_0, gI_0, gL_0, pI_0, pZ0_0, pZ1_0, pL_0, gR_0_0, pR_0_2, gR_0_2, pR_0_3, gR_0_3, gR_0_4, gR_0_5, gR_0_6, gR_0_7, gR_0_8, bq_n, bd_s, q_m1, q_m2, h.2.2.1, c_isStreet' h.r, bI_0, ite_n]
  by_cases q1 : okS D x
  · rw [if_pos q1]
    by_cases q2 : okS D y
    · rw [if_pos q2, if_pos ⟨q1, q2⟩]
      obtain ⟨i, hi', rfl⟩ := okS_of h.r.t q1
      obtain ⟨j, hj', rfl⟩ := okS_of h.r.t q2
      rw [ix_nI (by omega), ix_nI (by omega), e1, bq_n]
      simp (disch := first | (with_reducible assumption) | omega | exact ⟨by omega, by omega⟩ | ((with_reducible first | apply Wf.wI | apply Wf.wL | apply Wf.fL | apply Wf.fI | apply Wf.fr); (repeat (with_reducible first | assumption | apply Wf.wI | apply Wf.wL | apply Wf.fL | apply Wf.fI | apply Wf.fr)))) only [ck_0, gI_0, gL_0, pI_0, pZ0_0, pZ1_0, pL_0, gR_0_0, pR_0_2, gR_0_2, pR_0_3, gR_0_3, gR_0_4, gR_0_5, gR_0_6, gR_0_7, gR_0_8, ck_160, gI_160, gL_160, pI_160, pZ0_160, pZ1_160, pL_160, gR_160_3, gR_160_4, gR_160_5, pR_160_6, gR_160_6, bq_n, bd_s, s4]
      by_cases q3 : (ltF D 0 (2 ^ nS D)).1 < 4000000000000000000
      · have hnn : ∀ w, 0 ≤ (ltF D w (2 ^ nS D)).1 := fun w => by
          rcases ltF_c (w := w) hb (2 ^ nS D) with ⟨z1, z2⟩ | ⟨j, u, h1, h2, h3, h4, h5⟩ <;> omega
        have n0 := hnn 0
        rw [if_pos q3, if_pos (show nI 0 ≤ lg_cmp (iL (ltF D 0 (2 ^ nS D)).1) 0 by rw [q_0, cmp_ge ⟨by omega, by omega⟩ ⟨by omega, by omega⟩]; exact n0)]
        have hw2 : 2 ^ i ||| 2 ^ j < 2147483648 := Nat.lt_trans (or_b (k := 10) (pw_b (by omega)) (pw_b (by omega))) (by decide)
        rw [z_one (show i < 31 by omega), z_one (show j < 31 by omega), z_or, c_leastAvoiding hj.r i1.1.1 hb hw2 s1, bq_n]
        have n1 := hnn (2 ^ i ||| 2 ^ j)
        simp (disch := first | (with_reducible assumption) | omega | exact ⟨by omega, by omega⟩ | ((with_reducible first | apply Wf.wI | apply Wf.wL | apply Wf.fL | apply Wf.fI | apply Wf.fr); (repeat (with_reducible first | assumption | apply Wf.wI | apply Wf.wL | apply Wf.fL | apply Wf.fI | apply Wf.fr)))) only [ck_0, gI_0, gL_0, pI_0, pZ0_0, pZ1_0, pL_0, gR_0_0, pR_0_2, gR_0_2, pR_0_3, gR_0_3, gR_0_4, gR_0_5, gR_0_6, gR_0_7, gR_0_8, ck_160, gI_160, gL_160, pI_160, pZ0_160, pZ1_160, pL_160, gR_160_3, gR_160_4, gR_160_5, pR_160_6, gR_160_6, bq_n, bd_s, s4, if_pos q3]
        unfold lsA
        by_cases q4 : (ltF D (2 ^ i ||| 2 ^ j) (2 ^ nS D)).1 < 4000000000000000000
        · rw [if_pos q4, if_pos (show nI 0 ≤ lg_cmp (iL (ltF D (2 ^ i ||| 2 ^ j) (2 ^ nS D)).1) 0 by rw [q_0, cmp_ge ⟨by omega, by omega⟩ ⟨by omega, by omega⟩]; exact n1), if_pos q4]
          exact ⟨_, rfl, isub _ _, f1, hj, i1⟩
        · rw [if_neg q4, if_neg (by decide : ¬ nI 0 ≤ lg_cmp (iL (-2)) 0), if_neg q4]
          exact ⟨_, rfl, rfl, f1, hj, i1⟩
      · rw [if_neg q3, if_neg (by decide : ¬ nI 0 ≤ lg_cmp (iL (-2)) 0), if_neg q3]
        exact ⟨_, rfl, rfl, f1, hj, i1⟩
    · rw [if_neg q2, if_neg (fun z => q2 z.2)]; exact ⟨_, rfl, CT.z h hi⟩
  · rw [if_neg q1, if_neg (fun z => q1 z.1)]; exact ⟨_, rfl, CT.z h hi⟩
end
