/-! THE CLASS: the least cost of a tree, whole -/
def Xso (t a j : Nat) : Prop := Xsv t a j ∨ Xot a j ∨ Xn 201 a j ∨ Xpr t a j ∨ a = 163 ∧ j = 0
section
variable {σ τ : ah_H} {t : Nat} {D : DD} {m c : Nat}
theorem FT.fr (h : FT σ D) (b7 : nC D ≤ 7) (e1 : ∀ c, ah_I τ 167 c = ah_I σ 167 c) (e2 : ∀ a j, 170 ≤ a → a < 185 → ah_L τ a j = ah_L σ a j) : FT τ D := fun c hc => (h c hc).imp (fun z => (e1 c).trans z) (fun z => z.fr (e1 c) (fun j => ⟨e2 _ _ (by omega) (by omega), e2 _ _ (by omega) (by omega)⟩))
theorem c_sv31 (h : TR σ t D) (hp : ah_R σ 163 17 = some t) (hr : D 227 4 ≠ mI 1) (hm : TrQ D m) (hpr : PrT σ D) (hF : FT σ D) (hmx : ∀ c, c < 7 → ah_L σ 218 c = iL 9223372036854775807) (hz : ah_L σ 163 0 = iL 0) : ∃ τ, f_X0_solve_31 163 (nI m) σ = some (totA (cpv D m), τ) ∧ Fr (Xso t) σ τ ∧ PrT τ D ∧ FT τ D ∧ ∀ x, cpv D m = some x → ah_L τ 163 0 = iL ((x.2 : Nat) : Int) := by
  have htn0 := h.tn
  have htn := h.tn
  have b7 := h.t.qc7
  have b4 := h.t.qp4
  have hW := h.w
  obtain ⟨r1, r2, r3, r4⟩ := h.t.rv hr
  unfold Tn at htn
  obtain ⟨τ1, q, e1, f1, oq, n4, n165, n164, os⟩ := c_orient h hp hr hm
  have x1 : ∀ a j, a ≠ 163 → a ≠ 164 → a ≠ 165 → ¬ Xot a j := fun a j _ _ _ => by unfold Xot; omega
  have h1 : TR τ1 t D := h.fr f1 (fun a j _ _ => x1 a j (by omega) (by omega) (by omega))
  have hW1 := h1.w
  have hp1 : ah_R τ1 163 17 = some t := by rw [f1.R (Or.inr (by unfold Xot; omega))]; exact hp
  obtain ⟨τ2, e2, f2, n8, nFD⟩ := c_run (f := 201) (st := ost D m) (cp := cpM) h1 (by unfold Fl; omega) (fun c hc => ⟨by rw [show fst_ 201 = 164 from rfl]; exact n164 c (by omega), or_st os.1 hc⟩) (fun c hc => by rw [f1.L (x1 _ _ (by omega) (by omega) (by omega))]; exact hmx c (by omega)) (fun c => Nat.le_refl _)
  have x2 : ∀ a j, a < 201 → ¬ Xn 201 a j := fun a j _ => by unfold Xn Xf; omega
  have h2 : TR τ2 t D := h1.fr f2 (fun a j _ _ => x2 a j (by omega))
  have hW2 := h2.w
  have sv : SvC τ2 t D m q := by
    refine ⟨h2, by rw [f2.R (Or.inr (x2 _ _ (by omega)))]; exact hp1, hr, hm, oq, os, fun j hj => by rw [f2.I (x2 _ _ (by omega))]; exact n165 j hj, fun c hc => by rw [f2.I (x2 _ _ (by omega))]; exact n164 c hc, ?_, n8, nFD⟩
    exact hpr.fr b4 b7 (fun a j _ _ => by rw [f2.L (x2 _ _ (by omega)), f1.L (x1 _ _ (by omega) (by omega) (by omega))])
  have hF2 : FT τ2 D := hF.fr b7 (fun c => by rw [f2.I (x2 _ _ (by omega)), f1.I (x1 _ _ (by omega) (by omega) (by omega))]) (fun a j _ _ => by rw [f2.L (x2 _ _ (by omega)), f1.L (x1 _ _ (by omega) (by omega) (by omega))])
  obtain ⟨τ3, e3, f3, k3, F3⟩ := c_sv54 sv (nC D - 1) 5000 τ2 (by omega) (by omega) Fr.rfl (fun j j1 j2 => by omega) hF2
  have sv3 := sv.fr f3
  obtain ⟨l1, l2, l3, l4, l5, l6, l7, l8, l9, l10, l11⟩ := id sv3
  have hW3 := l1.w
  obtain ⟨τ4, e4, f4, g4⟩ := c_gather (st := ost D m) (c := riv D) l1 l2 (fun c hc => ⟨l8 c (by omega), or_st os.1 hc⟩) r2
  have x4 : ∀ a j, a ≠ 168 → a ≠ 163 → ¬ Xga a j := fun a j _ _ => by unfold Xga; omega
  have h4 : TR τ4 t D := l1.fr f4 (fun a j _ _ => x4 a j (by omega) (by omega))
  have hp4 : ah_R τ4 163 17 = some t := by rw [f4.R (Or.inr (by unfold Xga; omega))]; exact l2
  have hz4 : ah_L τ4 163 0 = iL 0 := by
    rw [f4.L (by unfold Xga; omega), f3.L (by unfold Xsv Xl; omega), f2.L (x2 _ _ (by omega)), f1.L (by unfold Xot; omega)]; exact hz
  have hk4 : CKid τ4 D (ost D m) (TC D (ost D m)) (riv D) := by
    intro o ho hx
    have hx' : nx D (ost D m) o = some (q 0) := by rw [oq.2.1]; exact hx
    obtain ⟨j, j1, j2, rfl⟩ := oq.kid (i := 0) (by omega) hx'
    exact (k3 j j1 j2).fr (fun i => ⟨f4.L (x4 _ _ (by omega) (by omega)), f4.L (x4 _ _ (by omega) (by omega))⟩)
  obtain ⟨τ5, e5, f5, n5⟩ := c_total h4 hp4 g4 hk4 (TC_bd h.t os.1 r2) hz4
  have htop : _ = cpv D m := (top_CD h.t hr os.1).trans (show _ = cpv D m by unfold cpv; rw [if_neg hr])
  rw [htop] at e5 n5
  refine ⟨τ5, ?_, ?_, ?_, ?_, n5⟩
  · have n4' : ah_I τ2 163 4 = nI (nC D) := by rw [f2.I (x2 _ _ (by omega))]; exact n4
    have zs : nI (nC D) - nI 1 = nI (nC D - 1) := zsub (by omega)
    have hp3 : ah_R τ3 163 17 = some t := l2
    have hriv : ah_I τ3 t 2 = nI (riv D) := (tr_riv l1).trans r1
    have e107 : f_X0_solve_107 163 τ3 = some (totA (cpv D m), τ5) := by
      unfold f_X0_solve_107
      simp only [to_bq, l_0, l_1, l_2, l_3, l_4, l_5, l_6, l_7, l_8, l_9, l_10, l_11, l_12, l_13, l_14, l_15, l_16, l_17, l_18, l_19, l_20, l_21, l_22, l_23, l_24, l_25, l_26, l_27, l_28, l_29, l_30, l_31, l_32, l_40, l_41, l_42, l_43, l_44, l_45, l_46, l_47, l_48, l_49, l_50, l_51, l_52, l_53, l_54, l_55, l_56, l_57, l_58, l_59, l_60, l_61, l_62, l_63, l_64, l_72, l_97, l_99, l_100, l_104, l_120, l_122, l_128, l_140, l_255, l_256, l_257, l_258, l_260, l_261, l_262, l_364, l_680, l_700, l_701, l_840, l_999, l_1023, l_1024, l_9999, l_10000, l_1000000, lm]
      simp (disch := first | (with_reducible assumption) | omega | exact ⟨by omega, by omega⟩ | ((with_reducible first | apply Wf.wI | apply Wf.wL | apply Wf.fL | apply Wf.fI | apply Wf.fr); (repeat (with_reducible first | assumption | apply Wf.wI | apply Wf.wL | apply Wf.fL | apply Wf.fI | apply Wf.fr)))) only [ck_163, gI_163, gL_163, pI_163, pZ0_163, pZ1_163, pL_163, gR_163_1, gR_163_2, gR_163_3, gR_163_5, gR_163_6, gR_163_7, gR_163_9, gR_163_10, gR_163_11, gR_163_12, gR_163_13, gR_163_14, gR_163_15, pR_163_17, gR_163_17, ck_t, gI_t, gL_t, pI_t, pZ0_t, pZ1_t, pL_t, ck_w, gI_w, gL_w, pI_w, pZ0_w, pZ1_w, pL_w, gR_t_1, gR_t_5, gR_t_7, gR_t_9, gR_t_10, gR_t_11, gR_t_12, gR_t_15, gR_w_2, gR_w_3, gR_w_4, gR_w_5, gR_w_6, gR_w_7, aR_crow, aR_srow, aR_prow, aR_rrow, aI_crow, sI_crow, len_crow, aI_srow, sI_srow, len_srow, aI_prow, sI_prow, len_prow, aI_rrow, sI_rrow, len_rrow, aI_t25, sI_t25, len_t25, aI_t31, sI_t31, len_t31, aI_t32, sI_t32, len_t32, aI_t34, sI_t34, len_t34, aI_t35, sI_t35, len_t35, aI_t36, sI_t36, len_t36, aI_t37, sI_t37, len_t37, aL_t38, sL_t38, len_t38, aL_t39, sL_t39, len_t39, bq_n, bd_s, mp_s, rz_0, rz_1, bI_rz, hp3, hriv, e4, e5]
    unfold f_X0_solve_31
    simp only [to_bq, l_0, l_1, l_2, l_3, l_4, l_5, l_6, l_7, l_8, l_9, l_10, l_11, l_12, l_13, l_14, l_15, l_16, l_17, l_18, l_19, l_20, l_21, l_22, l_23, l_24, l_25, l_26, l_27, l_28, l_29, l_30, l_31, l_32, l_40, l_41, l_42, l_43, l_44, l_45, l_46, l_47, l_48, l_49, l_50, l_51, l_52, l_53, l_54, l_55, l_56, l_57, l_58, l_59, l_60, l_61, l_62, l_63, l_64, l_72, l_97, l_99, l_100, l_104, l_120, l_122, l_128, l_140, l_255, l_256, l_257, l_258, l_260, l_261, l_262, l_364, l_680, l_700, l_701, l_840, l_999, l_1023, l_1024, l_9999, l_10000, l_1000000, lm]
    simp (disch := first | (with_reducible assumption) | omega | exact ⟨by omega, by omega⟩ | ((with_reducible first | apply Wf.wI | apply Wf.wL | apply Wf.fL | apply Wf.fI | apply Wf.fr); (repeat (with_reducible first | assumption | apply Wf.wI | apply Wf.wL | apply Wf.fL | apply Wf.fI | apply Wf.fr)))) only [ck_163, gI_163, gL_163, pI_163, pZ0_163, pZ1_163, pL_163, gR_163_1, gR_163_2, gR_163_3, gR_163_5, gR_163_6, gR_163_7, gR_163_9, gR_163_10, gR_163_11, gR_163_12, gR_163_13, gR_163_14, gR_163_15, pR_163_17, gR_163_17, bq_n, bd_s, mp_s, rz_0, rz_1, bI_rz, e1, hp1, e2, n4', zs, e3, e107]
  · exact ((((f1.mono (fun a j z => Or.inr (Or.inl z))).trans (f2.mono (fun a j z => Or.inr (Or.inr (Or.inl z))))).trans (f3.mono (fun a j z => Or.inl z))).trans (f4.mono (fun a j z => Or.inl (Xga_v a j z)))).trans (f5.mono (fun a j z => Or.inr (Or.inr (Or.inr (Or.inr z)))))
  · exact l9.fr b4 b7 (fun a j _ _ => by rw [f5.L (by omega), f4.L (x4 _ _ (by omega) (by omega))])
  · exact F3.fr b7 (fun c => by rw [f5.I (by omega), f4.I (x4 _ _ (by omega) (by omega))]) (fun a j _ _ => by rw [f5.L (by omega), f4.L (x4 _ _ (by omega) (by omega))])
theorem c_solve (h : TR σ t D) (hp : ah_R σ 163 17 = some t) (hm : TrQ D m) (hpr : ah_I σ 163 16 = nI 0 ∨ PrT σ D) (hF : FT σ D) (hmx : ∀ c, c < 7 → ah_L σ 218 c = iL 9223372036854775807) : ∃ τ, f_X0_solve 163 (nI m) σ = some (totA (cpv D m), τ) ∧ Fr (Xso t) σ τ ∧ (ah_I τ 163 16 = nI 0 ∨ PrT τ D) ∧ FT τ D ∧ ∀ x, cpv D m = some x → ah_L τ 163 0 = iL ((x.2 : Nat) : Int) := by
  have htn0 := h.tn
  have htn := h.tn
  have b7 := h.t.qc7
  have b4 := h.t.qp4
  have hW := h.w
  unfold Tn at htn
  have f0 : Fr (fun a j => a = 163 ∧ j = 0) σ (ah_wL σ 163 0 (iL 0)) := Fr.rfl.wL ⟨rfl, rfl⟩
  have z0 : ah_L (ah_wL σ 163 0 (iL 0)) 163 0 = iL 0 := rL_eq
  have hstart : f_X0_solve 163 (nI m) σ = bq (fun σ1 => bq (fun v2 => bq (fun v3 => if v3 = mI 1 then some (iL (-2), σ1) else bq (fun v4 => if v4 = nI 0 then bq (fun r5 => f_X0_solve_31 163 (nI m) r5) (Unit.unit : Unit) (f_X0_price 163 σ1) else f_X0_solve_31 163 (nI m) σ1) (Unit.unit : Unit) (op_gI 0 16 σ1 163)) (Unit.unit : Unit) (op_gI 9 2 σ1 v2)) (Unit.unit : Unit) (op_gR 0 17 σ1 163)) (Unit.unit : Unit) (some (ah_wL σ 163 0 (iL 0))) := by
    unfold f_X0_solve f_X0_solve_0
    simp only [to_bq, l_0, l_1, l_2, l_3, l_4, l_5, l_6, l_7, l_8, l_9, l_10, l_11, l_12, l_13, l_14, l_15, l_16, l_17, l_18, l_19, l_20, l_21, l_22, l_23, l_24, l_25, l_26, l_27, l_28, l_29, l_30, l_31, l_32, l_40, l_41, l_42, l_43, l_44, l_45, l_46, l_47, l_48, l_49, l_50, l_51, l_52, l_53, l_54, l_55, l_56, l_57, l_58, l_59, l_60, l_61, l_62, l_63, l_64, l_72, l_97, l_99, l_100, l_104, l_120, l_122, l_128, l_140, l_255, l_256, l_257, l_258, l_260, l_261, l_262, l_364, l_680, l_700, l_701, l_840, l_999, l_1023, l_1024, l_9999, l_10000, l_1000000, lm]
    simp (disch := first | (with_reducible assumption) | omega | exact ⟨by omega, by omega⟩ | ((with_reducible first | apply Wf.wI | apply Wf.wL | apply Wf.fL | apply Wf.fI | apply Wf.fr); (repeat (with_reducible first | assumption | apply Wf.wI | apply Wf.wL | apply Wf.fL | apply Wf.fI | apply Wf.fr)))) only [ck_163, gI_163, gL_163, pI_163, pZ0_163, pZ1_163, pL_163, gR_163_1, gR_163_2, gR_163_3, gR_163_5, gR_163_6, gR_163_7, gR_163_9, gR_163_10, gR_163_11, gR_163_12, gR_163_13, gR_163_14, gR_163_15, pR_163_17, gR_163_17, q_0, q_m2]
  generalize ah_wL σ 163 0 (iL 0) = σ1 at *
  have h1 : TR σ1 t D := h.fr f0 (fun a j _ _ => by omega)
  have hW1 := h1.w
  have hp1 : ah_R σ1 163 17 = some t := by rw [f0.R (Or.inr (by omega))]; exact hp
  have hF1 : FT σ1 D := hF.fr b7 (fun c => f0.I (by omega)) (fun a j _ _ => f0.L (by omega))
  have hm1 : ∀ c, c < 7 → ah_L σ1 218 c = iL 9223372036854775807 := fun c hc => by rw [f0.L (by omega)]; exact hmx c hc
  have h16 : ah_I σ1 163 16 = ah_I σ 163 16 := f0.I (by omega)
  have f0' : Fr (Xso t) σ σ1 := f0.mono (fun a j z => Or.inr (Or.inr (Or.inr (Or.inr z))))
  rw [hstart, bq_n]
  simp (disch := first | (with_reducible assumption) | omega | exact ⟨by omega, by omega⟩ | ((with_reducible first | apply Wf.wI | apply Wf.wL | apply Wf.fL | apply Wf.fI | apply Wf.fr); (repeat (with_reducible first | assumption | apply Wf.wI | apply Wf.wL | apply Wf.fL | apply Wf.fI | apply Wf.fr)))) only [ck_163, gI_163, gL_163, pI_163, pZ0_163, pZ1_163, pL_163, gR_163_1, gR_163_2, gR_163_3, gR_163_5, gR_163_6, gR_163_7, gR_163_9, gR_163_10, gR_163_11, gR_163_12, gR_163_13, gR_163_14, gR_163_15, pR_163_17, gR_163_17, ck_t, gI_t, gL_t, pI_t, pZ0_t, pZ1_t, pL_t, ck_w, gI_w, gL_w, pI_w, pZ0_w, pZ1_w, pL_w, gR_t_1, gR_t_5, gR_t_7, gR_t_9, gR_t_10, gR_t_11, gR_t_12, gR_t_15, gR_w_2, gR_w_3, gR_w_4, gR_w_5, gR_w_6, gR_w_7, aR_crow, aR_srow, aR_prow, aR_rrow, aI_crow, sI_crow, len_crow, aI_srow, sI_srow, len_srow, aI_prow, sI_prow, len_prow, aI_rrow, sI_rrow, len_rrow, aI_t25, sI_t25, len_t25, aI_t31, sI_t31, len_t31, aI_t32, sI_t32, len_t32, aI_t34, sI_t34, len_t34, aI_t35, sI_t35, len_t35, aI_t36, sI_t36, len_t36, aI_t37, sI_t37, len_t37, aL_t38, sL_t38, len_t38, aL_t39, sL_t39, len_t39, bq_n, bd_s, mp_s, rz_0, rz_1, bI_rz, hp1, tr_riv h1]
  by_cases q : D 227 4 = mI 1
  · rw [if_pos q]
    have e : cpv D m = none := by unfold cpv; rw [if_pos q]
    rw [e]
    refine ⟨σ1, rfl, f0', hpr.imp (fun z => h16.trans z) (fun z => z.fr b4 b7 (fun a j _ _ => f0.L (by omega))), hF1, fun x hx => by cases hx⟩
  rw [if_neg q]
  by_cases q2 : ah_I σ1 163 16 = nI 0
  · rw [if_pos q2]
    obtain ⟨τ1, e1, f1, p1⟩ := c_price h1 hp1
    have xp : ∀ a j, a < 189 → a ≠ t + 38 → a ≠ t + 39 → ¬ (a = 163 ∧ j = 16) → ¬ Xpr t a j := fun a j _ _ _ _ => by unfold Xpr Xl; omega
    have h2 : TR τ1 t D := h1.fr f1 (fun a j _ _ => xp a j (by omega) (by omega) (by omega) (by omega))
    obtain ⟨τ2, e2, f2, p2, F2, k2⟩ := c_sv31 h2 (by rw [f1.R (Or.inr (xp _ _ (by omega) (by omega) (by omega) (by omega)))]; exact hp1) q hm p1 (hF1.fr b7 (fun c => f1.I (xp _ _ (by omega) (by omega) (by omega) (by omega))) (fun a j _ _ => f1.L (xp _ _ (by omega) (by omega) (by omega) (by omega)))) (fun c hc => by rw [f1.L (by unfold Xpr Xl; omega)]; exact hm1 c hc) (by rw [f1.L (xp _ _ (by omega) (by omega) (by omega) (by omega))]; exact z0)
    rw [e1, bq_n]
    exact ⟨τ2, e2, (f0'.trans (f1.mono (fun a j z => Or.inr (Or.inr (Or.inr (Or.inl z)))))).trans f2, Or.inr p2, F2, k2⟩
  · rw [if_neg q2]
    have hpr1 : PrT σ1 D := (hpr.resolve_left (fun z => q2 (h16.trans z))).fr b4 b7 (fun a j _ _ => f0.L (by omega))
    obtain ⟨τ2, e2, f2, p2, F2, k2⟩ := c_sv31 h1 hp1 q hm hpr1 hF1 hm1 z0
    exact ⟨τ2, e2, f0'.trans f2, Or.inr p2, F2, k2⟩
end
