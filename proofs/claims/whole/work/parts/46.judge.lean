/-! THE CLASS: the judge -/
def cpM (_ : Nat) : Nat := 9223372036854775807
def Xj (t a j : Nat) : Prop := Xl t a j ∨ Xn 118 a j ∨ Xn 139 a j ∨ a = 156 ∨ a = 117 ∧ j = 2
/-- flows stand -/
def JF (σ : ah_H) (t : Nat) (D : DD) : Prop := ah_R σ 118 8 = some t ∧ (∀ c, c < nC D → FD σ 118 D (stD D) cpM c) ∧ ∀ c, c < nC D → FD σ 139 D (stD D) (capD D) c
def JE (σ : ah_H) (t : Nat) (D : DD) : Prop := TR σ t D ∧ MN D ∧ ah_R σ 117 6 = some t ∧ NetR σ D ∧ (∀ c, c < 7 → ah_L σ 135 c = iL 9223372036854775807) ∧ (ah_I σ 117 2 = nI 0 ∨ ah_I σ 117 2 = nI 1 ∧ JF σ t D)
section
variable {σ : ah_H} {t : Nat} {D : DD}
theorem FD.fr {τ : ah_H} {f c : Nat} {st : Nat → Option Nat} {cp : Nat → Nat} (h : FD σ f D st cp c) (hc : c < 7) (e1 : ∀ a j, f ≤ a → a ≤ f + 20 → ah_L τ a j = ah_L σ a j) (e2 : ∀ a j, f ≤ a → a ≤ f + 20 → ah_I τ a j = ah_I σ a j) : FD τ f D st cp c := by
  obtain ⟨h1, h2, h3⟩ := h
  refine ⟨fun j hj => ?_, ?_, fun hs r u hr hu => ?_⟩
  · rw [e1 _ _ (by omega) (by omega)]; exact h1 j hj
  · rw [e2 _ _ (by omega) (by omega)]; exact h2
  · rw [e1 _ _ (by omega) (by omega)]; exact h3 hs r u hr hu
theorem JF.fr {X : Nat → Nat → Prop} {τ : ah_H} (h : JF σ t D) (hC : nC D ≤ 7) (g : Fr X σ τ) (hX : ∀ a j, 118 ≤ a → a ≤ 159 → ¬ X a j) : JF τ t D :=
  ⟨(g.R (Or.inr (hX _ _ (by omega) (by omega)))).trans h.1, fun c hc => (h.2.1 c hc).fr (by omega) (fun a j _ _ => g.L (hX _ _ (by omega) (by omega))) (fun a j _ _ => g.I (hX _ _ (by omega) (by omega))), fun c hc => (h.2.2 c hc).fr (by omega) (fun a j _ _ => g.L (hX _ _ (by omega) (by omega))) (fun a j _ _ => g.I (hX _ _ (by omega) (by omega)))⟩
/-- whatever leaves town, net, judge and flows alone -/
theorem JE.fr {X : Nat → Nat → Prop} {τ : ah_H} (h : JE σ t D) (g : Fr X σ τ) (hX : ∀ a j, (t ≤ a ∧ a < t + 38) ∨ (91 ≤ a ∧ a ≤ 94) ∨ (117 ≤ a ∧ a ≤ 159) → ¬ X a j) : JE τ t D := by
  obtain ⟨h1, h2, h3, h4, h5, h6⟩ := h
  refine ⟨h1.fr g (fun a j _ _ => hX a j (by omega)), h2, (g.R (Or.inr (hX _ _ (by omega)))).trans h3, h4.fr g (fun a j _ _ => hX a j (by omega)), fun c hc => (g.L (hX _ _ (by omega))).trans (h5 c hc), ?_⟩
  rcases h6 with q | ⟨q1, q2⟩
  · exact Or.inl ((g.I (hX _ _ (by omega))).trans q)
  · exact Or.inr ⟨(g.I (hX _ _ (by omega))).trans q1, q2.fr h1.bd.1 g (fun a j _ _ => hX a j (by omega))⟩
theorem JE.xl {τ : ah_H} (h : JE σ t D) (g : Fr (Xl t) σ τ) : JE τ t D := h.fr g (fun a j q => by
  have hT : t = 2 ∨ t = 42 := h.1.tn
  unfold Xl; omega)
theorem JE.w (h : JE σ t D) : Wf σ := h.1.w
theorem JE.sn (h : JE σ t D) {c : Nat} (hc : c < nC D) : (ah_I σ 91 c = mI 1) = (stD D c = none) := h.2.2.2.1.sn h.1.t h.2.1 (by have := h.1.bd; omega)
theorem lb (ht : MT D) (hn : MN D) {c s : Nat} (hc : c < nC D) (hx : stD D c = some s) : s < nS D ∧ D 227 4 ≠ nI c ∧ (sA D s = c ∨ sB D s = c) ∧ pD D c < nP D ∧ aD D c ≤ 12 ∧ bD D c ≤ 12 ∧ D 249 c = nI (pD D c) ∧ D 250 c = nI (aD D c) ∧ D 251 c = nI (bD D c) := by
  have b1 := ht.qc7
  have b2' := ht.qp4
  obtain ⟨h1, h2, h3, h4, h5, ⟨p, hp, ep⟩, ⟨a, ha, ea⟩, ⟨b, hb, eb⟩⟩ := hn.laid ht (show c < 7 by omega) hx
  have e1 : pD D c = p := by unfold pD; rw [ep]; exact ix_nI (by omega)
  have e2 : aD D c = a := by unfold aD; rw [ea]; exact ix_nI (by omega)
  have e3 : bD D c = b := by unfold bD; rw [eb]; exact ix_nI (by omega)
  rw [e1, e2, e3]
  exact ⟨h3, h2, h5, hp, ha, hb, ep, ea, eb⟩
theorem JE.net (h : JE σ t D) {c s : Nat} (hc : c < nC D) (hx : stD D c = some s) : ah_I σ 91 c = nI s ∧ ah_I σ 92 c = nI (pD D c) ∧ ah_I σ 93 c = nI (aD D c) ∧ ah_I σ 94 c = nI (bD D c) := by
  have b1 := h.1.bd
  obtain ⟨-, -, -, -, -, -, e1, e2, e3⟩ := lb h.1.t h.2.1 hc hx
  obtain ⟨k1, k2⟩ := h.2.2.2.1 c (by omega)
  have k0 := h.2.2.2.1.st h.1.t h.2.1 (show c < 7 by omega)
  rw [hx] at k0
  have hne : D 248 c ≠ mI 1 := by
    rw [← k1]
    intro q
    have : stD D c = none := (h.sn hc).mp q
    rw [this] at hx
    cases hx
  obtain ⟨k3, k4, k5⟩ := k2 hne
  exact ⟨k0, k3.trans e1, k4.trans e2, k5.trans e3⟩
theorem fallZ_b (ht : MT D) (hn : MN D) {c s : Nat} (hc : c < nC D) (hx : stD D c = some s) : -3000 ≤ fallZ D c s ∧ fallZ D c s ≤ 3000 := (sFall_z ht hn (by have := ht.qc7; omega) hx).2
theorem c_fallOf (h : JE σ t D) {c s : Nat} (hc : c < nC D) (hx : stD D c = some s) : f_X3_fallOf 117 (nI c) σ = some (jI (fallZ D c s), σ) := by
  have hw := h.w
  have ht := h.1.tn
  have b1 := h.1.bd
  obtain ⟨l1, l2, l3, l4, l5, l6, -⟩ := lb h.1.t h.2.1 hc hx
  obtain ⟨n1, n2, n3, n4⟩ := h.net hc hx
  have hp := h.2.2.1
  have ho := h.1.t.qoth (c := c) l1
  unfold f_X3_fallOf f_X3_fallOf_0
  simp only [to_bq, l_0, l_1, l_2, l_3, l_4, l_5, l_6, l_7, l_8, l_9, l_10, l_11, l_12, l_13, l_14, l_15, l_16, l_17, l_18, l_19, l_20, l_21, l_22, l_23, l_24, l_25, l_26, l_27, l_28, l_29, l_30, l_31, l_32, l_40, l_41, l_42, l_43, l_44, l_45, l_46, l_47, l_48, l_49, l_50, l_51, l_52, l_53, l_54, l_55, l_56, l_57, l_58, l_59, l_60, l_61, l_62, l_63, l_64, l_72, l_97, l_99, l_100, l_104, l_120, l_122, l_128, l_140, l_255, l_256, l_257, l_258, l_260, l_261, l_262, l_364, l_680, l_700, l_701, l_840, l_999, l_1023, l_1024, l_9999, l_10000, l_1000000, lm]
  simp (disch := first | (with_reducible assumption) | omega | exact ⟨by omega, by omega⟩ | ((with_reducible first | apply Wf.wI | apply Wf.wL | apply Wf.fL | apply Wf.fI | apply Wf.fr); (repeat (with_reducible first | assumption | apply Wf.wI | apply Wf.wL | apply Wf.fL | apply Wf.fI | apply Wf.fr)))) only [ck_117, gI_117, gL_117, pI_117, pZ0_117, pZ1_117, pL_117, gR_117_0, gR_117_1, gR_117_5, pR_117_6, gR_117_6, ck_90, gI_90, gL_90, pI_90, pZ0_90, pZ1_90, pL_90, gR_90_0, gR_90_1, gR_90_2, gR_90_3, gR_90_6, gR_90_8, ck_t, gI_t, gL_t, pI_t, pZ0_t, pZ1_t, pL_t, ck_w, gI_w, gL_w, pI_w, pZ0_w, pZ1_w, pL_w, gR_t_1, gR_t_5, gR_t_7, gR_t_9, gR_t_10, gR_t_11, gR_t_12, gR_t_15, gR_w_2, gR_w_3, gR_w_4, gR_w_5, gR_w_6, gR_w_7, aR_crow, aR_srow, aR_prow, aR_rrow, aI_crow, sI_crow, len_crow, aI_srow, sI_srow, len_srow, aI_prow, sI_prow, len_prow, aI_rrow, sI_rrow, len_rrow, aI_t25, sI_t25, len_t25, aI_t31, sI_t31, len_t31, aI_t32, sI_t32, len_t32, aI_t34, sI_t34, len_t34, aI_t35, sI_t35, len_t35, aI_t36, sI_t36, len_t36, aI_t37, sI_t37, len_t37, aL_t38, sL_t38, len_t38, aL_t39, sL_t39, len_t39, bq_s, bd_s, mp_s, rz_0, rz_1, bI_rz, hp, aI_91, aI_93, aI_94, n1, n3, n4, c_otherEnd h.1 l1 (show c < 7 by omega), tr_hgt h.1]
  rw [jI_n, jI_n, jI_n, jI_n, jsub, jsub, jsub]
  congr 3
  unfold fallZ aD bD
  omega
theorem c_carriedBy (h : JE σ t D) {c s : Nat} (hc : c < nC D) (hx : stD D c = some s) : Ok (f_X3_carriedBy 117 (nI c) σ) (fun r => r.1 = iL (carD D c) ∧ Fr (Xl t) σ r.2) := by
  have hw := h.w
  have ht := h.1.tn
  have b1 := h.1.bd
  obtain ⟨l1, l2, l3, l4, l5, l6, -⟩ := lb h.1.t h.2.1 hc hx
  obtain ⟨n1, n2, n3, n4⟩ := h.net hc hx
  have hp := h.2.2.1
  have hfb := fallZ_b h.1.t h.2.1 hc hx
  have hwd := h.1.t.qwid99 l4
  unfold f_X3_carriedBy f_X3_carriedBy_0
  simp only [to_bq, l_0, l_1, l_2, l_3, l_4, l_5, l_6, l_7, l_8, l_9, l_10, l_11, l_12, l_13, l_14, l_15, l_16, l_17, l_18, l_19, l_20, l_21, l_22, l_23, l_24, l_25, l_26, l_27, l_28, l_29, l_30, l_31, l_32, l_40, l_41, l_42, l_43, l_44, l_45, l_46, l_47, l_48, l_49, l_50, l_51, l_52, l_53, l_54, l_55, l_56, l_57, l_58, l_59, l_60, l_61, l_62, l_63, l_64, l_72, l_97, l_99, l_100, l_104, l_120, l_122, l_128, l_140, l_255, l_256, l_257, l_258, l_260, l_261, l_262, l_364, l_680, l_700, l_701, l_840, l_999, l_1023, l_1024, l_9999, l_10000, l_1000000, lm]
  simp (disch := first | (with_reducible assumption) | omega | exact ⟨by omega, by omega⟩ | ((with_reducible first | apply Wf.wI | apply Wf.wL | apply Wf.fL | apply Wf.fI | apply Wf.fr); (repeat (with_reducible first | assumption | apply Wf.wI | apply Wf.wL | apply Wf.fL | apply Wf.fI | apply Wf.fr)))) only [ck_117, gI_117, gL_117, pI_117, pZ0_117, pZ1_117, pL_117, gR_117_0, gR_117_1, gR_117_5, pR_117_6, gR_117_6, ck_90, gI_90, gL_90, pI_90, pZ0_90, pZ1_90, pL_90, gR_90_0, gR_90_1, gR_90_2, gR_90_3, gR_90_6, gR_90_8, ck_t, gI_t, gL_t, pI_t, pZ0_t, pZ1_t, pL_t, ck_w, gI_w, gL_w, pI_w, pZ0_w, pZ1_w, pL_w, gR_t_1, gR_t_5, gR_t_7, gR_t_9, gR_t_10, gR_t_11, gR_t_12, gR_t_15, gR_w_2, gR_w_3, gR_w_4, gR_w_5, gR_w_6, gR_w_7, aR_crow, aR_srow, aR_prow, aR_rrow, aI_crow, sI_crow, len_crow, aI_srow, sI_srow, len_srow, aI_prow, sI_prow, len_prow, aI_rrow, sI_rrow, len_rrow, aI_t25, sI_t25, len_t25, aI_t31, sI_t31, len_t31, aI_t32, sI_t32, len_t32, aI_t34, sI_t34, len_t34, aI_t35, sI_t35, len_t35, aI_t36, sI_t36, len_t36, aI_t37, sI_t37, len_t37, aL_t38, sL_t38, len_t38, aL_t39, sL_t39, len_t39, bq_s, bd_s, mp_s, rz_0, rz_1, bI_rz, hp, aI_91, aI_92, n1, n2, c_fallOf h hc hx, c_fallByLength h.1 l1 hfb, tr_wid h.1]
  obtain ⟨⟨r1, r2⟩, k1, k2, k3⟩ := c_carried h.1 hwd (tdiv_b (n := len D s) hfb)
  rw [k1]
  refine ⟨_, rfl, ?_, k3⟩
  have k2 : r1 = _ := k2
  rw [k2]
  unfold carD
  rw [hx]
  rfl
theorem c_pipeCost (h : JE σ t D) {c s : Nat} (hc : c < nC D) (hx : stD D c = some s) : Ok (f_X3_pipeCost 117 (nI c) σ) (fun r => r.1 = iL (costD D c) ∧ Fr (Xl t) σ r.2) := by
  have hw := h.w
  have ht := h.1.tn
  have b1 := h.1.bd
  obtain ⟨l1, l2, l3, l4, l5, l6, -⟩ := lb h.1.t h.2.1 hc hx
  obtain ⟨n1, n2, n3, n4⟩ := h.net hc hx
  have hp := h.2.2.1
  have hwd := h.1.t.qwid99 l4
  have hpr := h.1.t.qpri99 l4
  have hlen := h.1.t.qlen99 l1
  have hdv : op_div (nI (aD D c + bD D c)) (nI 2) = some (nI ((aD D c + bD D c) / 2)) := div_nI (by omega) (by omega) (by omega)
  obtain ⟨g, hg⟩ : ∃ g, g = (aD D c + bD D c) / 2 := ⟨_, rfl⟩
  rw [← hg] at hdv
  have hg12 : g ≤ 12 := by omega
  unfold f_X3_pipeCost f_X3_pipeCost_0
  simp only [to_bq, l_0, l_1, l_2, l_3, l_4, l_5, l_6, l_7, l_8, l_9, l_10, l_11, l_12, l_13, l_14, l_15, l_16, l_17, l_18, l_19, l_20, l_21, l_22, l_23, l_24, l_25, l_26, l_27, l_28, l_29, l_30, l_31, l_32, l_40, l_41, l_42, l_43, l_44, l_45, l_46, l_47, l_48, l_49, l_50, l_51, l_52, l_53, l_54, l_55, l_56, l_57, l_58, l_59, l_60, l_61, l_62, l_63, l_64, l_72, l_97, l_99, l_100, l_104, l_120, l_122, l_128, l_140, l_255, l_256, l_257, l_258, l_260, l_261, l_262, l_364, l_680, l_700, l_701, l_840, l_999, l_1023, l_1024, l_9999, l_10000, l_1000000, lm]
  simp (disch := first | (with_reducible assumption) | omega | exact ⟨by omega, by omega⟩ | ((with_reducible first | apply Wf.wI | apply Wf.wL | apply Wf.fL | apply Wf.fI | apply Wf.fr); (repeat (with_reducible first | assumption | apply Wf.wI | apply Wf.wL | apply Wf.fL | apply Wf.fI | apply Wf.fr)))) only [ck_117, gI_117, gL_117, pI_117, pZ0_117, pZ1_117, pL_117, gR_117_0, gR_117_1, gR_117_5, pR_117_6, gR_117_6, ck_90, gI_90, gL_90, pI_90, pZ0_90, pZ1_90, pL_90, gR_90_0, gR_90_1, gR_90_2, gR_90_3, gR_90_6, gR_90_8, ck_t, gI_t, gL_t, pI_t, pZ0_t, pZ1_t, pL_t, ck_w, gI_w, gL_w, pI_w, pZ0_w, pZ1_w, pL_w, gR_t_1, gR_t_5, gR_t_7, gR_t_9, gR_t_10, gR_t_11, gR_t_12, gR_t_15, gR_w_2, gR_w_3, gR_w_4, gR_w_5, gR_w_6, gR_w_7, aR_crow, aR_srow, aR_prow, aR_rrow, aI_crow, sI_crow, len_crow, aI_srow, sI_srow, len_srow, aI_prow, sI_prow, len_prow, aI_rrow, sI_rrow, len_rrow, aI_t25, sI_t25, len_t25, aI_t31, sI_t31, len_t31, aI_t32, sI_t32, len_t32, aI_t34, sI_t34, len_t34, aI_t35, sI_t35, len_t35, aI_t36, sI_t36, len_t36, aI_t37, sI_t37, len_t37, aL_t38, sL_t38, len_t38, aL_t39, sL_t39, len_t39, bq_n, bd_s, mp_s, rz_0, rz_1, bI_rz, zadd, zmul, zsub, le_nI, lt_nI, eq_nI, neg_nI, gen_nI, neg_lt, neg_le, neg_lt', neg_le', nI_lt0, hp, aI_92, aI_93, aI_94, n2, n3, n4]
  rw [hdv, bq_n]
  simp (disch := first | (with_reducible assumption) | omega | exact ⟨by omega, by omega⟩ | ((with_reducible first | apply Wf.wI | apply Wf.wL | apply Wf.fL | apply Wf.fI | apply Wf.fr); (repeat (with_reducible first | assumption | apply Wf.wI | apply Wf.wL | apply Wf.fL | apply Wf.fI | apply Wf.fr)))) only [ck_117, gI_117, gL_117, pI_117, pZ0_117, pZ1_117, pL_117, gR_117_0, gR_117_1, gR_117_5, pR_117_6, gR_117_6, ck_90, gI_90, gL_90, pI_90, pZ0_90, pZ1_90, pL_90, gR_90_0, gR_90_1, gR_90_2, gR_90_3, gR_90_6, gR_90_8, ck_t, gI_t, gL_t, pI_t, pZ0_t, pZ1_t, pL_t, ck_w, gI_w, gL_w, pI_w, pZ0_w, pZ1_w, pL_w, gR_t_1, gR_t_5, gR_t_7, gR_t_9, gR_t_10, gR_t_11, gR_t_12, gR_t_15, gR_w_2, gR_w_3, gR_w_4, gR_w_5, gR_w_6, gR_w_7, aR_crow, aR_srow, aR_prow, aR_rrow, aI_crow, sI_crow, len_crow, aI_srow, sI_srow, len_srow, aI_prow, sI_prow, len_prow, aI_rrow, sI_rrow, len_rrow, aI_t25, sI_t25, len_t25, aI_t31, sI_t31, len_t31, aI_t32, sI_t32, len_t32, aI_t34, sI_t34, len_t34, aI_t35, sI_t35, len_t35, aI_t36, sI_t36, len_t36, aI_t37, sI_t37, len_t37, aL_t38, sL_t38, len_t38, aL_t39, sL_t39, len_t39, bq_s, bd_s, mp_s, rz_0, rz_1, bI_rz, hp, tr_wid h.1, c_rockyAt h.1 hc hg12]
  obtain ⟨⟨r1, r2⟩, k1, k2, k3⟩ := c_digs h.1 hwd hg12 (show g - rck D c ≤ 12 by omega)
  rw [k1, bq_s]
  have h2 := h.xl k3
  have hw2 := h2.w
  have hp2 := h2.2.2.1
  have n1' := (h2.net hc hx).1
  simp (disch := first | (with_reducible assumption) | omega | exact ⟨by omega, by omega⟩ | ((with_reducible first | apply Wf.wI | apply Wf.wL | apply Wf.fL | apply Wf.fI | apply Wf.fr); (repeat (with_reducible first | assumption | apply Wf.wI | apply Wf.wL | apply Wf.fL | apply Wf.fI | apply Wf.fr)))) only [ck_117, gI_117, gL_117, pI_117, pZ0_117, pZ1_117, pL_117, gR_117_0, gR_117_1, gR_117_5, pR_117_6, gR_117_6, ck_90, gI_90, gL_90, pI_90, pZ0_90, pZ1_90, pL_90, gR_90_0, gR_90_1, gR_90_2, gR_90_3, gR_90_6, gR_90_8, ck_t, gI_t, gL_t, pI_t, pZ0_t, pZ1_t, pL_t, ck_w, gI_w, gL_w, pI_w, pZ0_w, pZ1_w, pL_w, gR_t_1, gR_t_5, gR_t_7, gR_t_9, gR_t_10, gR_t_11, gR_t_12, gR_t_15, gR_w_2, gR_w_3, gR_w_4, gR_w_5, gR_w_6, gR_w_7, aR_crow, aR_srow, aR_prow, aR_rrow, aI_crow, sI_crow, len_crow, aI_srow, sI_srow, len_srow, aI_prow, sI_prow, len_prow, aI_rrow, sI_rrow, len_rrow, aI_t25, sI_t25, len_t25, aI_t31, sI_t31, len_t31, aI_t32, sI_t32, len_t32, aI_t34, sI_t34, len_t34, aI_t35, sI_t35, len_t35, aI_t36, sI_t36, len_t36, aI_t37, sI_t37, len_t37, aL_t38, sL_t38, len_t38, aL_t39, sL_t39, len_t39, bq_s, bd_s, mp_s, rz_0, rz_1, bI_rz, hp2, aI_91, n1', tr_len h2.1, tr_pri h2.1, toL_n]
  refine ⟨_, rfl, ?_, k3⟩
  have k2 : r1 = _ := k2
  show iL _ * (iL _ + r1) = _
  rw [k2, iadd, imul]
  unfold costD costv
  rw [hx, ← hg]
theorem c_runsTo (h : JE σ t D) {o c : Nat} (ho : o < nC D) (hc : c < nC D) : f_X3_runsTo 117 (nI o) (nI c) σ = some (bI (nx D (stD D) o = some c), σ) := by
  have hw := h.w
  have ht := h.1.tn
  have b1 := h.1.bd
  have hp := h.2.2.1
  unfold f_X3_runsTo f_X3_runsTo_0
  simp only [to_bq, l_0, l_1, l_2, l_3, l_4, l_5, l_6, l_7, l_8, l_9, l_10, l_11, l_12, l_13, l_14, l_15, l_16, l_17, l_18, l_19, l_20, l_21, l_22, l_23, l_24, l_25, l_26, l_27, l_28, l_29, l_30, l_31, l_32, l_40, l_41, l_42, l_43, l_44, l_45, l_46, l_47, l_48, l_49, l_50, l_51, l_52, l_53, l_54, l_55, l_56, l_57, l_58, l_59, l_60, l_61, l_62, l_63, l_64, l_72, l_97, l_99, l_100, l_104, l_120, l_122, l_128, l_140, l_255, l_256, l_257, l_258, l_260, l_261, l_262, l_364, l_680, l_700, l_701, l_840, l_999, l_1023, l_1024, l_9999, l_10000, l_1000000, lm]
  simp (disch := first | (with_reducible assumption) | omega | exact ⟨by omega, by omega⟩ | ((with_reducible first | apply Wf.wI | apply Wf.wL | apply Wf.fL | apply Wf.fI | apply Wf.fr); (repeat (with_reducible first | assumption | apply Wf.wI | apply Wf.wL | apply Wf.fL | apply Wf.fI | apply Wf.fr)))) only [ck_117, gI_117, gL_117, pI_117, pZ0_117, pZ1_117, pL_117, gR_117_0, gR_117_1, gR_117_5, pR_117_6, gR_117_6, ck_90, gI_90, gL_90, pI_90, pZ0_90, pZ1_90, pL_90, gR_90_0, gR_90_1, gR_90_2, gR_90_3, gR_90_6, gR_90_8, bq_s, bd_s, mp_s, rz_0, rz_1, bI_rz, aI_91, lm, h.sn ho]
  unfold nx
  cases hx : stD D o with
  | none => simp only [if_true, if_false, ite_true, ite_false, reduceIte, not_true, not_false, and_true, true_and, and_false, false_and, or_true, true_or, or_false, false_or, eq_self, Option.map_none]; rfl
  | some s =>
    obtain ⟨l1, -⟩ := lb h.1.t h.2.1 ho hx
    obtain ⟨n1, -⟩ := h.net ho hx
    have hk := h.1.t.qoth (c := o) l1
    simp (disch := first | (with_reducible assumption) | omega | exact ⟨by omega, by omega⟩ | ((with_reducible first | apply Wf.wI | apply Wf.wL | apply Wf.fL | apply Wf.fI | apply Wf.fr); (repeat (with_reducible first | assumption | apply Wf.wI | apply Wf.wL | apply Wf.fL | apply Wf.fI | apply Wf.fr)))) only [ck_117, gI_117, gL_117, pI_117, pZ0_117, pZ1_117, pL_117, gR_117_0, gR_117_1, gR_117_5, pR_117_6, gR_117_6, ck_90, gI_90, gL_90, pI_90, pZ0_90, pZ1_90, pL_90, gR_90_0, gR_90_1, gR_90_2, gR_90_3, gR_90_6, gR_90_8, hp, aI_91, n1, c_otherEnd h.1 l1 (show o < 7 by omega), bq_s, bd_s, mp_s, rz_0, rz_1, bI_rz, zadd, zmul, zsub, le_nI, lt_nI, eq_nI, neg_nI, gen_nI, neg_lt, neg_le, neg_lt', neg_le', nI_lt0, if_true, if_false, ite_true, ite_false, reduceIte, not_true, not_false, and_true, true_and, and_false, false_and, or_true, true_or, or_false, false_or, eq_self, iteS, Option.map_some, Option.some.injEq, reduceCtorEq]
    rfl
theorem lfo_b' (ht : MT D) (hn : MN D) (c : Nat) : ∀ k, k ≤ nC D → lfo D c k ≤ 12 := by
  intro k
  induction k with
  | zero => intro _; exact Nat.zero_le _
  | succ k ih =>
    intro hk
    have := ih (by omega)
    unfold lfo
    split
    · next q =>
      obtain ⟨s, hs, -⟩ := nx_st q
      have := (lb ht hn (show k < nC D by omega) hs).2.2.2.2.2.1
      omega
    · exact this
theorem c_lift4 (h : JE σ t D) {c s : Nat} (hc : c < nC D) (hx : stD D c = some s) : ∀ m k fu, k + m = nC D → m < fu → f_X3_liftAt_4 fu 117 (nI c) (nI (lfo D c k)) (nI k) σ = some (nI (lft D c), σ) := by
  have hw := h.w
  have htn := h.1.tn
  have b1 := h.1.bd
  have hp := h.2.2.1
  obtain ⟨l1, l2, l3, l4, l5, l6, -⟩ := lb h.1.t h.2.1 hc hx
  obtain ⟨n1, n2, n3, n4⟩ := h.net hc hx
  intro m
  induction m with
  | zero =>
    intro k fu hk hf
    obtain ⟨fu, rfl⟩ : ∃ q, fu = q + 1 := ⟨fu - 1, by omega⟩
    obtain rfl : k = nC D := by omega
    show f_X3_liftAt_4_b _ _ _ _ _ _ = _
    unfold f_X3_liftAt_4_b
    simp only [to_bq, l_0, l_1, l_2, l_3, l_4, l_5, l_6, l_7, l_8, l_9, l_10, l_11, l_12, l_13, l_14, l_15, l_16, l_17, l_18, l_19, l_20, l_21, l_22, l_23, l_24, l_25, l_26, l_27, l_28, l_29, l_30, l_31, l_32, l_40, l_41, l_42, l_43, l_44, l_45, l_46, l_47, l_48, l_49, l_50, l_51, l_52, l_53, l_54, l_55, l_56, l_57, l_58, l_59, l_60, l_61, l_62, l_63, l_64, l_72, l_97, l_99, l_100, l_104, l_120, l_122, l_128, l_140, l_255, l_256, l_257, l_258, l_260, l_261, l_262, l_364, l_680, l_700, l_701, l_840, l_999, l_1023, l_1024, l_9999, l_10000, l_1000000, lm]
    simp (disch := first | (with_reducible assumption) | omega | exact ⟨by omega, by omega⟩ | ((with_reducible first | apply Wf.wI | apply Wf.wL | apply Wf.fL | apply Wf.fI | apply Wf.fr); (repeat (with_reducible first | assumption | apply Wf.wI | apply Wf.wL | apply Wf.fL | apply Wf.fI | apply Wf.fr)))) only [ck_117, gI_117, gL_117, pI_117, pZ0_117, pZ1_117, pL_117, gR_117_0, gR_117_1, gR_117_5, pR_117_6, gR_117_6, ck_t, gI_t, gL_t, pI_t, pZ0_t, pZ1_t, pL_t, ck_w, gI_w, gL_w, pI_w, pZ0_w, pZ1_w, pL_w, gR_t_1, gR_t_5, gR_t_7, gR_t_9, gR_t_10, gR_t_11, gR_t_12, gR_t_15, gR_w_2, gR_w_3, gR_w_4, gR_w_5, gR_w_6, gR_w_7, aR_crow, aR_srow, aR_prow, aR_rrow, aI_crow, sI_crow, len_crow, aI_srow, sI_srow, len_srow, aI_prow, sI_prow, len_prow, aI_rrow, sI_rrow, len_rrow, aI_t25, sI_t25, len_t25, aI_t31, sI_t31, len_t31, aI_t32, sI_t32, len_t32, aI_t34, sI_t34, len_t34, aI_t35, sI_t35, len_t35, aI_t36, sI_t36, len_t36, aI_t37, sI_t37, len_t37, aL_t38, sL_t38, len_t38, aL_t39, sL_t39, len_t39, bq_s, bd_s, mp_s, rz_0, rz_1, bI_rz, zadd, zmul, zsub, le_nI, lt_nI, eq_nI, neg_nI, gen_nI, neg_lt, neg_le, neg_lt', neg_le', nI_lt0, if_true, if_false, ite_true, ite_false, reduceIte, not_true, not_false, and_true, true_and, and_false, false_and, or_true, true_or, or_false, false_or, eq_self, hp, tr_C h.1, Nat.le_refl]
    rfl
  | succ m ih =>
    intro k fu hk hf
    obtain ⟨fu, rfl⟩ : ∃ q, fu = q + 1 := ⟨fu - 1, by omega⟩
    have hk' : k < nC D := by omega
    have hi := ih (k + 1) fu (by omega) (by omega)
    have hlb := lfo_b' h.1.t h.2.1 c k (by omega)
    show f_X3_liftAt_4_b _ _ _ _ _ _ = _
    unfold f_X3_liftAt_4_b f_X3_liftAt_48
    simp only [to_bq, l_0, l_1, l_2, l_3, l_4, l_5, l_6, l_7, l_8, l_9, l_10, l_11, l_12, l_13, l_14, l_15, l_16, l_17, l_18, l_19, l_20, l_21, l_22, l_23, l_24, l_25, l_26, l_27, l_28, l_29, l_30, l_31, l_32, l_40, l_41, l_42, l_43, l_44, l_45, l_46, l_47, l_48, l_49, l_50, l_51, l_52, l_53, l_54, l_55, l_56, l_57, l_58, l_59, l_60, l_61, l_62, l_63, l_64, l_72, l_97, l_99, l_100, l_104, l_120, l_122, l_128, l_140, l_255, l_256, l_257, l_258, l_260, l_261, l_262, l_364, l_680, l_700, l_701, l_840, l_999, l_1023, l_1024, l_9999, l_10000, l_1000000, lm]
    simp (disch := first | (with_reducible assumption) | omega | exact ⟨by omega, by omega⟩ | ((with_reducible first | apply Wf.wI | apply Wf.wL | apply Wf.fL | apply Wf.fI | apply Wf.fr); (repeat (with_reducible first | assumption | apply Wf.wI | apply Wf.wL | apply Wf.fL | apply Wf.fI | apply Wf.fr)))) only [ck_117, gI_117, gL_117, pI_117, pZ0_117, pZ1_117, pL_117, gR_117_0, gR_117_1, gR_117_5, pR_117_6, gR_117_6, ck_t, gI_t, gL_t, pI_t, pZ0_t, pZ1_t, pL_t, ck_w, gI_w, gL_w, pI_w, pZ0_w, pZ1_w, pL_w, gR_t_1, gR_t_5, gR_t_7, gR_t_9, gR_t_10, gR_t_11, gR_t_12, gR_t_15, gR_w_2, gR_w_3, gR_w_4, gR_w_5, gR_w_6, gR_w_7, aR_crow, aR_srow, aR_prow, aR_rrow, aI_crow, sI_crow, len_crow, aI_srow, sI_srow, len_srow, aI_prow, sI_prow, len_prow, aI_rrow, sI_rrow, len_rrow, aI_t25, sI_t25, len_t25, aI_t31, sI_t31, len_t31, aI_t32, sI_t32, len_t32, aI_t34, sI_t34, len_t34, aI_t35, sI_t35, len_t35, aI_t36, sI_t36, len_t36, aI_t37, sI_t37, len_t37, aL_t38, sL_t38, len_t38, aL_t39, sL_t39, len_t39, bq_s, bd_s, mp_s, rz_0, rz_1, bI_rz, zadd, zmul, zsub, le_nI, lt_nI, eq_nI, neg_nI, gen_nI, neg_lt, neg_le, neg_lt', neg_le', nI_lt0, if_true, if_false, ite_true, ite_false, reduceIte, not_true, not_false, and_true, true_and, and_false, false_and, or_true, true_or, or_false, false_or, eq_self, hp, tr_C h.1, show (nC D ≤ k) = False from eq_false (by omega), c_runsTo h hk' hc, bI_0, ite_n]
    have e1 : lfo D c (k + 1) = if nx D (stD D) k = some c then max (lfo D c k) (bD D k - aD D c) else lfo D c k := rfl
    by_cases q : nx D (stD D) k = some c
    · rw [if_pos q]
      rw [if_pos q] at e1
      obtain ⟨s', hs', -⟩ := nx_st q
      obtain ⟨m1, m2, m3, m4⟩ := h.net hk' hs'
      have hbk := (lb h.1.t h.2.1 hk' hs').2.2.2.2.2.1
      simp (disch := first | (with_reducible assumption) | omega | exact ⟨by omega, by omega⟩ | ((with_reducible first | apply Wf.wI | apply Wf.wL | apply Wf.fL | apply Wf.fI | apply Wf.fr); (repeat (with_reducible first | assumption | apply Wf.wI | apply Wf.wL | apply Wf.fL | apply Wf.fI | apply Wf.fr)))) only [ck_117, gI_117, gL_117, pI_117, pZ0_117, pZ1_117, pL_117, gR_117_0, gR_117_1, gR_117_5, pR_117_6, gR_117_6, ck_90, gI_90, gL_90, pI_90, pZ0_90, pZ1_90, pL_90, gR_90_0, gR_90_1, gR_90_2, gR_90_3, gR_90_6, gR_90_8, bq_s, bd_s, mp_s, rz_0, rz_1, bI_rz, aI_93, aI_94, m4, n3, maxi_n, ← e1, zadd]
      exact hi
    · rw [if_neg q]
      rw [if_neg q] at e1
      rw [← e1]
      exact hi
theorem c_liftAt (h : JE σ t D) {c s : Nat} (hc : c < nC D) (hx : stD D c = some s) : f_X3_liftAt 117 (nI c) σ = some (nI (lft D c), σ) := by
  have b1 := h.1.bd
  unfold f_X3_liftAt f_X3_liftAt_0
  rw [ck_117 h.w, l_0]
  exact c_lift4 h hc hx (nC D) 0 5000 (by omega) (by omega)
/-- plain flows: bounds that are never met say nothing -/
theorem inf_cg {nx : Nat → Option Nat} {n : Nat} {hr : Nat → Nat} {li li' : Nat → Nat → Nat} {ra : Nat → Nat → Nat} (hn : n ≤ 7) (hl : ∀ o x, li o x ≤ x) (he : ∀ o x, x ≤ 1400000000 → li o x = li' o x) (hra : ∀ c t, c < n → ra c t ≤ 9801) : ∀ d c t, d ≤ 7 → c < n → inf nx n hr li ra d c t = inf nx n hr li' ra d c t := by
  intro d
  induction d with
  | zero => intro c t _ _; rfl
  | succ d ih =>
    intro c t hd hc
    show ra c t + _ = ra c t + _
    congr 1
    refine sm_eq (fun o ho => ?_)
    show (if _ then _ else _) = (if _ then _ else _)
    split
    · rw [he o _ (Nat.le_trans (inf_b' hn hl hra d o _ ho) (ifb_7 (by omega))), ih o _ (by omega) ho]
    · rfl
theorem FF_pl (ht : MT D) {st : Nat → Option Nat} {r c u : Nat} (hr0 : r < nR D) (hc : c < nC D) : FF D st cpM r c u = FF D st plain r c u :=
  inf_cg ht.qc7 lim_le (fun o x hx => by unfold lim cpM plain; omega) (fun _ _ h => ra_b ht hr0 h) _ _ _ ht.qc7 hc
theorem wat_fq (ht : MT D) {st : Nat → Option Nat} {c : Nat} (hc : c < nC D) (hs : st c ≠ none) {j : Nat} (hj : j < 30 * nR D) : wat D st cpM c j = fq D st plain c j := by
  unfold wat fq flw
  have hr0 : j / 30 < nR D := by omega
  by_cases q : Rg (nx D st) (nC D) c
  · rw [cif_t q, cif_t (Or.inr q)]
  · rw [cif_f q, cif_f (fun z => z.elim hs q), FF_pl ht hr0 hc]
    have := FF_b (st := st) (cp := plain) ht hr0 hc (t := j % 30)
    unfold lim plain
    unfold plain at this
    omega
theorem pkx_wf (ht : MT D) {st : Nat → Option Nat} {c : Nat} (hc : c < nC D) (hs : st c ≠ none) : pkx (wat D st cpM c) (30 * nR D) = pkD D st plain c := pkx_eq (fun j hj => wat_fq ht hc hs hj)
theorem gwt_gm (ht : MT D) {st : Nat → Option Nat} {c : Nat} (hc : c < nC D) (hs : st c ≠ none) : gwt D st cpM c = gmx D st plain c := by
  unfold gwt gmx
  by_cases q : nR D = 0
  · rw [if_pos q, if_pos q]
  · rw [if_neg q, if_neg q, pkx_wf ht hc hs]
    exact wat_fq ht hc hs (pkx_lt _ (by omega))
theorem c_ref10 (h0 : JE σ t D) (hfr0 : ah_I σ 117 2 = nI 0) : ∀ m k fu τ, k + m = nC D → m < fu → Fr (fun a j => Xl t a j ∨ a = 156) σ τ → (∀ c, c < k → ah_L τ 156 c = iL ((capD D c : Nat) : Int)) → ∃ ρ, f_X3_refresh_10 fu 117 (nI k) τ = f_X3_refresh_58 117 ρ ∧ Fr (fun a j => Xl t a j ∨ a = 156) σ ρ ∧ (∀ c, c < nC D → ah_L ρ 156 c = iL ((capD D c : Nat) : Int)) := by
  have b1 := h0.1.bd
  have htn := h0.1.tn
  have hT : t = 2 ∨ t = 42 := htn
  intro m
  induction m with
  | zero =>
    intro k fu τ hk hf hfr hI
    obtain ⟨fu, rfl⟩ : ∃ q, fu = q + 1 := ⟨fu - 1, by omega⟩
    obtain rfl : k = nC D := by omega
    have hw : Wf τ := h0.w.fr hfr
    have h1 : TR τ t D := h0.1.fr hfr (fun a j _ _ => by unfold Xl; omega)
    have hp : ah_R τ 117 6 = some t := (hfr.R (Or.inr (by unfold Xl; omega))).trans h0.2.2.1
    refine ⟨τ, ?_, hfr, hI⟩
    show f_X3_refresh_10_b _ _ _ _ = _
    unfold f_X3_refresh_10_b
    simp only [to_bq, l_0, l_1, l_2, l_3, l_4, l_5, l_6, l_7, l_8, l_9, l_10, l_11, l_12, l_13, l_14, l_15, l_16, l_17, l_18, l_19, l_20, l_21, l_22, l_23, l_24, l_25, l_26, l_27, l_28, l_29, l_30, l_31, l_32, l_40, l_41, l_42, l_43, l_44, l_45, l_46, l_47, l_48, l_49, l_50, l_51, l_52, l_53, l_54, l_55, l_56, l_57, l_58, l_59, l_60, l_61, l_62, l_63, l_64, l_72, l_97, l_99, l_100, l_104, l_120, l_122, l_128, l_140, l_255, l_256, l_257, l_258, l_260, l_261, l_262, l_364, l_680, l_700, l_701, l_840, l_999, l_1023, l_1024, l_9999, l_10000, l_1000000, lm]
    simp (disch := first | (with_reducible assumption) | omega | exact ⟨by omega, by omega⟩ | ((with_reducible first | apply Wf.wI | apply Wf.wL | apply Wf.fL | apply Wf.fI | apply Wf.fr); (repeat (with_reducible first | assumption | apply Wf.wI | apply Wf.wL | apply Wf.fL | apply Wf.fI | apply Wf.fr)))) only [ck_117, gI_117, gL_117, pI_117, pZ0_117, pZ1_117, pL_117, gR_117_0, gR_117_1, gR_117_5, pR_117_6, gR_117_6, ck_t, gI_t, gL_t, pI_t, pZ0_t, pZ1_t, pL_t, ck_w, gI_w, gL_w, pI_w, pZ0_w, pZ1_w, pL_w, gR_t_1, gR_t_5, gR_t_7, gR_t_9, gR_t_10, gR_t_11, gR_t_12, gR_t_15, gR_w_2, gR_w_3, gR_w_4, gR_w_5, gR_w_6, gR_w_7, aR_crow, aR_srow, aR_prow, aR_rrow, aI_crow, sI_crow, len_crow, aI_srow, sI_srow, len_srow, aI_prow, sI_prow, len_prow, aI_rrow, sI_rrow, len_rrow, aI_t25, sI_t25, len_t25, aI_t31, sI_t31, len_t31, aI_t32, sI_t32, len_t32, aI_t34, sI_t34, len_t34, aI_t35, sI_t35, len_t35, aI_t36, sI_t36, len_t36, aI_t37, sI_t37, len_t37, aL_t38, sL_t38, len_t38, aL_t39, sL_t39, len_t39, bq_s, bd_s, mp_s, rz_0, rz_1, bI_rz, zadd, zmul, zsub, le_nI, lt_nI, eq_nI, neg_nI, gen_nI, neg_lt, neg_le, neg_lt', neg_le', nI_lt0, if_true, if_false, ite_true, ite_false, reduceIte, not_true, not_false, and_true, true_and, and_false, false_and, or_true, true_or, or_false, false_or, eq_self, hp, tr_C h1, Nat.le_refl]
  | succ m ih =>
    intro k fu τ hk hf hfr hI
    obtain ⟨fu, rfl⟩ : ∃ q, fu = q + 1 := ⟨fu - 1, by omega⟩
    have hk' : k < nC D := by omega
    have hw : Wf τ := h0.w.fr hfr
    have h1 : TR τ t D := h0.1.fr hfr (fun a j _ _ => by unfold Xl; omega)
    have hp : ah_R τ 117 6 = some t := (hfr.R (Or.inr (by unfold Xl; omega))).trans h0.2.2.1
    have hN : NetR τ D := h0.2.2.2.1.fr hfr (fun a j _ _ => by unfold Xl; omega)
    have h : JE τ t D := ⟨h1, h0.2.1, hp, hN, fun c hc => (hfr.L (by unfold Xl; omega)).trans (h0.2.2.2.2.1 c hc), Or.inl ((hfr.I (by unfold Xl; omega)).trans hfr0)⟩
    have hfl : Fl 139 := Fl_139
    have fin : ∀ ρ0 : ah_H, Fr (Xl t) τ ρ0 → ∀ v : Int, v = ((capD D k : Nat) : Int) → ∃ ρ, f_X3_refresh_51 (f_X3_refresh_10 fu) 117 (nI k) 156 (nI k) (iL v) ρ0 = f_X3_refresh_58 117 ρ ∧ Fr (fun a j => Xl t a j ∨ a = 156) σ ρ ∧ (∀ c, c < nC D → ah_L ρ 156 c = iL ((capD D c : Nat) : Int)) := by
      intro ρ0 z1 v z2
      have hw0 : Wf ρ0 := hw.fr z1
      have hs : op_sL ρ0 156 (nI k) (iL v) = some (ah_wL ρ0 156 k (iL v)) := hw0.sL (S0_f17 (f := 139) hfl) (by omega) (by omega)
      unfold f_X3_refresh_51
      rw [hs, bd_s, l_1, zadd]
      refine ih (k + 1) fu _ (by omega) (by omega) (hfr.trans ((z1.mono (fun a j q => Or.inl q)).wL (Or.inr rfl))) (fun c hc => ?_)
      rw [ah_L_wL]
      by_cases e : c = k
      · rw [if_pos ⟨rfl, e⟩, z2, e]
      · rw [if_neg (fun q => e q.2), z1.L (by unfold Xl; omega)]
        exact hI c (by omega)
    have e139 : (139 : Nat) + 17 = 156 := rfl
    show ∃ ρ, f_X3_refresh_10_b _ _ _ _ = _ ∧ _
    unfold f_X3_refresh_10_b
    simp only [to_bq, l_0, l_1, l_2, l_3, l_4, l_5, l_6, l_7, l_8, l_9, l_10, l_11, l_12, l_13, l_14, l_15, l_16, l_17, l_18, l_19, l_20, l_21, l_22, l_23, l_24, l_25, l_26, l_27, l_28, l_29, l_30, l_31, l_32, l_40, l_41, l_42, l_43, l_44, l_45, l_46, l_47, l_48, l_49, l_50, l_51, l_52, l_53, l_54, l_55, l_56, l_57, l_58, l_59, l_60, l_61, l_62, l_63, l_64, l_72, l_97, l_99, l_100, l_104, l_120, l_122, l_128, l_140, l_255, l_256, l_257, l_258, l_260, l_261, l_262, l_364, l_680, l_700, l_701, l_840, l_999, l_1023, l_1024, l_9999, l_10000, l_1000000, lm]
    simp (disch := first | (with_reducible assumption) | omega | exact ⟨by omega, by omega⟩ | ((with_reducible first | apply Wf.wI | apply Wf.wL | apply Wf.fL | apply Wf.fI | apply Wf.fr); (repeat (with_reducible first | assumption | apply Wf.wI | apply Wf.wL | apply Wf.fL | apply Wf.fI | apply Wf.fr)))) only [ck_117, gI_117, gL_117, pI_117, pZ0_117, pZ1_117, pL_117, gR_117_0, gR_117_1, gR_117_5, pR_117_6, gR_117_6, ck_90, gI_90, gL_90, pI_90, pZ0_90, pZ1_90, pL_90, gR_90_0, gR_90_1, gR_90_2, gR_90_3, gR_90_6, gR_90_8, ck_t, gI_t, gL_t, pI_t, pZ0_t, pZ1_t, pL_t, ck_w, gI_w, gL_w, pI_w, pZ0_w, pZ1_w, pL_w, gR_t_1, gR_t_5, gR_t_7, gR_t_9, gR_t_10, gR_t_11, gR_t_12, gR_t_15, gR_w_2, gR_w_3, gR_w_4, gR_w_5, gR_w_6, gR_w_7, aR_crow, aR_srow, aR_prow, aR_rrow, aI_crow, sI_crow, len_crow, aI_srow, sI_srow, len_srow, aI_prow, sI_prow, len_prow, aI_rrow, sI_rrow, len_rrow, aI_t25, sI_t25, len_t25, aI_t31, sI_t31, len_t31, aI_t32, sI_t32, len_t32, aI_t34, sI_t34, len_t34, aI_t35, sI_t35, len_t35, aI_t36, sI_t36, len_t36, aI_t37, sI_t37, len_t37, aL_t38, sL_t38, len_t38, aL_t39, sL_t39, len_t39, ck_f, gI_f, gL_f, pI_f, pZ0_f, pZ1_f, pL_f, gR_f_0, gR_f_1, gR_f_2, gR_f_3, gR_f_4, gR_f_5, gR_f_7, gR_f_8, pR_f_8, aR_water, aR_spill, aL_water, sL_water, len_water, aL_spill, sL_spill, len_spill, aL_f17, sL_f17, len_f17, aI_f18, sI_f18, len_f18, aI_f19, sI_f19, len_f19, aI_f20, sI_f20, len_f20, aI_fst, sI_fst, len_fst, bq_s, bd_s, mp_s, rz_0, rz_1, bI_rz, zadd, zmul, zsub, le_nI, lt_nI, eq_nI, neg_nI, gen_nI, neg_lt, neg_le, neg_lt', neg_le', nI_lt0, if_true, if_false, ite_true, ite_false, reduceIte, not_true, not_false, and_true, true_and, and_false, false_and, or_true, true_or, or_false, false_or, eq_self, hp, aI_91, lm, h.sn hk', tr_C h1, show (nC D ≤ k) = False from eq_false (by omega)]
    cases hx : stD D k with
    | none =>
      simp only [if_true, if_false, ite_true, ite_false, reduceIte, not_true, not_false, and_true, true_and, and_false, false_and, or_true, true_or, or_false, false_or, eq_self]
      exact fin τ Fr.rfl 0 (by unfold capD carD; rw [hx]; rfl)
    | some s =>
      obtain ⟨⟨r1, r2⟩, g1, g2, g3⟩ := c_carriedBy h hk' hx
      have g2 : r1 = _ := g2
      subst g2
      simp only [if_true, if_false, ite_true, ite_false, reduceIte, not_true, not_false, and_true, true_and, and_false, false_and, or_true, true_or, or_false, false_or, eq_self, reduceCtorEq]
      rw [g1, bq_s]
      have := carD_b h1.t h.2.1 (show k < 7 by omega)
      exact fin r2 g3 _ (by unfold capD; omega)
theorem inf_cc {nx : Nat → Option Nat} {n : Nat} {hr : Nat → Nat} {li li' : Nat → Nat → Nat} {ra : Nat → Nat → Nat} (he : ∀ o, o < n → li o = li' o) : ∀ d c t, inf nx n hr li ra d c t = inf nx n hr li' ra d c t := by
  intro d
  induction d with
  | zero => intro c t; rfl
  | succ d ih =>
    intro c t
    show ra c t + _ = ra c t + _
    congr 1
    refine sm_eq (fun o ho => ?_)
    show (if _ then _ else _) = (if _ then _ else _)
    split
    · rw [he o ho, ih]
    · rfl
theorem FF_cc {st : Nat → Option Nat} {cp cp' : Nat → Nat} (he : ∀ o, o < nC D → cp o = cp' o) {r c u : Nat} : FF D st cp r c u = FF D st cp' r c u := inf_cc (fun o ho => by funext x; unfold lim; rw [he o ho]) _ _ _
theorem c_refresh (h : JE σ t D) : ∃ ρ, f_X3_refresh 117 σ = some ρ ∧ Fr (Xj t) σ ρ ∧ JE ρ t D ∧ JF ρ t D ∧ ah_I ρ 117 2 = nI 1 := by
  have hw := h.w
  have b1 := h.1.bd
  have htn := h.1.tn
  have hT : t = 2 ∨ t = 42 := htn
  unfold f_X3_refresh f_X3_refresh_0
  simp only [to_bq, l_0, l_1, l_2, l_3, l_4, l_5, l_6, l_7, l_8, l_9, l_10, l_11, l_12, l_13, l_14, l_15, l_16, l_17, l_18, l_19, l_20, l_21, l_22, l_23, l_24, l_25, l_26, l_27, l_28, l_29, l_30, l_31, l_32, l_40, l_41, l_42, l_43, l_44, l_45, l_46, l_47, l_48, l_49, l_50, l_51, l_52, l_53, l_54, l_55, l_56, l_57, l_58, l_59, l_60, l_61, l_62, l_63, l_64, l_72, l_97, l_99, l_100, l_104, l_120, l_122, l_128, l_140, l_255, l_256, l_257, l_258, l_260, l_261, l_262, l_364, l_680, l_700, l_701, l_840, l_999, l_1023, l_1024, l_9999, l_10000, l_1000000, lm]
  rcases h.2.2.2.2.2 with q | ⟨q1, q2⟩
  · simp (disch := first | (with_reducible assumption) | omega | exact ⟨by omega, by omega⟩ | ((with_reducible first | apply Wf.wI | apply Wf.wL | apply Wf.fL | apply Wf.fI | apply Wf.fr); (repeat (with_reducible first | assumption | apply Wf.wI | apply Wf.wL | apply Wf.fL | apply Wf.fI | apply Wf.fr)))) only [ck_117, gI_117, gL_117, pI_117, pZ0_117, pZ1_117, pL_117, gR_117_0, gR_117_1, gR_117_5, pR_117_6, gR_117_6, bq_s, bd_s, mp_s, rz_0, rz_1, bI_rz, zadd, zmul, zsub, le_nI, lt_nI, eq_nI, neg_nI, gen_nI, neg_lt, neg_le, neg_lt', neg_le', nI_lt0, if_true, if_false, ite_true, ite_false, reduceIte, not_true, not_false, and_true, true_and, and_false, false_and, or_true, true_or, or_false, false_or, eq_self, q]
    obtain ⟨ρ1, g1, g2, g3⟩ := c_ref10 h q (nC D) 0 5000 σ (by omega) (by omega) Fr.rfl (fun c hc => by omega)
    rw [g1]
    have hw1 : Wf ρ1 := hw.fr g2
    have h1 : TR ρ1 t D := h.1.fr g2 (fun a j _ _ => by unfold Xl; omega)
    have hp1 : ah_R ρ1 117 6 = some t := (g2.R (Or.inr (by unfold Xl; omega))).trans h.2.2.1
    have hN1 : NetR ρ1 D := h.2.2.2.1.fr g2 (fun a j _ _ => by unfold Xl; omega)
    have hst : ∀ {τ : ah_H}, NetR τ D → ∀ c, c < nC D → ah_I τ 91 c = sv (stD D c) ∧ ∀ s, stD D c = some s → s < nS D := fun hn c hc => ⟨hn.st h.1.t h.2.1 (by omega), fun s hs => stD_b h.1.t h.2.1 (by omega) hs⟩
    obtain ⟨ρ2, k1, k2, k3, k4⟩ := c_run (f := 118) (st := stD D) (cp := cpM) h1 Fl_118 (hst hN1) (fun c hc => by
      show ah_L ρ1 135 c = _
      rw [g2.L (by unfold Xl; omega), h.2.2.2.2.1 c (by omega)]
      rfl) (fun c => Nat.le_refl _)
    have hw2 : Wf ρ2 := hw1.fr k2
    have h2 : TR ρ2 t D := h1.fr k2 (fun a j _ _ => by unfold Xn Xf; omega)
    have hp2 : ah_R ρ2 117 6 = some t := (k2.R (Or.inr (by unfold Xn Xf; omega))).trans hp1
    have hN2 : NetR ρ2 D := hN1.fr k2 (fun a j _ _ => by unfold Xn Xf; omega)
    obtain ⟨ρ3, j1, j2, j3, j4⟩ := c_run (f := 139) (st := stD D) (cp := fun c => if c < 7 then capD D c else 0) h2 Fl_139 (hst hN2) (fun c hc => by
      show ah_L ρ2 156 c = iL (((if c < 7 then capD D c else 0 : Nat)) : Int)
      rw [k2.L (by unfold Xn Xf; omega), g3 c hc, if_pos (by omega)]) (fun c => by
      show (if c < 7 then capD D c else 0) ≤ _
      by_cases q : c < 7
      · rw [if_pos q]
        have := carD_b h.1.t h.2.1 q
        unfold capD
        omega
      · rw [if_neg q]; omega)
    have hw3 : Wf ρ3 := hw2.fr j2
    have hcp : ∀ r c u, r < nR D → c < nC D → FF D (stD D) (fun c => if c < 7 then capD D c else 0) r c u = FF D (stD D) (capD D) r c u := fun r c u hr hc => FF_cc (fun o ho => if_pos (by omega))
    have hF139 : ∀ c, c < nC D → FD ρ3 139 D (stD D) (capD D) c := fun c hc => by
      obtain ⟨d1, d2, d3⟩ := j4 c hc
      have ew : ∀ j, j < 30 * nR D → wat D (stD D) (fun c => if c < 7 then capD D c else 0) c j = wat D (stD D) (capD D) c j := fun j hj => by
        unfold wat; rw [hcp _ _ _ (by omega) hc]
      refine ⟨fun j hj => by rw [d1 j hj, ew j hj], by rw [d2, pkx_eq ew], fun hs r u hr hu => ?_⟩
      rw [d3 hs r u hr hu]
      unfold fld
      rw [hcp _ _ _ hr hc]
      have el : lim (fun c => if c < 7 then capD D c else 0) c = lim (capD D) c := by
        funext x
        unfold lim
        show min (if c < 7 then capD D c else 0) x = _
        rw [if_pos (by omega)]
      rw [el]
    unfold f_X3_refresh_58
    simp only [to_bq, l_0, l_1, l_2, l_3, l_4, l_5, l_6, l_7, l_8, l_9, l_10, l_11, l_12, l_13, l_14, l_15, l_16, l_17, l_18, l_19, l_20, l_21, l_22, l_23, l_24, l_25, l_26, l_27, l_28, l_29, l_30, l_31, l_32, l_40, l_41, l_42, l_43, l_44, l_45, l_46, l_47, l_48, l_49, l_50, l_51, l_52, l_53, l_54, l_55, l_56, l_57, l_58, l_59, l_60, l_61, l_62, l_63, l_64, l_72, l_97, l_99, l_100, l_104, l_120, l_122, l_128, l_140, l_255, l_256, l_257, l_258, l_260, l_261, l_262, l_364, l_680, l_700, l_701, l_840, l_999, l_1023, l_1024, l_9999, l_10000, l_1000000, lm]
    simp (disch := first | (with_reducible assumption) | omega | exact ⟨by omega, by omega⟩ | ((with_reducible first | apply Wf.wI | apply Wf.wL | apply Wf.fL | apply Wf.fI | apply Wf.fr); (repeat (with_reducible first | assumption | apply Wf.wI | apply Wf.wL | apply Wf.fL | apply Wf.fI | apply Wf.fr)))) only [ck_117, gI_117, gL_117, pI_117, pZ0_117, pZ1_117, pL_117, gR_117_0, gR_117_1, gR_117_5, pR_117_6, gR_117_6, bq_s, bd_s, mp_s, rz_0, rz_1, bI_rz, hp1, k1, hp2, j1]
    have gg : Fr (Xj t) σ (ah_wI ρ3 117 2 (nI 1)) := (((g2.mono (fun a j z => by rcases z with z | z; exact Or.inl z; exact Or.inr (Or.inr (Or.inr (Or.inl z))))).trans (k2.mono (fun a j z => Or.inr (Or.inl z)))).trans (j2.mono (fun a j z => Or.inr (Or.inr (Or.inl z))))).wI (Or.inr (Or.inr (Or.inr (Or.inr ⟨rfl, rfl⟩))))
    have hJF : JF (ah_wI ρ3 117 2 (nI 1)) t D := by
      refine ⟨?_, fun c hc => ?_, fun c hc => ?_⟩
      · rw [ah_R_wI, j2.R (Or.inr (by unfold Xn Xf; omega))]; exact k3
      · refine (k4 c hc).fr (by omega) (fun a j _ _ => ?_) (fun a j _ _ => ?_)
        · rw [ah_L_wI, j2.L (by unfold Xn Xf; omega)]
        · rw [rI_ne (Or.inl (by omega)), j2.I (by unfold Xn Xf; omega)]
      · refine (hF139 c hc).fr (by omega) (fun a j _ _ => ah_L_wI ..) (fun a j _ _ => rI_ne (Or.inl (by omega)))
    refine ⟨_, rfl, gg, ⟨h.1.fr gg (fun a j _ _ => by unfold Xj Xl Xn Xf; omega), h.2.1, (gg.R (Or.inr (by unfold Xj Xl Xn Xf; omega))).trans h.2.2.1, h.2.2.2.1.fr gg (fun a j _ _ => by unfold Xj Xl Xn Xf; omega), fun c hc => (gg.L (by unfold Xj Xl Xn Xf; omega)).trans (h.2.2.2.2.1 c hc), Or.inr ⟨rI_eq, hJF⟩⟩, hJF, rI_eq⟩
  · simp (disch := first | (with_reducible assumption) | omega | exact ⟨by omega, by omega⟩ | ((with_reducible first | apply Wf.wI | apply Wf.wL | apply Wf.fL | apply Wf.fI | apply Wf.fr); (repeat (with_reducible first | assumption | apply Wf.wI | apply Wf.wL | apply Wf.fL | apply Wf.fI | apply Wf.fr)))) only [ck_117, gI_117, gL_117, pI_117, pZ0_117, pZ1_117, pL_117, gR_117_0, gR_117_1, gR_117_5, pR_117_6, gR_117_6, bq_s, bd_s, mp_s, rz_0, rz_1, bI_rz, zadd, zmul, zsub, le_nI, lt_nI, eq_nI, neg_nI, gen_nI, neg_lt, neg_le, neg_lt', neg_le', nI_lt0, Nat.reduceEqDiff, Nat.reduceAdd, Nat.reduceMul, Nat.reduceSub, Nat.reduceLT, Nat.reduceLeDiff, Nat.add_sub_cancel, Nat.zero_add, Nat.add_zero, Nat.mul_zero, Nat.zero_mul, if_true, if_false, ite_true, ite_false, reduceIte, not_true, not_false, and_true, true_and, and_false, false_and, or_true, true_or, or_false, false_or, eq_self, q1]
    exact ⟨σ, rfl, Fr.rfl, h, q2, q1⟩
/-- what a question of the judge leaves -/
def JQ {α : Type} (σ : ah_H) (t : Nat) (D : DD) (v : α) (r : α × ah_H) : Prop := r.1 = v ∧ Fr (Xj t) σ r.2 ∧ JE r.2 t D
theorem Xl_j : ∀ a j, Xl t a j → Xj t a j := fun _ _ q => Or.inl q
theorem c_pumpCost (h : JE σ t D) {c s : Nat} (hc : c < nC D) (hx : stD D c = some s) : Ok (f_X3_pumpCost 117 (nI c) σ) (JQ σ t D (iL (pumpD D c))) := by
  have hw := h.w
  have b1 := h.1.bd
  have htn := h.1.tn
  have l12 := lfo_b' h.1.t h.2.1 c (nC D) (Nat.le_refl _)
  have l12 : lft D c ≤ 12 := l12
  unfold f_X3_pumpCost f_X3_pumpCost_0 pumpD
  simp only [to_bq, l_0, l_1, l_2, l_3, l_4, l_5, l_6, l_7, l_8, l_9, l_10, l_11, l_12, l_13, l_14, l_15, l_16, l_17, l_18, l_19, l_20, l_21, l_22, l_23, l_24, l_25, l_26, l_27, l_28, l_29, l_30, l_31, l_32, l_40, l_41, l_42, l_43, l_44, l_45, l_46, l_47, l_48, l_49, l_50, l_51, l_52, l_53, l_54, l_55, l_56, l_57, l_58, l_59, l_60, l_61, l_62, l_63, l_64, l_72, l_97, l_99, l_100, l_104, l_120, l_122, l_128, l_140, l_255, l_256, l_257, l_258, l_260, l_261, l_262, l_364, l_680, l_700, l_701, l_840, l_999, l_1023, l_1024, l_9999, l_10000, l_1000000, lm]
  simp (disch := first | (with_reducible assumption) | omega | exact ⟨by omega, by omega⟩ | ((with_reducible first | apply Wf.wI | apply Wf.wL | apply Wf.fL | apply Wf.fI | apply Wf.fr); (repeat (with_reducible first | assumption | apply Wf.wI | apply Wf.wL | apply Wf.fL | apply Wf.fI | apply Wf.fr)))) only [ck_117, gI_117, gL_117, pI_117, pZ0_117, pZ1_117, pL_117, gR_117_0, gR_117_1, gR_117_5, pR_117_6, gR_117_6, bq_s, bd_s, mp_s, rz_0, rz_1, bI_rz, zadd, zmul, zsub, le_nI, lt_nI, eq_nI, neg_nI, gen_nI, neg_lt, neg_le, neg_lt', neg_le', nI_lt0, c_liftAt h hc hx]
  by_cases q : lft D c = 0
  · rw [if_pos q]
    refine ⟨_, rfl, ?_, Fr.rfl, h⟩
    unfold pumpv
    rw [if_pos q]
    rfl
  · rw [if_neg q]
    obtain ⟨ρ, g1, g2, g3, g4, g5⟩ := c_refresh h
    have hw2 := g3.w
    have hb := gwt_b (st := stD D) (cp := cpM) h.1.t hc
    have hfl := Fl_118
    obtain ⟨⟨r1, r2⟩, k1, k2, k3⟩ := c_pumps g3.1 (l := lft D c) (f := gwt D (stD D) cpM c) l12 q (by omega) (by omega)
    simp (disch := first | (with_reducible assumption) | omega | exact ⟨by omega, by omega⟩ | ((with_reducible first | apply Wf.wI | apply Wf.wL | apply Wf.fL | apply Wf.fI | apply Wf.fr); (repeat (with_reducible first | assumption | apply Wf.wI | apply Wf.wL | apply Wf.fL | apply Wf.fI | apply Wf.fr)))) only [g1, ck_117, gI_117, gL_117, pI_117, pZ0_117, pZ1_117, pL_117, gR_117_0, gR_117_1, gR_117_5, pR_117_6, gR_117_6, ck_t, gI_t, gL_t, pI_t, pZ0_t, pZ1_t, pL_t, ck_w, gI_w, gL_w, pI_w, pZ0_w, pZ1_w, pL_w, gR_t_1, gR_t_5, gR_t_7, gR_t_9, gR_t_10, gR_t_11, gR_t_12, gR_t_15, gR_w_2, gR_w_3, gR_w_4, gR_w_5, gR_w_6, gR_w_7, aR_crow, aR_srow, aR_prow, aR_rrow, aI_crow, sI_crow, len_crow, aI_srow, sI_srow, len_srow, aI_prow, sI_prow, len_prow, aI_rrow, sI_rrow, len_rrow, aI_t25, sI_t25, len_t25, aI_t31, sI_t31, len_t31, aI_t32, sI_t32, len_t32, aI_t34, sI_t34, len_t34, aI_t35, sI_t35, len_t35, aI_t36, sI_t36, len_t36, aI_t37, sI_t37, len_t37, aL_t38, sL_t38, len_t38, aL_t39, sL_t39, len_t39, bq_s, bd_s, mp_s, rz_0, rz_1, bI_rz, g3.2.2.1, c_greatest g3.1 hfl g4.1 hc (g4.2.1 c hc), k1]
    refine ⟨_, rfl, ?_, g2.trans (k3.mono Xl_j), g3.xl k3⟩
    rw [← gwt_gm h.1.t hc (by rw [hx]; intro z; cases z)]
    exact k2
theorem c_isCovered (h : JE σ t D) {d : Nat} (hd : d ≤ 12) : f_X3_isCovered 117 (nI d) σ = some (bI (¬ d < lc D ∧ ¬ mc D < d), σ) := by
  have hw := h.w
  have b1 := h.1.bd
  have htn := h.1.tn
  have hp := h.2.2.1
  unfold f_X3_isCovered f_X3_isCovered_0
  simp only [to_bq, l_0, l_1, l_2, l_3, l_4, l_5, l_6, l_7, l_8, l_9, l_10, l_11, l_12, l_13, l_14, l_15, l_16, l_17, l_18, l_19, l_20, l_21, l_22, l_23, l_24, l_25, l_26, l_27, l_28, l_29, l_30, l_31, l_32, l_40, l_41, l_42, l_43, l_44, l_45, l_46, l_47, l_48, l_49, l_50, l_51, l_52, l_53, l_54, l_55, l_56, l_57, l_58, l_59, l_60, l_61, l_62, l_63, l_64, l_72, l_97, l_99, l_100, l_104, l_120, l_122, l_128, l_140, l_255, l_256, l_257, l_258, l_260, l_261, l_262, l_364, l_680, l_700, l_701, l_840, l_999, l_1023, l_1024, l_9999, l_10000, l_1000000, lm]
  simp (disch := first | (with_reducible assumption) | omega | exact ⟨by omega, by omega⟩ | ((with_reducible first | apply Wf.wI | apply Wf.wL | apply Wf.fL | apply Wf.fI | apply Wf.fr); (repeat (with_reducible first | assumption | apply Wf.wI | apply Wf.wL | apply Wf.fL | apply Wf.fI | apply Wf.fr)))) only [ck_117, gI_117, gL_117, pI_117, pZ0_117, pZ1_117, pL_117, gR_117_0, gR_117_1, gR_117_5, pR_117_6, gR_117_6, ck_t, gI_t, gL_t, pI_t, pZ0_t, pZ1_t, pL_t, ck_w, gI_w, gL_w, pI_w, pZ0_w, pZ1_w, pL_w, gR_t_1, gR_t_5, gR_t_7, gR_t_9, gR_t_10, gR_t_11, gR_t_12, gR_t_15, gR_w_2, gR_w_3, gR_w_4, gR_w_5, gR_w_6, gR_w_7, aR_crow, aR_srow, aR_prow, aR_rrow, aI_crow, sI_crow, len_crow, aI_srow, sI_srow, len_srow, aI_prow, sI_prow, len_prow, aI_rrow, sI_rrow, len_rrow, aI_t25, sI_t25, len_t25, aI_t31, sI_t31, len_t31, aI_t32, sI_t32, len_t32, aI_t34, sI_t34, len_t34, aI_t35, sI_t35, len_t35, aI_t36, sI_t36, len_t36, aI_t37, sI_t37, len_t37, aL_t38, sL_t38, len_t38, aL_t39, sL_t39, len_t39, bq_s, bd_s, mp_s, rz_0, rz_1, bI_rz, zadd, zmul, zsub, le_nI, lt_nI, eq_nI, neg_nI, gen_nI, neg_lt, neg_le, neg_lt', neg_le', nI_lt0, hp, tr_lc h.1, tr_mc h.1]
  exact bI_two _ _ _
theorem c_mw2 (h : JE σ t D) {c s : Nat} (hc : c < nC D) (hx : stD D c = some s) : ∀ m k fu, k + m = nC D → m < fu → f_X3_meetsWider_2 fu 117 (nI c) (nI k) σ = some (cI (wdr D c k), σ) := by
  have hw := h.w
  have b1 := h.1.bd
  have htn := h.1.tn
  have hp := h.2.2.1
  have hpc := (lb h.1.t h.2.1 hc hx).2.2.2.1
  have n2 := (h.net hc hx).2.1
  intro m
  induction m with
  | zero =>
    intro k fu hk hf
    obtain ⟨fu, rfl⟩ : ∃ q, fu = q + 1 := ⟨fu - 1, by omega⟩
    show f_X3_meetsWider_2_b _ _ _ _ _ = _
    unfold f_X3_meetsWider_2_b
    simp only [to_bq, l_0, l_1, l_2, l_3, l_4, l_5, l_6, l_7, l_8, l_9, l_10, l_11, l_12, l_13, l_14, l_15, l_16, l_17, l_18, l_19, l_20, l_21, l_22, l_23, l_24, l_25, l_26, l_27, l_28, l_29, l_30, l_31, l_32, l_40, l_41, l_42, l_43, l_44, l_45, l_46, l_47, l_48, l_49, l_50, l_51, l_52, l_53, l_54, l_55, l_56, l_57, l_58, l_59, l_60, l_61, l_62, l_63, l_64, l_72, l_97, l_99, l_100, l_104, l_120, l_122, l_128, l_140, l_255, l_256, l_257, l_258, l_260, l_261, l_262, l_364, l_680, l_700, l_701, l_840, l_999, l_1023, l_1024, l_9999, l_10000, l_1000000, lm]
    simp (disch := first | (with_reducible assumption) | omega | exact ⟨by omega, by omega⟩ | ((with_reducible first | apply Wf.wI | apply Wf.wL | apply Wf.fL | apply Wf.fI | apply Wf.fr); (repeat (with_reducible first | assumption | apply Wf.wI | apply Wf.wL | apply Wf.fL | apply Wf.fI | apply Wf.fr)))) only [ck_117, gI_117, gL_117, pI_117, pZ0_117, pZ1_117, pL_117, gR_117_0, gR_117_1, gR_117_5, pR_117_6, gR_117_6, ck_t, gI_t, gL_t, pI_t, pZ0_t, pZ1_t, pL_t, ck_w, gI_w, gL_w, pI_w, pZ0_w, pZ1_w, pL_w, gR_t_1, gR_t_5, gR_t_7, gR_t_9, gR_t_10, gR_t_11, gR_t_12, gR_t_15, gR_w_2, gR_w_3, gR_w_4, gR_w_5, gR_w_6, gR_w_7, aR_crow, aR_srow, aR_prow, aR_rrow, aI_crow, sI_crow, len_crow, aI_srow, sI_srow, len_srow, aI_prow, sI_prow, len_prow, aI_rrow, sI_rrow, len_rrow, aI_t25, sI_t25, len_t25, aI_t31, sI_t31, len_t31, aI_t32, sI_t32, len_t32, aI_t34, sI_t34, len_t34, aI_t35, sI_t35, len_t35, aI_t36, sI_t36, len_t36, aI_t37, sI_t37, len_t37, aL_t38, sL_t38, len_t38, aL_t39, sL_t39, len_t39, bq_s, bd_s, mp_s, rz_0, rz_1, bI_rz, zadd, zmul, zsub, le_nI, lt_nI, eq_nI, neg_nI, gen_nI, neg_lt, neg_le, neg_lt', neg_le', nI_lt0, if_true, if_false, ite_true, ite_false, reduceIte, not_true, not_false, and_true, true_and, and_false, false_and, or_true, true_or, or_false, false_or, eq_self, hp, tr_C h.1, show (nC D ≤ k) = True from eq_true (by omega)]
    rw [cI_f]
    rintro ⟨o, h1, h2, -⟩
    omega
  | succ m ih =>
    intro k fu hk hf
    obtain ⟨fu, rfl⟩ : ∃ q, fu = q + 1 := ⟨fu - 1, by omega⟩
    have hk' : k < nC D := by omega
    have hi := ih (k + 1) fu (by omega) (by omega)
    show f_X3_meetsWider_2_b _ _ _ _ _ = _
    unfold f_X3_meetsWider_2_b f_X3_meetsWider_45
    simp only [to_bq, l_0, l_1, l_2, l_3, l_4, l_5, l_6, l_7, l_8, l_9, l_10, l_11, l_12, l_13, l_14, l_15, l_16, l_17, l_18, l_19, l_20, l_21, l_22, l_23, l_24, l_25, l_26, l_27, l_28, l_29, l_30, l_31, l_32, l_40, l_41, l_42, l_43, l_44, l_45, l_46, l_47, l_48, l_49, l_50, l_51, l_52, l_53, l_54, l_55, l_56, l_57, l_58, l_59, l_60, l_61, l_62, l_63, l_64, l_72, l_97, l_99, l_100, l_104, l_120, l_122, l_128, l_140, l_255, l_256, l_257, l_258, l_260, l_261, l_262, l_364, l_680, l_700, l_701, l_840, l_999, l_1023, l_1024, l_9999, l_10000, l_1000000, lm]
    simp (disch := first | (with_reducible assumption) | omega | exact ⟨by omega, by omega⟩ | ((with_reducible first | apply Wf.wI | apply Wf.wL | apply Wf.fL | apply Wf.fI | apply Wf.fr); (repeat (with_reducible first | assumption | apply Wf.wI | apply Wf.wL | apply Wf.fL | apply Wf.fI | apply Wf.fr)))) only [ck_117, gI_117, gL_117, pI_117, pZ0_117, pZ1_117, pL_117, gR_117_0, gR_117_1, gR_117_5, pR_117_6, gR_117_6, ck_t, gI_t, gL_t, pI_t, pZ0_t, pZ1_t, pL_t, ck_w, gI_w, gL_w, pI_w, pZ0_w, pZ1_w, pL_w, gR_t_1, gR_t_5, gR_t_7, gR_t_9, gR_t_10, gR_t_11, gR_t_12, gR_t_15, gR_w_2, gR_w_3, gR_w_4, gR_w_5, gR_w_6, gR_w_7, aR_crow, aR_srow, aR_prow, aR_rrow, aI_crow, sI_crow, len_crow, aI_srow, sI_srow, len_srow, aI_prow, sI_prow, len_prow, aI_rrow, sI_rrow, len_rrow, aI_t25, sI_t25, len_t25, aI_t31, sI_t31, len_t31, aI_t32, sI_t32, len_t32, aI_t34, sI_t34, len_t34, aI_t35, sI_t35, len_t35, aI_t36, sI_t36, len_t36, aI_t37, sI_t37, len_t37, aL_t38, sL_t38, len_t38, aL_t39, sL_t39, len_t39, bq_s, bd_s, mp_s, rz_0, rz_1, bI_rz, zadd, zmul, zsub, le_nI, lt_nI, eq_nI, neg_nI, gen_nI, neg_lt, neg_le, neg_lt', neg_le', nI_lt0, if_true, if_false, ite_true, ite_false, reduceIte, not_true, not_false, and_true, true_and, and_false, false_and, or_true, true_or, or_false, false_or, eq_self, hp, tr_C h.1, show (nC D ≤ k) = False from eq_false (by omega), c_runsTo h hk' hc, bI_0, ite_n]
    have nxt : ¬ (nx D (stD D) k = some c ∧ pD D c < pD D k) → f_X3_meetsWider_2 fu 117 (nI c) (nI (k + 1)) σ = some (cI (wdr D c k), σ) := by
      intro q
      rw [hi]
      have : wdr D c (k + 1) ↔ wdr D c k := by
        constructor
        · rintro ⟨o, h1, h2⟩; exact ⟨o, by omega, h2⟩
        · rintro ⟨o, h1, h2, h3⟩
          by_cases e : o = k
          · subst e; exact absurd h3 q
          · exact ⟨o, by omega, h2, h3⟩
      rw [propext this]
    by_cases q : nx D (stD D) k = some c
    · rw [if_pos q]
      obtain ⟨s', hs', -⟩ := nx_st q
      have hpk := (lb h.1.t h.2.1 hk' hs').2.2.2.1
      have m2 := (h.net hk' hs').2.1
      simp (disch := first | (with_reducible assumption) | omega | exact ⟨by omega, by omega⟩ | ((with_reducible first | apply Wf.wI | apply Wf.wL | apply Wf.fL | apply Wf.fI | apply Wf.fr); (repeat (with_reducible first | assumption | apply Wf.wI | apply Wf.wL | apply Wf.fL | apply Wf.fI | apply Wf.fr)))) only [ck_117, gI_117, gL_117, pI_117, pZ0_117, pZ1_117, pL_117, gR_117_0, gR_117_1, gR_117_5, pR_117_6, gR_117_6, ck_90, gI_90, gL_90, pI_90, pZ0_90, pZ1_90, pL_90, gR_90_0, gR_90_1, gR_90_2, gR_90_3, gR_90_6, gR_90_8, bq_s, bd_s, mp_s, rz_0, rz_1, bI_rz, zadd, zmul, zsub, le_nI, lt_nI, eq_nI, neg_nI, gen_nI, neg_lt, neg_le, neg_lt', neg_le', nI_lt0, aI_92, n2, m2]
      by_cases q2 : pD D k ≤ pD D c
      · rw [if_pos q2]
        exact nxt (fun r => by omega)
      · rw [if_neg q2, cI_t ⟨k, Nat.le_refl _, hk', q, by omega⟩]
    · rw [if_neg q]
      exact nxt (fun r => q r.1)
theorem c_meetsWider (h : JE σ t D) {c s : Nat} (hc : c < nC D) (hx : stD D c = some s) : f_X3_meetsWider 117 (nI c) σ = some (cI (wdr D c 0), σ) := by
  have b1 := h.1.bd
  unfold f_X3_meetsWider f_X3_meetsWider_0
  rw [ck_117 h.w, l_0]
  exact c_mw2 h hc hx (nC D) 0 5000 (by omega) (by omega)
theorem c_lawBrokenBy (h : JE σ t D) {c s : Nat} (hc : c < nC D) (hx : stD D c = some s) : Ok (f_X3_lawBrokenBy 117 (nI c) σ) (JQ σ t D (nI (brk D c s))) := by
  have hw := h.w
  have b1 := h.1.bd
  have htn := h.1.tn
  have hp := h.2.2.1
  obtain ⟨l1, l2, l3, l4, l5, l6, -⟩ := lb h.1.t h.2.1 hc hx
  obtain ⟨n1, n2, n3, n4⟩ := h.net hc hx
  obtain ⟨g1, g2⟩ := fallZ_b h.1.t h.2.1 hc hx
  have b3 := h.1.t.qlen1 l1
  have b4 := h.1.t.qlen99 l1
  have m1 : len D s * lf D ≤ 99 * 99 := Nat.mul_le_mul b4 (by omega)
  have m2 : len D s * mf D ≤ 99 * 99 := Nat.mul_le_mul b4 (by omega)
  have jl : ∀ x : Nat, x ≤ 99 * 99 → (nI x ≤ jI (fallZ D c s)) = ((x : Int) ≤ fallZ D c s) := fun x hx => by
    rw [jI_n, jle ⟨by omega, by omega⟩ ⟨by omega, by omega⟩]
  have jl2 : ∀ x : Nat, x ≤ 99 * 99 → (jI (fallZ D c s) ≤ nI x) = (fallZ D c s ≤ (x : Int)) := fun x hx => by
    rw [jI_n, jle ⟨by omega, by omega⟩ ⟨by omega, by omega⟩]
  have c1 : ((len D s * lf D : Nat) : Int) = (len D s * lf D : Int) := Int.natCast_mul _ _
  have c2 : ((len D s * mf D : Nat) : Int) = (len D s * mf D : Int) := Int.natCast_mul _ _
  have l12 : lft D c ≤ 12 := lfo_b' h.1.t h.2.1 c (nC D) (Nat.le_refl _)
  unfold f_X3_lawBrokenBy f_X3_lawBrokenBy_0 brk
  simp only [to_bq, l_0, l_1, l_2, l_3, l_4, l_5, l_6, l_7, l_8, l_9, l_10, l_11, l_12, l_13, l_14, l_15, l_16, l_17, l_18, l_19, l_20, l_21, l_22, l_23, l_24, l_25, l_26, l_27, l_28, l_29, l_30, l_31, l_32, l_40, l_41, l_42, l_43, l_44, l_45, l_46, l_47, l_48, l_49, l_50, l_51, l_52, l_53, l_54, l_55, l_56, l_57, l_58, l_59, l_60, l_61, l_62, l_63, l_64, l_72, l_97, l_99, l_100, l_104, l_120, l_122, l_128, l_140, l_255, l_256, l_257, l_258, l_260, l_261, l_262, l_364, l_680, l_700, l_701, l_840, l_999, l_1023, l_1024, l_9999, l_10000, l_1000000, lm]
  simp (disch := first | (with_reducible assumption) | omega | exact ⟨by omega, by omega⟩ | ((with_reducible first | apply Wf.wI | apply Wf.wL | apply Wf.fL | apply Wf.fI | apply Wf.fr); (repeat (with_reducible first | assumption | apply Wf.wI | apply Wf.wL | apply Wf.fL | apply Wf.fI | apply Wf.fr)))) only [ck_117, gI_117, gL_117, pI_117, pZ0_117, pZ1_117, pL_117, gR_117_0, gR_117_1, gR_117_5, pR_117_6, gR_117_6, ck_90, gI_90, gL_90, pI_90, pZ0_90, pZ1_90, pL_90, gR_90_0, gR_90_1, gR_90_2, gR_90_3, gR_90_6, gR_90_8, bq_s, bd_s, mp_s, rz_0, rz_1, bI_rz, aI_93, aI_94, n3, n4, c_isCovered h, bI_0]
  by_cases q1 : ¬ (¬ aD D c < lc D ∧ ¬ mc D < aD D c)
  · rw [if_pos q1, if_pos q1]; exact ⟨_, rfl, rfl, Fr.rfl, h⟩
  rw [if_neg q1, if_neg q1]
  by_cases q2 : ¬ (¬ bD D c < lc D ∧ ¬ mc D < bD D c)
  · rw [if_pos q2, if_pos q2]; exact ⟨_, rfl, rfl, Fr.rfl, h⟩
  rw [if_neg q2, if_neg q2]
  simp (disch := first | (with_reducible assumption) | omega | exact ⟨by omega, by omega⟩ | ((with_reducible first | apply Wf.wI | apply Wf.wL | apply Wf.fL | apply Wf.fI | apply Wf.fr); (repeat (with_reducible first | assumption | apply Wf.wI | apply Wf.wL | apply Wf.fL | apply Wf.fI | apply Wf.fr)))) only [ck_117, gI_117, gL_117, pI_117, pZ0_117, pZ1_117, pL_117, gR_117_0, gR_117_1, gR_117_5, pR_117_6, gR_117_6, ck_90, gI_90, gL_90, pI_90, pZ0_90, pZ1_90, pL_90, gR_90_0, gR_90_1, gR_90_2, gR_90_3, gR_90_6, gR_90_8, ck_t, gI_t, gL_t, pI_t, pZ0_t, pZ1_t, pL_t, ck_w, gI_w, gL_w, pI_w, pZ0_w, pZ1_w, pL_w, gR_t_1, gR_t_5, gR_t_7, gR_t_9, gR_t_10, gR_t_11, gR_t_12, gR_t_15, gR_w_2, gR_w_3, gR_w_4, gR_w_5, gR_w_6, gR_w_7, aR_crow, aR_srow, aR_prow, aR_rrow, aI_crow, sI_crow, len_crow, aI_srow, sI_srow, len_srow, aI_prow, sI_prow, len_prow, aI_rrow, sI_rrow, len_rrow, aI_t25, sI_t25, len_t25, aI_t31, sI_t31, len_t31, aI_t32, sI_t32, len_t32, aI_t34, sI_t34, len_t34, aI_t35, sI_t35, len_t35, aI_t36, sI_t36, len_t36, aI_t37, sI_t37, len_t37, aL_t38, sL_t38, len_t38, aL_t39, sL_t39, len_t39, bq_s, bd_s, mp_s, rz_0, rz_1, bI_rz, c_fallOf h hc hx, hp, aI_91, n1, tr_len h.1, tr_lf h.1, tr_mf h.1, zmul, jl, jl2, c1, c2]
  by_cases q3 : (len D s * lf D : Int) ≤ fallZ D c s
  · rw [if_pos q3, if_pos q3]
    by_cases q4 : fallZ D c s ≤ (len D s * mf D : Int)
    · rw [if_pos q4, if_pos q4]
      rw [c_meetsWider h hc hx, bq_s]
      by_cases q5 : wdr D c 0
      · rw [cif_t q5, cI_t q5, if_neg (show ¬ nI 1 = nI 0 by decide)]; exact ⟨_, rfl, rfl, Fr.rfl, h⟩
      rw [cif_f q5, cI_f q5, if_pos rfl]
      have last : Ok (f_X3_lawBrokenBy_128 117 (nI c) σ) (JQ σ t D (nI (if (gmx D (stD D) plain c : Int) ≤ carD D c then 0 else 6))) := by
        unfold f_X3_lawBrokenBy_128
        simp only [to_bq, l_0, l_1, l_2, l_3, l_4, l_5, l_6, l_7, l_8, l_9, l_10, l_11, l_12, l_13, l_14, l_15, l_16, l_17, l_18, l_19, l_20, l_21, l_22, l_23, l_24, l_25, l_26, l_27, l_28, l_29, l_30, l_31, l_32, l_40, l_41, l_42, l_43, l_44, l_45, l_46, l_47, l_48, l_49, l_50, l_51, l_52, l_53, l_54, l_55, l_56, l_57, l_58, l_59, l_60, l_61, l_62, l_63, l_64, l_72, l_97, l_99, l_100, l_104, l_120, l_122, l_128, l_140, l_255, l_256, l_257, l_258, l_260, l_261, l_262, l_364, l_680, l_700, l_701, l_840, l_999, l_1023, l_1024, l_9999, l_10000, l_1000000, lm]
        obtain ⟨ρ, z1, z2, z3, z4, z5⟩ := c_refresh h
        have hw2 := z3.w
        obtain ⟨⟨r5, r6⟩, i1, i2, i3⟩ := c_carriedBy z3 hc hx
        have i2 : r5 = _ := i2
        subst i2
        have hb := gmx_b (st := stD D) (cp := plain) h.1.t hc
        have hcb := carD_b h.1.t h.2.1 (show c < 7 by omega)
        rw [z1, bq_s, gR_117_0 hw2, bq_s, c_greatest z3.1 Fl_118 z4.1 hc (z4.2.1 c hc), bq_s, i1, bq_s, gwt_gm h.1.t hc (by rw [hx]; intro z; cases z)]
        simp (disch := first | (with_reducible assumption) | omega | exact ⟨by omega, by omega⟩ | ((with_reducible first | apply Wf.wI | apply Wf.wL | apply Wf.fL | apply Wf.fI | apply Wf.fr); (repeat (with_reducible first | assumption | apply Wf.wI | apply Wf.wL | apply Wf.fL | apply Wf.fI | apply Wf.fr)))) only [cmp_le]
        by_cases q : (gmx D (stD D) plain c : Int) ≤ carD D c
        · rw [if_pos q, if_pos q]; exact ⟨_, rfl, rfl, z2.trans (i3.mono Xl_j), z3.xl i3⟩
        · rw [if_neg q, if_neg q]; exact ⟨_, rfl, rfl, z2.trans (i3.mono Xl_j), z3.xl i3⟩
      rw [c_liftAt h hc hx, bq_s]
      simp (disch := first | (with_reducible assumption) | omega | exact ⟨by omega, by omega⟩ | ((with_reducible first | apply Wf.wI | apply Wf.wL | apply Wf.fL | apply Wf.fI | apply Wf.fr); (repeat (with_reducible first | assumption | apply Wf.wI | apply Wf.wL | apply Wf.fL | apply Wf.fI | apply Wf.fr)))) only [ck_117, gI_117, gL_117, pI_117, pZ0_117, pZ1_117, pL_117, gR_117_0, gR_117_1, gR_117_5, pR_117_6, gR_117_6, ck_t, gI_t, gL_t, pI_t, pZ0_t, pZ1_t, pL_t, ck_w, gI_w, gL_w, pI_w, pZ0_w, pZ1_w, pL_w, gR_t_1, gR_t_5, gR_t_7, gR_t_9, gR_t_10, gR_t_11, gR_t_12, gR_t_15, gR_w_2, gR_w_3, gR_w_4, gR_w_5, gR_w_6, gR_w_7, aR_crow, aR_srow, aR_prow, aR_rrow, aI_crow, sI_crow, len_crow, aI_srow, sI_srow, len_srow, aI_prow, sI_prow, len_prow, aI_rrow, sI_rrow, len_rrow, aI_t25, sI_t25, len_t25, aI_t31, sI_t31, len_t31, aI_t32, sI_t32, len_t32, aI_t34, sI_t34, len_t34, aI_t35, sI_t35, len_t35, aI_t36, sI_t36, len_t36, aI_t37, sI_t37, len_t37, aL_t38, sL_t38, len_t38, aL_t39, sL_t39, len_t39, bq_s, bd_s, mp_s, rz_0, rz_1, bI_rz, zadd, zmul, zsub, le_nI, lt_nI, eq_nI, neg_nI, gen_nI, neg_lt, neg_le, neg_lt', neg_le', nI_lt0, Nat.le_zero_eq, hp, c_isTold h.1, bI_0]
      by_cases q6 : lft D c = 0
      · rw [if_pos q6, if_pos (Or.inl q6)]; exact last
      · rw [if_neg q6]
        by_cases q7 : told D 2
        · rw [if_neg (fun r => r q7), if_pos (Or.inr q7)]; exact last
        · rw [if_pos q7, if_neg (fun r => r.elim q6 q7)]; exact ⟨_, rfl, rfl, Fr.rfl, h⟩
    · rw [if_neg q4, if_neg q4]; exact ⟨_, rfl, rfl, Fr.rfl, h⟩
  · rw [if_neg q3, if_neg q3]; exact ⟨_, rfl, rfl, Fr.rfl, h⟩
end
