/-! THE CLASS: all trees -/
noncomputable def cst (D : DD) (m : Nat) : Int64 := cif (TrQ D m) (totA (cpv D m)) (iL (-1))
def CkR (σ : ah_H) (D : DD) (m : Nat) : Prop := ah_L σ 161 m = cst D m ∧ (TrQ D m → ∀ x, cpv D m = some x → ah_L σ 162 m = iL ((x.2 : Nat) : Int))
def CB (D : DD) : Prop := ∀ m, TrQ D m → vb (cpv D m) 9000000000000000
/-- all trees are known -/
def StL (σ : ah_H) (D : DD) : Prop := (∀ m, m < 2 ^ nS D → CkR σ D m) ∧ ah_I σ 160 2 = nI (ltF D 0 (2 ^ nS D)).2.1 ∧ ah_I σ 160 1 = (ltF D 0 (2 ^ nS D)).2.2 ∧ ah_L σ 160 0 = if (ltF D 0 (2 ^ nS D)).1 < 4000000000000000000 then iL (ltF D 0 (2 ^ nS D)).1 else iL (-2)
/-- the cells of trees and depths -/
def TI0 (σ : ah_H) (t : Nat) (D : DD) : Prop := ah_R σ 160 6 = some t ∧ ah_R σ 163 17 = some t ∧ (ah_I σ 163 16 = nI 0 ∨ PrT σ D) ∧ FT σ D ∧ (∀ c, c < 7 → ah_L σ 218 c = iL 9223372036854775807) ∧ ∀ m, m < 2 ^ nS D → ah_L σ 161 m = iL (-9) ∨ CkR σ D m
def TI (σ : ah_H) (t : Nat) (D : DD) : Prop := TI0 σ t D ∧ (ah_I σ 160 7 = nI 0 ∨ StL σ D)
def Xco (t a j : Nat) : Prop := Xso t a j ∨ a = 161 ∨ a = 162
section
variable {σ τ : ah_H} {t : Nat} {D : DD} {m c : Nat}
theorem cst_ne (hb : CB D) : cst D m ≠ iL (-9) := by
  unfold cst
  by_cases q : TrQ D m
  · rw [cif_t q]
    cases e : cpv D m with
    | none => exact (by decide : iL (-2) ≠ iL (-9))
    | some x =>
      have := hb m q x e
      show iL (x.1 : Int) ≠ iL (-9)
      rw [Ne, ieq ⟨by omega, by omega⟩ ⟨by omega, by omega⟩]
      omega
  · rw [cif_f q]; exact (by decide : iL (-1) ≠ iL (-9))
theorem sCheap_n (ht : MT D) (hm : m < 2 ^ nS D) : sCheap D (nI m) = cst D m := by
  have h2 := p2S ht
  unfold sCheap cst
  rw [if_neg (by rw [lt_nI (by omega) (by omega), le_nI (by omega) (by omega)]; omega), ix_nI (by omega)]
  rfl
theorem CkR.fr (h : CkR σ D m) (e1 : ah_L τ 161 m = ah_L σ 161 m) (e2 : ah_L τ 162 m = ah_L σ 162 m) : CkR τ D m := ⟨e1.trans h.1, fun z x hx => e2.trans (h.2 z x hx)⟩
theorem c_costOf_n (h : TR σ t D) (hb : CB D) (hi : TI0 σ t D) (hm : m < 2 ^ nS D) : ∃ τ, f_X10_costOf 160 (nI m) σ = some (cst D m, τ) ∧ Fr (Xco t) σ τ ∧ TI0 τ t D ∧ CkR τ D m ∧ (∀ k, CkR σ D k → k < 2 ^ nS D → CkR τ D k) := by
  have htn0 := h.tn
  have htn := h.tn
  have hW := h.w
  have h2 := p2S h.t
  have b7 := h.t.qc7
  have b4 := h.t.qp4
  have b10 := h.t.qs10
  unfold Tn at htn
  obtain ⟨i1, i2, i3, i4, i5, i6⟩ := id hi
  have n1 : ¬ nI m < nI 0 := by rw [lt_nI (by omega) (by omega)]; omega
  have n2 : ¬ nI (2 ^ nS D) ≤ nI m := by rw [le_nI (by omega) (by omega)]; omega
  have n3 : nI m < nI 1024 := by rw [lt_nI (by omega) (by omega)]; omega
  by_cases q : ah_L σ 161 m = iL (-9)
  · -- to be worked out
    have key : ∀ ρ z, TR ρ t D → Fr (Xso t) σ ρ → (ah_I ρ 163 16 = nI 0 ∨ PrT ρ D) → FT ρ D → z = cst D m → (TrQ D m → ∀ x, cpv D m = some x → ah_L ρ 163 0 = iL ((x.2 : Nat) : Int)) → ∃ τ, f_X10_costOf_68 160 (nI m) 161 (nI m) z ρ = some (cst D m, τ) ∧ Fr (Xco t) σ τ ∧ TI0 τ t D ∧ CkR τ D m ∧ (∀ k, CkR σ D k → k < 2 ^ nS D → CkR τ D k) := by
      intro ρ z hρ fρ pρ Fρ hz kρ
      have hWρ := hρ.w
      have fF : Fr (fun a j => (a = 161 ∨ a = 162) ∧ j = m) ρ (ah_wL (ah_wL ρ 161 m z) 162 m (ah_L ρ 163 0)) := (Fr.rfl.wL ⟨Or.inl rfl, rfl⟩).wL ⟨Or.inr rfl, rfl⟩
      have v1 : ah_L (ah_wL (ah_wL ρ 161 m z) 162 m (ah_L ρ 163 0)) 161 m = cst D m := by rw [rL_ne (by omega), rL_eq, hz]
      have v2 : ah_L (ah_wL (ah_wL ρ 161 m z) 162 m (ah_L ρ 163 0)) 162 m = ah_L ρ 163 0 := rL_eq
      have he : f_X10_costOf_68 160 (nI m) 161 (nI m) z ρ = some (cst D m, ah_wL (ah_wL ρ 161 m z) 162 m (ah_L ρ 163 0)) := by
        unfold f_X10_costOf_68 f_X10_costOf_82
        simp only [to_bq, l_0, l_1, l_2, l_3, l_4, l_5, l_6, l_7, l_8, l_9, l_10, l_11, l_12, l_13, l_14, l_15, l_16, l_17, l_18, l_19, l_20, l_21, l_22, l_23, l_24, l_25, l_26, l_27, l_28, l_29, l_30, l_31, l_32, l_40, l_41, l_42, l_43, l_44, l_45, l_46, l_47, l_48, l_49, l_50, l_51, l_52, l_53, l_54, l_55, l_56, l_57, l_58, l_59, l_60, l_61, l_62, l_63, l_64, l_72, l_97, l_99, l_100, l_104, l_120, l_122, l_128, l_140, l_255, l_256, l_257, l_258, l_260, l_261, l_262, l_364, l_680, l_700, l_701, l_840, l_999, l_1023, l_1024, l_9999, l_10000, l_1000000, lm]
        simp (disch := first | (with_reducible assumption) | omega | exact ⟨by omega, by omega⟩ | ((with_reducible first | apply Wf.wI | apply Wf.wL | apply Wf.fL | apply Wf.fI | apply Wf.fr); (repeat (with_reducible first | assumption | apply Wf.wI | apply Wf.wL | apply Wf.fL | apply Wf.fI | apply Wf.fr)))) only [ck_160, gI_160, gL_160, pI_160, pZ0_160, pZ1_160, pL_160, gR_160_3, gR_160_4, gR_160_5, pR_160_6, gR_160_6, aL_161, sL_161, len_161, aL_162, sL_162, len_162, ck_163, gI_163, gL_163, pI_163, pZ0_163, pZ1_163, pL_163, gR_163_1, gR_163_2, gR_163_3, gR_163_5, gR_163_6, gR_163_7, gR_163_9, gR_163_10, gR_163_11, gR_163_12, gR_163_13, gR_163_14, gR_163_15, pR_163_17, gR_163_17, bq_n, bd_s, mp_s, rz_0, rz_1, bI_rz, rI_ne, rI_eq, rL_ne, rL_eq, ah_I_wL, ah_L_wI, ah_R_wI, ah_R_wL, ah_I_wR, ah_L_wR, rR_ne, rR_eq, hz]
      generalize ah_wL (ah_wL ρ 161 m z) 162 m (ah_L ρ 163 0) = ρ' at *
      have xs : ∀ a j, a = 160 ∨ a = 161 ∨ a = 162 → ¬ Xso t a j := fun a j _ => by unfold Xso Xsv Xot Xn Xf Xpr Xl; omega
      have ck : CkR ρ' D m := ⟨v1, fun z x hx => v2.trans (kρ z x hx)⟩
      have old : ∀ k, k ≠ m → ah_L ρ' 161 k = ah_L σ 161 k ∧ ah_L ρ' 162 k = ah_L σ 162 k := fun k hk => by
        rw [fF.L (by omega), fF.L (by omega), fρ.L (xs _ _ (by omega)), fρ.L (xs _ _ (by omega))]; exact ⟨rfl, rfl⟩
      refine ⟨ρ', he, (fρ.mono (fun a j z => Or.inl z)).trans (fF.mono (fun a j z => Or.inr z.1)), ⟨?_, ?_, ?_, ?_, ?_, ?_⟩, ck, ?_⟩
      · rw [fF.R (Or.inr (by omega)), fρ.R (Or.inr (xs _ _ (by omega)))]; exact i1
      · rw [fF.R (Or.inr (by omega)), fρ.R (Or.inr (by unfold Xso Xsv Xot Xn Xf Xpr Xl; omega))]; exact i2
      · exact pρ.imp (fun z => by rw [fF.I (by omega)]; exact z) (fun z => z.fr b4 b7 (fun a j _ _ => fF.L (by omega)))
      · exact Fρ.fr b7 (fun c => fF.I (by omega)) (fun a j _ _ => fF.L (by omega))
      · intro c hc
        rw [fF.L (by omega), fρ.L (by unfold Xso Xsv Xot Xn Xf Xpr Xl; omega)]; exact i5 c hc
      · intro k hk
        by_cases qk : k = m
        · rw [qk]; exact Or.inr ck
        · obtain ⟨o1, o2⟩ := old k qk
          exact (i6 k hk).imp (fun z => o1.trans z) (fun z => z.fr o1 o2)
      · intro k hk _
        by_cases qk : k = m
        · rw [qk]; exact ck
        · obtain ⟨o1, o2⟩ := old k qk
          exact hk.fr o1 o2
    have hja := c_joinsAll h i1 hm
    by_cases qt : TrQ D m
    · rw [cI_t qt] at hja
      obtain ⟨ρ, e1, f1, p1, F1, k1⟩ := c_solve h i2 qt i3 i4 i5
      have hρ : TR ρ t D := h.fr f1 (fun a j _ _ => by unfold Xso Xsv Xot Xn Xf Xpr Xl; omega)
      obtain ⟨τ, g1, g2⟩ := key ρ _ hρ f1 p1 F1 (show totA (cpv D m) = cst D m by unfold cst; rw [cif_t qt]) (fun _ => k1)
      refine ⟨τ, ?_, g2⟩
      rw [← g1]
      unfold f_X10_costOf f_X10_costOf_0
      simp only [to_bq, l_0, l_1, l_2, l_3, l_4, l_5, l_6, l_7, l_8, l_9, l_10, l_11, l_12, l_13, l_14, l_15, l_16, l_17, l_18, l_19, l_20, l_21, l_22, l_23, l_24, l_25, l_26, l_27, l_28, l_29, l_30, l_31, l_32, l_40, l_41, l_42, l_43, l_44, l_45, l_46, l_47, l_48, l_49, l_50, l_51, l_52, l_53, l_54, l_55, l_56, l_57, l_58, l_59, l_60, l_61, l_62, l_63, l_64, l_72, l_97, l_99, l_100, l_104, l_120, l_122, l_128, l_140, l_255, l_256, l_257, l_258, l_260, l_261, l_262, l_364, l_680, l_700, l_701, l_840, l_999, l_1023, l_1024, l_9999, l_10000, l_1000000, lm]
      simp (disch := first | (with_reducible assumption) | omega | exact ⟨by omega, by omega⟩ | ((with_reducible first | apply Wf.wI | apply Wf.wL | apply Wf.fL | apply Wf.fI | apply Wf.fr); (repeat (with_reducible first | assumption | apply Wf.wI | apply Wf.wL | apply Wf.fL | apply Wf.fI | apply Wf.fr)))) only [ck_160, gI_160, gL_160, pI_160, pZ0_160, pZ1_160, pL_160, gR_160_3, gR_160_4, gR_160_5, pR_160_6, gR_160_6, aL_161, sL_161, len_161, ck_t, gI_t, gL_t, pI_t, pZ0_t, pZ1_t, pL_t, ck_w, gI_w, gL_w, pI_w, pZ0_w, pZ1_w, pL_w, gR_t_1, gR_t_5, gR_t_7, gR_t_9, gR_t_10, gR_t_11, gR_t_12, gR_t_15, gR_w_2, gR_w_3, gR_w_4, gR_w_5, gR_w_6, gR_w_7, aR_crow, aR_srow, aR_prow, aR_rrow, aI_crow, sI_crow, len_crow, aI_srow, sI_srow, len_srow, aI_prow, sI_prow, len_prow, aI_rrow, sI_rrow, len_rrow, aI_t25, sI_t25, len_t25, aI_t31, sI_t31, len_t31, aI_t32, sI_t32, len_t32, aI_t34, sI_t34, len_t34, aI_t35, sI_t35, len_t35, aI_t36, sI_t36, len_t36, aI_t37, sI_t37, len_t37, aL_t38, sL_t38, len_t38, aL_t39, sL_t39, len_t39, bq_n, bd_s, mp_s, rz_0, rz_1, bI_rz, i1, tr_S h, z_one (show nS D < 31 by omega), if_neg n1, if_neg n2, if_pos n3, q, show lg_cmp (iL (-9)) (-9) = nI 0 from (by decide : lg_cmp (iL (-9)) (-9) = nI 0), if_true, if_false, ite_true, ite_false, reduceIte, not_true, not_false, and_true, true_and, and_false, false_and, or_true, true_or, or_false, false_or, eq_self, hja, show (nI 1 = nI 0) = False from eq_false (by decide), e1]
    · rw [cI_f qt] at hja
      obtain ⟨τ, g1, g2⟩ := key σ (iL (-1)) h Fr.rfl i3 i4 (show iL (-1) = cst D m by unfold cst; rw [cif_f qt]) (fun z => absurd z qt)
      refine ⟨τ, ?_, g2⟩
      rw [← g1]
      unfold f_X10_costOf f_X10_costOf_0
      simp only [to_bq, l_0, l_1, l_2, l_3, l_4, l_5, l_6, l_7, l_8, l_9, l_10, l_11, l_12, l_13, l_14, l_15, l_16, l_17, l_18, l_19, l_20, l_21, l_22, l_23, l_24, l_25, l_26, l_27, l_28, l_29, l_30, l_31, l_32, l_40, l_41, l_42, l_43, l_44, l_45, l_46, l_47, l_48, l_49, l_50, l_51, l_52, l_53, l_54, l_55, l_56, l_57, l_58, l_59, l_60, l_61, l_62, l_63, l_64, l_72, l_97, l_99, l_100, l_104, l_120, l_122, l_128, l_140, l_255, l_256, l_257, l_258, l_260, l_261, l_262, l_364, l_680, l_700, l_701, l_840, l_999, l_1023, l_1024, l_9999, l_10000, l_1000000, lm]
      simp (disch := first | (with_reducible assumption) | omega | exact ⟨by omega, by omega⟩ | ((with_reducible first | apply Wf.wI | apply Wf.wL | apply Wf.fL | apply Wf.fI | apply Wf.fr); (repeat (with_reducible first | assumption | apply Wf.wI | apply Wf.wL | apply Wf.fL | apply Wf.fI | apply Wf.fr)))) only [ck_160, gI_160, gL_160, pI_160, pZ0_160, pZ1_160, pL_160, gR_160_3, gR_160_4, gR_160_5, pR_160_6, gR_160_6, aL_161, sL_161, len_161, ck_t, gI_t, gL_t, pI_t, pZ0_t, pZ1_t, pL_t, ck_w, gI_w, gL_w, pI_w, pZ0_w, pZ1_w, pL_w, gR_t_1, gR_t_5, gR_t_7, gR_t_9, gR_t_10, gR_t_11, gR_t_12, gR_t_15, gR_w_2, gR_w_3, gR_w_4, gR_w_5, gR_w_6, gR_w_7, aR_crow, aR_srow, aR_prow, aR_rrow, aI_crow, sI_crow, len_crow, aI_srow, sI_srow, len_srow, aI_prow, sI_prow, len_prow, aI_rrow, sI_rrow, len_rrow, aI_t25, sI_t25, len_t25, aI_t31, sI_t31, len_t31, aI_t32, sI_t32, len_t32, aI_t34, sI_t34, len_t34, aI_t35, sI_t35, len_t35, aI_t36, sI_t36, len_t36, aI_t37, sI_t37, len_t37, aL_t38, sL_t38, len_t38, aL_t39, sL_t39, len_t39, bq_n, bd_s, mp_s, rz_0, rz_1, bI_rz, i1, tr_S h, z_one (show nS D < 31 by omega), if_neg n1, if_neg n2, if_pos n3, q, show lg_cmp (iL (-9)) (-9) = nI 0 from (by decide : lg_cmp (iL (-9)) (-9) = nI 0), if_true, if_false, ite_true, ite_false, reduceIte, not_true, not_false, and_true, true_and, and_false, false_and, or_true, true_or, or_false, false_or, eq_self, hja]
      rfl
  · have hk := (i6 m hm).resolve_left q
    refine ⟨σ, ?_, Fr.rfl, hi, hk, fun k hk _ => hk⟩
    have hc : ¬ lg_cmp (ah_L σ 161 m) (-9) = nI 0 := by
      rw [q_m9]
      intro z
      apply q
      rw [iL_of (ah_L σ 161 m)] at z ⊢
      have b1 := Int64.le_toInt (ah_L σ 161 m)
      have b2 := Int64.toInt_lt (ah_L σ 161 m)
      rw [cmp_e ⟨by omega, by omega⟩ ⟨by omega, by omega⟩] at z
      rw [z]
    unfold f_X10_costOf f_X10_costOf_0 f_X10_costOf_82
    simp only [to_bq, l_0, l_1, l_2, l_3, l_4, l_5, l_6, l_7, l_8, l_9, l_10, l_11, l_12, l_13, l_14, l_15, l_16, l_17, l_18, l_19, l_20, l_21, l_22, l_23, l_24, l_25, l_26, l_27, l_28, l_29, l_30, l_31, l_32, l_40, l_41, l_42, l_43, l_44, l_45, l_46, l_47, l_48, l_49, l_50, l_51, l_52, l_53, l_54, l_55, l_56, l_57, l_58, l_59, l_60, l_61, l_62, l_63, l_64, l_72, l_97, l_99, l_100, l_104, l_120, l_122, l_128, l_140, l_255, l_256, l_257, l_258, l_260, l_261, l_262, l_364, l_680, l_700, l_701, l_840, l_999, l_1023, l_1024, l_9999, l_10000, l_1000000, lm]
    simp (disch := first | (with_reducible assumption) | omega | exact ⟨by omega, by omega⟩ | ((with_reducible first | apply Wf.wI | apply Wf.wL | apply Wf.fL | apply Wf.fI | apply Wf.fr); (repeat (with_reducible first | assumption | apply Wf.wI | apply Wf.wL | apply Wf.fL | apply Wf.fI | apply Wf.fr)))) only [ck_160, gI_160, gL_160, pI_160, pZ0_160, pZ1_160, pL_160, gR_160_3, gR_160_4, gR_160_5, pR_160_6, gR_160_6, aL_161, sL_161, len_161, ck_t, gI_t, gL_t, pI_t, pZ0_t, pZ1_t, pL_t, ck_w, gI_w, gL_w, pI_w, pZ0_w, pZ1_w, pL_w, gR_t_1, gR_t_5, gR_t_7, gR_t_9, gR_t_10, gR_t_11, gR_t_12, gR_t_15, gR_w_2, gR_w_3, gR_w_4, gR_w_5, gR_w_6, gR_w_7, aR_crow, aR_srow, aR_prow, aR_rrow, aI_crow, sI_crow, len_crow, aI_srow, sI_srow, len_srow, aI_prow, sI_prow, len_prow, aI_rrow, sI_rrow, len_rrow, aI_t25, sI_t25, len_t25, aI_t31, sI_t31, len_t31, aI_t32, sI_t32, len_t32, aI_t34, sI_t34, len_t34, aI_t35, sI_t35, len_t35, aI_t36, sI_t36, len_t36, aI_t37, sI_t37, len_t37, aL_t38, sL_t38, len_t38, aL_t39, sL_t39, len_t39, bq_n, bd_s, mp_s, rz_0, rz_1, bI_rz, i1, tr_S h, z_one (show nS D < 31 by omega), if_neg n1, if_neg n2, if_pos n3, hk.1]
    rw [← hk.1]
    exact if_neg hc
theorem c_costOf_o (h : TR σ t D) (hp : ah_R σ 160 6 = some t) {x : Int32} (hx : x < nI 0 ∨ nI (2 ^ nS D) ≤ x) : f_X10_costOf 160 x σ = some (iL (-1), σ) := by
  have htn0 := h.tn
  have htn := h.tn
  have hW := h.w
  have b10 := h.t.qs10
  unfold f_X10_costOf f_X10_costOf_0
  simp only [to_bq, l_0, l_1, l_2, l_3, l_4, l_5, l_6, l_7, l_8, l_9, l_10, l_11, l_12, l_13, l_14, l_15, l_16, l_17, l_18, l_19, l_20, l_21, l_22, l_23, l_24, l_25, l_26, l_27, l_28, l_29, l_30, l_31, l_32, l_40, l_41, l_42, l_43, l_44, l_45, l_46, l_47, l_48, l_49, l_50, l_51, l_52, l_53, l_54, l_55, l_56, l_57, l_58, l_59, l_60, l_61, l_62, l_63, l_64, l_72, l_97, l_99, l_100, l_104, l_120, l_122, l_128, l_140, l_255, l_256, l_257, l_258, l_260, l_261, l_262, l_364, l_680, l_700, l_701, l_840, l_999, l_1023, l_1024, l_9999, l_10000, l_1000000, lm]
  simp (disch := first | (with_reducible assumption) | omega | exact ⟨by omega, by omega⟩ | ((with_reducible first | apply Wf.wI | apply Wf.wL | apply Wf.fL | apply Wf.fI | apply Wf.fr); (repeat (with_reducible first | assumption | apply Wf.wI | apply Wf.wL | apply Wf.fL | apply Wf.fI | apply Wf.fr)))) only [ck_160, gI_160, gL_160, pI_160, pZ0_160, pZ1_160, pL_160, gR_160_3, gR_160_4, gR_160_5, pR_160_6, gR_160_6, ck_t, gI_t, gL_t, pI_t, pZ0_t, pZ1_t, pL_t, ck_w, gI_w, gL_w, pI_w, pZ0_w, pZ1_w, pL_w, gR_t_1, gR_t_5, gR_t_7, gR_t_9, gR_t_10, gR_t_11, gR_t_12, gR_t_15, gR_w_2, gR_w_3, gR_w_4, gR_w_5, gR_w_6, gR_w_7, aR_crow, aR_srow, aR_prow, aR_rrow, aI_crow, sI_crow, len_crow, aI_srow, sI_srow, len_srow, aI_prow, sI_prow, len_prow, aI_rrow, sI_rrow, len_rrow, aI_t25, sI_t25, len_t25, aI_t31, sI_t31, len_t31, aI_t32, sI_t32, len_t32, aI_t34, sI_t34, len_t34, aI_t35, sI_t35, len_t35, aI_t36, sI_t36, len_t36, aI_t37, sI_t37, len_t37, aL_t38, sL_t38, len_t38, aL_t39, sL_t39, len_t39, bq_n, bd_s, mp_s, rz_0, rz_1, bI_rz, hp, tr_S h, z_one (show nS D < 31 by omega)]
  by_cases q : x < nI 0
  · rw [if_pos q]; rfl
  · rw [if_neg q, if_pos (hx.resolve_left q)]; rfl
end
