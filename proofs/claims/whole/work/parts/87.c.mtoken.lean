/-! THE REFERENCE: a token -/
section
variable {σ τ : ah_H} {T : Nat → Nat} {n p q e : Nat}
/-- a word, a name or neither -/
theorem m_tk87 (h : LxR σ T n) (h26 : ah_I σ 225 26 = nI q) (h25 : ah_I σ 225 25 = nI e) (hqe : q ≤ e) (hen : e ≤ n) (hl : ∀ j, q ≤ j → j < e → isSm (T j)) : ∃ τ, f_X12_token_87 225 σ = some τ ∧ Fr Xtk σ τ ∧ RTk τ (wdt T q e) := by
  have h7 := h.2.1
  have hW := h.1
  have hw := m_word h h26 h25 hqe hen
  unfold wdt
  cases ew : wdx T q e with
  | some w =>
    have hwl : w < 24 := by
      have : ∀ m k w, wdf T q e k m = some w → w < k + m := by
        intro m
        induction m with
        | zero => intro k w h; cases h
        | succ m ih =>
          intro k w h
          unfold wdf at h
          by_cases z : eqW T q e k
          · rw [if_pos z] at h; cases h; omega
          · rw [if_neg z] at h; have := ih (k + 1) w h; omega
      exact this 24 0 w ew
    rw [ew] at hw
    have hw : f_X12_word 225 σ = some (nI w, σ) := hw
    have f1 : Fr Xtk σ (ah_wI (ah_wI σ 225 28 (nI w)) 225 27 (nI 0)) := (Fr.rfl.wI (by unfold Xtk; omega)).wI (by unfold Xtk; omega)
    have nm : ¬ nI w = mI 1 := fun z => by rw [neg_nI (by omega) (by omega) (by omega)] at z; exact z
    refine ⟨_, ?_, f1, ?_⟩
    · unfold f_X12_token_87 f_X12_token_127
      simp only [to_bq, l_0, l_1, l_2, l_3, l_4, l_5, l_6, l_7, l_8, l_9, l_10, l_11, l_12, l_13, l_14, l_15, l_16, l_17, l_18, l_19, l_20, l_21, l_22, l_23, l_24, l_25, l_26, l_27, l_28, l_29, l_30, l_31, l_32, l_40, l_41, l_42, l_43, l_44, l_45, l_46, l_47, l_48, l_49, l_50, l_51, l_52, l_53, l_54, l_55, l_56, l_57, l_58, l_59, l_60, l_61, l_62, l_63, l_64, l_72, l_97, l_99, l_100, l_104, l_120, l_122, l_128, l_140, l_255, l_256, l_257, l_258, l_260, l_261, l_262, l_364, l_680, l_700, l_701, l_840, l_999, l_1023, l_1024, l_9999, l_10000, l_1000000, lm]
      simp (disch := first | (with_reducible assumption) | omega | exact ⟨by omega, by omega⟩ | ((with_reducible first | apply Wf.wI | apply Wf.wL | apply Wf.fL | apply Wf.fI | apply Wf.fr); (repeat (with_reducible first | assumption | apply Wf.wI | apply Wf.wL | apply Wf.fL | apply Wf.fI | apply Wf.fr)))) only [ck_225, gI_225, gL_225, pI_225, pZ0_225, pZ1_225, pL_225, gR_225_1, gR_225_3, gR_225_4, gR_225_5, gR_225_6, gR_225_7, gR_225_8, gR_225_9, gR_225_10, gR_225_11, gR_225_12, gR_225_13, gR_225_14, gR_225_15, gR_225_16, gR_225_17, gR_225_18, gR_225_19, gR_225_20, gR_225_21, gR_225_35, gR_225_36, gR_225_38, gR_225_39, gR_225_40, gR_225_41, gR_225_43, gR_225_44, gR_225_45, gR_225_48, gR_225_49, gR_225_50, gR_225_51, gR_225_53, gR_225_54, gR_225_55, gR_225_56, gR_225_58, gR_225_59, gR_225_60, gR_225_61, gR_225_62, gR_225_63, gR_225_66, gR_225_67, bq_n, bd_s, mp_s, rz_0, rz_1, bI_rz, hw, rI_ne, rI_eq, rL_ne, rL_eq, ah_I_wL, ah_L_wI, ah_R_wI, ah_R_wL, ah_I_wR, ah_L_wR, rR_ne, rR_eq, if_neg nm, show (nI 0 = nI 1) = False from eq_false (by decide), if_true, if_false, ite_true, ite_false, reduceIte, not_true, not_false, and_true, true_and, and_false, false_and, or_true, true_or, or_false, false_or, eq_self]
    · exact ⟨by rw [rI_ne (by omega), rI_ne (by omega)]; exact h25, by rw [rI_ne (by omega), rI_ne (by omega)]; exact h26, rI_eq, fun _ => by rw [rI_ne (by omega), rI_eq]; rfl⟩
  | none =>
    rw [ew] at hw
    have hw : f_X12_word 225 σ = some (mI 1, σ) := hw
    have zs : nI e - nI q = nI (e - q) := zsub hqe
    by_cases z : e - q ≤ 6
    · have f1 : Fr Xtk σ (ah_wI (ah_wI σ 225 28 (mI 1)) 225 27 (nI 1)) := (Fr.rfl.wI (by unfold Xtk; omega)).wI (by unfold Xtk; omega)
      obtain ⟨τ, e1, e2, e3⟩ := m_nameL (q := q) (e := e) (h.fr f1) (by rw [rI_ne (by omega), rI_ne (by omega)]; exact h26) (by rw [rI_ne (by omega), rI_ne (by omega)]; exact h25) hen hl hqe
      refine ⟨τ, ?_, f1.trans (e2.mono (fun a j z => by unfold Xtk; omega)), ?_⟩
      · unfold f_X12_token_87 f_X12_token_127
        simp only [to_bq, l_0, l_1, l_2, l_3, l_4, l_5, l_6, l_7, l_8, l_9, l_10, l_11, l_12, l_13, l_14, l_15, l_16, l_17, l_18, l_19, l_20, l_21, l_22, l_23, l_24, l_25, l_26, l_27, l_28, l_29, l_30, l_31, l_32, l_40, l_41, l_42, l_43, l_44, l_45, l_46, l_47, l_48, l_49, l_50, l_51, l_52, l_53, l_54, l_55, l_56, l_57, l_58, l_59, l_60, l_61, l_62, l_63, l_64, l_72, l_97, l_99, l_100, l_104, l_120, l_122, l_128, l_140, l_255, l_256, l_257, l_258, l_260, l_261, l_262, l_364, l_680, l_700, l_701, l_840, l_999, l_1023, l_1024, l_9999, l_10000, l_1000000, lm]
        simp (disch := first | (with_reducible assumption) | omega | exact ⟨by omega, by omega⟩ | ((with_reducible first | apply Wf.wI | apply Wf.wL | apply Wf.fL | apply Wf.fI | apply Wf.fr); (repeat (with_reducible first | assumption | apply Wf.wI | apply Wf.wL | apply Wf.fL | apply Wf.fI | apply Wf.fr)))) only [ck_225, gI_225, gL_225, pI_225, pZ0_225, pZ1_225, pL_225, gR_225_1, gR_225_3, gR_225_4, gR_225_5, gR_225_6, gR_225_7, gR_225_8, gR_225_9, gR_225_10, gR_225_11, gR_225_12, gR_225_13, gR_225_14, gR_225_15, gR_225_16, gR_225_17, gR_225_18, gR_225_19, gR_225_20, gR_225_21, gR_225_35, gR_225_36, gR_225_38, gR_225_39, gR_225_40, gR_225_41, gR_225_43, gR_225_44, gR_225_45, gR_225_48, gR_225_49, gR_225_50, gR_225_51, gR_225_53, gR_225_54, gR_225_55, gR_225_56, gR_225_58, gR_225_59, gR_225_60, gR_225_61, gR_225_62, gR_225_63, gR_225_66, gR_225_67, bq_n, bd_s, mp_s, rz_0, rz_1, bI_rz, hw, rI_ne, rI_eq, rL_ne, rL_eq, ah_I_wL, ah_L_wI, ah_R_wI, ah_R_wL, ah_I_wR, ah_L_wR, rR_ne, rR_eq, if_true, if_false, ite_true, ite_false, reduceIte, not_true, not_false, and_true, true_and, and_false, false_and, or_true, true_or, or_false, false_or, eq_self, h25, h26, zs, le_nI, eq_true z, e1]
      · rw [if_pos z]
        exact ⟨by rw [e2.I (by omega), rI_ne (by omega), rI_ne (by omega)]; exact h25, by rw [e2.I (by omega), rI_ne (by omega), rI_ne (by omega)]; exact h26, by rw [e2.I (by omega), rI_eq]; rfl, fun _ => e3⟩
    · have f1 : Fr Xtk σ (ah_wI (ah_wI σ 225 28 (mI 1)) 225 27 (nI 5)) := (Fr.rfl.wI (by unfold Xtk; omega)).wI (by unfold Xtk; omega)
      refine ⟨_, ?_, f1, ?_⟩
      · unfold f_X12_token_87 f_X12_token_127
        simp only [to_bq, l_0, l_1, l_2, l_3, l_4, l_5, l_6, l_7, l_8, l_9, l_10, l_11, l_12, l_13, l_14, l_15, l_16, l_17, l_18, l_19, l_20, l_21, l_22, l_23, l_24, l_25, l_26, l_27, l_28, l_29, l_30, l_31, l_32, l_40, l_41, l_42, l_43, l_44, l_45, l_46, l_47, l_48, l_49, l_50, l_51, l_52, l_53, l_54, l_55, l_56, l_57, l_58, l_59, l_60, l_61, l_62, l_63, l_64, l_72, l_97, l_99, l_100, l_104, l_120, l_122, l_128, l_140, l_255, l_256, l_257, l_258, l_260, l_261, l_262, l_364, l_680, l_700, l_701, l_840, l_999, l_1023, l_1024, l_9999, l_10000, l_1000000, lm]
        simp (disch := first | (with_reducible assumption) | omega | exact ⟨by omega, by omega⟩ | ((with_reducible first | apply Wf.wI | apply Wf.wL | apply Wf.fL | apply Wf.fI | apply Wf.fr); (repeat (with_reducible first | assumption | apply Wf.wI | apply Wf.wL | apply Wf.fL | apply Wf.fI | apply Wf.fr)))) only [ck_225, gI_225, gL_225, pI_225, pZ0_225, pZ1_225, pL_225, gR_225_1, gR_225_3, gR_225_4, gR_225_5, gR_225_6, gR_225_7, gR_225_8, gR_225_9, gR_225_10, gR_225_11, gR_225_12, gR_225_13, gR_225_14, gR_225_15, gR_225_16, gR_225_17, gR_225_18, gR_225_19, gR_225_20, gR_225_21, gR_225_35, gR_225_36, gR_225_38, gR_225_39, gR_225_40, gR_225_41, gR_225_43, gR_225_44, gR_225_45, gR_225_48, gR_225_49, gR_225_50, gR_225_51, gR_225_53, gR_225_54, gR_225_55, gR_225_56, gR_225_58, gR_225_59, gR_225_60, gR_225_61, gR_225_62, gR_225_63, gR_225_66, gR_225_67, bq_n, bd_s, mp_s, rz_0, rz_1, bI_rz, hw, rI_ne, rI_eq, rL_ne, rL_eq, ah_I_wL, ah_L_wI, ah_R_wI, ah_R_wL, ah_I_wR, ah_L_wR, rR_ne, rR_eq, if_true, if_false, ite_true, ite_false, reduceIte, not_true, not_false, and_true, true_and, and_false, false_and, or_true, true_or, or_false, false_or, eq_self, h25, h26, zs, le_nI, eq_false z, show (nI 5 = nI 1) = False from eq_false (by decide)]
      · rw [if_neg z]
        exact ⟨by rw [rI_ne (by omega), rI_ne (by omega)]; exact h25, by rw [rI_ne (by omega), rI_ne (by omega)]; exact h26, rI_eq, fun z => by have z : (5 : Nat) ≤ 3 := z; omega⟩
theorem m_tk31 (h : LxR σ T n) (h25 : ah_I σ 225 25 = nI q) (hq : q ≤ n) : ∃ τ, f_X12_token_31 225 σ = some τ ∧ Fr Xtk σ τ ∧ RTk τ (lexq T n q) := by
  have h7 := h.2.1
  have hW := h.1
  have f1 : Fr Xtk σ (ah_wI σ 225 26 (nI q)) := Fr.rfl.wI (by unfold Xtk; omega)
  have v26 : ah_I (ah_wI σ 225 26 (nI q)) 225 26 = nI q := rI_eq
  have v25 : ah_I (ah_wI σ 225 26 (nI q)) 225 25 = nI q := by rw [rI_ne (by omega)]; exact h25
  have hstart : f_X12_token_31 225 σ = bq (fun σ2 => bq (fun r3 : Int32 × ah_H => if r3.1 = mI 1 then bq (fun σ9 => some σ9) (Unit.unit : Unit) (op_pI 12 27 r3.2 225 (nI 4)) else bq (fun r4 : Int32 × ah_H => if r4.1 = nI 0 then bq (fun r5 : Int32 × ah_H => if r5.1 = nI 0 then bq (fun r6 => some r6) (Unit.unit : Unit) (f_X12_sign 225 r3.1 r5.2) else bq (fun σ7 => bq (fun σ8 => f_X12_token_162 5000 225 σ8) (Unit.unit : Unit) (op_pI 12 28 σ7 225 (nI 0))) (Unit.unit : Unit) (op_pI 12 27 r5.2 225 (nI 2))) (Unit.unit : Unit) (f_X12_isDigit r3.1 r4.2) else f_X12_token_64 5000 225 r4.2) (Unit.unit : Unit) (f_X12_isSmall r3.1 r3.2)) (Unit.unit : Unit) (f_X12_here 225 σ2)) (Unit.unit : Unit) (some (ah_wI σ 225 26 (nI q))) := by
    unfold f_X12_token_31
    simp only [to_bq, l_0, l_1, l_2, l_3, l_4, l_5, l_6, l_7, l_8, l_9, l_10, l_11, l_12, l_13, l_14, l_15, l_16, l_17, l_18, l_19, l_20, l_21, l_22, l_23, l_24, l_25, l_26, l_27, l_28, l_29, l_30, l_31, l_32, l_40, l_41, l_42, l_43, l_44, l_45, l_46, l_47, l_48, l_49, l_50, l_51, l_52, l_53, l_54, l_55, l_56, l_57, l_58, l_59, l_60, l_61, l_62, l_63, l_64, l_72, l_97, l_99, l_100, l_104, l_120, l_122, l_128, l_140, l_255, l_256, l_257, l_258, l_260, l_261, l_262, l_364, l_680, l_700, l_701, l_840, l_999, l_1023, l_1024, l_9999, l_10000, l_1000000, lm]
    simp (disch := first | (with_reducible assumption) | omega | exact ⟨by omega, by omega⟩ | ((with_reducible first | apply Wf.wI | apply Wf.wL | apply Wf.fL | apply Wf.fI | apply Wf.fr); (repeat (with_reducible first | assumption | apply Wf.wI | apply Wf.wL | apply Wf.fL | apply Wf.fI | apply Wf.fr)))) only [ck_225, gI_225, gL_225, pI_225, pZ0_225, pZ1_225, pL_225, gR_225_1, gR_225_3, gR_225_4, gR_225_5, gR_225_6, gR_225_7, gR_225_8, gR_225_9, gR_225_10, gR_225_11, gR_225_12, gR_225_13, gR_225_14, gR_225_15, gR_225_16, gR_225_17, gR_225_18, gR_225_19, gR_225_20, gR_225_21, gR_225_35, gR_225_36, gR_225_38, gR_225_39, gR_225_40, gR_225_41, gR_225_43, gR_225_44, gR_225_45, gR_225_48, gR_225_49, gR_225_50, gR_225_51, gR_225_53, gR_225_54, gR_225_55, gR_225_56, gR_225_58, gR_225_59, gR_225_60, gR_225_61, gR_225_62, gR_225_63, gR_225_66, gR_225_67, bq_n, h25]
  rw [hstart, bq_n]
  generalize ah_wI σ 225 26 (nI q) = ρ at *
  have hρ := h.fr f1
  have hWρ := hρ.1
  rw [m_here hρ v25 (by omega), bq_n]
  unfold lexq
  by_cases z : n ≤ q
  · rw [if_pos z]
    have e1 : hrv T n q = mI 1 := if_pos z
    refine ⟨ah_wI ρ 225 27 (nI 4), ?_, f1.wI (by unfold Xtk; omega), ?_⟩
    · simp (disch := first | (with_reducible assumption) | omega | exact ⟨by omega, by omega⟩ | ((with_reducible first | apply Wf.wI | apply Wf.wL | apply Wf.fL | apply Wf.fI | apply Wf.fr); (repeat (with_reducible first | assumption | apply Wf.wI | apply Wf.wL | apply Wf.fL | apply Wf.fI | apply Wf.fr)))) only [ck_225, gI_225, gL_225, pI_225, pZ0_225, pZ1_225, pL_225, gR_225_1, gR_225_3, gR_225_4, gR_225_5, gR_225_6, gR_225_7, gR_225_8, gR_225_9, gR_225_10, gR_225_11, gR_225_12, gR_225_13, gR_225_14, gR_225_15, gR_225_16, gR_225_17, gR_225_18, gR_225_19, gR_225_20, gR_225_21, gR_225_35, gR_225_36, gR_225_38, gR_225_39, gR_225_40, gR_225_41, gR_225_43, gR_225_44, gR_225_45, gR_225_48, gR_225_49, gR_225_50, gR_225_51, gR_225_53, gR_225_54, gR_225_55, gR_225_56, gR_225_58, gR_225_59, gR_225_60, gR_225_61, gR_225_62, gR_225_63, gR_225_66, gR_225_67, bq_n, bd_s, mp_s, rz_0, rz_1, bI_rz, e1, if_true, if_false, ite_true, ite_false, reduceIte, not_true, not_false, and_true, true_and, and_false, false_and, or_true, true_or, or_false, false_or, eq_self]
    · exact ⟨by rw [rI_ne (by omega)]; exact v25, by rw [rI_ne (by omega)]; exact v26, rI_eq, fun z => by have z : (4 : Nat) ≤ 3 := z; omega⟩
  rw [if_neg z]
  have e1 : hrv T n q = nI (T q) := if_neg z
  have tq := h.tb q (by omega)
  have nm : ¬ hrv T n q = mI 1 := by rw [hrv_m h.tb h7]; exact z
  show ∃ τ, (if hrv T n q = mI 1 then _ else _) = _ ∧ _
  rw [if_neg nm, m_isSmall (τ := ρ) h, bq_n]
  by_cases zs : isSm (T q)
  · rw [cI_t ⟨by omega, zs⟩, if_neg (show ¬ (nI 1, ρ).1 = nI 0 from (by decide : ¬ nI 1 = nI 0)), cif_t zs]
    obtain ⟨τ1, g1, g2, g3⟩ := m_tk64 (n - q) q 5000 ρ (Nat.le_refl _) (by omega) hρ v25 hq
    have hτ1 := hρ.fr (g2.mono (fun a j z => by unfold Xtk; omega))
    obtain ⟨τ2, k1, k2, k3⟩ := m_tk87 (q := q) (e := gon T n isSm q) hτ1 (by rw [g2.I (by omega)]; exact v26) g3 gon_ge (gon_le hq) (fun j h1 h2 => (gon_all j h1 h2).2)
    refine ⟨τ2, ?_, (f1.trans (g2.mono (fun a j z => by unfold Xtk; omega))).trans k2, k3⟩
    show f_X12_token_64 5000 225 ρ = _
    rw [g1, k1]
  · rw [cI_f (fun w => zs w.2), if_pos rfl, cif_f zs]
    show ∃ τ, bq _ _ (f_X12_isDigit (hrv T n q) ρ) = _ ∧ _
    rw [m_isDigit (τ := ρ) h, bq_n]
    by_cases zd : isDg (T q)
    · rw [cI_t ⟨by omega, zd⟩, if_neg (show ¬ (nI 1, ρ).1 = nI 0 from (by decide : ¬ nI 1 = nI 0)), cif_t zd]
      have f2 : Fr Xtk ρ (ah_wI (ah_wI ρ 225 27 (nI 2)) 225 28 (nI 0)) := (Fr.rfl.wI (by unfold Xtk; omega)).wI (by unfold Xtk; omega)
      obtain ⟨τ1, g1, g2, g3, g4⟩ := m_tk162 (q := q) (n - q) q 5000 (ah_wI (ah_wI ρ 225 27 (nI 2)) 225 28 (nI 0)) (Nat.le_refl _) (by omega) (hρ.fr f2) (by rw [rI_ne (by omega), rI_ne (by omega)]; exact v25) (Nat.le_refl _) hq (fun j h1 h2 => by omega) (by rw [rI_eq, Nat.sub_self]; rfl)
      refine ⟨τ1, ?_, (f1.trans f2).trans (g2.mono (fun a j z => by unfold Xtk; omega)), g3, ?_, ?_, fun _ => g4⟩
      · simp (disch := first | (with_reducible assumption) | omega | exact ⟨by omega, by omega⟩ | ((with_reducible first | apply Wf.wI | apply Wf.wL | apply Wf.fL | apply Wf.fI | apply Wf.fr); (repeat (with_reducible first | assumption | apply Wf.wI | apply Wf.wL | apply Wf.fL | apply Wf.fI | apply Wf.fr)))) only [ck_225, gI_225, gL_225, pI_225, pZ0_225, pZ1_225, pL_225, gR_225_1, gR_225_3, gR_225_4, gR_225_5, gR_225_6, gR_225_7, gR_225_8, gR_225_9, gR_225_10, gR_225_11, gR_225_12, gR_225_13, gR_225_14, gR_225_15, gR_225_16, gR_225_17, gR_225_18, gR_225_19, gR_225_20, gR_225_21, gR_225_35, gR_225_36, gR_225_38, gR_225_39, gR_225_40, gR_225_41, gR_225_43, gR_225_44, gR_225_45, gR_225_48, gR_225_49, gR_225_50, gR_225_51, gR_225_53, gR_225_54, gR_225_55, gR_225_56, gR_225_58, gR_225_59, gR_225_60, gR_225_61, gR_225_62, gR_225_63, gR_225_66, gR_225_67, bq_n, bd_s, mp_s, rz_0, rz_1, bI_rz]
        exact g1
      · rw [g2.I (by omega), rI_ne (by omega), rI_ne (by omega)]; exact v26
      · rw [g2.I (by omega), rI_ne (by omega), rI_eq]; rfl
    · rw [cI_f (fun w => zd w.2), if_pos rfl, cif_f zd]
      obtain ⟨τ1, g1, g2, g3⟩ := m_signL hρ v25 v26 (show q < n by omega)
      refine ⟨τ1, ?_, f1.trans g2, g3⟩
      show bq _ _ (f_X12_sign 225 (hrv T n q) ρ) = _
      rw [e1, g1, bq_n]
theorem m_tk0 : ∀ f p fu τ, n - p ≤ f → f < fu → LxR τ T n → ah_I τ 225 25 = nI p → p ≤ n → ∃ τ', f_X12_token_0 fu 225 τ = f_X12_token_31 225 τ' ∧ Fr (fun a j => a = 225 ∧ j = 25) τ τ' ∧ ah_I τ' 225 25 = nI (gon T n isWs p) := by
  intro f
  induction f with
  | zero =>
    intro p fu τ hp hf h h25 hpn
    obtain ⟨fu, rfl⟩ : ∃ q, fu = q + 1 := ⟨fu - 1, by omega⟩
    have h7 := h.2.1
    have hn : ¬ (p < n ∧ isWs (T p)) := fun z => by omega
    refine ⟨τ, ?_, Fr.rfl, by rw [gon_f hn]; exact h25⟩
    show f_X12_token_0_b _ _ _ = _
    unfold f_X12_token_0_b
    simp only [to_bq, l_0, l_1, l_2, l_3, l_4, l_5, l_6, l_7, l_8, l_9, l_10, l_11, l_12, l_13, l_14, l_15, l_16, l_17, l_18, l_19, l_20, l_21, l_22, l_23, l_24, l_25, l_26, l_27, l_28, l_29, l_30, l_31, l_32, l_40, l_41, l_42, l_43, l_44, l_45, l_46, l_47, l_48, l_49, l_50, l_51, l_52, l_53, l_54, l_55, l_56, l_57, l_58, l_59, l_60, l_61, l_62, l_63, l_64, l_72, l_97, l_99, l_100, l_104, l_120, l_122, l_128, l_140, l_255, l_256, l_257, l_258, l_260, l_261, l_262, l_364, l_680, l_700, l_701, l_840, l_999, l_1023, l_1024, l_9999, l_10000, l_1000000, lm]
    simp (disch := first | (with_reducible assumption) | omega | exact ⟨by omega, by omega⟩ | ((with_reducible first | apply Wf.wI | apply Wf.wL | apply Wf.fL | apply Wf.fI | apply Wf.fr); (repeat (with_reducible first | assumption | apply Wf.wI | apply Wf.wL | apply Wf.fL | apply Wf.fI | apply Wf.fr)))) only [m_here h h25 (show p ≤ 700 by omega), bq_n, bd_s, mp_s, rz_0, rz_1, bI_rz, hrv_n h.tb h7, show (p < n ∧ T p = 10) = False from eq_false (by omega), show (p < n ∧ T p = 32) = False from eq_false (by omega), if_true, if_false, ite_true, ite_false, reduceIte, not_true, not_false, and_true, true_and, and_false, false_and, or_true, true_or, or_false, false_or, eq_self]
  | succ f ih =>
    intro p fu τ hp hf h h25 hpn
    obtain ⟨fu, rfl⟩ : ∃ q, fu = q + 1 := ⟨fu - 1, by omega⟩
    have h7 := h.2.1
    have hW := h.1
    show ∃ τ', f_X12_token_0_b (f_X12_token_0 fu) 225 τ = _ ∧ _
    by_cases hn : p < n ∧ isWs (T p)
    · have f1 : Fr (fun a j => a = 225 ∧ j = 25) τ (ah_wI τ 225 25 (nI (p + 1))) := Fr.rfl.wI ⟨rfl, rfl⟩
      obtain ⟨τ', e1, e2, e3⟩ := ih (p + 1) fu (ah_wI τ 225 25 (nI (p + 1))) (by omega) (by omega) (h.fr (f1.mono (fun a j z => by unfold Xtk; omega))) rI_eq (by omega)
      refine ⟨τ', ?_, f1.trans e2, by rw [gon_t hn.1 hn.2]; exact e3⟩
      rw [← e1]
      unfold f_X12_token_0_b f_X12_token_18
      simp only [to_bq, l_0, l_1, l_2, l_3, l_4, l_5, l_6, l_7, l_8, l_9, l_10, l_11, l_12, l_13, l_14, l_15, l_16, l_17, l_18, l_19, l_20, l_21, l_22, l_23, l_24, l_25, l_26, l_27, l_28, l_29, l_30, l_31, l_32, l_40, l_41, l_42, l_43, l_44, l_45, l_46, l_47, l_48, l_49, l_50, l_51, l_52, l_53, l_54, l_55, l_56, l_57, l_58, l_59, l_60, l_61, l_62, l_63, l_64, l_72, l_97, l_99, l_100, l_104, l_120, l_122, l_128, l_140, l_255, l_256, l_257, l_258, l_260, l_261, l_262, l_364, l_680, l_700, l_701, l_840, l_999, l_1023, l_1024, l_9999, l_10000, l_1000000, lm]
      have hw := hn.2
      unfold isWs at hw
      by_cases z : T p = 10
      · simp (disch := first | (with_reducible assumption) | omega | exact ⟨by omega, by omega⟩ | ((with_reducible first | apply Wf.wI | apply Wf.wL | apply Wf.fL | apply Wf.fI | apply Wf.fr); (repeat (with_reducible first | assumption | apply Wf.wI | apply Wf.wL | apply Wf.fL | apply Wf.fI | apply Wf.fr)))) only [ck_225, gI_225, gL_225, pI_225, pZ0_225, pZ1_225, pL_225, gR_225_1, gR_225_3, gR_225_4, gR_225_5, gR_225_6, gR_225_7, gR_225_8, gR_225_9, gR_225_10, gR_225_11, gR_225_12, gR_225_13, gR_225_14, gR_225_15, gR_225_16, gR_225_17, gR_225_18, gR_225_19, gR_225_20, gR_225_21, gR_225_35, gR_225_36, gR_225_38, gR_225_39, gR_225_40, gR_225_41, gR_225_43, gR_225_44, gR_225_45, gR_225_48, gR_225_49, gR_225_50, gR_225_51, gR_225_53, gR_225_54, gR_225_55, gR_225_56, gR_225_58, gR_225_59, gR_225_60, gR_225_61, gR_225_62, gR_225_63, gR_225_66, gR_225_67, m_here h h25 (show p ≤ 700 by omega), bq_n, bd_s, mp_s, rz_0, rz_1, bI_rz, hrv_n h.tb h7, show (p < n ∧ T p = 10) = True from eq_true ⟨hn.1, z⟩, if_true, if_false, ite_true, ite_false, reduceIte, not_true, not_false, and_true, true_and, and_false, false_and, or_true, true_or, or_false, false_or, eq_self, h25, zadd]
      · simp (disch := first | (with_reducible assumption) | omega | exact ⟨by omega, by omega⟩ | ((with_reducible first | apply Wf.wI | apply Wf.wL | apply Wf.fL | apply Wf.fI | apply Wf.fr); (repeat (with_reducible first | assumption | apply Wf.wI | apply Wf.wL | apply Wf.fL | apply Wf.fI | apply Wf.fr)))) only [ck_225, gI_225, gL_225, pI_225, pZ0_225, pZ1_225, pL_225, gR_225_1, gR_225_3, gR_225_4, gR_225_5, gR_225_6, gR_225_7, gR_225_8, gR_225_9, gR_225_10, gR_225_11, gR_225_12, gR_225_13, gR_225_14, gR_225_15, gR_225_16, gR_225_17, gR_225_18, gR_225_19, gR_225_20, gR_225_21, gR_225_35, gR_225_36, gR_225_38, gR_225_39, gR_225_40, gR_225_41, gR_225_43, gR_225_44, gR_225_45, gR_225_48, gR_225_49, gR_225_50, gR_225_51, gR_225_53, gR_225_54, gR_225_55, gR_225_56, gR_225_58, gR_225_59, gR_225_60, gR_225_61, gR_225_62, gR_225_63, gR_225_66, gR_225_67, m_here h h25 (show p ≤ 700 by omega), bq_n, bd_s, mp_s, rz_0, rz_1, bI_rz, hrv_n h.tb h7, show (p < n ∧ T p = 10) = False from eq_false (fun w => z w.2), show (p < n ∧ T p = 32) = True from eq_true ⟨hn.1, by omega⟩, if_true, if_false, ite_true, ite_false, reduceIte, not_true, not_false, and_true, true_and, and_false, false_and, or_true, true_or, or_false, false_or, eq_self, h25, zadd]
    · refine ⟨τ, ?_, Fr.rfl, by rw [gon_f hn]; exact h25⟩
      unfold isWs at hn
      unfold f_X12_token_0_b
      simp only [to_bq, l_0, l_1, l_2, l_3, l_4, l_5, l_6, l_7, l_8, l_9, l_10, l_11, l_12, l_13, l_14, l_15, l_16, l_17, l_18, l_19, l_20, l_21, l_22, l_23, l_24, l_25, l_26, l_27, l_28, l_29, l_30, l_31, l_32, l_40, l_41, l_42, l_43, l_44, l_45, l_46, l_47, l_48, l_49, l_50, l_51, l_52, l_53, l_54, l_55, l_56, l_57, l_58, l_59, l_60, l_61, l_62, l_63, l_64, l_72, l_97, l_99, l_100, l_104, l_120, l_122, l_128, l_140, l_255, l_256, l_257, l_258, l_260, l_261, l_262, l_364, l_680, l_700, l_701, l_840, l_999, l_1023, l_1024, l_9999, l_10000, l_1000000, lm]
      simp (disch := first | (with_reducible assumption) | omega | exact ⟨by omega, by omega⟩ | ((with_reducible first | apply Wf.wI | apply Wf.wL | apply Wf.fL | apply Wf.fI | apply Wf.fr); (repeat (with_reducible first | assumption | apply Wf.wI | apply Wf.wL | apply Wf.fL | apply Wf.fI | apply Wf.fr)))) only [m_here h h25 (show p ≤ 700 by omega), bq_n, bd_s, mp_s, rz_0, rz_1, bI_rz, hrv_n h.tb h7, show (p < n ∧ T p = 10) = False from eq_false (by omega), show (p < n ∧ T p = 32) = False from eq_false (by omega), if_true, if_false, ite_true, ite_false, reduceIte, not_true, not_false, and_true, true_and, and_false, false_and, or_true, true_or, or_false, false_or, eq_self]
theorem m_token (h : LxR σ T n) (h25 : ah_I σ 225 25 = nI p) (hp : p ≤ n) : ∃ τ, f_X12_token 225 σ = some τ ∧ Fr Xtk σ τ ∧ RTk τ (lex T n p) := by
  have h7 := h.2.1
  obtain ⟨τ1, e1, e2, e3⟩ := m_tk0 (n - p) p 5000 σ (Nat.le_refl _) (by omega) h h25 hp
  have f1 := e2.mono (Y := Xtk) (fun a j z => by unfold Xtk; omega)
  obtain ⟨τ2, g1, g2, g3⟩ := m_tk31 (h.fr f1) e3 (gon_le hp)
  refine ⟨τ2, ?_, f1.trans g2, g3⟩
  unfold f_X12_token
  rw [ck_225 h.1, e1, g1]
end
