/-! FLOWS of the reference: all corners -/
theorem ofN (n : Nat) : Int32.ofNat n = nI n := rfl
theorem narZ0 : vp_nar .boolean (nI 0) = nI 0 := by decide
theorem narZ1 : vp_nar .boolean (nI 1) = nI 1 := by decide
section
variable {σ : ah_H} {D : DD} {e : Nat} {st : Nat → Option Nat} {cp : Nat → Nat}
theorem m_run2 (fl : Int32) : ∀ m k fu (σ : ah_H), k + m = 7 → m < fu → Wf σ → f_X12_run_2 fu 225 fl (nI k) σ = f_X12_run_21 225 fl (ah_fI σ 254 k 7 (nI 0)) := by
  intro m
  induction m with
  | zero =>
    intro k fu σ hk hf hw
    obtain ⟨fu, rfl⟩ : ∃ q, fu = q + 1 := ⟨fu - 1, by omega⟩
    obtain rfl : k = 7 := by omega
    show f_X12_run_2_b _ _ _ _ _ = _
    unfold f_X12_run_2_b
    simp only [to_bq, l_0, l_1, l_2, l_3, l_4, l_5, l_6, l_7, l_8, l_9, l_10, l_11, l_12, l_13, l_14, l_15, l_16, l_17, l_18, l_19, l_20, l_21, l_22, l_23, l_24, l_25, l_26, l_27, l_28, l_29, l_30, l_31, l_32, l_40, l_41, l_42, l_43, l_44, l_45, l_46, l_47, l_48, l_49, l_50, l_51, l_52, l_53, l_54, l_55, l_56, l_57, l_58, l_59, l_60, l_61, l_62, l_63, l_64, l_72, l_97, l_99, l_100, l_104, l_120, l_122, l_128, l_140, l_255, l_256, l_257, l_258, l_260, l_261, l_262, l_364, l_680, l_700, l_701, l_840, l_999, l_1023, l_1024, l_9999, l_10000, l_1000000, lm]
    simp (disch := first | (with_reducible assumption) | omega | exact ⟨by omega, by omega⟩ | ((with_reducible first | apply Wf.wI | apply Wf.wL | apply Wf.fL | apply Wf.fI | apply Wf.fr); (repeat (with_reducible first | assumption | apply Wf.wI | apply Wf.wL | apply Wf.fL | apply Wf.fI | apply Wf.fr)))) only [zadd, zmul, zsub, le_nI, lt_nI, eq_nI, neg_nI, gen_nI, neg_lt, neg_le, neg_lt', neg_le', nI_lt0, Nat.reduceEqDiff, Nat.reduceAdd, Nat.reduceMul, Nat.reduceSub, Nat.reduceLT, Nat.reduceLeDiff, Nat.add_sub_cancel, Nat.zero_add, Nat.add_zero, Nat.mul_zero, Nat.zero_mul, if_true, if_false, ite_true, ite_false, reduceIte, not_true, not_false, and_true, true_and, and_false, false_and, or_true, true_or, or_false, false_or, eq_self, fI_0]
  | succ m ih =>
    intro k fu σ hk hf hw
    obtain ⟨fu, rfl⟩ : ∃ q, fu = q + 1 := ⟨fu - 1, by omega⟩
    show f_X12_run_2_b _ _ _ _ _ = _
    unfold f_X12_run_2_b
    simp only [to_bq, l_0, l_1, l_2, l_3, l_4, l_5, l_6, l_7, l_8, l_9, l_10, l_11, l_12, l_13, l_14, l_15, l_16, l_17, l_18, l_19, l_20, l_21, l_22, l_23, l_24, l_25, l_26, l_27, l_28, l_29, l_30, l_31, l_32, l_40, l_41, l_42, l_43, l_44, l_45, l_46, l_47, l_48, l_49, l_50, l_51, l_52, l_53, l_54, l_55, l_56, l_57, l_58, l_59, l_60, l_61, l_62, l_63, l_64, l_72, l_97, l_99, l_100, l_104, l_120, l_122, l_128, l_140, l_255, l_256, l_257, l_258, l_260, l_261, l_262, l_364, l_680, l_700, l_701, l_840, l_999, l_1023, l_1024, l_9999, l_10000, l_1000000, lm]
    simp (disch := first | (with_reducible assumption) | omega | exact ⟨by omega, by omega⟩ | ((with_reducible first | apply Wf.wI | apply Wf.wL | apply Wf.fL | apply Wf.fI | apply Wf.fr); (repeat (with_reducible first | assumption | apply Wf.wI | apply Wf.wL | apply Wf.fL | apply Wf.fI | apply Wf.fr)))) only [ck_225, gI_225, gL_225, pI_225, pZ0_225, pZ1_225, pL_225, gR_225_1, gR_225_3, gR_225_4, gR_225_5, gR_225_6, gR_225_7, gR_225_8, gR_225_9, gR_225_10, gR_225_11, gR_225_12, gR_225_13, gR_225_14, gR_225_15, gR_225_16, gR_225_17, gR_225_18, gR_225_19, gR_225_20, gR_225_21, gR_225_35, gR_225_36, gR_225_38, gR_225_39, gR_225_40, gR_225_41, gR_225_43, gR_225_44, gR_225_45, gR_225_48, gR_225_49, gR_225_50, gR_225_51, gR_225_53, gR_225_54, gR_225_55, gR_225_56, gR_225_58, gR_225_59, gR_225_60, gR_225_61, gR_225_62, gR_225_63, gR_225_66, gR_225_67, bq_s, bd_s, mp_s, rz_0, rz_1, bI_rz, zadd, zmul, zsub, le_nI, lt_nI, eq_nI, neg_nI, gen_nI, neg_lt, neg_le, neg_lt', neg_le', nI_lt0, if_true, if_false, ite_true, ite_false, reduceIte, not_true, not_false, and_true, true_and, and_false, false_and, or_true, true_or, or_false, false_or, eq_self, sZ_254, narZ0, show (7 ≤ k) = False from eq_false (by omega)]
    rw [ih (k + 1) fu _ (by omega) (by omega) (hw.wI _ _ _), fI_s _ _ (by omega)]
def ah_z2 (σ : ah_H) (k : Nat) : ah_H := (σ.1, fun b j => if (b = 252 ∨ b = 253) ∧ k ≤ j ∧ j < 840 then iL 0 else σ.2.1 b j, σ.2.2)
theorem m_run23 (fl : Int32) : ∀ m k fu (σ : ah_H), k + m = 840 → m < fu → Wf σ → f_X12_run_23 fu 225 fl (nI k) σ = f_X12_run_52 225 fl (ah_z2 σ k) := by
  intro m
  induction m with
  | zero =>
    intro k fu σ hk hf hw
    obtain ⟨fu, rfl⟩ : ∃ q, fu = q + 1 := ⟨fu - 1, by omega⟩
    obtain rfl : k = 840 := by omega
    show f_X12_run_23_b _ _ _ _ _ = _
    unfold f_X12_run_23_b
    simp only [to_bq, l_0, l_1, l_2, l_3, l_4, l_5, l_6, l_7, l_8, l_9, l_10, l_11, l_12, l_13, l_14, l_15, l_16, l_17, l_18, l_19, l_20, l_21, l_22, l_23, l_24, l_25, l_26, l_27, l_28, l_29, l_30, l_31, l_32, l_40, l_41, l_42, l_43, l_44, l_45, l_46, l_47, l_48, l_49, l_50, l_51, l_52, l_53, l_54, l_55, l_56, l_57, l_58, l_59, l_60, l_61, l_62, l_63, l_64, l_72, l_97, l_99, l_100, l_104, l_120, l_122, l_128, l_140, l_255, l_256, l_257, l_258, l_260, l_261, l_262, l_364, l_680, l_700, l_701, l_840, l_999, l_1023, l_1024, l_9999, l_10000, l_1000000, lm]
    simp (disch := first | (with_reducible assumption) | omega | exact ⟨by omega, by omega⟩ | ((with_reducible first | apply Wf.wI | apply Wf.wL | apply Wf.fL | apply Wf.fI | apply Wf.fr); (repeat (with_reducible first | assumption | apply Wf.wI | apply Wf.wL | apply Wf.fL | apply Wf.fI | apply Wf.fr)))) only [ck_225, gI_225, gL_225, pI_225, pZ0_225, pZ1_225, pL_225, gR_225_1, gR_225_3, gR_225_4, gR_225_5, gR_225_6, gR_225_7, gR_225_8, gR_225_9, gR_225_10, gR_225_11, gR_225_12, gR_225_13, gR_225_14, gR_225_15, gR_225_16, gR_225_17, gR_225_18, gR_225_19, gR_225_20, gR_225_21, gR_225_35, gR_225_36, gR_225_38, gR_225_39, gR_225_40, gR_225_41, gR_225_43, gR_225_44, gR_225_45, gR_225_48, gR_225_49, gR_225_50, gR_225_51, gR_225_53, gR_225_54, gR_225_55, gR_225_56, gR_225_58, gR_225_59, gR_225_60, gR_225_61, gR_225_62, gR_225_63, gR_225_66, gR_225_67, bq_s, bd_s, mp_s, rz_0, rz_1, bI_rz, len_252, ofN, zadd, zmul, zsub, le_nI, lt_nI, eq_nI, neg_nI, gen_nI, neg_lt, neg_le, neg_lt', neg_le', nI_lt0, Nat.reduceEqDiff, Nat.reduceAdd, Nat.reduceMul, Nat.reduceSub, Nat.reduceLT, Nat.reduceLeDiff, Nat.add_sub_cancel, Nat.zero_add, Nat.add_zero, Nat.mul_zero, Nat.zero_mul, if_true, if_false, ite_true, ite_false, reduceIte, not_true, not_false, and_true, true_and, and_false, false_and, or_true, true_or, or_false, false_or, eq_self, Nat.le_refl]
    have : ah_z2 σ 840 = σ := by
      have : (fun b j => if (b = 252 ∨ b = 253) ∧ 840 ≤ j ∧ j < 840 then iL 0 else σ.2.1 b j) = σ.2.1 := funext fun b => funext fun j => if_neg (by omega)
      unfold ah_z2
      rw [this]
    rw [this]
  | succ m ih =>
    intro k fu σ hk hf hw
    obtain ⟨fu, rfl⟩ : ∃ q, fu = q + 1 := ⟨fu - 1, by omega⟩
    show f_X12_run_23_b _ _ _ _ _ = _
    unfold f_X12_run_23_b
    simp only [to_bq, l_0, l_1, l_2, l_3, l_4, l_5, l_6, l_7, l_8, l_9, l_10, l_11, l_12, l_13, l_14, l_15, l_16, l_17, l_18, l_19, l_20, l_21, l_22, l_23, l_24, l_25, l_26, l_27, l_28, l_29, l_30, l_31, l_32, l_40, l_41, l_42, l_43, l_44, l_45, l_46, l_47, l_48, l_49, l_50, l_51, l_52, l_53, l_54, l_55, l_56, l_57, l_58, l_59, l_60, l_61, l_62, l_63, l_64, l_72, l_97, l_99, l_100, l_104, l_120, l_122, l_128, l_140, l_255, l_256, l_257, l_258, l_260, l_261, l_262, l_364, l_680, l_700, l_701, l_840, l_999, l_1023, l_1024, l_9999, l_10000, l_1000000, lm]
    simp (disch := first | (with_reducible assumption) | omega | exact ⟨by omega, by omega⟩ | ((with_reducible first | apply Wf.wI | apply Wf.wL | apply Wf.fL | apply Wf.fI | apply Wf.fr); (repeat (with_reducible first | assumption | apply Wf.wI | apply Wf.wL | apply Wf.fL | apply Wf.fI | apply Wf.fr)))) only [ck_225, gI_225, gL_225, pI_225, pZ0_225, pZ1_225, pL_225, gR_225_1, gR_225_3, gR_225_4, gR_225_5, gR_225_6, gR_225_7, gR_225_8, gR_225_9, gR_225_10, gR_225_11, gR_225_12, gR_225_13, gR_225_14, gR_225_15, gR_225_16, gR_225_17, gR_225_18, gR_225_19, gR_225_20, gR_225_21, gR_225_35, gR_225_36, gR_225_38, gR_225_39, gR_225_40, gR_225_41, gR_225_43, gR_225_44, gR_225_45, gR_225_48, gR_225_49, gR_225_50, gR_225_51, gR_225_53, gR_225_54, gR_225_55, gR_225_56, gR_225_58, gR_225_59, gR_225_60, gR_225_61, gR_225_62, gR_225_63, gR_225_66, gR_225_67, bq_s, bd_s, mp_s, rz_0, rz_1, bI_rz, len_252, ofN, zadd, zmul, zsub, le_nI, lt_nI, eq_nI, neg_nI, gen_nI, neg_lt, neg_le, neg_lt', neg_le', nI_lt0, if_true, if_false, ite_true, ite_false, reduceIte, not_true, not_false, and_true, true_and, and_false, false_and, or_true, true_or, or_false, false_or, eq_self, sL_252, sL_253, q_0, show (840 ≤ k) = False from eq_false (by omega)]
    rw [ih (k + 1) fu _ (by omega) (by omega) ((hw.wL _ _ _).wL _ _ _)]
    congr 1
    have : (fun b j => if (b = 252 ∨ b = 253) ∧ k + 1 ≤ j ∧ j < 840 then iL 0 else (ah_wL (ah_wL σ 252 k (iL 0)) 253 k (iL 0)).2.1 b j) = (fun b j => if (b = 252 ∨ b = 253) ∧ k ≤ j ∧ j < 840 then iL 0 else σ.2.1 b j) := by
      funext b j
      show (if _ then _ else if b = 253 ∧ j = k then iL 0 else if b = 252 ∧ j = k then iL 0 else σ.2.1 b j) = _
      (repeat' split) <;> first | rfl | (exfalso; omega)
    unfold ah_z2
    rw [this]
    rfl
/-- corners that aren't done -/
def und (D : DD) (σ : ah_H) : Nat := sm (fun c => if ah_I σ 254 c = nI 0 then 1 else 0) (nC D)
/-- as the flows run -/
def RI (σ : ah_H) (D : DD) (st : Nat → Option Nat) (cp : Nat → Nat) (τ : ah_H) : Prop := Fr Xr σ τ ∧ ∀ c, c < nC D → (ah_I τ 254 c = nI 1 ∧ st c ≠ none ∧ ¬ Rg (nx D st) (nC D) c ∧ GV τ D st cp c) ∨ (ah_I τ 254 c = nI 0 ∧ ZV τ D c)
/-- all that can be done is -/
def RE (D : DD) (st : Nat → Option Nat) (τ : ah_H) (k : Nat) : Prop := ∀ c, c < k → ah_I τ 254 c = nI 0 → st c ≠ none → ¬ Rg (nx D st) (nC D) c → ∃ o, o < nC D ∧ nx D st o = some c ∧ ah_I τ 254 o = nI 0
def HF (σ : ah_H) (D : DD) (st : Nat → Option Nat) (cp : Nat → Nat) (fl : Int32) : Prop := ∀ τ c, Fr Xr σ τ → c < nC D → st c ≠ none → (∀ o, o < nC D → nx D st o = some c → GV τ D st cp o) → Hd (nx D st) (nC D) (nC D) c → Ok (f_X12_flowOf 225 (nI c) fl τ) (fun ρ => Fr (Xo c) τ ρ ∧ GV ρ D st cp c)
theorem m_run62 (h0 : MInv σ D) (hs0 : StR σ D e st) {fl : Int32} (hF : HF σ D st cp fl) (K54 : Nat → Int32 → Int32 → ah_H → Option ah_H) (N0 : Nat) : ∀ m k fu τ (mo : Int32), k + m = nC D → m < fu → RI σ D st cp τ → (mo = nI 0 ∧ und D τ = N0 ∧ RE D st τ k ∨ mo = nI 1 ∧ und D τ < N0) → ∃ ρ mo', f_X12_run_62 K54 fu 225 fl mo (nI k) τ = K54 225 fl mo' ρ ∧ RI σ D st cp ρ ∧ (mo' = nI 0 ∧ RE D st ρ (nC D) ∨ mo' = nI 1 ∧ und D ρ < N0) := by
  have b1 := h0.bd
  intro m
  induction m with
  | zero =>
    intro k fu τ mo hk hf hI hP
    obtain ⟨fu, rfl⟩ : ∃ q, fu = q + 1 := ⟨fu - 1, by omega⟩
    obtain rfl : k = nC D := by omega
    have h : MInv τ D := h0.q (hI.1.mono Xr_q)
    have hw := h.w
    refine ⟨τ, mo, ?_, hI, ?_⟩
    · show f_X12_run_62_b _ _ _ _ _ _ _ = _
      unfold f_X12_run_62_b f_X12_run_129
      simp only [to_bq, l_0, l_1, l_2, l_3, l_4, l_5, l_6, l_7, l_8, l_9, l_10, l_11, l_12, l_13, l_14, l_15, l_16, l_17, l_18, l_19, l_20, l_21, l_22, l_23, l_24, l_25, l_26, l_27, l_28, l_29, l_30, l_31, l_32, l_40, l_41, l_42, l_43, l_44, l_45, l_46, l_47, l_48, l_49, l_50, l_51, l_52, l_53, l_54, l_55, l_56, l_57, l_58, l_59, l_60, l_61, l_62, l_63, l_64, l_72, l_97, l_99, l_100, l_104, l_120, l_122, l_128, l_140, l_255, l_256, l_257, l_258, l_260, l_261, l_262, l_364, l_680, l_700, l_701, l_840, l_999, l_1023, l_1024, l_9999, l_10000, l_1000000, lm]
      simp (disch := first | (with_reducible assumption) | omega | exact ⟨by omega, by omega⟩ | ((with_reducible first | apply Wf.wI | apply Wf.wL | apply Wf.fL | apply Wf.fI | apply Wf.fr); (repeat (with_reducible first | assumption | apply Wf.wI | apply Wf.wL | apply Wf.fL | apply Wf.fI | apply Wf.fr)))) only [ck_225, gI_225, gL_225, pI_225, pZ0_225, pZ1_225, pL_225, gR_225_1, gR_225_3, gR_225_4, gR_225_5, gR_225_6, gR_225_7, gR_225_8, gR_225_9, gR_225_10, gR_225_11, gR_225_12, gR_225_13, gR_225_14, gR_225_15, gR_225_16, gR_225_17, gR_225_18, gR_225_19, gR_225_20, gR_225_21, gR_225_35, gR_225_36, gR_225_38, gR_225_39, gR_225_40, gR_225_41, gR_225_43, gR_225_44, gR_225_45, gR_225_48, gR_225_49, gR_225_50, gR_225_51, gR_225_53, gR_225_54, gR_225_55, gR_225_56, gR_225_58, gR_225_59, gR_225_60, gR_225_61, gR_225_62, gR_225_63, gR_225_66, gR_225_67, bq_s, bd_s, mp_s, rz_0, rz_1, bI_rz, zadd, zmul, zsub, le_nI, lt_nI, eq_nI, neg_nI, gen_nI, neg_lt, neg_le, neg_lt', neg_le', nI_lt0, if_true, if_false, ite_true, ite_false, reduceIte, not_true, not_false, and_true, true_and, and_false, false_and, or_true, true_or, or_false, false_or, eq_self, aI_227, rd_C h, Nat.le_refl]
    · rcases hP with ⟨p1, p2, p3⟩ | p
      · exact Or.inl ⟨p1, p3⟩
      · exact Or.inr p
  | succ m ih =>
    intro k fu τ mo hk hf hI hP
    obtain ⟨fu, rfl⟩ : ∃ q, fu = q + 1 := ⟨fu - 1, by omega⟩
    have h : MInv τ D := h0.q (hI.1.mono Xr_q)
    have hs := hs0.xr b1.1 hI.1
    have hw := h.w
    have hk' : k < nC D := by omega
    have hnl := hs.nxl h.t
    -- it stays as it is
    have stay : (ah_I τ 254 k = nI 0 → st k ≠ none → ¬ Rg (nx D st) (nC D) k → ∃ o, o < nC D ∧ nx D st o = some k ∧ ah_I τ 254 o = nI 0) → ∃ ρ mo', f_X12_run_62 K54 fu 225 fl mo (nI (k + 1)) τ = K54 225 fl mo' ρ ∧ RI σ D st cp ρ ∧ (mo' = nI 0 ∧ RE D st ρ (nC D) ∨ mo' = nI 1 ∧ und D ρ < N0) := by
      intro hx
      refine ih (k + 1) fu τ mo (by omega) (by omega) hI ?_
      rcases hP with ⟨p1, p2, p3⟩ | p
      · refine Or.inl ⟨p1, p2, fun c hc => ?_⟩
        by_cases q : c = k
        · rw [q]; exact hx
        · exact p3 c (by omega)
      · exact Or.inr p
    show ∃ ρ mo', f_X12_run_62_b _ _ _ _ _ _ _ = _ ∧ _
    unfold f_X12_run_62_b f_X12_run_123
    simp only [to_bq, l_0, l_1, l_2, l_3, l_4, l_5, l_6, l_7, l_8, l_9, l_10, l_11, l_12, l_13, l_14, l_15, l_16, l_17, l_18, l_19, l_20, l_21, l_22, l_23, l_24, l_25, l_26, l_27, l_28, l_29, l_30, l_31, l_32, l_40, l_41, l_42, l_43, l_44, l_45, l_46, l_47, l_48, l_49, l_50, l_51, l_52, l_53, l_54, l_55, l_56, l_57, l_58, l_59, l_60, l_61, l_62, l_63, l_64, l_72, l_97, l_99, l_100, l_104, l_120, l_122, l_128, l_140, l_255, l_256, l_257, l_258, l_260, l_261, l_262, l_364, l_680, l_700, l_701, l_840, l_999, l_1023, l_1024, l_9999, l_10000, l_1000000, lm]
    simp (disch := first | (with_reducible assumption) | omega | exact ⟨by omega, by omega⟩ | ((with_reducible first | apply Wf.wI | apply Wf.wL | apply Wf.fL | apply Wf.fI | apply Wf.fr); (repeat (with_reducible first | assumption | apply Wf.wI | apply Wf.wL | apply Wf.fL | apply Wf.fI | apply Wf.fr)))) only [ck_225, gI_225, gL_225, pI_225, pZ0_225, pZ1_225, pL_225, gR_225_1, gR_225_3, gR_225_4, gR_225_5, gR_225_6, gR_225_7, gR_225_8, gR_225_9, gR_225_10, gR_225_11, gR_225_12, gR_225_13, gR_225_14, gR_225_15, gR_225_16, gR_225_17, gR_225_18, gR_225_19, gR_225_20, gR_225_21, gR_225_35, gR_225_36, gR_225_38, gR_225_39, gR_225_40, gR_225_41, gR_225_43, gR_225_44, gR_225_45, gR_225_48, gR_225_49, gR_225_50, gR_225_51, gR_225_53, gR_225_54, gR_225_55, gR_225_56, gR_225_58, gR_225_59, gR_225_60, gR_225_61, gR_225_62, gR_225_63, gR_225_66, gR_225_67, bq_s, bd_s, mp_s, rz_0, rz_1, bI_rz, zadd, zmul, zsub, le_nI, lt_nI, eq_nI, neg_nI, gen_nI, neg_lt, neg_le, neg_lt', neg_le', nI_lt0, if_true, if_false, ite_true, ite_false, reduceIte, not_true, not_false, and_true, true_and, and_false, false_and, or_true, true_or, or_false, false_or, eq_self, aI_227, aZ_254, rd_C h, show (nC D ≤ k) = False from eq_false (by omega), m_isLaid h hs hk', m_isRing h hs hk', m_isReady h hs hk', bI_0, cI_0, ite_n]
    by_cases q1 : ah_I τ 254 k = nI 0
    · rw [if_pos q1]
      by_cases q2 : st k ≠ none
      · rw [if_neg q2]
        by_cases q3 : Rg (nx D st) (nC D) k
        · rw [if_neg (by rw [cI_0]; exact fun r => r q3)]
          exact stay (fun _ _ r => absurd q3 r)
        · rw [if_pos (by rw [cI_0]; exact q3)]
          by_cases q4 : ∀ o, o < nC D → nx D st o = some k → ah_I τ 254 o ≠ nI 0
          · rw [if_pos q4]
            have hH : Hd (nx D st) (nC D) (nC D) k := (Rg_or hnl hk').resolve_left q3
            obtain ⟨ρ, g1, g2, g3⟩ := hF τ k hI.1 hk' q2 (fun o ho hx => by
              rcases hI.2 o ho with ⟨-, -, -, r⟩ | ⟨r, -⟩
              · exact r
              · exact absurd r (q4 o ho hx)) hH
            have hwρ : Wf ρ := hw.fr g2
            rw [g1]
            simp (disch := first | (with_reducible assumption) | omega | exact ⟨by omega, by omega⟩ | ((with_reducible first | apply Wf.wI | apply Wf.wL | apply Wf.fL | apply Wf.fI | apply Wf.fr); (repeat (with_reducible first | assumption | apply Wf.wI | apply Wf.wL | apply Wf.fL | apply Wf.fI | apply Wf.fr)))) only [ck_225, gI_225, gL_225, pI_225, pZ0_225, pZ1_225, pL_225, gR_225_1, gR_225_3, gR_225_4, gR_225_5, gR_225_6, gR_225_7, gR_225_8, gR_225_9, gR_225_10, gR_225_11, gR_225_12, gR_225_13, gR_225_14, gR_225_15, gR_225_16, gR_225_17, gR_225_18, gR_225_19, gR_225_20, gR_225_21, gR_225_35, gR_225_36, gR_225_38, gR_225_39, gR_225_40, gR_225_41, gR_225_43, gR_225_44, gR_225_45, gR_225_48, gR_225_49, gR_225_50, gR_225_51, gR_225_53, gR_225_54, gR_225_55, gR_225_56, gR_225_58, gR_225_59, gR_225_60, gR_225_61, gR_225_62, gR_225_63, gR_225_66, gR_225_67, bq_s, bd_s, mp_s, rz_0, rz_1, bI_rz, zadd, zmul, zsub, le_nI, lt_nI, eq_nI, neg_nI, gen_nI, neg_lt, neg_le, neg_lt', neg_le', nI_lt0, sZ_254, narZ1]
            have f1 : Fr Xr τ (ah_wI ρ 254 k (nI 1)) := (g2.mono Xo_r).wI (by unfold Xr; omega)
            have e254 : ∀ c, c ≠ k → ah_I (ah_wI ρ 254 k (nI 1)) 254 c = ah_I τ 254 c := fun c hc => by
              rw [rI_ne (Or.inr hc)]
              exact g2.I (by unfold Xo Xv Xc; omega)
            have eL : ∀ c a j, c ≠ k → 252 ≤ a → a ≤ 253 → 120 * c ≤ j → j < 120 * c + 120 → ah_L (ah_wI ρ 254 k (nI 1)) a j = ah_L τ a j := fun c a j hc _ _ _ _ => by
              rw [ah_L_wI]
              exact g2.L (by unfold Xo Xv Xc; omega)
            refine ih (k + 1) fu _ (nI 1) (by omega) (by omega) ⟨hI.1.trans f1, ?_⟩ (Or.inr ⟨rfl, ?_⟩)
            · intro c hc
              by_cases q5 : c = k
              · subst q5
                exact Or.inl ⟨rI_eq, q2, q3, g3.fr (fun a j _ _ _ _ => ah_L_wI ..) b1.2.2.2.1⟩
              · rcases hI.2 c hc with ⟨r1, r2, r3, r4⟩ | ⟨r1, r2⟩
                · exact Or.inl ⟨(e254 c q5).trans r1, r2, r3, r4.fr (fun a j => eL c a j q5) b1.2.2.2.1⟩
                · exact Or.inr ⟨(e254 c q5).trans r1, r2.fr (fun a j => eL c a j q5) b1.2.2.2.1⟩
            · have hu : und D τ = und D (ah_wI ρ 254 k (nI 1)) + 1 := by
                refine sm_one (x := k) hk' (fun o _ ho => ?_) ?_
                · show (if _ then _ else _) = (if _ then _ else _)
                  rw [e254 o ho]
                · show (if _ then _ else _) = (if _ then _ else _) + 1
                  rw [if_pos q1, rI_eq, if_neg (by decide)]
              rcases hP with ⟨-, p2, -⟩ | ⟨-, p2⟩ <;> omega
          · rw [if_neg q4]
            refine stay (fun _ _ _ => ?_)
            apply Classical.byContradiction
            intro r
            exact q4 (fun o ho hx hz => r ⟨o, ho, hx, hz⟩)
      · rw [if_pos (Classical.not_not.mp q2)]
        exact stay (fun _ r => absurd r q2)
    · rw [if_neg q1]
      exact stay (fun r => absurd r q1)
theorem m_run54 (h0 : MInv σ D) (hs0 : StR σ D e st) {fl : Int32} (hF : HF σ D st cp fl) : ∀ N fu τ, und D τ ≤ N → N + 1 < fu → RI σ D st cp τ → Ok (f_X12_run_54 fu 225 fl (nI 1) τ) (fun ρ => RI σ D st cp ρ ∧ RE D st ρ (nC D)) := by
  have b1 := h0.bd
  intro N
  induction N with
  | zero =>
    intro fu τ hu hf hI
    obtain ⟨fu, rfl⟩ : ∃ q, fu = q + 2 := ⟨fu - 2, by omega⟩
    obtain ⟨ρ, mo, g1, g2, g3⟩ := m_run62 h0 hs0 hF (f_X12_run_54 (fu + 1)) (und D τ) (nC D) 0 5000 τ (nI 0) (by omega) (by omega) hI (Or.inl ⟨rfl, rfl, fun c hc => by omega⟩)
    show Ok (f_X12_run_54_b _ _ _ _ _) _
    unfold f_X12_run_54_b
    simp only [to_bq, l_0, l_1, l_2, l_3, l_4, l_5, l_6, l_7, l_8, l_9, l_10, l_11, l_12, l_13, l_14, l_15, l_16, l_17, l_18, l_19, l_20, l_21, l_22, l_23, l_24, l_25, l_26, l_27, l_28, l_29, l_30, l_31, l_32, l_40, l_41, l_42, l_43, l_44, l_45, l_46, l_47, l_48, l_49, l_50, l_51, l_52, l_53, l_54, l_55, l_56, l_57, l_58, l_59, l_60, l_61, l_62, l_63, l_64, l_72, l_97, l_99, l_100, l_104, l_120, l_122, l_128, l_140, l_255, l_256, l_257, l_258, l_260, l_261, l_262, l_364, l_680, l_700, l_701, l_840, l_999, l_1023, l_1024, l_9999, l_10000, l_1000000, lm]
    simp (disch := first | (with_reducible assumption) | omega | exact ⟨by omega, by omega⟩ | ((with_reducible first | apply Wf.wI | apply Wf.wL | apply Wf.fL | apply Wf.fI | apply Wf.fr); (repeat (with_reducible first | assumption | apply Wf.wI | apply Wf.wL | apply Wf.fL | apply Wf.fI | apply Wf.fr)))) only [zadd, zmul, zsub, le_nI, lt_nI, eq_nI, neg_nI, gen_nI, neg_lt, neg_le, neg_lt', neg_le', nI_lt0, Nat.reduceEqDiff, Nat.reduceAdd, Nat.reduceMul, Nat.reduceSub, Nat.reduceLT, Nat.reduceLeDiff, Nat.add_sub_cancel, Nat.zero_add, Nat.add_zero, Nat.mul_zero, Nat.zero_mul, if_true, if_false, ite_true, ite_false, reduceIte, not_true, not_false, and_true, true_and, and_false, false_and, or_true, true_or, or_false, false_or, eq_self]
    rw [g1]
    rcases g3 with ⟨rfl, g4⟩ | ⟨-, g4⟩
    · show Ok (f_X12_run_54_b _ _ _ _ _) _
      unfold f_X12_run_54_b
      simp (disch := first | (with_reducible assumption) | omega | exact ⟨by omega, by omega⟩ | ((with_reducible first | apply Wf.wI | apply Wf.wL | apply Wf.fL | apply Wf.fI | apply Wf.fr); (repeat (with_reducible first | assumption | apply Wf.wI | apply Wf.wL | apply Wf.fL | apply Wf.fI | apply Wf.fr)))) only [l_0, if_true, if_false, ite_true, ite_false, reduceIte, not_true, not_false, and_true, true_and, and_false, false_and, or_true, true_or, or_false, false_or, eq_self]
      exact ⟨ρ, rfl, g2, g4⟩
    · omega
  | succ N ih =>
    intro fu τ hu hf hI
    obtain ⟨fu, rfl⟩ : ∃ q, fu = q + 2 := ⟨fu - 2, by omega⟩
    obtain ⟨ρ, mo, g1, g2, g3⟩ := m_run62 h0 hs0 hF (f_X12_run_54 (fu + 1)) (und D τ) (nC D) 0 5000 τ (nI 0) (by omega) (by omega) hI (Or.inl ⟨rfl, rfl, fun c hc => by omega⟩)
    show Ok (f_X12_run_54_b _ _ _ _ _) _
    unfold f_X12_run_54_b
    simp only [to_bq, l_0, l_1, l_2, l_3, l_4, l_5, l_6, l_7, l_8, l_9, l_10, l_11, l_12, l_13, l_14, l_15, l_16, l_17, l_18, l_19, l_20, l_21, l_22, l_23, l_24, l_25, l_26, l_27, l_28, l_29, l_30, l_31, l_32, l_40, l_41, l_42, l_43, l_44, l_45, l_46, l_47, l_48, l_49, l_50, l_51, l_52, l_53, l_54, l_55, l_56, l_57, l_58, l_59, l_60, l_61, l_62, l_63, l_64, l_72, l_97, l_99, l_100, l_104, l_120, l_122, l_128, l_140, l_255, l_256, l_257, l_258, l_260, l_261, l_262, l_364, l_680, l_700, l_701, l_840, l_999, l_1023, l_1024, l_9999, l_10000, l_1000000, lm]
    simp (disch := first | (with_reducible assumption) | omega | exact ⟨by omega, by omega⟩ | ((with_reducible first | apply Wf.wI | apply Wf.wL | apply Wf.fL | apply Wf.fI | apply Wf.fr); (repeat (with_reducible first | assumption | apply Wf.wI | apply Wf.wL | apply Wf.fL | apply Wf.fI | apply Wf.fr)))) only [zadd, zmul, zsub, le_nI, lt_nI, eq_nI, neg_nI, gen_nI, neg_lt, neg_le, neg_lt', neg_le', nI_lt0, Nat.reduceEqDiff, Nat.reduceAdd, Nat.reduceMul, Nat.reduceSub, Nat.reduceLT, Nat.reduceLeDiff, Nat.add_sub_cancel, Nat.zero_add, Nat.add_zero, Nat.mul_zero, Nat.zero_mul, if_true, if_false, ite_true, ite_false, reduceIte, not_true, not_false, and_true, true_and, and_false, false_and, or_true, true_or, or_false, false_or, eq_self]
    rw [g1]
    rcases g3 with ⟨rfl, g4⟩ | ⟨rfl, g4⟩
    · show Ok (f_X12_run_54_b _ _ _ _ _) _
      unfold f_X12_run_54_b
      simp (disch := first | (with_reducible assumption) | omega | exact ⟨by omega, by omega⟩ | ((with_reducible first | apply Wf.wI | apply Wf.wL | apply Wf.fL | apply Wf.fI | apply Wf.fr); (repeat (with_reducible first | assumption | apply Wf.wI | apply Wf.wL | apply Wf.fL | apply Wf.fI | apply Wf.fr)))) only [l_0, if_true, if_false, ite_true, ite_false, reduceIte, not_true, not_false, and_true, true_and, and_false, false_and, or_true, true_or, or_false, false_or, eq_self]
      exact ⟨ρ, rfl, g2, g4⟩
    · exact ih (fu + 1) ρ (by omega) (by omega) g2
/-- flows and floods of a pipe -/
noncomputable def flw (D : DD) (st : Nat → Option Nat) (cp : Nat → Nat) (r c t : Nat) : Nat := cif (st c = none ∨ Rg (nx D st) (nC D) c) 0 (lim cp c (FF D st cp r c t))
noncomputable def fld (D : DD) (st : Nat → Option Nat) (cp : Nat → Nat) (r c t : Nat) : Nat := cif (st c = none ∨ Rg (nx D st) (nC D) c) 0 (FF D st cp r c t - lim cp c (FF D st cp r c t))
def FlR (σ : ah_H) (D : DD) (st : Nat → Option Nat) (cp : Nat → Nat) : Prop := ∀ c, c < nC D → ∀ r, r < nR D → ∀ t, t < 30 → ah_L σ 252 (atf c r t) = iL ((flw D st cp r c t : Nat) : Int) ∧ ah_L σ 253 (atf c r t) = iL ((fld D st cp r c t : Nat) : Int)
theorem run_done (hn : ∀ c k, c < nC D → nx D st c = some k → k < nC D) {τ : ah_H} (hI : RI σ D st cp τ) (hE : RE D st τ (nC D)) : ∀ d c, c < nC D → Hd (nx D st) (nC D) d c → st c ≠ none → ah_I τ 254 c ≠ nI 0 := by
  intro d
  induction d with
  | zero => intro c _ h; exact h.elim
  | succ d ih =>
    intro c hc hH hx hz
    have hR : ¬ Rg (nx D st) (nC D) c := fun q => Rg_nHd hn hc q hH
    obtain ⟨o, ho, ho1, ho2⟩ := hE c hc hz hx hR
    refine ih o ho (hH o ho ho1) ?_ ho2
    intro q
    unfold nx at ho1
    rw [q] at ho1
    cases ho1
theorem m_run' (h : MInv σ D) (hs : StR σ D e st) {fl : Int32} (hF : ∀ σ' : ah_H, Fr Xr σ σ' → HF σ' D st cp fl) : Ok (f_X12_run 225 fl σ) (fun ρ => Fr Xr σ ρ ∧ FlR ρ D st cp) := by
  have hw := h.w
  have b1 := h.bd
  have hnl := hs.nxl h.t
  unfold f_X12_run f_X12_run_0
  simp only [to_bq, l_0, l_1, l_2, l_3, l_4, l_5, l_6, l_7, l_8, l_9, l_10, l_11, l_12, l_13, l_14, l_15, l_16, l_17, l_18, l_19, l_20, l_21, l_22, l_23, l_24, l_25, l_26, l_27, l_28, l_29, l_30, l_31, l_32, l_40, l_41, l_42, l_43, l_44, l_45, l_46, l_47, l_48, l_49, l_50, l_51, l_52, l_53, l_54, l_55, l_56, l_57, l_58, l_59, l_60, l_61, l_62, l_63, l_64, l_72, l_97, l_99, l_100, l_104, l_120, l_122, l_128, l_140, l_255, l_256, l_257, l_258, l_260, l_261, l_262, l_364, l_680, l_700, l_701, l_840, l_999, l_1023, l_1024, l_9999, l_10000, l_1000000, lm]
  rw [ck_225 hw, m_run2 fl 7 0 5000 σ (by omega) (by omega) hw]
  unfold f_X12_run_21
  rw [l_0, m_run23 fl 840 0 5000 _ (by omega) (by omega) (hw.fI _ _ _ _)]
  unfold f_X12_run_52
  rw [l_1]
  have f0 : Fr Xr σ (ah_z2 (ah_fI σ 254 0 7 (nI 0)) 0) := by
    refine ⟨fun a j n => ⟨?_, ?_⟩, fun _ _ _ => rfl, rfl⟩
    · show (if _ then _ else _) = _
      rw [if_neg (by unfold Xr at n; omega)]; rfl
    · show (if _ then _ else _) = _
      rw [if_neg (by unfold Xr at n; omega)]; rfl
  have hz : ∀ a j, 252 ≤ a → a ≤ 253 → j < 840 → ah_L (ah_z2 (ah_fI σ 254 0 7 (nI 0)) 0) a j = iL 0 := by
    intro a j h1 h2 h3
    show (if _ then _ else _) = _
    rw [if_pos (by omega)]
  have hd : ∀ c, c < 7 → ah_I (ah_z2 (ah_fI σ 254 0 7 (nI 0)) 0) 254 c = nI 0 := by
    intro c hc
    show (if _ then _ else _) = _
    rw [if_pos (by omega)]
  generalize ah_z2 (ah_fI σ 254 0 7 (nI 0)) 0 = τ at f0 hz hd ⊢
  have h' : MInv τ D := h.q (f0.mono Xr_q)
  have hs' := hs.xr b1.1 f0
  have hI : RI τ D st cp τ := ⟨Fr.rfl, fun c hc => Or.inr ⟨hd c (by omega), fun r hr t ht => ⟨hz _ _ (by omega) (by omega) (atf_lt (by omega) (by omega) ht), hz _ _ (by omega) (by omega) (atf_lt (by omega) (by omega) ht)⟩⟩⟩
  have hu : und D τ ≤ 7 := Nat.le_trans (sm_le (B := 1) (fun o _ => by show (if _ then _ else _) ≤ 1; split <;> omega)) (by omega)
  obtain ⟨ρ, g1, g2, g3⟩ := m_run54 h' hs' (hF τ f0) 7 5000 τ hu (by omega) hI
  refine ⟨ρ, g1, f0.trans g2.1, fun c hc r hr t ht => ?_⟩
  unfold flw fld
  by_cases q : st c = none ∨ Rg (nx D st) (nC D) c
  · rw [cif_t q, cif_t q]
    rcases g2.2 c hc with ⟨-, r2, r3, -⟩ | ⟨-, r2⟩
    · exact absurd q (fun q => q.elim r2 r3)
    · exact r2 r hr t ht
  · rw [cif_f q, cif_f q]
    rcases g2.2 c hc with ⟨-, -, -, r2⟩ | ⟨r1, -⟩
    · exact r2 r hr t ht
    · exact absurd r1 (run_done hnl g2 g3 (nC D) c hc ((Rg_or hnl hc).resolve_left (fun r => q (Or.inr r))) (fun r => q (Or.inl r)))
theorem m_run0 (h : MInv σ D) (hs : StR σ D e st) : Ok (f_X12_run 225 (nI 0) σ) (fun ρ => Fr Xr σ ρ ∧ FlR ρ D st plain) :=
  m_run' h hs (fun σ' f τ _ g hc _ hch hH => m_flow0 (h.q ((f.trans g).mono Xr_q)) (hs.xr h.bd.1 (f.trans g)) hc hch hH)
theorem m_run1 (h : MInv σ D) (hn : ah_I σ 225 42 = nI 0) : Ok (f_X12_run 225 (nI 1) σ) (fun ρ => Fr Xr σ ρ ∧ FlR ρ D (stD D) (capD D)) := by
  refine m_run' h (h.st0 hn) (fun σ' f τ c g hc hx hch hH => ?_)
  have hn' : ah_I τ 225 42 = nI 0 := ((f.trans g).I (by unfold Xr; omega)).trans hn
  cases hx2 : stD D c with
  | none => exact absurd hx2 hx
  | some s => exact m_flow1 (h.q ((f.trans g).mono Xr_q)) hn' hc hx2 hch hH
end
