/-! THE REFERENCE: tokens -/
def LxR (σ : ah_H) (T : Nat → Nat) (n : Nat) : Prop := Wf σ ∧ n ≤ 700 ∧ ah_I σ 225 24 = nI n ∧ (∀ j, j < 700 → ah_I σ 226 j = nI (T j) ∧ T j ≤ 255) ∧ ah_I σ 225 30 = mI 1
def hrv (T : Nat → Nat) (n p : Nat) : Int32 := if n ≤ p then mI 1 else nI (T p)
def RTk (τ : ah_H) (k : TK) : Prop := ah_I τ 225 25 = nI (tN k) ∧ ah_I τ 225 26 = nI (tP k) ∧ ah_I τ 225 27 = nI (tS k) ∧ (tS k ≤ 3 → ah_I τ 225 28 = nI (tV k))
def Xtk (a j : Nat) : Prop := a = 225 ∧ 25 ≤ j ∧ j ≤ 28
section
variable {σ τ : ah_H} {T : Nat → Nat} {n p q e : Nat}
theorem LxR.fr (h : LxR σ T n) (g : Fr Xtk σ τ) : LxR τ T n := ⟨h.1.fr g, h.2.1, by rw [g.I (by unfold Xtk; omega)]; exact h.2.2.1, fun j hj => by rw [g.I (by unfold Xtk; omega)]; exact h.2.2.2.1 j hj, by rw [g.I (by unfold Xtk; omega)]; exact h.2.2.2.2⟩
theorem m_here (h : LxR σ T n) (hp : ah_I σ 225 25 = nI p) (hb : p ≤ 700) : f_X12_here 225 σ = some (hrv T n p, σ) := by
  obtain ⟨hW, h1, h2, h3, -⟩ := h
  unfold f_X12_here f_X12_here_0 hrv
  simp only [to_bq, l_0, l_1, l_2, l_3, l_4, l_5, l_6, l_7, l_8, l_9, l_10, l_11, l_12, l_13, l_14, l_15, l_16, l_17, l_18, l_19, l_20, l_21, l_22, l_23, l_24, l_25, l_26, l_27, l_28, l_29, l_30, l_31, l_32, l_40, l_41, l_42, l_43, l_44, l_45, l_46, l_47, l_48, l_49, l_50, l_51, l_52, l_53, l_54, l_55, l_56, l_57, l_58, l_59, l_60, l_61, l_62, l_63, l_64, l_72, l_97, l_99, l_100, l_104, l_120, l_122, l_128, l_140, l_255, l_256, l_257, l_258, l_260, l_261, l_262, l_364, l_680, l_700, l_701, l_840, l_999, l_1023, l_1024, l_9999, l_10000, l_1000000, lm]
  simp (disch := first | (with_reducible assumption) | omega | exact ⟨by omega, by omega⟩ | ((with_reducible first | apply Wf.wI | apply Wf.wL | apply Wf.fL | apply Wf.fI | apply Wf.fr); (repeat (with_reducible first | assumption | apply Wf.wI | apply Wf.wL | apply Wf.fL | apply Wf.fI | apply Wf.fr)))) only [ck_225, gI_225, gL_225, pI_225, pZ0_225, pZ1_225, pL_225, gR_225_1, gR_225_3, gR_225_4, gR_225_5, gR_225_6, gR_225_7, gR_225_8, gR_225_9, gR_225_10, gR_225_11, gR_225_12, gR_225_13, gR_225_14, gR_225_15, gR_225_16, gR_225_17, gR_225_18, gR_225_19, gR_225_20, gR_225_21, gR_225_35, gR_225_36, gR_225_38, gR_225_39, gR_225_40, gR_225_41, gR_225_43, gR_225_44, gR_225_45, gR_225_48, gR_225_49, gR_225_50, gR_225_51, gR_225_53, gR_225_54, gR_225_55, gR_225_56, gR_225_58, gR_225_59, gR_225_60, gR_225_61, gR_225_62, gR_225_63, gR_225_66, gR_225_67, bq_n, bd_s, mp_s, rz_0, rz_1, bI_rz, hp, h2, le_nI]
  by_cases q : n ≤ p
  · rw [if_pos q, if_pos q]
  · rw [if_neg q, if_neg q]
    simp (disch := first | (with_reducible assumption) | omega | exact ⟨by omega, by omega⟩ | ((with_reducible first | apply Wf.wI | apply Wf.wL | apply Wf.fL | apply Wf.fI | apply Wf.fr); (repeat (with_reducible first | assumption | apply Wf.wI | apply Wf.wL | apply Wf.fL | apply Wf.fI | apply Wf.fr)))) only [aI_226, sI_226, len_226, bq_n, bd_s, mp_s, rz_0, rz_1, bI_rz, (h3 p (by omega)).1]
theorem hrv_n {c : Nat} (hT : ∀ j, j < 700 → T j ≤ 255) (h7 : n ≤ 700) (hc : c ≤ 255) : (hrv T n p = nI c) = (p < n ∧ T p = c) := by
  unfold hrv
  by_cases q : n ≤ p
  · rw [if_pos q]
    exact propext ⟨fun z => by rw [eq_comm, neg_nI (by omega) (by omega) (by omega)] at z; exact z.elim, fun z => by omega⟩
  · have := hT p (by omega)
    rw [if_neg q, eq_nI (by omega) (by omega)]
    exact propext ⟨fun z => ⟨by omega, z⟩, fun z => z.2⟩
theorem LxR.tb (h : LxR σ T n) : ∀ j, j < 700 → T j ≤ 255 := fun j hj => (h.2.2.2.1 j hj).2
theorem hrv_m (hT : ∀ j, j < 700 → T j ≤ 255) (h7 : n ≤ 700) : (hrv T n p = mI 1) = (n ≤ p) := by
  unfold hrv
  by_cases q : n ≤ p
  · rw [if_pos q]; exact propext ⟨fun _ => q, fun _ => rfl⟩
  · have := hT p (by omega)
    rw [if_neg q, neg_nI (by omega) (by omega) (by omega)]
    exact propext ⟨fun z => z.elim, fun z => absurd z q⟩
theorem m_isSmall (h : LxR σ T n) : f_X12_isSmall (hrv T n p) τ = some (cI (p < n ∧ isSm (T p)), τ) := by
  have h7 := h.2.1
  unfold f_X12_isSmall f_X12_isSmall_0 hrv
  simp only [to_bq, l_0, l_1, l_2, l_3, l_4, l_5, l_6, l_7, l_8, l_9, l_10, l_11, l_12, l_13, l_14, l_15, l_16, l_17, l_18, l_19, l_20, l_21, l_22, l_23, l_24, l_25, l_26, l_27, l_28, l_29, l_30, l_31, l_32, l_40, l_41, l_42, l_43, l_44, l_45, l_46, l_47, l_48, l_49, l_50, l_51, l_52, l_53, l_54, l_55, l_56, l_57, l_58, l_59, l_60, l_61, l_62, l_63, l_64, l_72, l_97, l_99, l_100, l_104, l_120, l_122, l_128, l_140, l_255, l_256, l_257, l_258, l_260, l_261, l_262, l_364, l_680, l_700, l_701, l_840, l_999, l_1023, l_1024, l_9999, l_10000, l_1000000, lm]
  by_cases q : n ≤ p
  · rw [if_pos q, if_pos (by decide : mI 1 < nI 97), cI_f (fun z => by omega)]; rfl
  · have := h.tb p (by omega)
    rw [if_neg q]
    simp (disch := first | (with_reducible assumption) | omega | exact ⟨by omega, by omega⟩ | ((with_reducible first | apply Wf.wI | apply Wf.wL | apply Wf.fL | apply Wf.fI | apply Wf.fr); (repeat (with_reducible first | assumption | apply Wf.wI | apply Wf.wL | apply Wf.fL | apply Wf.fI | apply Wf.fr)))) only [lt_nI, mp_s, rz_0, rz_1]
    by_cases q1 : T p < 97
    · rw [if_pos q1, cI_f (fun z => by unfold isSm at z; omega)]
    · rw [if_neg q1]
      by_cases q2 : 122 < T p
      · rw [if_pos q2, cI_f (fun z => by unfold isSm at z; omega)]
      · rw [if_neg q2, cI_t ⟨by omega, by unfold isSm; omega⟩]
theorem m_isDigit (h : LxR σ T n) : f_X12_isDigit (hrv T n p) τ = some (cI (p < n ∧ isDg (T p)), τ) := by
  have h7 := h.2.1
  unfold f_X12_isDigit f_X12_isDigit_0 hrv
  simp only [to_bq, l_0, l_1, l_2, l_3, l_4, l_5, l_6, l_7, l_8, l_9, l_10, l_11, l_12, l_13, l_14, l_15, l_16, l_17, l_18, l_19, l_20, l_21, l_22, l_23, l_24, l_25, l_26, l_27, l_28, l_29, l_30, l_31, l_32, l_40, l_41, l_42, l_43, l_44, l_45, l_46, l_47, l_48, l_49, l_50, l_51, l_52, l_53, l_54, l_55, l_56, l_57, l_58, l_59, l_60, l_61, l_62, l_63, l_64, l_72, l_97, l_99, l_100, l_104, l_120, l_122, l_128, l_140, l_255, l_256, l_257, l_258, l_260, l_261, l_262, l_364, l_680, l_700, l_701, l_840, l_999, l_1023, l_1024, l_9999, l_10000, l_1000000, lm]
  by_cases q : n ≤ p
  · rw [if_pos q, if_pos (by decide : mI 1 < nI 48), cI_f (fun z => by omega)]; rfl
  · have := h.tb p (by omega)
    rw [if_neg q]
    simp (disch := first | (with_reducible assumption) | omega | exact ⟨by omega, by omega⟩ | ((with_reducible first | apply Wf.wI | apply Wf.wL | apply Wf.fL | apply Wf.fI | apply Wf.fr); (repeat (with_reducible first | assumption | apply Wf.wI | apply Wf.wL | apply Wf.fL | apply Wf.fI | apply Wf.fr)))) only [lt_nI, mp_s, rz_0, rz_1]
    by_cases q1 : T p < 48
    · rw [if_pos q1, cI_f (fun z => by unfold isDg at z; omega)]
    · rw [if_neg q1]
      by_cases q2 : 57 < T p
      · rw [if_pos q2, cI_f (fun z => by unfold isDg at z; omega)]
      · rw [if_neg q2, cI_t ⟨by omega, by unfold isDg; omega⟩]
theorem wch {w i : Nat} (hw : w < 24) (hi : i ≤ wln w) : op_tch 1000002 (nI (wst w + i)) = some (nI (WC w i)) := by
  have h1 := wT w hw
  have h2 := wT24
  have h3 : wst w + i < 117 ∨ True := Or.inr trivial
  refine wTh (wst w + i) ?_
  have : ∀ w, w < 24 → wst w + wln w < wst 24 := by decide
  have := this w hw
  omega
theorem m_word97 {K4 : Nat → Int32 → Int32 → ah_H → Option (Int32 × ah_H)} {w : Nat} (hw : w < 24) : ∀ j i fu, i + j = wln w → j < fu → f_X12_word_97 K4 fu 225 (nI w) (nI (wst w + i)) σ = K4 225 (nI (w + 1)) (nI (wst (w + 1))) σ := by
  obtain ⟨w1, w2, w3, w4⟩ := wT w hw
  intro j
  induction j with
  | zero =>
    intro i fu hi hf
    obtain ⟨fu, rfl⟩ : ∃ q, fu = q + 1 := ⟨fu - 1, by omega⟩
    obtain rfl : i = wln w := by omega
    show f_X12_word_97_b _ _ _ _ _ _ = _
    unfold f_X12_word_97_b f_X12_word_114
    simp only [to_bq, l_0, l_1, l_2, l_3, l_4, l_5, l_6, l_7, l_8, l_9, l_10, l_11, l_12, l_13, l_14, l_15, l_16, l_17, l_18, l_19, l_20, l_21, l_22, l_23, l_24, l_25, l_26, l_27, l_28, l_29, l_30, l_31, l_32, l_40, l_41, l_42, l_43, l_44, l_45, l_46, l_47, l_48, l_49, l_50, l_51, l_52, l_53, l_54, l_55, l_56, l_57, l_58, l_59, l_60, l_61, l_62, l_63, l_64, l_72, l_97, l_99, l_100, l_104, l_120, l_122, l_128, l_140, l_255, l_256, l_257, l_258, l_260, l_261, l_262, l_364, l_680, l_700, l_701, l_840, l_999, l_1023, l_1024, l_9999, l_10000, l_1000000, lm]
    rw [wch hw (Nat.le_refl _), bq_n, wTs w hw, if_pos rfl, zadd, zadd, w2]
  | succ j ih =>
    intro i fu hi hf
    obtain ⟨fu, rfl⟩ : ∃ q, fu = q + 1 := ⟨fu - 1, by omega⟩
    have hc := wTc w hw i (by omega)
    show f_X12_word_97_b _ _ _ _ _ _ = _
    unfold f_X12_word_97_b
    simp only [to_bq, l_0, l_1, l_2, l_3, l_4, l_5, l_6, l_7, l_8, l_9, l_10, l_11, l_12, l_13, l_14, l_15, l_16, l_17, l_18, l_19, l_20, l_21, l_22, l_23, l_24, l_25, l_26, l_27, l_28, l_29, l_30, l_31, l_32, l_40, l_41, l_42, l_43, l_44, l_45, l_46, l_47, l_48, l_49, l_50, l_51, l_52, l_53, l_54, l_55, l_56, l_57, l_58, l_59, l_60, l_61, l_62, l_63, l_64, l_72, l_97, l_99, l_100, l_104, l_120, l_122, l_128, l_140, l_255, l_256, l_257, l_258, l_260, l_261, l_262, l_364, l_680, l_700, l_701, l_840, l_999, l_1023, l_1024, l_9999, l_10000, l_1000000, lm]
    rw [wch hw (by omega), bq_n, if_neg (by rw [eq_nI (by omega) (by omega)]; omega), zadd]
    exact ih (i + 1) fu (by omega) (by omega)
theorem m_word15 {K4 : Nat → Int32 → Int32 → ah_H → Option (Int32 × ah_H)} {w : Nat} (h : LxR σ T n) (h26 : ah_I σ 225 26 = nI q) (h25 : ah_I σ 225 25 = nI e) (hqe : q ≤ e) (hen : e ≤ n) (hw : w < 24) : ∀ j i fu, i + j = wln w → j < fu → q + i ≤ e → (∀ i', i' < i → T (q + i') = WC w i') → f_X12_word_15 K4 fu 225 (nI w) (nI (wst w)) (nI i) σ = if eqW T q e w then some (nI w, σ) else K4 225 (nI (w + 1)) (nI (wst (w + 1))) σ := by
  obtain ⟨w1, w2, w3, w4⟩ := wT w hw
  have h7 := h.2.1
  have hW := h.1
  have h97 := fun fu (hf : wln w < fu) => m_word97 (σ := σ) (K4 := K4) hw (wln w) 0 fu (by omega) hf
  intro j
  induction j with
  | zero =>
    intro i fu hi hf hl hm
    obtain ⟨fu, rfl⟩ : ∃ q, fu = q + 1 := ⟨fu - 1, by omega⟩
    obtain rfl : i = wln w := by omega
    show f_X12_word_15_b _ _ _ _ _ _ _ = _
    unfold f_X12_word_15_b f_X12_word_69
    simp only [to_bq, l_0, l_1, l_2, l_3, l_4, l_5, l_6, l_7, l_8, l_9, l_10, l_11, l_12, l_13, l_14, l_15, l_16, l_17, l_18, l_19, l_20, l_21, l_22, l_23, l_24, l_25, l_26, l_27, l_28, l_29, l_30, l_31, l_32, l_40, l_41, l_42, l_43, l_44, l_45, l_46, l_47, l_48, l_49, l_50, l_51, l_52, l_53, l_54, l_55, l_56, l_57, l_58, l_59, l_60, l_61, l_62, l_63, l_64, l_72, l_97, l_99, l_100, l_104, l_120, l_122, l_128, l_140, l_255, l_256, l_257, l_258, l_260, l_261, l_262, l_364, l_680, l_700, l_701, l_840, l_999, l_1023, l_1024, l_9999, l_10000, l_1000000, lm]
    simp (disch := first | (with_reducible assumption) | omega | exact ⟨by omega, by omega⟩ | ((with_reducible first | apply Wf.wI | apply Wf.wL | apply Wf.fL | apply Wf.fI | apply Wf.fr); (repeat (with_reducible first | assumption | apply Wf.wI | apply Wf.wL | apply Wf.fL | apply Wf.fI | apply Wf.fr)))) only [ck_225, gI_225, gL_225, pI_225, pZ0_225, pZ1_225, pL_225, gR_225_1, gR_225_3, gR_225_4, gR_225_5, gR_225_6, gR_225_7, gR_225_8, gR_225_9, gR_225_10, gR_225_11, gR_225_12, gR_225_13, gR_225_14, gR_225_15, gR_225_16, gR_225_17, gR_225_18, gR_225_19, gR_225_20, gR_225_21, gR_225_35, gR_225_36, gR_225_38, gR_225_39, gR_225_40, gR_225_41, gR_225_43, gR_225_44, gR_225_45, gR_225_48, gR_225_49, gR_225_50, gR_225_51, gR_225_53, gR_225_54, gR_225_55, gR_225_56, gR_225_58, gR_225_59, gR_225_60, gR_225_61, gR_225_62, gR_225_63, gR_225_66, gR_225_67, zadd, wch hw (Nat.le_refl _), bq_n, bd_s, mp_s, rz_0, rz_1, bI_rz, wTs w hw, h26, h25, eq_nI, if_true, if_false, ite_true, ite_false, reduceIte, not_true, not_false, and_true, true_and, and_false, false_and, or_true, true_or, or_false, false_or, eq_self]
    by_cases q1 : q + wln w = e
    · rw [if_pos q1, if_pos ⟨by omega, hm⟩]
    · rw [if_neg q1, if_neg (fun z => by omega)]
      exact h97 5000 (by omega)
  | succ j ih =>
    intro i fu hi hf hl hm
    obtain ⟨fu, rfl⟩ : ∃ q, fu = q + 1 := ⟨fu - 1, by omega⟩
    have hc := wTc w hw i (by omega)
    show f_X12_word_15_b _ _ _ _ _ _ _ = _
    unfold f_X12_word_15_b f_X12_word_69
    simp only [to_bq, l_0, l_1, l_2, l_3, l_4, l_5, l_6, l_7, l_8, l_9, l_10, l_11, l_12, l_13, l_14, l_15, l_16, l_17, l_18, l_19, l_20, l_21, l_22, l_23, l_24, l_25, l_26, l_27, l_28, l_29, l_30, l_31, l_32, l_40, l_41, l_42, l_43, l_44, l_45, l_46, l_47, l_48, l_49, l_50, l_51, l_52, l_53, l_54, l_55, l_56, l_57, l_58, l_59, l_60, l_61, l_62, l_63, l_64, l_72, l_97, l_99, l_100, l_104, l_120, l_122, l_128, l_140, l_255, l_256, l_257, l_258, l_260, l_261, l_262, l_364, l_680, l_700, l_701, l_840, l_999, l_1023, l_1024, l_9999, l_10000, l_1000000, lm]
    have n32 : ¬ nI (WC w i) = nI 32 := by rw [eq_nI (by omega) (by omega)]; omega
    simp (disch := first | (with_reducible assumption) | omega | exact ⟨by omega, by omega⟩ | ((with_reducible first | apply Wf.wI | apply Wf.wL | apply Wf.fL | apply Wf.fI | apply Wf.fr); (repeat (with_reducible first | assumption | apply Wf.wI | apply Wf.wL | apply Wf.fL | apply Wf.fI | apply Wf.fr)))) only [ck_225, gI_225, gL_225, pI_225, pZ0_225, pZ1_225, pL_225, gR_225_1, gR_225_3, gR_225_4, gR_225_5, gR_225_6, gR_225_7, gR_225_8, gR_225_9, gR_225_10, gR_225_11, gR_225_12, gR_225_13, gR_225_14, gR_225_15, gR_225_16, gR_225_17, gR_225_18, gR_225_19, gR_225_20, gR_225_21, gR_225_35, gR_225_36, gR_225_38, gR_225_39, gR_225_40, gR_225_41, gR_225_43, gR_225_44, gR_225_45, gR_225_48, gR_225_49, gR_225_50, gR_225_51, gR_225_53, gR_225_54, gR_225_55, gR_225_56, gR_225_58, gR_225_59, gR_225_60, gR_225_61, gR_225_62, gR_225_63, gR_225_66, gR_225_67, zadd, wch hw (show i ≤ wln w by omega), bq_n, bd_s, mp_s, rz_0, rz_1, bI_rz, h26, h25, le_nI, if_neg n32]
    by_cases q1 : e ≤ q + i
    · rw [if_pos q1, if_neg (fun z => by omega)]
      exact h97 5000 (by omega)
    · rw [if_neg q1]
      obtain ⟨t1, t2⟩ := h.2.2.2.1 (q + i) (by omega)
      simp (disch := first | (with_reducible assumption) | omega | exact ⟨by omega, by omega⟩ | ((with_reducible first | apply Wf.wI | apply Wf.wL | apply Wf.fL | apply Wf.fI | apply Wf.fr); (repeat (with_reducible first | assumption | apply Wf.wI | apply Wf.wL | apply Wf.fL | apply Wf.fI | apply Wf.fr)))) only [ck_225, gI_225, gL_225, pI_225, pZ0_225, pZ1_225, pL_225, gR_225_1, gR_225_3, gR_225_4, gR_225_5, gR_225_6, gR_225_7, gR_225_8, gR_225_9, gR_225_10, gR_225_11, gR_225_12, gR_225_13, gR_225_14, gR_225_15, gR_225_16, gR_225_17, gR_225_18, gR_225_19, gR_225_20, gR_225_21, gR_225_35, gR_225_36, gR_225_38, gR_225_39, gR_225_40, gR_225_41, gR_225_43, gR_225_44, gR_225_45, gR_225_48, gR_225_49, gR_225_50, gR_225_51, gR_225_53, gR_225_54, gR_225_55, gR_225_56, gR_225_58, gR_225_59, gR_225_60, gR_225_61, gR_225_62, gR_225_63, gR_225_66, gR_225_67, aI_226, sI_226, len_226, bq_n, bd_s, mp_s, rz_0, rz_1, bI_rz, h26, h25, zadd, t1, wch hw (show i ≤ wln w by omega), if_neg n32, eq_nI]
      by_cases q2 : T (q + i) = WC w i
      · rw [if_pos q2]
        refine ih (i + 1) fu (by omega) (by omega) (by omega) (fun i' hi' => ?_)
        by_cases z : i' = i
        · rw [z]; exact q2
        · exact hm i' (by omega)
      · rw [if_neg q2, if_neg (show ¬ WC w i = 32 by omega), if_neg (fun z => q2 (z.2 i (by omega)))]
        exact h97 5000 (by omega)
theorem m_word4 (h : LxR σ T n) (h26 : ah_I σ 225 26 = nI q) (h25 : ah_I σ 225 25 = nI e) (hqe : q ≤ e) (hen : e ≤ n) : ∀ m w fu, w + m = 24 → m < fu → f_X12_word_4 fu 225 (nI w) (nI (wst w)) σ = some (sv (wdf T q e w m), σ) := by
  intro m
  induction m with
  | zero =>
    intro w fu hw hf
    obtain ⟨fu, rfl⟩ : ∃ q, fu = q + 1 := ⟨fu - 1, by omega⟩
    obtain rfl : w = 24 := by omega
    show f_X12_word_4_b _ _ _ _ _ = _
    unfold f_X12_word_4_b
    simp only [to_bq, l_0, l_1, l_2, l_3, l_4, l_5, l_6, l_7, l_8, l_9, l_10, l_11, l_12, l_13, l_14, l_15, l_16, l_17, l_18, l_19, l_20, l_21, l_22, l_23, l_24, l_25, l_26, l_27, l_28, l_29, l_30, l_31, l_32, l_40, l_41, l_42, l_43, l_44, l_45, l_46, l_47, l_48, l_49, l_50, l_51, l_52, l_53, l_54, l_55, l_56, l_57, l_58, l_59, l_60, l_61, l_62, l_63, l_64, l_72, l_97, l_99, l_100, l_104, l_120, l_122, l_128, l_140, l_255, l_256, l_257, l_258, l_260, l_261, l_262, l_364, l_680, l_700, l_701, l_840, l_999, l_1023, l_1024, l_9999, l_10000, l_1000000, lm]
    rw [wTl, bq_n, wT24.1]
    rfl
  | succ m ih =>
    intro w fu hw hf
    obtain ⟨fu, rfl⟩ : ∃ q, fu = q + 1 := ⟨fu - 1, by omega⟩
    obtain ⟨w1, w2, w3, w4⟩ := wT w (by omega)
    have h15 := m_word15 (K4 := f_X12_word_4 fu) (w := w) h h26 h25 hqe hen (by omega) (wln w) 0 5000 (by omega) (by omega) (by omega) (fun i' hi' => by omega)
    show f_X12_word_4_b _ _ _ _ _ = _
    unfold f_X12_word_4_b
    simp only [to_bq, l_0, l_1, l_2, l_3, l_4, l_5, l_6, l_7, l_8, l_9, l_10, l_11, l_12, l_13, l_14, l_15, l_16, l_17, l_18, l_19, l_20, l_21, l_22, l_23, l_24, l_25, l_26, l_27, l_28, l_29, l_30, l_31, l_32, l_40, l_41, l_42, l_43, l_44, l_45, l_46, l_47, l_48, l_49, l_50, l_51, l_52, l_53, l_54, l_55, l_56, l_57, l_58, l_59, l_60, l_61, l_62, l_63, l_64, l_72, l_97, l_99, l_100, l_104, l_120, l_122, l_128, l_140, l_255, l_256, l_257, l_258, l_260, l_261, l_262, l_364, l_680, l_700, l_701, l_840, l_999, l_1023, l_1024, l_9999, l_10000, l_1000000, lm]
    rw [wTl, bq_n, if_neg (by rw [le_nI (by omega) (by omega)]; omega), h15]
    unfold wdf
    by_cases q1 : eqW T q e w
    · rw [if_pos q1, if_pos q1]; rfl
    · rw [if_neg q1, if_neg q1]
      exact ih (w + 1) fu (by omega) (by omega)
theorem m_word (h : LxR σ T n) (h26 : ah_I σ 225 26 = nI q) (h25 : ah_I σ 225 25 = nI e) (hqe : q ≤ e) (hen : e ≤ n) : f_X12_word 225 σ = some (sv (wdx T q e), σ) := by
  have e4 := m_word4 h h26 h25 hqe hen 24 0 5000 (by omega) (by omega)
  unfold f_X12_word f_X12_word_0
  simp only [to_bq, l_0, l_1, l_2, l_3, l_4, l_5, l_6, l_7, l_8, l_9, l_10, l_11, l_12, l_13, l_14, l_15, l_16, l_17, l_18, l_19, l_20, l_21, l_22, l_23, l_24, l_25, l_26, l_27, l_28, l_29, l_30, l_31, l_32, l_40, l_41, l_42, l_43, l_44, l_45, l_46, l_47, l_48, l_49, l_50, l_51, l_52, l_53, l_54, l_55, l_56, l_57, l_58, l_59, l_60, l_61, l_62, l_63, l_64, l_72, l_97, l_99, l_100, l_104, l_120, l_122, l_128, l_140, l_255, l_256, l_257, l_258, l_260, l_261, l_262, l_364, l_680, l_700, l_701, l_840, l_999, l_1023, l_1024, l_9999, l_10000, l_1000000, lm]
  rw [ck_225 h.1]
  rw [wT24.2] at e4
  exact e4
theorem pkf_b (hl : ∀ j, q ≤ j → j < e → isSm (T j)) : ∀ k, pkf T q e k < 32 ^ k := by
  intro k
  induction k with
  | zero => exact Nat.one_pos
  | succ k ih =>
    show pkf T q e k * 32 + pkd T q e k < 32 ^ (k + 1)
    have : pkd T q e k < 32 := by
      unfold pkd
      by_cases z : q + k < e
      · have := hl (q + k) (by omega) z
        unfold isSm at this
        rw [if_pos z]; omega
      · rw [if_neg z]; omega
    rw [Nat.pow_succ]
    omega
theorem m_name7 (h0 : LxR σ T n) (h26 : ah_I σ 225 26 = nI q) (h25 : ah_I σ 225 25 = nI e) (hen : e ≤ n) (hl : ∀ j, q ≤ j → j < e → isSm (T j)) (hqe : q ≤ e) : ∀ m k fu τ, k + m = 6 → m < fu → Fr (fun a j => a = 225 ∧ j = 28) σ τ → ah_I τ 225 28 = nI (pkf T q e k) → ∃ τ', f_X12_name_7 fu 225 (nI k) τ = some τ' ∧ Fr (fun a j => a = 225 ∧ j = 28) σ τ' ∧ ah_I τ' 225 28 = nI (pkf T q e 6) := by
  have h7 := h0.2.1
  intro m
  induction m with
  | zero =>
    intro k fu τ hk hf g hv
    obtain ⟨fu, rfl⟩ : ∃ q, fu = q + 1 := ⟨fu - 1, by omega⟩
    refine ⟨τ, ?_, g, by rw [← show k = 6 by omega]; exact hv⟩
    show f_X12_name_7_b _ _ _ _ = _
    unfold f_X12_name_7_b
    simp only [to_bq, l_0, l_1, l_2, l_3, l_4, l_5, l_6, l_7, l_8, l_9, l_10, l_11, l_12, l_13, l_14, l_15, l_16, l_17, l_18, l_19, l_20, l_21, l_22, l_23, l_24, l_25, l_26, l_27, l_28, l_29, l_30, l_31, l_32, l_40, l_41, l_42, l_43, l_44, l_45, l_46, l_47, l_48, l_49, l_50, l_51, l_52, l_53, l_54, l_55, l_56, l_57, l_58, l_59, l_60, l_61, l_62, l_63, l_64, l_72, l_97, l_99, l_100, l_104, l_120, l_122, l_128, l_140, l_255, l_256, l_257, l_258, l_260, l_261, l_262, l_364, l_680, l_700, l_701, l_840, l_999, l_1023, l_1024, l_9999, l_10000, l_1000000, lm]
    rw [if_pos (by rw [le_nI (by omega) (by omega)]; omega)]
  | succ m ih =>
    intro k fu τ hk hf g hv
    obtain ⟨fu, rfl⟩ : ∃ q, fu = q + 1 := ⟨fu - 1, by omega⟩
    have h : LxR τ T n := h0.fr (g.mono (fun a j z => by unfold Xtk; omega))
    have hW := h.1
    have h26' : ah_I τ 225 26 = nI q := by rw [g.I (by omega)]; exact h26
    have h25' : ah_I τ 225 25 = nI e := by rw [g.I (by omega)]; exact h25
    have hb := pkf_b hl k
    have hb5 : 32 ^ k ≤ 32 ^ 5 := Nat.pow_le_pow_right (by omega) (by omega)
    have hv5 : pkf T q e k * 32 < 2147483648 := by omega
    have hsh : nI (pkf T q e k) <<< (nI 5 &&& nI 31) = nI (pkf T q e k * 32) := by
      rw [sh31 (by omega)]
      have := pk_shlN (n := pkf T q e k) (nI 5) 5 (z_smod (by omega)) (by omega)
      exact this
    have hd : pkd T q e k < 32 := by
      unfold pkd
      by_cases z : q + k < e
      · have := hl (q + k) (by omega) z
        unfold isSm at this
        rw [if_pos z]; omega
      · rw [if_neg z]; omega
    have hor : nI (pkf T q e k * 32) ||| nI (pkd T q e k) = nI (pkf T q e (k + 1)) := by
      rw [z_or]
      have := Nat.two_pow_add_eq_or_of_lt (i := 5) (b := pkd T q e k) hd (pkf T q e k)
      rw [show (2 : Nat) ^ 5 = 32 by decide] at this
      rw [Nat.mul_comm, ← this, Nat.mul_comm]; rfl
    have he : f_X12_name_7 (fu + 1) 225 (nI k) τ = f_X12_name_7 fu 225 (nI (k + 1)) (ah_wI τ 225 28 (nI (pkf T q e (k + 1)))) := by
      show f_X12_name_7_b _ _ _ _ = _
      unfold f_X12_name_7_b f_X12_name_53
      simp only [to_bq, l_0, l_1, l_2, l_3, l_4, l_5, l_6, l_7, l_8, l_9, l_10, l_11, l_12, l_13, l_14, l_15, l_16, l_17, l_18, l_19, l_20, l_21, l_22, l_23, l_24, l_25, l_26, l_27, l_28, l_29, l_30, l_31, l_32, l_40, l_41, l_42, l_43, l_44, l_45, l_46, l_47, l_48, l_49, l_50, l_51, l_52, l_53, l_54, l_55, l_56, l_57, l_58, l_59, l_60, l_61, l_62, l_63, l_64, l_72, l_97, l_99, l_100, l_104, l_120, l_122, l_128, l_140, l_255, l_256, l_257, l_258, l_260, l_261, l_262, l_364, l_680, l_700, l_701, l_840, l_999, l_1023, l_1024, l_9999, l_10000, l_1000000, lm]
      rw [if_neg (by rw [le_nI (by omega) (by omega)]; omega)]
      simp (disch := first | (with_reducible assumption) | omega | exact ⟨by omega, by omega⟩ | ((with_reducible first | apply Wf.wI | apply Wf.wL | apply Wf.fL | apply Wf.fI | apply Wf.fr); (repeat (with_reducible first | assumption | apply Wf.wI | apply Wf.wL | apply Wf.fL | apply Wf.fI | apply Wf.fr)))) only [ck_225, gI_225, gL_225, pI_225, pZ0_225, pZ1_225, pL_225, gR_225_1, gR_225_3, gR_225_4, gR_225_5, gR_225_6, gR_225_7, gR_225_8, gR_225_9, gR_225_10, gR_225_11, gR_225_12, gR_225_13, gR_225_14, gR_225_15, gR_225_16, gR_225_17, gR_225_18, gR_225_19, gR_225_20, gR_225_21, gR_225_35, gR_225_36, gR_225_38, gR_225_39, gR_225_40, gR_225_41, gR_225_43, gR_225_44, gR_225_45, gR_225_48, gR_225_49, gR_225_50, gR_225_51, gR_225_53, gR_225_54, gR_225_55, gR_225_56, gR_225_58, gR_225_59, gR_225_60, gR_225_61, gR_225_62, gR_225_63, gR_225_66, gR_225_67, bq_n, bd_s, mp_s, rz_0, rz_1, bI_rz, zadd, hv, h26', h25', le_nI, hsh]
      by_cases q1 : e ≤ q + k
      · rw [if_pos q1]
        have : pkd T q e k = 0 := by unfold pkd; rw [if_neg (by omega)]
        rw [this] at hor
        simp (disch := first | (with_reducible assumption) | omega | exact ⟨by omega, by omega⟩ | ((with_reducible first | apply Wf.wI | apply Wf.wL | apply Wf.fL | apply Wf.fI | apply Wf.fr); (repeat (with_reducible first | assumption | apply Wf.wI | apply Wf.wL | apply Wf.fL | apply Wf.fI | apply Wf.fr)))) only [ck_225, gI_225, gL_225, pI_225, pZ0_225, pZ1_225, pL_225, gR_225_1, gR_225_3, gR_225_4, gR_225_5, gR_225_6, gR_225_7, gR_225_8, gR_225_9, gR_225_10, gR_225_11, gR_225_12, gR_225_13, gR_225_14, gR_225_15, gR_225_16, gR_225_17, gR_225_18, gR_225_19, gR_225_20, gR_225_21, gR_225_35, gR_225_36, gR_225_38, gR_225_39, gR_225_40, gR_225_41, gR_225_43, gR_225_44, gR_225_45, gR_225_48, gR_225_49, gR_225_50, gR_225_51, gR_225_53, gR_225_54, gR_225_55, gR_225_56, gR_225_58, gR_225_59, gR_225_60, gR_225_61, gR_225_62, gR_225_63, gR_225_66, gR_225_67, bq_n, bd_s, mp_s, rz_0, rz_1, bI_rz, hor]
      · rw [if_neg q1]
        obtain ⟨t1, t2⟩ := h.2.2.2.1 (q + k) (by omega)
        have hs := hl (q + k) (by omega) (by omega)
        unfold isSm at hs
        have : pkd T q e k = T (q + k) - 96 := by unfold pkd; rw [if_pos (by omega)]
        have e1 : nI (T (q + k)) - nI 97 + nI 1 = nI (pkd T q e k) := by
          rw [zsub (by omega), zadd, this]
          congr 1; omega
        simp (disch := first | (with_reducible assumption) | omega | exact ⟨by omega, by omega⟩ | ((with_reducible first | apply Wf.wI | apply Wf.wL | apply Wf.fL | apply Wf.fI | apply Wf.fr); (repeat (with_reducible first | assumption | apply Wf.wI | apply Wf.wL | apply Wf.fL | apply Wf.fI | apply Wf.fr)))) only [ck_225, gI_225, gL_225, pI_225, pZ0_225, pZ1_225, pL_225, gR_225_1, gR_225_3, gR_225_4, gR_225_5, gR_225_6, gR_225_7, gR_225_8, gR_225_9, gR_225_10, gR_225_11, gR_225_12, gR_225_13, gR_225_14, gR_225_15, gR_225_16, gR_225_17, gR_225_18, gR_225_19, gR_225_20, gR_225_21, gR_225_35, gR_225_36, gR_225_38, gR_225_39, gR_225_40, gR_225_41, gR_225_43, gR_225_44, gR_225_45, gR_225_48, gR_225_49, gR_225_50, gR_225_51, gR_225_53, gR_225_54, gR_225_55, gR_225_56, gR_225_58, gR_225_59, gR_225_60, gR_225_61, gR_225_62, gR_225_63, gR_225_66, gR_225_67, aI_226, sI_226, len_226, bq_n, bd_s, mp_s, rz_0, rz_1, bI_rz, h26', t1, e1, hsh, hor, zadd]
    rw [he]
    exact ih (k + 1) fu _ (by omega) (by omega) (g.wI ⟨rfl, rfl⟩) rI_eq
theorem m_nameL (h : LxR σ T n) (h26 : ah_I σ 225 26 = nI q) (h25 : ah_I σ 225 25 = nI e) (hen : e ≤ n) (hl : ∀ j, q ≤ j → j < e → isSm (T j)) (hqe : q ≤ e) : ∃ τ, f_X12_name 225 σ = some τ ∧ Fr (fun a j => a = 225 ∧ j = 28) σ τ ∧ ah_I τ 225 28 = nI (pkf T q e 6) := by
  have hW := h.1
  obtain ⟨τ, e1, e2, e3⟩ := m_name7 h h26 h25 hen hl hqe 6 0 5000 (ah_wI σ 225 28 (nI 0)) (by omega) (by omega) (Fr.rfl.wI ⟨rfl, rfl⟩) rI_eq
  refine ⟨τ, ?_, e2, e3⟩
  unfold f_X12_name f_X12_name_0
  simp only [to_bq, l_0, l_1, l_2, l_3, l_4, l_5, l_6, l_7, l_8, l_9, l_10, l_11, l_12, l_13, l_14, l_15, l_16, l_17, l_18, l_19, l_20, l_21, l_22, l_23, l_24, l_25, l_26, l_27, l_28, l_29, l_30, l_31, l_32, l_40, l_41, l_42, l_43, l_44, l_45, l_46, l_47, l_48, l_49, l_50, l_51, l_52, l_53, l_54, l_55, l_56, l_57, l_58, l_59, l_60, l_61, l_62, l_63, l_64, l_72, l_97, l_99, l_100, l_104, l_120, l_122, l_128, l_140, l_255, l_256, l_257, l_258, l_260, l_261, l_262, l_364, l_680, l_700, l_701, l_840, l_999, l_1023, l_1024, l_9999, l_10000, l_1000000, lm]
  simp (disch := first | (with_reducible assumption) | omega | exact ⟨by omega, by omega⟩ | ((with_reducible first | apply Wf.wI | apply Wf.wL | apply Wf.fL | apply Wf.fI | apply Wf.fr); (repeat (with_reducible first | assumption | apply Wf.wI | apply Wf.wL | apply Wf.fL | apply Wf.fI | apply Wf.fr)))) only [ck_225, gI_225, gL_225, pI_225, pZ0_225, pZ1_225, pL_225, gR_225_1, gR_225_3, gR_225_4, gR_225_5, gR_225_6, gR_225_7, gR_225_8, gR_225_9, gR_225_10, gR_225_11, gR_225_12, gR_225_13, gR_225_14, gR_225_15, gR_225_16, gR_225_17, gR_225_18, gR_225_19, gR_225_20, gR_225_21, gR_225_35, gR_225_36, gR_225_38, gR_225_39, gR_225_40, gR_225_41, gR_225_43, gR_225_44, gR_225_45, gR_225_48, gR_225_49, gR_225_50, gR_225_51, gR_225_53, gR_225_54, gR_225_55, gR_225_56, gR_225_58, gR_225_59, gR_225_60, gR_225_61, gR_225_62, gR_225_63, gR_225_66, gR_225_67, bq_n, bd_s, mp_s, rz_0, rz_1, bI_rz]
  exact e1
theorem m_sg0 (h : LxR σ T n) (h25 : ah_I σ 225 25 = nI q) {v : Nat} (hv : v ≤ 255) : f_X12_sign 225 (nI v) σ = f_X12_sign_76 225 (nI v) 225 (nI (if sgS v then 3 else 5)) (ah_wI σ 225 25 (nI (q + 1))) := by
  have hW := h.1
  unfold f_X12_sign f_X12_sign_0 f_X12_sign_71
  simp only [to_bq, l_0, l_1, l_2, l_3, l_4, l_5, l_6, l_7, l_8, l_9, l_10, l_11, l_12, l_13, l_14, l_15, l_16, l_17, l_18, l_19, l_20, l_21, l_22, l_23, l_24, l_25, l_26, l_27, l_28, l_29, l_30, l_31, l_32, l_40, l_41, l_42, l_43, l_44, l_45, l_46, l_47, l_48, l_49, l_50, l_51, l_52, l_53, l_54, l_55, l_56, l_57, l_58, l_59, l_60, l_61, l_62, l_63, l_64, l_72, l_97, l_99, l_100, l_104, l_120, l_122, l_128, l_140, l_255, l_256, l_257, l_258, l_260, l_261, l_262, l_364, l_680, l_700, l_701, l_840, l_999, l_1023, l_1024, l_9999, l_10000, l_1000000, lm]
  simp (disch := first | (with_reducible assumption) | omega | exact ⟨by omega, by omega⟩ | ((with_reducible first | apply Wf.wI | apply Wf.wL | apply Wf.fL | apply Wf.fI | apply Wf.fr); (repeat (with_reducible first | assumption | apply Wf.wI | apply Wf.wL | apply Wf.fL | apply Wf.fI | apply Wf.fr)))) only [ck_225, gI_225, gL_225, pI_225, pZ0_225, pZ1_225, pL_225, gR_225_1, gR_225_3, gR_225_4, gR_225_5, gR_225_6, gR_225_7, gR_225_8, gR_225_9, gR_225_10, gR_225_11, gR_225_12, gR_225_13, gR_225_14, gR_225_15, gR_225_16, gR_225_17, gR_225_18, gR_225_19, gR_225_20, gR_225_21, gR_225_35, gR_225_36, gR_225_38, gR_225_39, gR_225_40, gR_225_41, gR_225_43, gR_225_44, gR_225_45, gR_225_48, gR_225_49, gR_225_50, gR_225_51, gR_225_53, gR_225_54, gR_225_55, gR_225_56, gR_225_58, gR_225_59, gR_225_60, gR_225_61, gR_225_62, gR_225_63, gR_225_66, gR_225_67, bq_n, bd_s, mp_s, rz_0, rz_1, bI_rz, h25, zadd, eq_nI]
  by_cases z1 : v = 59
  · rw [if_pos z1, if_pos (by omega)]
  rw [if_neg z1]
  by_cases z2 : v = 40
  · rw [if_pos z2, if_pos (by omega)]
  rw [if_neg z2]
  by_cases z3 : v = 41
  · rw [if_pos z3, if_pos (by omega)]
  rw [if_neg z3]
  by_cases z4 : v = 43
  · rw [if_pos z4, if_pos (by omega)]
  rw [if_neg z4]
  by_cases z5 : v = 45
  · rw [if_pos z5, if_pos (by omega)]
  rw [if_neg z5]
  by_cases z6 : v = 42
  · rw [if_pos z6, if_pos (by omega)]
  rw [if_neg z6]
  by_cases z7 : v = 47
  · rw [if_pos z7, if_pos (by omega)]
  rw [if_neg z7]
  by_cases z8 : v = 60
  · rw [if_pos z8, if_pos (by omega)]
  rw [if_neg z8]
  by_cases z9 : v = 61
  · rw [if_pos z9, if_pos (by omega)]
  rw [if_neg z9]
  by_cases z10 : v = 62
  · rw [if_pos z10, if_pos (by omega)]
  rw [if_neg z10, if_neg (by omega)]
theorem m_s150 (h : LxR σ T n) {v : Nat} (h25 : ah_I σ 225 25 = nI (q + 1)) (h28 : ah_I σ 225 28 = nI v) (hv : v < 1000) : f_X12_sign_150 225 σ = some (if v < 256 then σ else ah_wI σ 225 25 (nI (q + 2))) := by
  have hW := h.1
  unfold f_X12_sign_150
  simp only [to_bq, l_0, l_1, l_2, l_3, l_4, l_5, l_6, l_7, l_8, l_9, l_10, l_11, l_12, l_13, l_14, l_15, l_16, l_17, l_18, l_19, l_20, l_21, l_22, l_23, l_24, l_25, l_26, l_27, l_28, l_29, l_30, l_31, l_32, l_40, l_41, l_42, l_43, l_44, l_45, l_46, l_47, l_48, l_49, l_50, l_51, l_52, l_53, l_54, l_55, l_56, l_57, l_58, l_59, l_60, l_61, l_62, l_63, l_64, l_72, l_97, l_99, l_100, l_104, l_120, l_122, l_128, l_140, l_255, l_256, l_257, l_258, l_260, l_261, l_262, l_364, l_680, l_700, l_701, l_840, l_999, l_1023, l_1024, l_9999, l_10000, l_1000000, lm]
  simp (disch := first | (with_reducible assumption) | omega | exact ⟨by omega, by omega⟩ | ((with_reducible first | apply Wf.wI | apply Wf.wL | apply Wf.fL | apply Wf.fI | apply Wf.fr); (repeat (with_reducible first | assumption | apply Wf.wI | apply Wf.wL | apply Wf.fL | apply Wf.fI | apply Wf.fr)))) only [ck_225, gI_225, gL_225, pI_225, pZ0_225, pZ1_225, pL_225, gR_225_1, gR_225_3, gR_225_4, gR_225_5, gR_225_6, gR_225_7, gR_225_8, gR_225_9, gR_225_10, gR_225_11, gR_225_12, gR_225_13, gR_225_14, gR_225_15, gR_225_16, gR_225_17, gR_225_18, gR_225_19, gR_225_20, gR_225_21, gR_225_35, gR_225_36, gR_225_38, gR_225_39, gR_225_40, gR_225_41, gR_225_43, gR_225_44, gR_225_45, gR_225_48, gR_225_49, gR_225_50, gR_225_51, gR_225_53, gR_225_54, gR_225_55, gR_225_56, gR_225_58, gR_225_59, gR_225_60, gR_225_61, gR_225_62, gR_225_63, gR_225_66, gR_225_67, bq_n, bd_s, mp_s, rz_0, rz_1, bI_rz, h28, h25, zadd, lt_nI]
  by_cases z : v < 256
  · rw [if_pos z, if_pos z]
  · rw [if_neg z, if_neg z]
/-- the sign that begins at q -/
theorem m_signL (h : LxR σ T n) (h25 : ah_I σ 225 25 = nI q) (h26 : ah_I σ 225 26 = nI q) (hq : q < n) : ∃ τ, f_X12_sign 225 (nI (T q)) σ = some τ ∧ Fr Xtk σ τ ∧ RTk τ (sgn T n q) := by
  have h7 := h.2.1
  have hT := h.tb
  have tq := hT q (by omega)
  have c61 : (hrv T n (q + 1) = nI 61) = (q + 1 < n ∧ T (q + 1) = 61) := hrv_n hT h7 (by omega)
  have c62 : (hrv T n (q + 1) = nI 62) = (q + 1 < n ∧ T (q + 1) = 62) := hrv_n hT h7 (by omega)
  rw [m_sg0 h h25 tq]
  unfold sgn
  have hsort : sgS (T q) → (if sgS (T q) then 3 else 5) = 3 := fun z => if_pos z
  -- the state behind
  have st : ∀ s v, ∃ ρ, Fr Xtk σ ρ ∧ ah_wI (ah_wI (ah_wI σ 225 25 (nI (q + 1))) 225 27 (nI s)) 225 28 (nI v) = ρ ∧ LxR ρ T n ∧ ah_I ρ 225 25 = nI (q + 1) ∧ ah_I ρ 225 26 = nI q ∧ ah_I ρ 225 27 = nI s ∧ ah_I ρ 225 28 = nI v := fun s v => by
    have f1 : Fr Xtk σ (ah_wI (ah_wI (ah_wI σ 225 25 (nI (q + 1))) 225 27 (nI s)) 225 28 (nI v)) := ((Fr.rfl.wI (by unfold Xtk; omega)).wI (by unfold Xtk; omega)).wI (by unfold Xtk; omega)
    exact ⟨_, f1, rfl, h.fr f1, by rw [rI_ne (by omega), rI_ne (by omega), rI_eq], by rw [rI_ne (by omega), rI_ne (by omega), rI_ne (by omega)]; exact h26, by rw [rI_ne (by omega), rI_eq], rI_eq⟩
  have s76 : ∀ s v, ∃ ρ, Fr Xtk σ ρ ∧ LxR ρ T n ∧ ah_I ρ 225 25 = nI (q + 1) ∧ ah_I ρ 225 26 = nI q ∧ ah_I ρ 225 27 = nI s ∧ ah_I ρ 225 28 = nI v ∧ f_X12_sign_76 225 (nI v) 225 (nI s) (ah_wI σ 225 25 (nI (q + 1))) = (if nI v = nI 60 then bq (fun r3 : Int32 × ah_H => if r3.1 = nI 61 then bq (fun σ4 => f_X12_sign_106 225 (nI v) σ4) (Unit.unit : Unit) (op_pI 12 28 r3.2 225 (nI 256)) else f_X12_sign_106 225 (nI v) r3.2) (Unit.unit : Unit) (f_X12_here 225 ρ) else f_X12_sign_106 225 (nI v) ρ) := fun s v => by
    obtain ⟨ρ, p1, p2, p3, p4, p5, p6, p7⟩ := st s v
    have hW := h.1
    refine ⟨ρ, p1, p3, p4, p5, p6, p7, ?_⟩
    unfold f_X12_sign_76
    simp only [to_bq, l_0, l_1, l_2, l_3, l_4, l_5, l_6, l_7, l_8, l_9, l_10, l_11, l_12, l_13, l_14, l_15, l_16, l_17, l_18, l_19, l_20, l_21, l_22, l_23, l_24, l_25, l_26, l_27, l_28, l_29, l_30, l_31, l_32, l_40, l_41, l_42, l_43, l_44, l_45, l_46, l_47, l_48, l_49, l_50, l_51, l_52, l_53, l_54, l_55, l_56, l_57, l_58, l_59, l_60, l_61, l_62, l_63, l_64, l_72, l_97, l_99, l_100, l_104, l_120, l_122, l_128, l_140, l_255, l_256, l_257, l_258, l_260, l_261, l_262, l_364, l_680, l_700, l_701, l_840, l_999, l_1023, l_1024, l_9999, l_10000, l_1000000, lm]
    simp (disch := first | (with_reducible assumption) | omega | exact ⟨by omega, by omega⟩ | ((with_reducible first | apply Wf.wI | apply Wf.wL | apply Wf.fL | apply Wf.fI | apply Wf.fr); (repeat (with_reducible first | assumption | apply Wf.wI | apply Wf.wL | apply Wf.fL | apply Wf.fI | apply Wf.fr)))) only [ck_225, gI_225, gL_225, pI_225, pZ0_225, pZ1_225, pL_225, gR_225_1, gR_225_3, gR_225_4, gR_225_5, gR_225_6, gR_225_7, gR_225_8, gR_225_9, gR_225_10, gR_225_11, gR_225_12, gR_225_13, gR_225_14, gR_225_15, gR_225_16, gR_225_17, gR_225_18, gR_225_19, gR_225_20, gR_225_21, gR_225_35, gR_225_36, gR_225_38, gR_225_39, gR_225_40, gR_225_41, gR_225_43, gR_225_44, gR_225_45, gR_225_48, gR_225_49, gR_225_50, gR_225_51, gR_225_53, gR_225_54, gR_225_55, gR_225_56, gR_225_58, gR_225_59, gR_225_60, gR_225_61, gR_225_62, gR_225_63, gR_225_66, gR_225_67, bq_n, bd_s, mp_s, rz_0, rz_1, bI_rz, p2]
  obtain ⟨ρ, p1, p3, p4, p5, p6, p7, p8⟩ := s76 (if sgS (T q) then 3 else 5) (T q)
  rw [p8]
  have hWρ := p3.1
  have hh := m_here p3 p4 (by omega)
  -- a longer sign
  have lng : ∀ v, 256 ≤ v → v < 1000 → sgS (T q) → ∃ τ, f_X12_sign_150 225 (ah_wI ρ 225 28 (nI v)) = some τ ∧ Fr Xtk σ τ ∧ RTk τ (3, v, q, q + 2) := fun v hv hv2 hs => by
    have f2 : Fr Xtk ρ (ah_wI ρ 225 28 (nI v)) := Fr.rfl.wI (by unfold Xtk; omega)
    refine ⟨_, m_s150 (q := q) (p3.fr f2) (by rw [rI_ne (by omega)]; exact p4) rI_eq hv2, ?_, ?_⟩
    · rw [if_neg (by omega)]
      exact (p1.trans f2).wI (by unfold Xtk; omega)
    · rw [if_neg (by omega)]
      refine ⟨rI_eq, ?_, ?_, fun _ => ?_⟩
      · rw [rI_ne (by omega), rI_ne (by omega)]; exact p5
      · rw [rI_ne (by omega), rI_ne (by omega), p6, hsort hs]; rfl
      · rw [rI_ne (by omega), rI_eq]; rfl
  have sht : ∃ τ, f_X12_sign_150 225 ρ = some τ ∧ Fr Xtk σ τ ∧ RTk τ (if sgS (T q) then (3, T q, q, q + 1) else (5, T q, q, q + 1)) := by
    refine ⟨ρ, ?_, p1, ?_⟩
    · rw [m_s150 (q := q) p3 p4 p7 (by omega), if_pos (by omega)]
    · by_cases hs : sgS (T q)
      · rw [if_pos hs]
        exact ⟨p4, p5, by rw [p6, if_pos hs]; rfl, fun _ => p7⟩
      · rw [if_neg hs]
        exact ⟨p4, p5, by rw [p6, if_neg hs]; rfl, fun z => by have z : (5 : Nat) ≤ 3 := z; omega⟩
  by_cases a60 : T q = 60
  · have hs : sgS (T q) := by omega
    rw [if_pos (show nI (T q) = nI 60 by rw [a60]), hh, bq_n]
    show ∃ τ, (if hrv T n (q + 1) = nI 61 then _ else _) = _ ∧ _
    by_cases b1 : q + 1 < n ∧ T (q + 1) = 61
    · rw [if_pos (by rw [c61]; exact b1), if_pos ⟨a60, b1⟩]
      have f2 : Fr Xtk ρ (ah_wI ρ 225 28 (nI 256)) := Fr.rfl.wI (by unfold Xtk; omega)
      have hh2 := m_here (p3.fr f2) (show ah_I (ah_wI ρ 225 28 (nI 256)) 225 25 = nI (q + 1) by rw [rI_ne (by omega)]; exact p4) (by omega)
      obtain ⟨τ, e1, e2⟩ := lng 256 (by omega) (by omega) hs
      refine ⟨τ, ?_, e2⟩
      unfold f_X12_sign_106 f_X12_sign_128
      simp only [to_bq, l_0, l_1, l_2, l_3, l_4, l_5, l_6, l_7, l_8, l_9, l_10, l_11, l_12, l_13, l_14, l_15, l_16, l_17, l_18, l_19, l_20, l_21, l_22, l_23, l_24, l_25, l_26, l_27, l_28, l_29, l_30, l_31, l_32, l_40, l_41, l_42, l_43, l_44, l_45, l_46, l_47, l_48, l_49, l_50, l_51, l_52, l_53, l_54, l_55, l_56, l_57, l_58, l_59, l_60, l_61, l_62, l_63, l_64, l_72, l_97, l_99, l_100, l_104, l_120, l_122, l_128, l_140, l_255, l_256, l_257, l_258, l_260, l_261, l_262, l_364, l_680, l_700, l_701, l_840, l_999, l_1023, l_1024, l_9999, l_10000, l_1000000, lm]
      simp (disch := first | (with_reducible assumption) | omega | exact ⟨by omega, by omega⟩ | ((with_reducible first | apply Wf.wI | apply Wf.wL | apply Wf.fL | apply Wf.fI | apply Wf.fr); (repeat (with_reducible first | assumption | apply Wf.wI | apply Wf.wL | apply Wf.fL | apply Wf.fI | apply Wf.fr)))) only [ck_225, gI_225, gL_225, pI_225, pZ0_225, pZ1_225, pL_225, gR_225_1, gR_225_3, gR_225_4, gR_225_5, gR_225_6, gR_225_7, gR_225_8, gR_225_9, gR_225_10, gR_225_11, gR_225_12, gR_225_13, gR_225_14, gR_225_15, gR_225_16, gR_225_17, gR_225_18, gR_225_19, gR_225_20, gR_225_21, gR_225_35, gR_225_36, gR_225_38, gR_225_39, gR_225_40, gR_225_41, gR_225_43, gR_225_44, gR_225_45, gR_225_48, gR_225_49, gR_225_50, gR_225_51, gR_225_53, gR_225_54, gR_225_55, gR_225_56, gR_225_58, gR_225_59, gR_225_60, gR_225_61, gR_225_62, gR_225_63, gR_225_66, gR_225_67, bq_n, bd_s, mp_s, rz_0, rz_1, bI_rz, a60, if_true, if_false, ite_true, ite_false, reduceIte, not_true, not_false, and_true, true_and, and_false, false_and, or_true, true_or, or_false, false_or, eq_self, hh2, c62, show (q + 1 < n ∧ T (q + 1) = 62) = False from eq_false (by omega), show (nI 60 = nI 62) = False from eq_false (by decide)]
      simp only [to_bq, l_0, l_1, l_2, l_3, l_4, l_5, l_6, l_7, l_8, l_9, l_10, l_11, l_12, l_13, l_14, l_15, l_16, l_17, l_18, l_19, l_20, l_21, l_22, l_23, l_24, l_25, l_26, l_27, l_28, l_29, l_30, l_31, l_32, l_40, l_41, l_42, l_43, l_44, l_45, l_46, l_47, l_48, l_49, l_50, l_51, l_52, l_53, l_54, l_55, l_56, l_57, l_58, l_59, l_60, l_61, l_62, l_63, l_64, l_72, l_97, l_99, l_100, l_104, l_120, l_122, l_128, l_140, l_255, l_256, l_257, l_258, l_260, l_261, l_262, l_364, l_680, l_700, l_701, l_840, l_999, l_1023, l_1024, l_9999, l_10000, l_1000000, lm]
      simp (disch := first | (with_reducible assumption) | omega | exact ⟨by omega, by omega⟩ | ((with_reducible first | apply Wf.wI | apply Wf.wL | apply Wf.fL | apply Wf.fI | apply Wf.fr); (repeat (with_reducible first | assumption | apply Wf.wI | apply Wf.wL | apply Wf.fL | apply Wf.fI | apply Wf.fr)))) only [if_true, if_false, ite_true, ite_false, reduceIte, not_true, not_false, and_true, true_and, and_false, false_and, or_true, true_or, or_false, false_or, eq_self, c62, show (q + 1 < n ∧ T (q + 1) = 62) = False from eq_false (by omega), show (nI 60 = nI 62) = False from eq_false (by decide)]
      exact e1
    · rw [if_neg (by rw [c61]; exact b1), if_neg (fun z => b1 z.2)]
      by_cases b2 : q + 1 < n ∧ T (q + 1) = 62
      · rw [if_pos ⟨a60, b2⟩]
        obtain ⟨τ, e1, e2⟩ := lng 257 (by omega) (by omega) hs
        refine ⟨τ, ?_, e2⟩
        unfold f_X12_sign_106 f_X12_sign_128
        simp only [to_bq, l_0, l_1, l_2, l_3, l_4, l_5, l_6, l_7, l_8, l_9, l_10, l_11, l_12, l_13, l_14, l_15, l_16, l_17, l_18, l_19, l_20, l_21, l_22, l_23, l_24, l_25, l_26, l_27, l_28, l_29, l_30, l_31, l_32, l_40, l_41, l_42, l_43, l_44, l_45, l_46, l_47, l_48, l_49, l_50, l_51, l_52, l_53, l_54, l_55, l_56, l_57, l_58, l_59, l_60, l_61, l_62, l_63, l_64, l_72, l_97, l_99, l_100, l_104, l_120, l_122, l_128, l_140, l_255, l_256, l_257, l_258, l_260, l_261, l_262, l_364, l_680, l_700, l_701, l_840, l_999, l_1023, l_1024, l_9999, l_10000, l_1000000, lm]
        simp (disch := first | (with_reducible assumption) | omega | exact ⟨by omega, by omega⟩ | ((with_reducible first | apply Wf.wI | apply Wf.wL | apply Wf.fL | apply Wf.fI | apply Wf.fr); (repeat (with_reducible first | assumption | apply Wf.wI | apply Wf.wL | apply Wf.fL | apply Wf.fI | apply Wf.fr)))) only [ck_225, gI_225, gL_225, pI_225, pZ0_225, pZ1_225, pL_225, gR_225_1, gR_225_3, gR_225_4, gR_225_5, gR_225_6, gR_225_7, gR_225_8, gR_225_9, gR_225_10, gR_225_11, gR_225_12, gR_225_13, gR_225_14, gR_225_15, gR_225_16, gR_225_17, gR_225_18, gR_225_19, gR_225_20, gR_225_21, gR_225_35, gR_225_36, gR_225_38, gR_225_39, gR_225_40, gR_225_41, gR_225_43, gR_225_44, gR_225_45, gR_225_48, gR_225_49, gR_225_50, gR_225_51, gR_225_53, gR_225_54, gR_225_55, gR_225_56, gR_225_58, gR_225_59, gR_225_60, gR_225_61, gR_225_62, gR_225_63, gR_225_66, gR_225_67, bq_n, bd_s, mp_s, rz_0, rz_1, bI_rz, a60, if_true, if_false, ite_true, ite_false, reduceIte, not_true, not_false, and_true, true_and, and_false, false_and, or_true, true_or, or_false, false_or, eq_self, hh, c62, eq_true b2, show (nI 60 = nI 62) = False from eq_false (by decide)]
        exact e1
      · rw [if_neg (fun z => b2 z.2), if_neg (by omega)]
        obtain ⟨τ, e1, e2⟩ := sht
        refine ⟨τ, ?_, e2⟩
        unfold f_X12_sign_106 f_X12_sign_128
        simp only [to_bq, l_0, l_1, l_2, l_3, l_4, l_5, l_6, l_7, l_8, l_9, l_10, l_11, l_12, l_13, l_14, l_15, l_16, l_17, l_18, l_19, l_20, l_21, l_22, l_23, l_24, l_25, l_26, l_27, l_28, l_29, l_30, l_31, l_32, l_40, l_41, l_42, l_43, l_44, l_45, l_46, l_47, l_48, l_49, l_50, l_51, l_52, l_53, l_54, l_55, l_56, l_57, l_58, l_59, l_60, l_61, l_62, l_63, l_64, l_72, l_97, l_99, l_100, l_104, l_120, l_122, l_128, l_140, l_255, l_256, l_257, l_258, l_260, l_261, l_262, l_364, l_680, l_700, l_701, l_840, l_999, l_1023, l_1024, l_9999, l_10000, l_1000000, lm]
        simp (disch := first | (with_reducible assumption) | omega | exact ⟨by omega, by omega⟩ | ((with_reducible first | apply Wf.wI | apply Wf.wL | apply Wf.fL | apply Wf.fI | apply Wf.fr); (repeat (with_reducible first | assumption | apply Wf.wI | apply Wf.wL | apply Wf.fL | apply Wf.fI | apply Wf.fr)))) only [ck_225, gI_225, gL_225, pI_225, pZ0_225, pZ1_225, pL_225, gR_225_1, gR_225_3, gR_225_4, gR_225_5, gR_225_6, gR_225_7, gR_225_8, gR_225_9, gR_225_10, gR_225_11, gR_225_12, gR_225_13, gR_225_14, gR_225_15, gR_225_16, gR_225_17, gR_225_18, gR_225_19, gR_225_20, gR_225_21, gR_225_35, gR_225_36, gR_225_38, gR_225_39, gR_225_40, gR_225_41, gR_225_43, gR_225_44, gR_225_45, gR_225_48, gR_225_49, gR_225_50, gR_225_51, gR_225_53, gR_225_54, gR_225_55, gR_225_56, gR_225_58, gR_225_59, gR_225_60, gR_225_61, gR_225_62, gR_225_63, gR_225_66, gR_225_67, bq_n, bd_s, mp_s, rz_0, rz_1, bI_rz, a60, if_true, if_false, ite_true, ite_false, reduceIte, not_true, not_false, and_true, true_and, and_false, false_and, or_true, true_or, or_false, false_or, eq_self, hh, c62, eq_false b2, show (nI 60 = nI 62) = False from eq_false (by decide)]
        exact e1
  · have n60 : ¬ nI (T q) = nI 60 := by rw [eq_nI (by omega) (by omega)]; exact a60
    rw [if_neg n60, if_neg (fun z => a60 z.1), if_neg (fun z => a60 z.1)]
    by_cases a62 : T q = 62
    · have hs : sgS (T q) := by omega
      by_cases b1 : q + 1 < n ∧ T (q + 1) = 61
      · rw [if_pos ⟨a62, b1⟩]
        obtain ⟨τ, e1, e2⟩ := lng 258 (by omega) (by omega) hs
        refine ⟨τ, ?_, e2⟩
        unfold f_X12_sign_106 f_X12_sign_128
        simp only [to_bq, l_0, l_1, l_2, l_3, l_4, l_5, l_6, l_7, l_8, l_9, l_10, l_11, l_12, l_13, l_14, l_15, l_16, l_17, l_18, l_19, l_20, l_21, l_22, l_23, l_24, l_25, l_26, l_27, l_28, l_29, l_30, l_31, l_32, l_40, l_41, l_42, l_43, l_44, l_45, l_46, l_47, l_48, l_49, l_50, l_51, l_52, l_53, l_54, l_55, l_56, l_57, l_58, l_59, l_60, l_61, l_62, l_63, l_64, l_72, l_97, l_99, l_100, l_104, l_120, l_122, l_128, l_140, l_255, l_256, l_257, l_258, l_260, l_261, l_262, l_364, l_680, l_700, l_701, l_840, l_999, l_1023, l_1024, l_9999, l_10000, l_1000000, lm]
        simp (disch := first | (with_reducible assumption) | omega | exact ⟨by omega, by omega⟩ | ((with_reducible first | apply Wf.wI | apply Wf.wL | apply Wf.fL | apply Wf.fI | apply Wf.fr); (repeat (with_reducible first | assumption | apply Wf.wI | apply Wf.wL | apply Wf.fL | apply Wf.fI | apply Wf.fr)))) only [ck_225, gI_225, gL_225, pI_225, pZ0_225, pZ1_225, pL_225, gR_225_1, gR_225_3, gR_225_4, gR_225_5, gR_225_6, gR_225_7, gR_225_8, gR_225_9, gR_225_10, gR_225_11, gR_225_12, gR_225_13, gR_225_14, gR_225_15, gR_225_16, gR_225_17, gR_225_18, gR_225_19, gR_225_20, gR_225_21, gR_225_35, gR_225_36, gR_225_38, gR_225_39, gR_225_40, gR_225_41, gR_225_43, gR_225_44, gR_225_45, gR_225_48, gR_225_49, gR_225_50, gR_225_51, gR_225_53, gR_225_54, gR_225_55, gR_225_56, gR_225_58, gR_225_59, gR_225_60, gR_225_61, gR_225_62, gR_225_63, gR_225_66, gR_225_67, bq_n, bd_s, mp_s, rz_0, rz_1, bI_rz, if_neg n60, show nI (T q) = nI 62 by rw [a62], if_true, if_false, ite_true, ite_false, reduceIte, not_true, not_false, and_true, true_and, and_false, false_and, or_true, true_or, or_false, false_or, eq_self, hh, c61, eq_true b1, show (nI 62 = nI 60) = False from eq_false (by decide)]
        exact e1
      · rw [if_neg (fun z => b1 z.2)]
        obtain ⟨τ, e1, e2⟩ := sht
        refine ⟨τ, ?_, e2⟩
        unfold f_X12_sign_106 f_X12_sign_128
        simp only [to_bq, l_0, l_1, l_2, l_3, l_4, l_5, l_6, l_7, l_8, l_9, l_10, l_11, l_12, l_13, l_14, l_15, l_16, l_17, l_18, l_19, l_20, l_21, l_22, l_23, l_24, l_25, l_26, l_27, l_28, l_29, l_30, l_31, l_32, l_40, l_41, l_42, l_43, l_44, l_45, l_46, l_47, l_48, l_49, l_50, l_51, l_52, l_53, l_54, l_55, l_56, l_57, l_58, l_59, l_60, l_61, l_62, l_63, l_64, l_72, l_97, l_99, l_100, l_104, l_120, l_122, l_128, l_140, l_255, l_256, l_257, l_258, l_260, l_261, l_262, l_364, l_680, l_700, l_701, l_840, l_999, l_1023, l_1024, l_9999, l_10000, l_1000000, lm]
        simp (disch := first | (with_reducible assumption) | omega | exact ⟨by omega, by omega⟩ | ((with_reducible first | apply Wf.wI | apply Wf.wL | apply Wf.fL | apply Wf.fI | apply Wf.fr); (repeat (with_reducible first | assumption | apply Wf.wI | apply Wf.wL | apply Wf.fL | apply Wf.fI | apply Wf.fr)))) only [ck_225, gI_225, gL_225, pI_225, pZ0_225, pZ1_225, pL_225, gR_225_1, gR_225_3, gR_225_4, gR_225_5, gR_225_6, gR_225_7, gR_225_8, gR_225_9, gR_225_10, gR_225_11, gR_225_12, gR_225_13, gR_225_14, gR_225_15, gR_225_16, gR_225_17, gR_225_18, gR_225_19, gR_225_20, gR_225_21, gR_225_35, gR_225_36, gR_225_38, gR_225_39, gR_225_40, gR_225_41, gR_225_43, gR_225_44, gR_225_45, gR_225_48, gR_225_49, gR_225_50, gR_225_51, gR_225_53, gR_225_54, gR_225_55, gR_225_56, gR_225_58, gR_225_59, gR_225_60, gR_225_61, gR_225_62, gR_225_63, gR_225_66, gR_225_67, bq_n, bd_s, mp_s, rz_0, rz_1, bI_rz, show nI (T q) = nI 62 by rw [a62], if_true, if_false, ite_true, ite_false, reduceIte, not_true, not_false, and_true, true_and, and_false, false_and, or_true, true_or, or_false, false_or, eq_self, hh, c61, eq_false b1, show (nI 62 = nI 60) = False from eq_false (by decide)]
        exact e1
    · have n62 : ¬ nI (T q) = nI 62 := by rw [eq_nI (by omega) (by omega)]; exact a62
      rw [if_neg (fun z => a62 z.1)]
      obtain ⟨τ, e1, e2⟩ := sht
      refine ⟨τ, ?_, e2⟩
      unfold f_X12_sign_106 f_X12_sign_128
      simp only [to_bq, l_0, l_1, l_2, l_3, l_4, l_5, l_6, l_7, l_8, l_9, l_10, l_11, l_12, l_13, l_14, l_15, l_16, l_17, l_18, l_19, l_20, l_21, l_22, l_23, l_24, l_25, l_26, l_27, l_28, l_29, l_30, l_31, l_32, l_40, l_41, l_42, l_43, l_44, l_45, l_46, l_47, l_48, l_49, l_50, l_51, l_52, l_53, l_54, l_55, l_56, l_57, l_58, l_59, l_60, l_61, l_62, l_63, l_64, l_72, l_97, l_99, l_100, l_104, l_120, l_122, l_128, l_140, l_255, l_256, l_257, l_258, l_260, l_261, l_262, l_364, l_680, l_700, l_701, l_840, l_999, l_1023, l_1024, l_9999, l_10000, l_1000000, lm]
      rw [if_neg n60, if_neg n62]
      exact e1
/-- letters -/
theorem m_tk64 : ∀ f p fu τ, n - p ≤ f → f < fu → LxR τ T n → ah_I τ 225 25 = nI p → p ≤ n → ∃ τ', f_X12_token_64 fu 225 τ = f_X12_token_87 225 τ' ∧ Fr (fun a j => a = 225 ∧ j = 25) τ τ' ∧ ah_I τ' 225 25 = nI (gon T n isSm p) := by
  intro f
  induction f with
  | zero =>
    intro p fu τ hp hf h h25 hpn
    obtain ⟨fu, rfl⟩ : ∃ q, fu = q + 1 := ⟨fu - 1, by omega⟩
    have h7 := h.2.1
    have hn : ¬ (p < n ∧ isSm (T p)) := fun z => by omega
    refine ⟨τ, ?_, Fr.rfl, by rw [gon_f hn]; exact h25⟩
    show f_X12_token_64_b _ _ _ = _
    unfold f_X12_token_64_b
    simp only [to_bq, l_0, l_1, l_2, l_3, l_4, l_5, l_6, l_7, l_8, l_9, l_10, l_11, l_12, l_13, l_14, l_15, l_16, l_17, l_18, l_19, l_20, l_21, l_22, l_23, l_24, l_25, l_26, l_27, l_28, l_29, l_30, l_31, l_32, l_40, l_41, l_42, l_43, l_44, l_45, l_46, l_47, l_48, l_49, l_50, l_51, l_52, l_53, l_54, l_55, l_56, l_57, l_58, l_59, l_60, l_61, l_62, l_63, l_64, l_72, l_97, l_99, l_100, l_104, l_120, l_122, l_128, l_140, l_255, l_256, l_257, l_258, l_260, l_261, l_262, l_364, l_680, l_700, l_701, l_840, l_999, l_1023, l_1024, l_9999, l_10000, l_1000000, lm]
    simp (disch := first | (with_reducible assumption) | omega | exact ⟨by omega, by omega⟩ | ((with_reducible first | apply Wf.wI | apply Wf.wL | apply Wf.fL | apply Wf.fI | apply Wf.fr); (repeat (with_reducible first | assumption | apply Wf.wI | apply Wf.wL | apply Wf.fL | apply Wf.fI | apply Wf.fr)))) only [m_here h h25 (show p ≤ 700 by omega), bq_n, bd_s, mp_s, rz_0, rz_1, bI_rz, m_isSmall h, cI_f hn, if_true, if_false, ite_true, ite_false, reduceIte, not_true, not_false, and_true, true_and, and_false, false_and, or_true, true_or, or_false, false_or, eq_self]
  | succ f ih =>
    intro p fu τ hp hf h h25 hpn
    obtain ⟨fu, rfl⟩ : ∃ q, fu = q + 1 := ⟨fu - 1, by omega⟩
    have h7 := h.2.1
    have hW := h.1
    show ∃ τ', f_X12_token_64_b (f_X12_token_64 fu) 225 τ = _ ∧ _
    by_cases hn : p < n ∧ isSm (T p)
    · have f1 : Fr (fun a j => a = 225 ∧ j = 25) τ (ah_wI τ 225 25 (nI (p + 1))) := Fr.rfl.wI ⟨rfl, rfl⟩
      obtain ⟨τ', e1, e2, e3⟩ := ih (p + 1) fu (ah_wI τ 225 25 (nI (p + 1))) (by omega) (by omega) (h.fr (f1.mono (fun a j z => by unfold Xtk; omega))) rI_eq (by omega)
      refine ⟨τ', ?_, f1.trans e2, by rw [gon_t hn.1 hn.2]; exact e3⟩
      rw [← e1]
      unfold f_X12_token_64_b
      simp only [to_bq, l_0, l_1, l_2, l_3, l_4, l_5, l_6, l_7, l_8, l_9, l_10, l_11, l_12, l_13, l_14, l_15, l_16, l_17, l_18, l_19, l_20, l_21, l_22, l_23, l_24, l_25, l_26, l_27, l_28, l_29, l_30, l_31, l_32, l_40, l_41, l_42, l_43, l_44, l_45, l_46, l_47, l_48, l_49, l_50, l_51, l_52, l_53, l_54, l_55, l_56, l_57, l_58, l_59, l_60, l_61, l_62, l_63, l_64, l_72, l_97, l_99, l_100, l_104, l_120, l_122, l_128, l_140, l_255, l_256, l_257, l_258, l_260, l_261, l_262, l_364, l_680, l_700, l_701, l_840, l_999, l_1023, l_1024, l_9999, l_10000, l_1000000, lm]
      simp (disch := first | (with_reducible assumption) | omega | exact ⟨by omega, by omega⟩ | ((with_reducible first | apply Wf.wI | apply Wf.wL | apply Wf.fL | apply Wf.fI | apply Wf.fr); (repeat (with_reducible first | assumption | apply Wf.wI | apply Wf.wL | apply Wf.fL | apply Wf.fI | apply Wf.fr)))) only [ck_225, gI_225, gL_225, pI_225, pZ0_225, pZ1_225, pL_225, gR_225_1, gR_225_3, gR_225_4, gR_225_5, gR_225_6, gR_225_7, gR_225_8, gR_225_9, gR_225_10, gR_225_11, gR_225_12, gR_225_13, gR_225_14, gR_225_15, gR_225_16, gR_225_17, gR_225_18, gR_225_19, gR_225_20, gR_225_21, gR_225_35, gR_225_36, gR_225_38, gR_225_39, gR_225_40, gR_225_41, gR_225_43, gR_225_44, gR_225_45, gR_225_48, gR_225_49, gR_225_50, gR_225_51, gR_225_53, gR_225_54, gR_225_55, gR_225_56, gR_225_58, gR_225_59, gR_225_60, gR_225_61, gR_225_62, gR_225_63, gR_225_66, gR_225_67, m_here h h25 (show p ≤ 700 by omega), bq_n, bd_s, mp_s, rz_0, rz_1, bI_rz, m_isSmall h, cI_t hn, show (nI 1 = nI 0) = False from eq_false (by decide), if_true, if_false, ite_true, ite_false, reduceIte, not_true, not_false, and_true, true_and, and_false, false_and, or_true, true_or, or_false, false_or, eq_self, h25, zadd]
    · refine ⟨τ, ?_, Fr.rfl, by rw [gon_f hn]; exact h25⟩
      unfold f_X12_token_64_b
      simp only [to_bq, l_0, l_1, l_2, l_3, l_4, l_5, l_6, l_7, l_8, l_9, l_10, l_11, l_12, l_13, l_14, l_15, l_16, l_17, l_18, l_19, l_20, l_21, l_22, l_23, l_24, l_25, l_26, l_27, l_28, l_29, l_30, l_31, l_32, l_40, l_41, l_42, l_43, l_44, l_45, l_46, l_47, l_48, l_49, l_50, l_51, l_52, l_53, l_54, l_55, l_56, l_57, l_58, l_59, l_60, l_61, l_62, l_63, l_64, l_72, l_97, l_99, l_100, l_104, l_120, l_122, l_128, l_140, l_255, l_256, l_257, l_258, l_260, l_261, l_262, l_364, l_680, l_700, l_701, l_840, l_999, l_1023, l_1024, l_9999, l_10000, l_1000000, lm]
      simp (disch := first | (with_reducible assumption) | omega | exact ⟨by omega, by omega⟩ | ((with_reducible first | apply Wf.wI | apply Wf.wL | apply Wf.fL | apply Wf.fI | apply Wf.fr); (repeat (with_reducible first | assumption | apply Wf.wI | apply Wf.wL | apply Wf.fL | apply Wf.fI | apply Wf.fr)))) only [m_here h h25 (show p ≤ 700 by omega), bq_n, bd_s, mp_s, rz_0, rz_1, bI_rz, m_isSmall h, cI_f hn, if_true, if_false, ite_true, ite_false, reduceIte, not_true, not_false, and_true, true_and, and_false, false_and, or_true, true_or, or_false, false_or, eq_self]
/-- digits -/
theorem nuv_b {k0 : Nat} (hl : ∀ j, j < k0 → isDg (T (q + j))) : ∀ k, k ≤ k0 → nuv T q k ≤ 99999 := by
  intro k
  induction k with
  | zero => intro _; exact Nat.zero_le _
  | succ k ih =>
    intro hk
    have h1 := ih (by omega)
    have h2 := hl k (by omega)
    unfold isDg at h2
    unfold nuv
    by_cases z : nuv T q k ≤ 9999
    · rw [if_pos z]; omega
    · rw [if_neg z]; exact h1
theorem m_tk162 : ∀ f p fu τ, n - p ≤ f → f < fu → LxR τ T n → ah_I τ 225 25 = nI p → q ≤ p → p ≤ n → (∀ j, q ≤ j → j < p → isDg (T j)) → ah_I τ 225 28 = nI (nuv T q (p - q)) → ∃ τ', f_X12_token_162 fu 225 τ = some τ' ∧ Fr (fun a j => a = 225 ∧ (j = 25 ∨ j = 28)) τ τ' ∧ ah_I τ' 225 25 = nI (gon T n isDg p) ∧ ah_I τ' 225 28 = nI (nuv T q (gon T n isDg p - q)) := by
  intro f
  induction f with
  | zero =>
    intro p fu τ hp hf h h25 hqp hpn hl hv
    obtain ⟨fu, rfl⟩ : ∃ q, fu = q + 1 := ⟨fu - 1, by omega⟩
    have h7 := h.2.1
    have hn : ¬ (p < n ∧ isDg (T p)) := fun z => by omega
    refine ⟨τ, ?_, Fr.rfl, by rw [gon_f hn]; exact h25, by rw [gon_f hn]; exact hv⟩
    show f_X12_token_162_b _ _ _ = _
    unfold f_X12_token_162_b
    simp only [to_bq, l_0, l_1, l_2, l_3, l_4, l_5, l_6, l_7, l_8, l_9, l_10, l_11, l_12, l_13, l_14, l_15, l_16, l_17, l_18, l_19, l_20, l_21, l_22, l_23, l_24, l_25, l_26, l_27, l_28, l_29, l_30, l_31, l_32, l_40, l_41, l_42, l_43, l_44, l_45, l_46, l_47, l_48, l_49, l_50, l_51, l_52, l_53, l_54, l_55, l_56, l_57, l_58, l_59, l_60, l_61, l_62, l_63, l_64, l_72, l_97, l_99, l_100, l_104, l_120, l_122, l_128, l_140, l_255, l_256, l_257, l_258, l_260, l_261, l_262, l_364, l_680, l_700, l_701, l_840, l_999, l_1023, l_1024, l_9999, l_10000, l_1000000, lm]
    simp (disch := first | (with_reducible assumption) | omega | exact ⟨by omega, by omega⟩ | ((with_reducible first | apply Wf.wI | apply Wf.wL | apply Wf.fL | apply Wf.fI | apply Wf.fr); (repeat (with_reducible first | assumption | apply Wf.wI | apply Wf.wL | apply Wf.fL | apply Wf.fI | apply Wf.fr)))) only [m_here h h25 (show p ≤ 700 by omega), bq_n, bd_s, mp_s, rz_0, rz_1, bI_rz, m_isDigit h, cI_f hn, if_true, if_false, ite_true, ite_false, reduceIte, not_true, not_false, and_true, true_and, and_false, false_and, or_true, true_or, or_false, false_or, eq_self]
  | succ f ih =>
    intro p fu τ hp hf h h25 hqp hpn hl hv
    obtain ⟨fu, rfl⟩ : ∃ q, fu = q + 1 := ⟨fu - 1, by omega⟩
    have h7 := h.2.1
    have hW := h.1
    show ∃ τ', f_X12_token_162_b (f_X12_token_162 fu) 225 τ = _ ∧ _
    by_cases hn : p < n ∧ isDg (T p)
    · have hb := nuv_b (T := T) (q := q) (k0 := p - q) (fun j hj => hl (q + j) (by omega) (by omega)) (p - q) (Nat.le_refl _)
      have hd := hn.2
      unfold isDg at hd
      have hs : nuv T q (p + 1 - q) = if nuv T q (p - q) ≤ 9999 then 10 * nuv T q (p - q) + (T p - 48) else nuv T q (p - q) := by
        rw [show p + 1 - q = (p - q) + 1 by omega]
        show (if nuv T q (p - q) ≤ 9999 then 10 * nuv T q (p - q) + (T (q + (p - q)) - 48) else nuv T q (p - q)) = _
        rw [show q + (p - q) = p by omega]
      have f1 : Fr (fun a j => a = 225 ∧ (j = 25 ∨ j = 28)) τ (ah_wI (ah_wI τ 225 28 (nI (nuv T q (p + 1 - q)))) 225 25 (nI (p + 1))) := (Fr.rfl.wI ⟨rfl, Or.inr rfl⟩).wI ⟨rfl, Or.inl rfl⟩
      obtain ⟨τ', e1, e2, e3, e4⟩ := ih (p + 1) fu (ah_wI (ah_wI τ 225 28 (nI (nuv T q (p + 1 - q)))) 225 25 (nI (p + 1))) (by omega) (by omega) (h.fr (f1.mono (fun a j z => by unfold Xtk; omega))) rI_eq (by omega) (by omega) (fun j h1 h2 => by
        by_cases z : j = p
        · rw [z]; exact hn.2
        · exact hl j h1 (by omega)) (by rw [rI_ne (by omega), rI_eq])
      refine ⟨τ', ?_, f1.trans e2, by rw [gon_t hn.1 hn.2]; exact e3, by rw [gon_t hn.1 hn.2]; exact e4⟩
      rw [← e1, hs]
      have ehr : hrv T n p = nI (T p) := by unfold hrv; rw [if_neg (by omega)]
      unfold f_X12_token_162_b f_X12_token_205
      simp only [to_bq, l_0, l_1, l_2, l_3, l_4, l_5, l_6, l_7, l_8, l_9, l_10, l_11, l_12, l_13, l_14, l_15, l_16, l_17, l_18, l_19, l_20, l_21, l_22, l_23, l_24, l_25, l_26, l_27, l_28, l_29, l_30, l_31, l_32, l_40, l_41, l_42, l_43, l_44, l_45, l_46, l_47, l_48, l_49, l_50, l_51, l_52, l_53, l_54, l_55, l_56, l_57, l_58, l_59, l_60, l_61, l_62, l_63, l_64, l_72, l_97, l_99, l_100, l_104, l_120, l_122, l_128, l_140, l_255, l_256, l_257, l_258, l_260, l_261, l_262, l_364, l_680, l_700, l_701, l_840, l_999, l_1023, l_1024, l_9999, l_10000, l_1000000, lm]
      simp (disch := first | (with_reducible assumption) | omega | exact ⟨by omega, by omega⟩ | ((with_reducible first | apply Wf.wI | apply Wf.wL | apply Wf.fL | apply Wf.fI | apply Wf.fr); (repeat (with_reducible first | assumption | apply Wf.wI | apply Wf.wL | apply Wf.fL | apply Wf.fI | apply Wf.fr)))) only [ck_225, gI_225, gL_225, pI_225, pZ0_225, pZ1_225, pL_225, gR_225_1, gR_225_3, gR_225_4, gR_225_5, gR_225_6, gR_225_7, gR_225_8, gR_225_9, gR_225_10, gR_225_11, gR_225_12, gR_225_13, gR_225_14, gR_225_15, gR_225_16, gR_225_17, gR_225_18, gR_225_19, gR_225_20, gR_225_21, gR_225_35, gR_225_36, gR_225_38, gR_225_39, gR_225_40, gR_225_41, gR_225_43, gR_225_44, gR_225_45, gR_225_48, gR_225_49, gR_225_50, gR_225_51, gR_225_53, gR_225_54, gR_225_55, gR_225_56, gR_225_58, gR_225_59, gR_225_60, gR_225_61, gR_225_62, gR_225_63, gR_225_66, gR_225_67, m_here h h25 (show p ≤ 700 by omega), bq_n, bd_s, mp_s, rz_0, rz_1, bI_rz, m_isDigit h, cI_t hn, show (nI 1 = nI 0) = False from eq_false (by decide), if_true, if_false, ite_true, ite_false, reduceIte, not_true, not_false, and_true, true_and, and_false, false_and, or_true, true_or, or_false, false_or, eq_self, hv, le_nI]
      by_cases z : nuv T q (p - q) ≤ 9999
      · rw [if_pos z, if_pos z]
        have ev : nI 10 * nI (nuv T q (p - q)) + nI (T p) - nI 48 = nI (10 * nuv T q (p - q) + (T p - 48)) := by
          rw [zmul, zadd, zsub (by omega)]
          congr 1; omega
        simp (disch := first | (with_reducible assumption) | omega | exact ⟨by omega, by omega⟩ | ((with_reducible first | apply Wf.wI | apply Wf.wL | apply Wf.fL | apply Wf.fI | apply Wf.fr); (repeat (with_reducible first | assumption | apply Wf.wI | apply Wf.wL | apply Wf.fL | apply Wf.fI | apply Wf.fr)))) only [ck_225, gI_225, gL_225, pI_225, pZ0_225, pZ1_225, pL_225, gR_225_1, gR_225_3, gR_225_4, gR_225_5, gR_225_6, gR_225_7, gR_225_8, gR_225_9, gR_225_10, gR_225_11, gR_225_12, gR_225_13, gR_225_14, gR_225_15, gR_225_16, gR_225_17, gR_225_18, gR_225_19, gR_225_20, gR_225_21, gR_225_35, gR_225_36, gR_225_38, gR_225_39, gR_225_40, gR_225_41, gR_225_43, gR_225_44, gR_225_45, gR_225_48, gR_225_49, gR_225_50, gR_225_51, gR_225_53, gR_225_54, gR_225_55, gR_225_56, gR_225_58, gR_225_59, gR_225_60, gR_225_61, gR_225_62, gR_225_63, gR_225_66, gR_225_67, m_here h h25 (show p ≤ 700 by omega), bq_n, bd_s, mp_s, rz_0, rz_1, bI_rz, ehr, ev, rI_ne, h25, zadd]
      · rw [if_neg z, if_neg z]
        simp (disch := first | (with_reducible assumption) | omega | exact ⟨by omega, by omega⟩ | ((with_reducible first | apply Wf.wI | apply Wf.wL | apply Wf.fL | apply Wf.fI | apply Wf.fr); (repeat (with_reducible first | assumption | apply Wf.wI | apply Wf.wL | apply Wf.fL | apply Wf.fI | apply Wf.fr)))) only [ck_225, gI_225, gL_225, pI_225, pZ0_225, pZ1_225, pL_225, gR_225_1, gR_225_3, gR_225_4, gR_225_5, gR_225_6, gR_225_7, gR_225_8, gR_225_9, gR_225_10, gR_225_11, gR_225_12, gR_225_13, gR_225_14, gR_225_15, gR_225_16, gR_225_17, gR_225_18, gR_225_19, gR_225_20, gR_225_21, gR_225_35, gR_225_36, gR_225_38, gR_225_39, gR_225_40, gR_225_41, gR_225_43, gR_225_44, gR_225_45, gR_225_48, gR_225_49, gR_225_50, gR_225_51, gR_225_53, gR_225_54, gR_225_55, gR_225_56, gR_225_58, gR_225_59, gR_225_60, gR_225_61, gR_225_62, gR_225_63, gR_225_66, gR_225_67, bq_n, bd_s, mp_s, rz_0, rz_1, bI_rz, rI_ne, h25, zadd]
    · refine ⟨τ, ?_, Fr.rfl, by rw [gon_f hn]; exact h25, by rw [gon_f hn]; exact hv⟩
      unfold f_X12_token_162_b
      simp only [to_bq, l_0, l_1, l_2, l_3, l_4, l_5, l_6, l_7, l_8, l_9, l_10, l_11, l_12, l_13, l_14, l_15, l_16, l_17, l_18, l_19, l_20, l_21, l_22, l_23, l_24, l_25, l_26, l_27, l_28, l_29, l_30, l_31, l_32, l_40, l_41, l_42, l_43, l_44, l_45, l_46, l_47, l_48, l_49, l_50, l_51, l_52, l_53, l_54, l_55, l_56, l_57, l_58, l_59, l_60, l_61, l_62, l_63, l_64, l_72, l_97, l_99, l_100, l_104, l_120, l_122, l_128, l_140, l_255, l_256, l_257, l_258, l_260, l_261, l_262, l_364, l_680, l_700, l_701, l_840, l_999, l_1023, l_1024, l_9999, l_10000, l_1000000, lm]
      simp (disch := first | (with_reducible assumption) | omega | exact ⟨by omega, by omega⟩ | ((with_reducible first | apply Wf.wI | apply Wf.wL | apply Wf.fL | apply Wf.fI | apply Wf.fr); (repeat (with_reducible first | assumption | apply Wf.wI | apply Wf.wL | apply Wf.fL | apply Wf.fI | apply Wf.fr)))) only [m_here h h25 (show p ≤ 700 by omega), bq_n, bd_s, mp_s, rz_0, rz_1, bI_rz, m_isDigit h, cI_f hn, if_true, if_false, ite_true, ite_false, reduceIte, not_true, not_false, and_true, true_and, and_false, false_and, or_true, true_or, or_false, false_or, eq_self]
end
