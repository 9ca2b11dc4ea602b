/-! THE REFERENCE: pieces of expressions -/
section
variable {T : Nat → Nat} {n p q : Nat}
/-- how great a value may be -/
def TVb (k : TK) : Prop := (tS k = 0 → tV k < 24) ∧ (tS k = 1 → tV k < 1073741824) ∧ (tS k = 2 → tV k ≤ 99999) ∧ (tS k = 3 → tV k ≤ 258)
theorem TVb_mk {s v a b : Nat} (h : (s = 0 ∧ v < 24) ∨ (s = 1 ∧ v < 1073741824) ∨ (s = 2 ∧ v ≤ 99999) ∨ (s = 3 ∧ v ≤ 258) ∨ s = 4 ∨ s = 5) : TVb (s, v, a, b) := by
  show (s = 0 → v < 24) ∧ (s = 1 → v < 1073741824) ∧ (s = 2 → v ≤ 99999) ∧ (s = 3 → v ≤ 258)
  omega
theorem lex_v (hT : ∀ j, j < n → T j ≤ 255) (hp : p ≤ n) : TVb (lex T n p) := by
  have h2 : gon T n isWs p ≤ n := gon_le hp
  unfold lex
  generalize gon T n isWs p = q at *
  unfold lexq
  by_cases z : n ≤ q
  · rw [if_pos z]; exact TVb_mk (by omega)
  rw [if_neg z]
  by_cases zs : isSm (T q)
  · rw [cif_t zs]
    have hall : ∀ j, q ≤ j → j < gon T n isSm q → isSm (T j) := fun j h1 h2 => (gon_all j h1 h2).2
    generalize gon T n isSm q = e at *
    unfold wdt
    cases ew : wdx T q e with
    | some w =>
      obtain ⟨-, h1, -⟩ := wdf_in 24 0 w ew
      exact TVb_mk (by omega)
    | none =>
      show TVb (if e - q ≤ 6 then _ else _)
      by_cases z6 : e - q ≤ 6
      · rw [if_pos z6]
        have := pkf_b hall 6
        have h32 : (32 : Nat) ^ 6 = 1073741824 := by decide
        exact TVb_mk (by omega)
      · rw [if_neg z6]; exact TVb_mk (by omega)
  rw [cif_f zs]
  by_cases zd : isDg (T q)
  · rw [cif_t zd]
    have := nuv_b (T := T) (q := q) (k0 := gon T n isDg q - q) (fun j hj => (gon_all (P := isDg) (n := n) (p := q) (q + j) (by omega) (by omega)).2) (gon T n isDg q - q) (Nat.le_refl _)
    exact TVb_mk (by omega)
  · rw [cif_f zd]
    have hq := hT q (by omega)
    unfold sgn
    split
    · exact TVb_mk (by omega)
    · split
      · exact TVb_mk (by omega)
      · split
        · exact TVb_mk (by omega)
        · split
          · exact TVb_mk (by omega)
          · exact TVb_mk (by omega)
theorem tks_v (hT : ∀ j, j < n → T j ≤ 255) (i : Nat) : TVb (tks T n i) := by
  induction i with
  | zero => exact lex_v hT (by omega)
  | succ i ih =>
    unfold tks
    by_cases z : tS (tks T n i) = 4
    · rw [if_pos z]; exact ih
    · rw [if_neg z]; exact lex_v hT (tks_n i).2.1
end
def XpR (σ : ah_H) (T : Nat → Nat) (n i : Nat) (o : List (Nat × Nat)) (p c : Nat) : Prop := RAt σ T n i ∧ ah_I σ 225 29 = nI 0 ∧ ah_I σ 225 33 = nI p ∧ ah_I σ 225 34 = nI c ∧ c ≤ 64 ∧ p ≤ 8 ∧ o.length ≤ c ∧ ah_I σ 227 23 = nI o.length ∧ ∀ j, j < o.length → ah_I σ 244 (64 + j) = nI (o.getD j (0, 0)).1 ∧ ah_I σ 245 (64 + j) = nI (o.getD j (0, 0)).2
def XpF (σ : ah_H) (T : Nat → Nat) (n f j : Nat) : Prop := Wf σ ∧ ah_I σ 225 29 = nI f ∧ 1 ≤ f ∧ f ≤ 5 ∧ ah_I σ 225 30 = nI (tP (tks T n j))
def Xxp (a j : Nat) : Prop := a = 225 ∧ (25 ≤ j ∧ j ≤ 30 ∨ j = 33 ∨ j = 34) ∨ a = 227 ∧ j = 23 ∨ (a = 244 ∨ a = 245) ∧ 64 ≤ j
section
variable {σ τ : ah_H} {T : Nat → Nat} {n i p c : Nat} {o : List (Nat × Nat)}
theorem RAt.w (h : RAt σ T n i) : Wf σ := h.1.1
theorem RAt.v (h : RAt σ T n i) : TVb (tks T n i) := tks_v (T := T) (n := n) (fun j hj => h.1.tb j (by have := h.1.2.1; omega)) i
theorem RAt.word (h : RAt σ T n i) {w : Nat} (hw : w < 1000) : (ah_I σ 225 27 = nI 0 ∧ ah_I σ 225 28 = nI w) ↔ (tS (tks T n i) = 0 ∧ tV (tks T n i) = w) := by
  have hs := (tks_n (T := T) (n := n) i).2.2
  obtain ⟨h1, h2, h3, h4⟩ := h.2
  rw [h3, eq_nI (by omega) (by omega)]
  constructor
  · rintro ⟨a, b⟩
    have hv := h.v.1 a
    rw [h4 (by omega), eq_nI (by omega) (by omega)] at b
    exact ⟨a, b⟩
  · rintro ⟨a, b⟩
    refine ⟨a, ?_⟩
    rw [h4 (by omega), b]
theorem RAt.sign (h : RAt σ T n i) {w : Nat} (hw : w < 1000) : (ah_I σ 225 27 = nI 3 ∧ ah_I σ 225 28 = nI w) ↔ (tS (tks T n i) = 3 ∧ tV (tks T n i) = w) := by
  have hs := (tks_n (T := T) (n := n) i).2.2
  obtain ⟨h1, h2, h3, h4⟩ := h.2
  rw [h3, eq_nI (by omega) (by omega)]
  constructor
  · rintro ⟨a, b⟩
    have hv := h.v.2.2.2 a
    rw [h4 (by omega), eq_nI (by omega) (by omega)] at b
    exact ⟨a, b⟩
  · rintro ⟨a, b⟩
    refine ⟨a, ?_⟩
    rw [h4 (by omega), b]
theorem m_isWord (h : RAt σ T n i) (h29 : ah_I σ 225 29 = nI 0) {w : Nat} (hw : w < 1000) : f_X12_isWord 225 (nI w) σ = some (cI (tS (tks T n i) = 0 ∧ tV (tks T n i) = w), σ) := by
  have hW := h.w
  have hk := h.word hw
  unfold f_X12_isWord f_X12_isWord_0
  simp only [to_bq, l_0, l_1, l_2, l_3, l_4, l_5, l_6, l_7, l_8, l_9, l_10, l_11, l_12, l_13, l_14, l_15, l_16, l_17, l_18, l_19, l_20, l_21, l_22, l_23, l_24, l_25, l_26, l_27, l_28, l_29, l_30, l_31, l_32, l_40, l_41, l_42, l_43, l_44, l_45, l_46, l_47, l_48, l_49, l_50, l_51, l_52, l_53, l_54, l_55, l_56, l_57, l_58, l_59, l_60, l_61, l_62, l_63, l_64, l_72, l_97, l_99, l_100, l_104, l_120, l_122, l_128, l_140, l_255, l_256, l_257, l_258, l_260, l_261, l_262, l_364, l_680, l_700, l_701, l_840, l_999, l_1023, l_1024, l_9999, l_10000, l_1000000, lm]
  simp (disch := first | (with_reducible assumption) | omega | exact ⟨by omega, by omega⟩ | ((with_reducible first | apply Wf.wI | apply Wf.wL | apply Wf.fL | apply Wf.fI | apply Wf.fr); (repeat (with_reducible first | assumption | apply Wf.wI | apply Wf.wL | apply Wf.fL | apply Wf.fI | apply Wf.fr)))) only [ck_225, gI_225, gL_225, pI_225, pZ0_225, pZ1_225, pL_225, gR_225_1, gR_225_3, gR_225_4, gR_225_5, gR_225_6, gR_225_7, gR_225_8, gR_225_9, gR_225_10, gR_225_11, gR_225_12, gR_225_13, gR_225_14, gR_225_15, gR_225_16, gR_225_17, gR_225_18, gR_225_19, gR_225_20, gR_225_21, gR_225_35, gR_225_36, gR_225_38, gR_225_39, gR_225_40, gR_225_41, gR_225_43, gR_225_44, gR_225_45, gR_225_48, gR_225_49, gR_225_50, gR_225_51, gR_225_53, gR_225_54, gR_225_55, gR_225_56, gR_225_58, gR_225_59, gR_225_60, gR_225_61, gR_225_62, gR_225_63, gR_225_66, gR_225_67, bq_n, bd_s, mp_s, rz_0, rz_1, bI_rz, h29, if_true, if_false, ite_true, ite_false, reduceIte, not_true, not_false, and_true, true_and, and_false, false_and, or_true, true_or, or_false, false_or, eq_self]
  by_cases z1 : ah_I σ 225 27 = nI 0
  · rw [if_pos z1]
    by_cases z2 : ah_I σ 225 28 = nI w
    · rw [if_pos z2, cI_t (hk.mp ⟨z1, z2⟩)]
    · rw [if_neg z2, cI_f (fun y => z2 (hk.mpr y).2)]
  · rw [if_neg z1, cI_f (fun y => z1 (hk.mpr y).1)]
theorem m_isSign (h : RAt σ T n i) (h29 : ah_I σ 225 29 = nI 0) {w : Nat} (hw : w < 1000) : f_X12_isSign 225 (nI w) σ = some (cI (tS (tks T n i) = 3 ∧ tV (tks T n i) = w), σ) := by
  have hW := h.w
  have hk := h.sign hw
  unfold f_X12_isSign f_X12_isSign_0
  simp only [to_bq, l_0, l_1, l_2, l_3, l_4, l_5, l_6, l_7, l_8, l_9, l_10, l_11, l_12, l_13, l_14, l_15, l_16, l_17, l_18, l_19, l_20, l_21, l_22, l_23, l_24, l_25, l_26, l_27, l_28, l_29, l_30, l_31, l_32, l_40, l_41, l_42, l_43, l_44, l_45, l_46, l_47, l_48, l_49, l_50, l_51, l_52, l_53, l_54, l_55, l_56, l_57, l_58, l_59, l_60, l_61, l_62, l_63, l_64, l_72, l_97, l_99, l_100, l_104, l_120, l_122, l_128, l_140, l_255, l_256, l_257, l_258, l_260, l_261, l_262, l_364, l_680, l_700, l_701, l_840, l_999, l_1023, l_1024, l_9999, l_10000, l_1000000, lm]
  simp (disch := first | (with_reducible assumption) | omega | exact ⟨by omega, by omega⟩ | ((with_reducible first | apply Wf.wI | apply Wf.wL | apply Wf.fL | apply Wf.fI | apply Wf.fr); (repeat (with_reducible first | assumption | apply Wf.wI | apply Wf.wL | apply Wf.fL | apply Wf.fI | apply Wf.fr)))) only [ck_225, gI_225, gL_225, pI_225, pZ0_225, pZ1_225, pL_225, gR_225_1, gR_225_3, gR_225_4, gR_225_5, gR_225_6, gR_225_7, gR_225_8, gR_225_9, gR_225_10, gR_225_11, gR_225_12, gR_225_13, gR_225_14, gR_225_15, gR_225_16, gR_225_17, gR_225_18, gR_225_19, gR_225_20, gR_225_21, gR_225_35, gR_225_36, gR_225_38, gR_225_39, gR_225_40, gR_225_41, gR_225_43, gR_225_44, gR_225_45, gR_225_48, gR_225_49, gR_225_50, gR_225_51, gR_225_53, gR_225_54, gR_225_55, gR_225_56, gR_225_58, gR_225_59, gR_225_60, gR_225_61, gR_225_62, gR_225_63, gR_225_66, gR_225_67, bq_n, bd_s, mp_s, rz_0, rz_1, bI_rz, h29, if_true, if_false, ite_true, ite_false, reduceIte, not_true, not_false, and_true, true_and, and_false, false_and, or_true, true_or, or_false, false_or, eq_self]
  by_cases z1 : ah_I σ 225 27 = nI 3
  · rw [if_pos z1]
    by_cases z2 : ah_I σ 225 28 = nI w
    · rw [if_pos z2, cI_t (hk.mp ⟨z1, z2⟩)]
    · rw [if_neg z2, cI_f (fun y => z2 (hk.mpr y).2)]
  · rw [if_neg z1, cI_f (fun y => z1 (hk.mpr y).1)]
/-- where a fault stands nothing is done -/
theorem m_isWordF (hW : Wf σ) (h : ah_I σ 225 29 ≠ nI 0) (x : Int32) : f_X12_isWord 225 x σ = some (nI 0, σ) := by
  unfold f_X12_isWord f_X12_isWord_0
  simp only [to_bq, l_0, l_1, l_2, l_3, l_4, l_5, l_6, l_7, l_8, l_9, l_10, l_11, l_12, l_13, l_14, l_15, l_16, l_17, l_18, l_19, l_20, l_21, l_22, l_23, l_24, l_25, l_26, l_27, l_28, l_29, l_30, l_31, l_32, l_40, l_41, l_42, l_43, l_44, l_45, l_46, l_47, l_48, l_49, l_50, l_51, l_52, l_53, l_54, l_55, l_56, l_57, l_58, l_59, l_60, l_61, l_62, l_63, l_64, l_72, l_97, l_99, l_100, l_104, l_120, l_122, l_128, l_140, l_255, l_256, l_257, l_258, l_260, l_261, l_262, l_364, l_680, l_700, l_701, l_840, l_999, l_1023, l_1024, l_9999, l_10000, l_1000000, lm]
  simp (disch := first | (with_reducible assumption) | omega | exact ⟨by omega, by omega⟩ | ((with_reducible first | apply Wf.wI | apply Wf.wL | apply Wf.fL | apply Wf.fI | apply Wf.fr); (repeat (with_reducible first | assumption | apply Wf.wI | apply Wf.wL | apply Wf.fL | apply Wf.fI | apply Wf.fr)))) only [ck_225, gI_225, gL_225, pI_225, pZ0_225, pZ1_225, pL_225, gR_225_1, gR_225_3, gR_225_4, gR_225_5, gR_225_6, gR_225_7, gR_225_8, gR_225_9, gR_225_10, gR_225_11, gR_225_12, gR_225_13, gR_225_14, gR_225_15, gR_225_16, gR_225_17, gR_225_18, gR_225_19, gR_225_20, gR_225_21, gR_225_35, gR_225_36, gR_225_38, gR_225_39, gR_225_40, gR_225_41, gR_225_43, gR_225_44, gR_225_45, gR_225_48, gR_225_49, gR_225_50, gR_225_51, gR_225_53, gR_225_54, gR_225_55, gR_225_56, gR_225_58, gR_225_59, gR_225_60, gR_225_61, gR_225_62, gR_225_63, gR_225_66, gR_225_67, bq_n, bd_s, mp_s, rz_0, rz_1, bI_rz, if_neg h]
theorem m_isSignF (hW : Wf σ) (h : ah_I σ 225 29 ≠ nI 0) (x : Int32) : f_X12_isSign 225 x σ = some (nI 0, σ) := by
  unfold f_X12_isSign f_X12_isSign_0
  simp only [to_bq, l_0, l_1, l_2, l_3, l_4, l_5, l_6, l_7, l_8, l_9, l_10, l_11, l_12, l_13, l_14, l_15, l_16, l_17, l_18, l_19, l_20, l_21, l_22, l_23, l_24, l_25, l_26, l_27, l_28, l_29, l_30, l_31, l_32, l_40, l_41, l_42, l_43, l_44, l_45, l_46, l_47, l_48, l_49, l_50, l_51, l_52, l_53, l_54, l_55, l_56, l_57, l_58, l_59, l_60, l_61, l_62, l_63, l_64, l_72, l_97, l_99, l_100, l_104, l_120, l_122, l_128, l_140, l_255, l_256, l_257, l_258, l_260, l_261, l_262, l_364, l_680, l_700, l_701, l_840, l_999, l_1023, l_1024, l_9999, l_10000, l_1000000, lm]
  simp (disch := first | (with_reducible assumption) | omega | exact ⟨by omega, by omega⟩ | ((with_reducible first | apply Wf.wI | apply Wf.wL | apply Wf.fL | apply Wf.fI | apply Wf.fr); (repeat (with_reducible first | assumption | apply Wf.wI | apply Wf.wL | apply Wf.fL | apply Wf.fI | apply Wf.fr)))) only [ck_225, gI_225, gL_225, pI_225, pZ0_225, pZ1_225, pL_225, gR_225_1, gR_225_3, gR_225_4, gR_225_5, gR_225_6, gR_225_7, gR_225_8, gR_225_9, gR_225_10, gR_225_11, gR_225_12, gR_225_13, gR_225_14, gR_225_15, gR_225_16, gR_225_17, gR_225_18, gR_225_19, gR_225_20, gR_225_21, gR_225_35, gR_225_36, gR_225_38, gR_225_39, gR_225_40, gR_225_41, gR_225_43, gR_225_44, gR_225_45, gR_225_48, gR_225_49, gR_225_50, gR_225_51, gR_225_53, gR_225_54, gR_225_55, gR_225_56, gR_225_58, gR_225_59, gR_225_60, gR_225_61, gR_225_62, gR_225_63, gR_225_66, gR_225_67, bq_n, bd_s, mp_s, rz_0, rz_1, bI_rz, if_neg h]
theorem m_knotF (hW : Wf σ) (h : ah_I σ 225 29 ≠ nI 0) : f_X12_knot 225 σ = some σ := by
  unfold f_X12_knot f_X12_knot_0
  simp only [to_bq, l_0, l_1, l_2, l_3, l_4, l_5, l_6, l_7, l_8, l_9, l_10, l_11, l_12, l_13, l_14, l_15, l_16, l_17, l_18, l_19, l_20, l_21, l_22, l_23, l_24, l_25, l_26, l_27, l_28, l_29, l_30, l_31, l_32, l_40, l_41, l_42, l_43, l_44, l_45, l_46, l_47, l_48, l_49, l_50, l_51, l_52, l_53, l_54, l_55, l_56, l_57, l_58, l_59, l_60, l_61, l_62, l_63, l_64, l_72, l_97, l_99, l_100, l_104, l_120, l_122, l_128, l_140, l_255, l_256, l_257, l_258, l_260, l_261, l_262, l_364, l_680, l_700, l_701, l_840, l_999, l_1023, l_1024, l_9999, l_10000, l_1000000, lm]
  simp (disch := first | (with_reducible assumption) | omega | exact ⟨by omega, by omega⟩ | ((with_reducible first | apply Wf.wI | apply Wf.wL | apply Wf.fL | apply Wf.fI | apply Wf.fr); (repeat (with_reducible first | assumption | apply Wf.wI | apply Wf.wL | apply Wf.fL | apply Wf.fI | apply Wf.fr)))) only [ck_225, gI_225, gL_225, pI_225, pZ0_225, pZ1_225, pL_225, gR_225_1, gR_225_3, gR_225_4, gR_225_5, gR_225_6, gR_225_7, gR_225_8, gR_225_9, gR_225_10, gR_225_11, gR_225_12, gR_225_13, gR_225_14, gR_225_15, gR_225_16, gR_225_17, gR_225_18, gR_225_19, gR_225_20, gR_225_21, gR_225_35, gR_225_36, gR_225_38, gR_225_39, gR_225_40, gR_225_41, gR_225_43, gR_225_44, gR_225_45, gR_225_48, gR_225_49, gR_225_50, gR_225_51, gR_225_53, gR_225_54, gR_225_55, gR_225_56, gR_225_58, gR_225_59, gR_225_60, gR_225_61, gR_225_62, gR_225_63, gR_225_66, gR_225_67, bq_n, bd_s, mp_s, rz_0, rz_1, bI_rz, if_neg h]
theorem m_goOnF (hW : Wf σ) (h : ah_I σ 225 29 ≠ nI 0) : f_X12_goOn 225 σ = some σ := by
  unfold f_X12_goOn f_X12_goOn_0
  simp only [to_bq, l_0, l_1, l_2, l_3, l_4, l_5, l_6, l_7, l_8, l_9, l_10, l_11, l_12, l_13, l_14, l_15, l_16, l_17, l_18, l_19, l_20, l_21, l_22, l_23, l_24, l_25, l_26, l_27, l_28, l_29, l_30, l_31, l_32, l_40, l_41, l_42, l_43, l_44, l_45, l_46, l_47, l_48, l_49, l_50, l_51, l_52, l_53, l_54, l_55, l_56, l_57, l_58, l_59, l_60, l_61, l_62, l_63, l_64, l_72, l_97, l_99, l_100, l_104, l_120, l_122, l_128, l_140, l_255, l_256, l_257, l_258, l_260, l_261, l_262, l_364, l_680, l_700, l_701, l_840, l_999, l_1023, l_1024, l_9999, l_10000, l_1000000, lm]
  simp (disch := first | (with_reducible assumption) | omega | exact ⟨by omega, by omega⟩ | ((with_reducible first | apply Wf.wI | apply Wf.wL | apply Wf.fL | apply Wf.fI | apply Wf.fr); (repeat (with_reducible first | assumption | apply Wf.wI | apply Wf.wL | apply Wf.fL | apply Wf.fI | apply Wf.fr)))) only [ck_225, gI_225, gL_225, pI_225, pZ0_225, pZ1_225, pL_225, gR_225_1, gR_225_3, gR_225_4, gR_225_5, gR_225_6, gR_225_7, gR_225_8, gR_225_9, gR_225_10, gR_225_11, gR_225_12, gR_225_13, gR_225_14, gR_225_15, gR_225_16, gR_225_17, gR_225_18, gR_225_19, gR_225_20, gR_225_21, gR_225_35, gR_225_36, gR_225_38, gR_225_39, gR_225_40, gR_225_41, gR_225_43, gR_225_44, gR_225_45, gR_225_48, gR_225_49, gR_225_50, gR_225_51, gR_225_53, gR_225_54, gR_225_55, gR_225_56, gR_225_58, gR_225_59, gR_225_60, gR_225_61, gR_225_62, gR_225_63, gR_225_66, gR_225_67, bq_n, bd_s, mp_s, rz_0, rz_1, bI_rz, if_neg h]
theorem m_putsF (hW : Wf σ) (h : ah_I σ 225 29 ≠ nI 0) (x y : Int32) : f_X12_puts 225 x y σ = some σ := by
  unfold f_X12_puts f_X12_puts_0
  simp only [to_bq, l_0, l_1, l_2, l_3, l_4, l_5, l_6, l_7, l_8, l_9, l_10, l_11, l_12, l_13, l_14, l_15, l_16, l_17, l_18, l_19, l_20, l_21, l_22, l_23, l_24, l_25, l_26, l_27, l_28, l_29, l_30, l_31, l_32, l_40, l_41, l_42, l_43, l_44, l_45, l_46, l_47, l_48, l_49, l_50, l_51, l_52, l_53, l_54, l_55, l_56, l_57, l_58, l_59, l_60, l_61, l_62, l_63, l_64, l_72, l_97, l_99, l_100, l_104, l_120, l_122, l_128, l_140, l_255, l_256, l_257, l_258, l_260, l_261, l_262, l_364, l_680, l_700, l_701, l_840, l_999, l_1023, l_1024, l_9999, l_10000, l_1000000, lm]
  simp (disch := first | (with_reducible assumption) | omega | exact ⟨by omega, by omega⟩ | ((with_reducible first | apply Wf.wI | apply Wf.wL | apply Wf.fL | apply Wf.fI | apply Wf.fr); (repeat (with_reducible first | assumption | apply Wf.wI | apply Wf.wL | apply Wf.fL | apply Wf.fI | apply Wf.fr)))) only [ck_225, gI_225, gL_225, pI_225, pZ0_225, pZ1_225, pL_225, gR_225_1, gR_225_3, gR_225_4, gR_225_5, gR_225_6, gR_225_7, gR_225_8, gR_225_9, gR_225_10, gR_225_11, gR_225_12, gR_225_13, gR_225_14, gR_225_15, gR_225_16, gR_225_17, gR_225_18, gR_225_19, gR_225_20, gR_225_21, gR_225_35, gR_225_36, gR_225_38, gR_225_39, gR_225_40, gR_225_41, gR_225_43, gR_225_44, gR_225_45, gR_225_48, gR_225_49, gR_225_50, gR_225_51, gR_225_53, gR_225_54, gR_225_55, gR_225_56, gR_225_58, gR_225_59, gR_225_60, gR_225_61, gR_225_62, gR_225_63, gR_225_66, gR_225_67, bq_n, bd_s, mp_s, rz_0, rz_1, bI_rz, if_neg h]
theorem m_wrongF (hW : Wf σ) (h : ah_I σ 225 29 ≠ nI 0) (x : Int32) : f_X12_wrong 225 x σ = some σ := by
  unfold f_X12_wrong f_X12_wrong_0
  simp only [to_bq, l_0, l_1, l_2, l_3, l_4, l_5, l_6, l_7, l_8, l_9, l_10, l_11, l_12, l_13, l_14, l_15, l_16, l_17, l_18, l_19, l_20, l_21, l_22, l_23, l_24, l_25, l_26, l_27, l_28, l_29, l_30, l_31, l_32, l_40, l_41, l_42, l_43, l_44, l_45, l_46, l_47, l_48, l_49, l_50, l_51, l_52, l_53, l_54, l_55, l_56, l_57, l_58, l_59, l_60, l_61, l_62, l_63, l_64, l_72, l_97, l_99, l_100, l_104, l_120, l_122, l_128, l_140, l_255, l_256, l_257, l_258, l_260, l_261, l_262, l_364, l_680, l_700, l_701, l_840, l_999, l_1023, l_1024, l_9999, l_10000, l_1000000, lm]
  simp (disch := first | (with_reducible assumption) | omega | exact ⟨by omega, by omega⟩ | ((with_reducible first | apply Wf.wI | apply Wf.wL | apply Wf.fL | apply Wf.fI | apply Wf.fr); (repeat (with_reducible first | assumption | apply Wf.wI | apply Wf.wL | apply Wf.fL | apply Wf.fI | apply Wf.fr)))) only [ck_225, gI_225, gL_225, pI_225, pZ0_225, pZ1_225, pL_225, gR_225_1, gR_225_3, gR_225_4, gR_225_5, gR_225_6, gR_225_7, gR_225_8, gR_225_9, gR_225_10, gR_225_11, gR_225_12, gR_225_13, gR_225_14, gR_225_15, gR_225_16, gR_225_17, gR_225_18, gR_225_19, gR_225_20, gR_225_21, gR_225_35, gR_225_36, gR_225_38, gR_225_39, gR_225_40, gR_225_41, gR_225_43, gR_225_44, gR_225_45, gR_225_48, gR_225_49, gR_225_50, gR_225_51, gR_225_53, gR_225_54, gR_225_55, gR_225_56, gR_225_58, gR_225_59, gR_225_60, gR_225_61, gR_225_62, gR_225_63, gR_225_66, gR_225_67, bq_n, bd_s, mp_s, rz_0, rz_1, bI_rz, if_neg h]
theorem XpF.ne {f j : Nat} (h : XpF σ T n f j) : ah_I σ 225 29 ≠ nI 0 := by
  obtain ⟨-, h1, h2, h3, -⟩ := h
  rw [h1, Ne, eq_nI (by omega) (by omega)]; omega
def Xwr (a j : Nat) : Prop := a = 225 ∧ (j = 29 ∨ j = 30)
theorem m_wrong (h : RAt σ T n i) (h29 : ah_I σ 225 29 = nI 0) {f : Nat} (h1 : 1 ≤ f) (h5 : f ≤ 5) : ∃ τ, f_X12_wrong 225 (nI f) σ = some τ ∧ Fr Xwr σ τ ∧ XpF τ T n f i := by
  have hW := h.w
  refine ⟨ah_wI (ah_wI σ 225 29 (nI f)) 225 30 (nI (tP (tks T n i))), ?_, (Fr.rfl.wI (by unfold Xwr; omega)).wI (by unfold Xwr; omega), (hW.wI _ _ _).wI _ _ _, by rw [rI_ne (by omega), rI_eq], h1, h5, rI_eq⟩
  unfold f_X12_wrong f_X12_wrong_0
  simp only [to_bq, l_0, l_1, l_2, l_3, l_4, l_5, l_6, l_7, l_8, l_9, l_10, l_11, l_12, l_13, l_14, l_15, l_16, l_17, l_18, l_19, l_20, l_21, l_22, l_23, l_24, l_25, l_26, l_27, l_28, l_29, l_30, l_31, l_32, l_40, l_41, l_42, l_43, l_44, l_45, l_46, l_47, l_48, l_49, l_50, l_51, l_52, l_53, l_54, l_55, l_56, l_57, l_58, l_59, l_60, l_61, l_62, l_63, l_64, l_72, l_97, l_99, l_100, l_104, l_120, l_122, l_128, l_140, l_255, l_256, l_257, l_258, l_260, l_261, l_262, l_364, l_680, l_700, l_701, l_840, l_999, l_1023, l_1024, l_9999, l_10000, l_1000000, lm]
  simp (disch := first | (with_reducible assumption) | omega | exact ⟨by omega, by omega⟩ | ((with_reducible first | apply Wf.wI | apply Wf.wL | apply Wf.fL | apply Wf.fI | apply Wf.fr); (repeat (with_reducible first | assumption | apply Wf.wI | apply Wf.wL | apply Wf.fL | apply Wf.fI | apply Wf.fr)))) only [ck_225, gI_225, gL_225, pI_225, pZ0_225, pZ1_225, pL_225, gR_225_1, gR_225_3, gR_225_4, gR_225_5, gR_225_6, gR_225_7, gR_225_8, gR_225_9, gR_225_10, gR_225_11, gR_225_12, gR_225_13, gR_225_14, gR_225_15, gR_225_16, gR_225_17, gR_225_18, gR_225_19, gR_225_20, gR_225_21, gR_225_35, gR_225_36, gR_225_38, gR_225_39, gR_225_40, gR_225_41, gR_225_43, gR_225_44, gR_225_45, gR_225_48, gR_225_49, gR_225_50, gR_225_51, gR_225_53, gR_225_54, gR_225_55, gR_225_56, gR_225_58, gR_225_59, gR_225_60, gR_225_61, gR_225_62, gR_225_63, gR_225_66, gR_225_67, bq_n, bd_s, mp_s, rz_0, rz_1, bI_rz, h29, if_true, if_false, ite_true, ite_false, reduceIte, not_true, not_false, and_true, true_and, and_false, false_and, or_true, true_or, or_false, false_or, eq_self, rI_ne, rI_eq, rL_ne, rL_eq, ah_I_wL, ah_L_wI, ah_R_wI, ah_R_wL, ah_I_wR, ah_L_wR, rR_ne, rR_eq, h.2.2.1]
theorem Xwr_x : ∀ a j, Xwr a j → Xxp a j := by
  intro a j h; unfold Xwr at h; unfold Xxp; omega
theorem Xtk_x : ∀ a j, Xtk a j → Xxp a j := by
  intro a j h; unfold Xtk at h; unfold Xxp; omega
theorem m_goOn (h : XpR σ T n i o p c) (he : tS (tks T n i) ≠ 4) : ∃ τ, f_X12_goOn 225 σ = some τ ∧ Fr Xtk σ τ ∧ XpR τ T n (i + 1) o p c := by
  obtain ⟨h1, h2, h3, h4, h5, h6, h7, h8, h9⟩ := h
  have hW := h1.w
  obtain ⟨τ, e1, e2, e3⟩ := m_next h1 he
  refine ⟨τ, ?_, e2, e3, (e2.I (by unfold Xtk; omega)).trans h2, (e2.I (by unfold Xtk; omega)).trans h3, (e2.I (by unfold Xtk; omega)).trans h4, h5, h6, h7, (e2.I (by unfold Xtk; omega)).trans h8, fun j hj => ⟨(e2.I (by unfold Xtk; omega)).trans (h9 j hj).1, (e2.I (by unfold Xtk; omega)).trans (h9 j hj).2⟩⟩
  unfold f_X12_goOn f_X12_goOn_0
  simp only [to_bq, l_0, l_1, l_2, l_3, l_4, l_5, l_6, l_7, l_8, l_9, l_10, l_11, l_12, l_13, l_14, l_15, l_16, l_17, l_18, l_19, l_20, l_21, l_22, l_23, l_24, l_25, l_26, l_27, l_28, l_29, l_30, l_31, l_32, l_40, l_41, l_42, l_43, l_44, l_45, l_46, l_47, l_48, l_49, l_50, l_51, l_52, l_53, l_54, l_55, l_56, l_57, l_58, l_59, l_60, l_61, l_62, l_63, l_64, l_72, l_97, l_99, l_100, l_104, l_120, l_122, l_128, l_140, l_255, l_256, l_257, l_258, l_260, l_261, l_262, l_364, l_680, l_700, l_701, l_840, l_999, l_1023, l_1024, l_9999, l_10000, l_1000000, lm]
  simp (disch := first | (with_reducible assumption) | omega | exact ⟨by omega, by omega⟩ | ((with_reducible first | apply Wf.wI | apply Wf.wL | apply Wf.fL | apply Wf.fI | apply Wf.fr); (repeat (with_reducible first | assumption | apply Wf.wI | apply Wf.wL | apply Wf.fL | apply Wf.fI | apply Wf.fr)))) only [ck_225, gI_225, gL_225, pI_225, pZ0_225, pZ1_225, pL_225, gR_225_1, gR_225_3, gR_225_4, gR_225_5, gR_225_6, gR_225_7, gR_225_8, gR_225_9, gR_225_10, gR_225_11, gR_225_12, gR_225_13, gR_225_14, gR_225_15, gR_225_16, gR_225_17, gR_225_18, gR_225_19, gR_225_20, gR_225_21, gR_225_35, gR_225_36, gR_225_38, gR_225_39, gR_225_40, gR_225_41, gR_225_43, gR_225_44, gR_225_45, gR_225_48, gR_225_49, gR_225_50, gR_225_51, gR_225_53, gR_225_54, gR_225_55, gR_225_56, gR_225_58, gR_225_59, gR_225_60, gR_225_61, gR_225_62, gR_225_63, gR_225_66, gR_225_67, bq_n, bd_s, mp_s, rz_0, rz_1, bI_rz, h2, if_true, if_false, ite_true, ite_false, reduceIte, not_true, not_false, and_true, true_and, and_false, false_and, or_true, true_or, or_false, false_or, eq_self, e1]
theorem m_knot (h : XpR σ T n i o p c) (hc : c < 64) : ∃ τ, f_X12_knot 225 σ = some τ ∧ Fr Xxp σ τ ∧ XpR τ T n i o p (c + 1) := by
  obtain ⟨h1, h2, h3, h4, h5, h6, h7, h8, h9⟩ := h
  have hW := h1.w
  refine ⟨ah_wI σ 225 34 (nI (c + 1)), ?_, Fr.rfl.wI (by unfold Xxp; omega), h1.fr (X := fun a j => a = 225 ∧ j = 34) (Fr.rfl.wI ⟨rfl, rfl⟩) (fun a j z => by omega), by rw [rI_ne (by omega)]; exact h2, by rw [rI_ne (by omega)]; exact h3, rI_eq, by omega, h6, by omega, by rw [rI_ne (by omega)]; exact h8, fun j hj => ⟨by rw [rI_ne (by omega)]; exact (h9 j hj).1, by rw [rI_ne (by omega)]; exact (h9 j hj).2⟩⟩
  have nc : ¬ nI c = nI 64 := by rw [eq_nI (by omega) (by omega)]; omega
  unfold f_X12_knot f_X12_knot_0
  simp only [to_bq, l_0, l_1, l_2, l_3, l_4, l_5, l_6, l_7, l_8, l_9, l_10, l_11, l_12, l_13, l_14, l_15, l_16, l_17, l_18, l_19, l_20, l_21, l_22, l_23, l_24, l_25, l_26, l_27, l_28, l_29, l_30, l_31, l_32, l_40, l_41, l_42, l_43, l_44, l_45, l_46, l_47, l_48, l_49, l_50, l_51, l_52, l_53, l_54, l_55, l_56, l_57, l_58, l_59, l_60, l_61, l_62, l_63, l_64, l_72, l_97, l_99, l_100, l_104, l_120, l_122, l_128, l_140, l_255, l_256, l_257, l_258, l_260, l_261, l_262, l_364, l_680, l_700, l_701, l_840, l_999, l_1023, l_1024, l_9999, l_10000, l_1000000, lm]
  simp (disch := first | (with_reducible assumption) | omega | exact ⟨by omega, by omega⟩ | ((with_reducible first | apply Wf.wI | apply Wf.wL | apply Wf.fL | apply Wf.fI | apply Wf.fr); (repeat (with_reducible first | assumption | apply Wf.wI | apply Wf.wL | apply Wf.fL | apply Wf.fI | apply Wf.fr)))) only [ck_225, gI_225, gL_225, pI_225, pZ0_225, pZ1_225, pL_225, gR_225_1, gR_225_3, gR_225_4, gR_225_5, gR_225_6, gR_225_7, gR_225_8, gR_225_9, gR_225_10, gR_225_11, gR_225_12, gR_225_13, gR_225_14, gR_225_15, gR_225_16, gR_225_17, gR_225_18, gR_225_19, gR_225_20, gR_225_21, gR_225_35, gR_225_36, gR_225_38, gR_225_39, gR_225_40, gR_225_41, gR_225_43, gR_225_44, gR_225_45, gR_225_48, gR_225_49, gR_225_50, gR_225_51, gR_225_53, gR_225_54, gR_225_55, gR_225_56, gR_225_58, gR_225_59, gR_225_60, gR_225_61, gR_225_62, gR_225_63, gR_225_66, gR_225_67, bq_n, bd_s, mp_s, rz_0, rz_1, bI_rz, h2, if_true, if_false, ite_true, ite_false, reduceIte, not_true, not_false, and_true, true_and, and_false, false_and, or_true, true_or, or_false, false_or, eq_self, h4, if_neg nc, zadd]
theorem m_knot64 (h : XpR σ T n i o p 64) : ∃ τ, f_X12_knot 225 σ = some τ ∧ Fr Xxp σ τ ∧ XpF τ T n 2 i := by
  obtain ⟨h1, h2, h3, h4, h5, h6, h7, h8, h9⟩ := h
  have hW := h1.w
  obtain ⟨τ, e1, e2, e3⟩ := m_wrong (f := 2) h1 h2 (by omega) (by omega)
  refine ⟨τ, ?_, e2.mono Xwr_x, e3⟩
  unfold f_X12_knot f_X12_knot_0
  simp only [to_bq, l_0, l_1, l_2, l_3, l_4, l_5, l_6, l_7, l_8, l_9, l_10, l_11, l_12, l_13, l_14, l_15, l_16, l_17, l_18, l_19, l_20, l_21, l_22, l_23, l_24, l_25, l_26, l_27, l_28, l_29, l_30, l_31, l_32, l_40, l_41, l_42, l_43, l_44, l_45, l_46, l_47, l_48, l_49, l_50, l_51, l_52, l_53, l_54, l_55, l_56, l_57, l_58, l_59, l_60, l_61, l_62, l_63, l_64, l_72, l_97, l_99, l_100, l_104, l_120, l_122, l_128, l_140, l_255, l_256, l_257, l_258, l_260, l_261, l_262, l_364, l_680, l_700, l_701, l_840, l_999, l_1023, l_1024, l_9999, l_10000, l_1000000, lm]
  simp (disch := first | (with_reducible assumption) | omega | exact ⟨by omega, by omega⟩ | ((with_reducible first | apply Wf.wI | apply Wf.wL | apply Wf.fL | apply Wf.fI | apply Wf.fr); (repeat (with_reducible first | assumption | apply Wf.wI | apply Wf.wL | apply Wf.fL | apply Wf.fI | apply Wf.fr)))) only [ck_225, gI_225, gL_225, pI_225, pZ0_225, pZ1_225, pL_225, gR_225_1, gR_225_3, gR_225_4, gR_225_5, gR_225_6, gR_225_7, gR_225_8, gR_225_9, gR_225_10, gR_225_11, gR_225_12, gR_225_13, gR_225_14, gR_225_15, gR_225_16, gR_225_17, gR_225_18, gR_225_19, gR_225_20, gR_225_21, gR_225_35, gR_225_36, gR_225_38, gR_225_39, gR_225_40, gR_225_41, gR_225_43, gR_225_44, gR_225_45, gR_225_48, gR_225_49, gR_225_50, gR_225_51, gR_225_53, gR_225_54, gR_225_55, gR_225_56, gR_225_58, gR_225_59, gR_225_60, gR_225_61, gR_225_62, gR_225_63, gR_225_66, gR_225_67, bq_n, bd_s, mp_s, rz_0, rz_1, bI_rz, h2, if_true, if_false, ite_true, ite_false, reduceIte, not_true, not_false, and_true, true_and, and_false, false_and, or_true, true_or, or_false, false_or, eq_self, h4, e1]
theorem getD_l {l : List (Nat × Nat)} {x d : Nat × Nat} {j : Nat} (h : j < l.length) : (l ++ [x]).getD j d = l.getD j d := by
  simp [List.getD_eq_getElem?_getD, List.getElem?_append_left h]
theorem getD_r {l : List (Nat × Nat)} {x d : Nat × Nat} : (l ++ [x]).getD l.length d = x := by
  simp [List.getD_eq_getElem?_getD]
theorem m_puts (h : XpR σ T n i o p c) (hc : o.length < c) {s v : Nat} : ∃ τ, f_X12_puts 225 (nI s) (nI v) σ = some τ ∧ Fr Xxp σ τ ∧ XpR τ T n i (o ++ [(s, v)]) p c := by
  obtain ⟨h1, h2, h3, h4, h5, h6, h7, h8, h9⟩ := h
  have hW := h1.w
  have f1 : Fr (fun a j => a = 227 ∧ j = 23 ∨ (a = 244 ∨ a = 245) ∧ 64 ≤ j) σ (ah_wI (ah_wI (ah_wI σ 244 (64 + o.length) (nI s)) 245 (64 + o.length) (nI v)) 227 23 (nI (o.length + 1))) := ((Fr.rfl.wI (by omega)).wI (by omega)).wI (by omega)
  refine ⟨ah_wI (ah_wI (ah_wI σ 244 (64 + o.length) (nI s)) 245 (64 + o.length) (nI v)) 227 23 (nI (o.length + 1)), ?_, f1.mono (fun a j z => Or.inr z), h1.fr f1 (fun a j z => by omega), by rw [f1.I (by omega)]; exact h2, by rw [f1.I (by omega)]; exact h3, by rw [f1.I (by omega)]; exact h4, h5, h6, by rw [List.length_append]; show o.length + 1 ≤ c; omega, by rw [rI_eq, List.length_append]; rfl, fun j hj => ?_⟩
  · unfold f_X12_puts f_X12_puts_0 f_X12_fresher f_X12_fresher_0 f_X12_reads f_X12_reads_0
    simp only [to_bq, l_0, l_1, l_2, l_3, l_4, l_5, l_6, l_7, l_8, l_9, l_10, l_11, l_12, l_13, l_14, l_15, l_16, l_17, l_18, l_19, l_20, l_21, l_22, l_23, l_24, l_25, l_26, l_27, l_28, l_29, l_30, l_31, l_32, l_40, l_41, l_42, l_43, l_44, l_45, l_46, l_47, l_48, l_49, l_50, l_51, l_52, l_53, l_54, l_55, l_56, l_57, l_58, l_59, l_60, l_61, l_62, l_63, l_64, l_72, l_97, l_99, l_100, l_104, l_120, l_122, l_128, l_140, l_255, l_256, l_257, l_258, l_260, l_261, l_262, l_364, l_680, l_700, l_701, l_840, l_999, l_1023, l_1024, l_9999, l_10000, l_1000000, lm]
    simp (disch := first | (with_reducible assumption) | omega | exact ⟨by omega, by omega⟩ | ((with_reducible first | apply Wf.wI | apply Wf.wL | apply Wf.fL | apply Wf.fI | apply Wf.fr); (repeat (with_reducible first | assumption | apply Wf.wI | apply Wf.wL | apply Wf.fL | apply Wf.fI | apply Wf.fr)))) only [ck_225, gI_225, gL_225, pI_225, pZ0_225, pZ1_225, pL_225, gR_225_1, gR_225_3, gR_225_4, gR_225_5, gR_225_6, gR_225_7, gR_225_8, gR_225_9, gR_225_10, gR_225_11, gR_225_12, gR_225_13, gR_225_14, gR_225_15, gR_225_16, gR_225_17, gR_225_18, gR_225_19, gR_225_20, gR_225_21, gR_225_35, gR_225_36, gR_225_38, gR_225_39, gR_225_40, gR_225_41, gR_225_43, gR_225_44, gR_225_45, gR_225_48, gR_225_49, gR_225_50, gR_225_51, gR_225_53, gR_225_54, gR_225_55, gR_225_56, gR_225_58, gR_225_59, gR_225_60, gR_225_61, gR_225_62, gR_225_63, gR_225_66, gR_225_67, bq_n, bd_s, mp_s, rz_0, rz_1, bI_rz, h2, if_true, if_false, ite_true, ite_false, reduceIte, not_true, not_false, and_true, true_and, and_false, false_and, or_true, true_or, or_false, false_or, eq_self, zadd, aI_227, sI_227, len_227, aI_244, sI_244, len_244, aI_245, sI_245, len_245, h8, rI_ne, rI_eq, rL_ne, rL_eq, ah_I_wL, ah_L_wI, ah_R_wI, ah_R_wL, ah_I_wR, ah_L_wR, rR_ne, rR_eq, Nat.reduceEqDiff, Nat.reduceAdd, Nat.reduceMul, Nat.reduceSub, Nat.reduceLT, Nat.reduceLeDiff, Nat.add_sub_cancel, Nat.zero_add, Nat.add_zero, Nat.mul_zero, Nat.zero_mul]
  · rw [List.length_append] at hj
    have hj : j < o.length + 1 := hj
    by_cases z : j = o.length
    · subst z
      rw [getD_r, rI_ne (by omega), rI_ne (by omega), rI_eq, rI_ne (by omega), rI_eq]
      exact ⟨rfl, rfl⟩
    · rw [getD_l (by omega), rI_ne (by omega), rI_ne (by omega), rI_ne (by omega), rI_ne (by omega), rI_ne (by omega), rI_ne (by omega)]
      exact h9 j (by omega)
end
