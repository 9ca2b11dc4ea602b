/-! LINES OF THE REFERENCE: a line -/
def semi (k : Nat → TK) (s : LnS) : LnS := match s with
  | (i, none) => if tS (k i) = 3 ∧ tV (k i) = 59 then (i + 1, none) else (i, some (1, i))
  | (i, some x) => (i, some x)
def bCor (k : Nat → TK) (E : DD) (s : LnS) : LnS × DD := (sOptS k (sNumS k (sNumS k (sNamS k s (E 228) (nC E)) 0 999) 0 99) 9 20, eCor E (sNamV k s (E 228) (nC E)) (sNumV k (sNamS k s (E 228) (nC E)) 0 999) (sNumV k (sNumS k (sNamS k s (E 228) (nC E)) 0 999) 0 99) (sOptV k (sNumS k (sNumS k (sNamS k s (E 228) (nC E)) 0 999) 0 99) 9 20 20))
def bRiv (k : Nat → TK) (E : DD) (s : LnS) : LnS × DD := (sNumS k (sGo (sCorS k s (E 228) (nC E))) 0 999, eRiv E (sCorV k s (E 228) (nC E)) (sNumV k (sGo (sCorS k s (E 228) (nC E))) 0 999))
noncomputable def sSt5 (k : Nat → TK) (E : DD) (s : LnS) : LnS := sGo (sJn E (sCorV k s (E 228) (nC E)) (sCorV k (sGo (sCorS k s (E 228) (nC E))) (E 228) (nC E)) (sCorS k (sGo (sCorS k s (E 228) (nC E))) (E 228) (nC E)))
noncomputable def bStr (k : Nat → TK) (E : DD) (s : LnS) : LnS × DD := (sOptS k (sOptS k (sNumS k (sSt5 k E s) 1 99) 10 3) 11 99, eStr E (sCorV k s (E 228) (nC E)) (sCorV k (sGo (sCorS k s (E 228) (nC E))) (E 228) (nC E)) (sNumV k (sSt5 k E s) 1 99) (sOptV k (sNumS k (sSt5 k E s) 1 99) 10 3 0) (sOptV k (sOptS k (sNumS k (sSt5 k E s) 1 99) 10 3) 11 99 1))
def bPip (k : Nat → TK) (E : DD) (s : LnS) : LnS × DD := (sNumS k (sNumS k s (lpw E) 99) 0 99, ePip E (sNumV k s (lpw E) 99) (sNumV k (sNumS k s (lpw E) 99) 0 99))
def bLim (k : Nat → TK) (E : DD) (x hi : Nat) (s : LnS) : LnS × DD := (sNumS k (sNumS k s 0 hi) (sNumV k s 0 hi) hi, eLim E x (sNumV k s 0 hi) (sNumV k (sNumS k s 0 hi) (sNumV k s 0 hi) hi))
def bRai (k : Nat → TK) (E : DD) (s : LnS) : LnS × DD := ((sRai k (sNamS k s (E 239) (nR E))).1, eRai E (sNamV k s (E 239) (nR E)) (sRai k (sNamS k s (E 239) (nR E))).2)
def bCar (k : Nat → TK) (E : DD) (s : LnS) : LnS × DD := (sNumS k s 0 99, eCar E (sNumV k s 0 99))
noncomputable def bod (k : Nat → TK) (E : DD) (w : Nat) (s : LnS) : LnS × DD := if w = 0 then bCor k E s else if w = 1 then bRiv k E s else if w = 2 then bStr k E s else if w = 3 then bPip k E s else if w = 4 then bLim k E 6 99 s else if w = 5 then bLim k E 8 12 s else if w = 6 then bRai k E s else bCar k E s
def fin1 (s : LnS) (E : DD) (td : Nat) (o : List (Nat × Nat)) : LnT := match s with
  | (_, some x) => .inl x
  | (i, none) => .inr (i, E, td, o)
abbrev isFl (E : DD) (w : Nat) : Prop := w = 0 ∧ nC E = 7 ∨ w = 2 ∧ nS E = 10 ∨ w = 3 ∧ nP E = 4 ∨ w = 6 ∧ nR E = 4
abbrev isOn (w : Nat) : Prop := w = 1 ∨ w = 4 ∨ w = 5 ∨ w = 8
noncomputable def lawF (r : LnT) : LnT := match r with
  | .inl x => .inl x
  | .inr (i, E, td, o) => .inr (i + 1, E, td, o)
noncomputable def lin2 (k : Nat → TK) (w i : Nat) (E : DD) (td : Nat) (o : List (Nat × Nat)) : LnT := if w = 7 then lawF (sLaw k i E (td ||| 2 ^ w) o) else fin1 (semi k (bod k E w (i, none)).1) (bod k E w (i, none)).2 (td ||| 2 ^ w) o
noncomputable def lin (k : Nat → TK) (i : Nat) (E : DD) (td : Nat) (o : List (Nat × Nat)) : LnT :=
  if tS (k i) = 0 ∧ tV (k i) ≤ 8 then (if isFl E (tV (k i)) then .inl (2, i) else if isOn (tV (k i)) ∧ td.testBit (tV (k i)) = true then .inl (3, i) else lin2 k (tV (k i)) (i + 1) E td o) else .inl (1, i)
section
variable {σ τ : ah_H} {T : Nat → Nat} {n i : Nat} {s : LnS} {E E' : DD} {td : Nat} {o : List (Nat × Nat)}
def X23 (a j : Nat) : Prop := Xfp a j ∨ a = 225 ∧ j = 23
theorem m_315 (h : RSt σ T n s) : ∃ τ, f_X12_line_315 225 σ = some τ ∧ Fr X23 σ τ ∧ RSt τ T n (semi (tks T n) s) ∧ ((semi (tks T n) s).2 = none → ah_I τ 225 23 = ah_I σ 225 23 + nI 1) := by
  have hW := h.w
  obtain ⟨i, _ | ⟨f, j⟩⟩ := s
  · have h29 : ah_I σ 225 29 = nI 0 := h.2
    have hsg := m_isSign h.1 h.2 (w := 59) (by omega)
    have e : semi (tks T n) (i, none) = if tS (tks T n i) = 3 ∧ tV (tks T n i) = 59 then (i + 1, none) else (i, some (1, i)) := rfl
    have w23 : ∀ τ, Wf τ → f_X12_line_344 225 τ = some (ah_wI τ 225 23 (ah_I τ 225 23 + nI 1)) := fun τ hw => by
      unfold f_X12_line_344
      simp only [to_bq, l_0, l_1, l_2, l_3, l_4, l_5, l_6, l_7, l_8, l_9, l_10, l_11, l_12, l_13, l_14, l_15, l_16, l_17, l_18, l_19, l_20, l_21, l_22, l_23, l_24, l_25, l_26, l_27, l_28, l_29, l_30, l_31, l_32, l_40, l_41, l_42, l_43, l_44, l_45, l_46, l_47, l_48, l_49, l_50, l_51, l_52, l_53, l_54, l_55, l_56, l_57, l_58, l_59, l_60, l_61, l_62, l_63, l_64, l_72, l_97, l_99, l_100, l_104, l_120, l_122, l_128, l_140, l_255, l_256, l_257, l_258, l_260, l_261, l_262, l_364, l_680, l_700, l_701, l_840, l_999, l_1023, l_1024, l_9999, l_10000, l_1000000, lm]
      simp (disch := first | (with_reducible assumption) | omega | exact ⟨by omega, by omega⟩ | ((with_reducible first | apply Wf.wI | apply Wf.wL | apply Wf.fL | apply Wf.fI | apply Wf.fr); (repeat (with_reducible first | assumption | apply Wf.wI | apply Wf.wL | apply Wf.fL | apply Wf.fI | apply Wf.fr)))) only [ck_225, gI_225, gL_225, pI_225, pZ0_225, pZ1_225, pL_225, gR_225_1, gR_225_3, gR_225_4, gR_225_5, gR_225_6, gR_225_7, gR_225_8, gR_225_9, gR_225_10, gR_225_11, gR_225_12, gR_225_13, gR_225_14, gR_225_15, gR_225_16, gR_225_17, gR_225_18, gR_225_19, gR_225_20, gR_225_21, gR_225_35, gR_225_36, gR_225_38, gR_225_39, gR_225_40, gR_225_41, gR_225_43, gR_225_44, gR_225_45, gR_225_48, gR_225_49, gR_225_50, gR_225_51, gR_225_53, gR_225_54, gR_225_55, gR_225_56, gR_225_58, gR_225_59, gR_225_60, gR_225_61, gR_225_62, gR_225_63, gR_225_66, gR_225_67, bq_n, bd_s, mp_s, rz_0, rz_1, bI_rz]
    unfold f_X12_line_315
    simp only [to_bq, l_0, l_1, l_2, l_3, l_4, l_5, l_6, l_7, l_8, l_9, l_10, l_11, l_12, l_13, l_14, l_15, l_16, l_17, l_18, l_19, l_20, l_21, l_22, l_23, l_24, l_25, l_26, l_27, l_28, l_29, l_30, l_31, l_32, l_40, l_41, l_42, l_43, l_44, l_45, l_46, l_47, l_48, l_49, l_50, l_51, l_52, l_53, l_54, l_55, l_56, l_57, l_58, l_59, l_60, l_61, l_62, l_63, l_64, l_72, l_97, l_99, l_100, l_104, l_120, l_122, l_128, l_140, l_255, l_256, l_257, l_258, l_260, l_261, l_262, l_364, l_680, l_700, l_701, l_840, l_999, l_1023, l_1024, l_9999, l_10000, l_1000000, lm]
    simp (disch := first | (with_reducible assumption) | omega | exact ⟨by omega, by omega⟩ | ((with_reducible first | apply Wf.wI | apply Wf.wL | apply Wf.fL | apply Wf.fI | apply Wf.fr); (repeat (with_reducible first | assumption | apply Wf.wI | apply Wf.wL | apply Wf.fL | apply Wf.fI | apply Wf.fr)))) only [ck_225, gI_225, gL_225, pI_225, pZ0_225, pZ1_225, pL_225, gR_225_1, gR_225_3, gR_225_4, gR_225_5, gR_225_6, gR_225_7, gR_225_8, gR_225_9, gR_225_10, gR_225_11, gR_225_12, gR_225_13, gR_225_14, gR_225_15, gR_225_16, gR_225_17, gR_225_18, gR_225_19, gR_225_20, gR_225_21, gR_225_35, gR_225_36, gR_225_38, gR_225_39, gR_225_40, gR_225_41, gR_225_43, gR_225_44, gR_225_45, gR_225_48, gR_225_49, gR_225_50, gR_225_51, gR_225_53, gR_225_54, gR_225_55, gR_225_56, gR_225_58, gR_225_59, gR_225_60, gR_225_61, gR_225_62, gR_225_63, gR_225_66, gR_225_67, bq_n, bd_s, mp_s, rz_0, rz_1, bI_rz, h29, if_true, if_false, ite_true, ite_false, reduceIte, not_true, not_false, and_true, true_and, and_false, false_and, or_true, true_or, or_false, false_or, eq_self]
    rw [hsg]
    simp (disch := first | (with_reducible assumption) | omega | exact ⟨by omega, by omega⟩ | ((with_reducible first | apply Wf.wI | apply Wf.wL | apply Wf.fL | apply Wf.fI | apply Wf.fr); (repeat (with_reducible first | assumption | apply Wf.wI | apply Wf.wL | apply Wf.fL | apply Wf.fI | apply Wf.fr)))) only [bq_n, bd_s, mp_s, rz_0, rz_1, bI_rz]
    by_cases z : tS (tks T n i) = 3 ∧ tV (tks T n i) = 59
    · rw [if_neg (by rw [cI_t z]; decide), e, if_pos z]
      obtain ⟨σ1, w1, w2, w3⟩ := m_next h.1 (by omega)
      rw [w1]
      simp only [bq_n, bd_s, mp_s, rz_0, rz_1, bI_rz]
      refine ⟨_, w23 σ1 w3.w, (w2.mono (fun a j q => Or.inl (Xtk_f a j q))).wI (Or.inr ⟨rfl, rfl⟩), RSt.fr (X := fun x y => x = 225 ∧ y = 23) (s := (i + 1, none)) ⟨w3, (w2.I (by unfold Xtk; omega)).trans h29⟩ (Fr.rfl.wI ⟨rfl, rfl⟩) (fun x y z => by omega), fun _ => ?_⟩
      rw [rI_eq, w2.I (by unfold Xtk; omega)]
    · rw [if_pos (cI_f z), e, if_neg z]
      obtain ⟨σ1, w1, w2, w3⟩ := m_errS h (f := 1) (by omega) (by omega)
      rw [w1]
      simp only [bq_n, bd_s, mp_s, rz_0, rz_1, bI_rz]
      exact ⟨_, w23 σ1 w3.w, (w2.mono (fun a j q => Or.inl (Xwr_f a j q))).wI (Or.inr ⟨rfl, rfl⟩), RSt.fr (X := fun x y => x = 225 ∧ y = 23) (s := (i, some (1, i))) w3 (Fr.rfl.wI ⟨rfl, rfl⟩) (fun x y z => by omega), fun w => nomatch w⟩
  · refine ⟨σ, ?_, Fr.rfl, h, fun z => nomatch z⟩
    unfold f_X12_line_315
    simp only [to_bq, l_0, l_1, l_2, l_3, l_4, l_5, l_6, l_7, l_8, l_9, l_10, l_11, l_12, l_13, l_14, l_15, l_16, l_17, l_18, l_19, l_20, l_21, l_22, l_23, l_24, l_25, l_26, l_27, l_28, l_29, l_30, l_31, l_32, l_40, l_41, l_42, l_43, l_44, l_45, l_46, l_47, l_48, l_49, l_50, l_51, l_52, l_53, l_54, l_55, l_56, l_57, l_58, l_59, l_60, l_61, l_62, l_63, l_64, l_72, l_97, l_99, l_100, l_104, l_120, l_122, l_128, l_140, l_255, l_256, l_257, l_258, l_260, l_261, l_262, l_364, l_680, l_700, l_701, l_840, l_999, l_1023, l_1024, l_9999, l_10000, l_1000000, lm]
    simp (disch := first | (with_reducible assumption) | omega | exact ⟨by omega, by omega⟩ | ((with_reducible first | apply Wf.wI | apply Wf.wL | apply Wf.fL | apply Wf.fI | apply Wf.fr); (repeat (with_reducible first | assumption | apply Wf.wI | apply Wf.wL | apply Wf.fL | apply Wf.fI | apply Wf.fr)))) only [ck_225, gI_225, gL_225, pI_225, pZ0_225, pZ1_225, pL_225, gR_225_1, gR_225_3, gR_225_4, gR_225_5, gR_225_6, gR_225_7, gR_225_8, gR_225_9, gR_225_10, gR_225_11, gR_225_12, gR_225_13, gR_225_14, gR_225_15, gR_225_16, gR_225_17, gR_225_18, gR_225_19, gR_225_20, gR_225_21, gR_225_35, gR_225_36, gR_225_38, gR_225_39, gR_225_40, gR_225_41, gR_225_43, gR_225_44, gR_225_45, gR_225_48, gR_225_49, gR_225_50, gR_225_51, gR_225_53, gR_225_54, gR_225_55, gR_225_56, gR_225_58, gR_225_59, gR_225_60, gR_225_61, gR_225_62, gR_225_63, gR_225_66, gR_225_67, bq_n, bd_s, mp_s, rz_0, rz_1, bI_rz, if_neg (RSt.ne h)]
theorem m_isFull (hW : Wf σ) (hE : RdE σ E) (ht : MT E) {w : Nat} (hw : w ≤ 8) : f_X12_isFull 225 (nI w) σ = some (cI (isFl E w), σ) := by
  have e0 := m_frs hW hE (k := 0) (by omega)
  have e1 := m_frs hW hE (k := 1) (by omega)
  have e2 := m_frs hW hE (k := 2) (by omega)
  have e3 := m_frs hW hE (k := 3) (by omega)
  have b0 : nC E ≤ 7 := ht.1.1.2
  have b1 : nS E ≤ 10 := ht.1.2.1.2
  have b2 : nP E ≤ 4 := ht.1.2.2.1.2
  have b3 : nR E ≤ 4 := ht.1.2.2.2.1.2
  rw [show E 227 0 = nI (nC E) from ht.1.1.1] at e0
  rw [show E 227 1 = nI (nS E) from ht.1.2.1.1] at e1
  rw [show E 227 2 = nI (nP E) from ht.1.2.2.1.1] at e2
  rw [show E 227 3 = nI (nR E) from ht.1.2.2.2.1.1] at e3
  unfold f_X12_isFull f_X12_isFull_0 f_X12_isFull_14 f_X12_isFull_29 f_X12_isFull_43
  simp only [to_bq, l_0, l_1, l_2, l_3, l_4, l_5, l_6, l_7, l_8, l_9, l_10, l_11, l_12, l_13, l_14, l_15, l_16, l_17, l_18, l_19, l_20, l_21, l_22, l_23, l_24, l_25, l_26, l_27, l_28, l_29, l_30, l_31, l_32, l_40, l_41, l_42, l_43, l_44, l_45, l_46, l_47, l_48, l_49, l_50, l_51, l_52, l_53, l_54, l_55, l_56, l_57, l_58, l_59, l_60, l_61, l_62, l_63, l_64, l_72, l_97, l_99, l_100, l_104, l_120, l_122, l_128, l_140, l_255, l_256, l_257, l_258, l_260, l_261, l_262, l_364, l_680, l_700, l_701, l_840, l_999, l_1023, l_1024, l_9999, l_10000, l_1000000, lm]
  simp (disch := first | (with_reducible assumption) | omega | exact ⟨by omega, by omega⟩ | ((with_reducible first | apply Wf.wI | apply Wf.wL | apply Wf.fL | apply Wf.fI | apply Wf.fr); (repeat (with_reducible first | assumption | apply Wf.wI | apply Wf.wL | apply Wf.fL | apply Wf.fI | apply Wf.fr)))) only [ck_225, gI_225, gL_225, pI_225, pZ0_225, pZ1_225, pL_225, gR_225_1, gR_225_3, gR_225_4, gR_225_5, gR_225_6, gR_225_7, gR_225_8, gR_225_9, gR_225_10, gR_225_11, gR_225_12, gR_225_13, gR_225_14, gR_225_15, gR_225_16, gR_225_17, gR_225_18, gR_225_19, gR_225_20, gR_225_21, gR_225_35, gR_225_36, gR_225_38, gR_225_39, gR_225_40, gR_225_41, gR_225_43, gR_225_44, gR_225_45, gR_225_48, gR_225_49, gR_225_50, gR_225_51, gR_225_53, gR_225_54, gR_225_55, gR_225_56, gR_225_58, gR_225_59, gR_225_60, gR_225_61, gR_225_62, gR_225_63, gR_225_66, gR_225_67, e0, e1, e2, e3, bq_n, bd_s, mp_s, rz_0, rz_1, bI_rz, zadd, zmul, zsub, le_nI, lt_nI, eq_nI, neg_nI, gen_nI, neg_lt, neg_le, neg_lt', neg_le', nI_lt0]
  by_cases z0 : w = 0
  · by_cases y : nC E = 7
    · rw [if_pos z0, if_pos y, cI_t (Or.inl ⟨z0, y⟩)]
    · rw [if_pos z0, if_neg y, if_neg (by omega), if_neg (by omega), if_neg (by omega), cI_f (by omega)]
  · rw [if_neg z0]
    by_cases z2 : w = 2
    · by_cases y : nS E = 10
      · rw [if_pos z2, if_pos y, cI_t (by omega)]
      · rw [if_pos z2, if_neg y, if_neg (by omega), if_neg (by omega), cI_f (by omega)]
    · rw [if_neg z2]
      by_cases z3 : w = 3
      · by_cases y : nP E = 4
        · rw [if_pos z3, if_pos y, cI_t (by omega)]
        · rw [if_pos z3, if_neg y, if_neg (by omega), cI_f (by omega)]
      · rw [if_neg z3]
        by_cases z6 : w = 6
        · by_cases y : nR E = 4
          · rw [if_pos z6, if_pos y, cI_t (by omega)]
          · rw [if_pos z6, if_neg y, cI_f (by omega)]
        · rw [if_neg z6, cI_f (by omega)]
theorem m_isOnce {w : Nat} (hw : w ≤ 8) : f_X12_isOnce (nI w) σ = some (cI (isOn w), σ) := by
  unfold f_X12_isOnce f_X12_isOnce_0
  simp only [to_bq, l_0, l_1, l_2, l_3, l_4, l_5, l_6, l_7, l_8, l_9, l_10, l_11, l_12, l_13, l_14, l_15, l_16, l_17, l_18, l_19, l_20, l_21, l_22, l_23, l_24, l_25, l_26, l_27, l_28, l_29, l_30, l_31, l_32, l_40, l_41, l_42, l_43, l_44, l_45, l_46, l_47, l_48, l_49, l_50, l_51, l_52, l_53, l_54, l_55, l_56, l_57, l_58, l_59, l_60, l_61, l_62, l_63, l_64, l_72, l_97, l_99, l_100, l_104, l_120, l_122, l_128, l_140, l_255, l_256, l_257, l_258, l_260, l_261, l_262, l_364, l_680, l_700, l_701, l_840, l_999, l_1023, l_1024, l_9999, l_10000, l_1000000, lm]
  simp (disch := first | (with_reducible assumption) | omega | exact ⟨by omega, by omega⟩ | ((with_reducible first | apply Wf.wI | apply Wf.wL | apply Wf.fL | apply Wf.fI | apply Wf.fr); (repeat (with_reducible first | assumption | apply Wf.wI | apply Wf.wL | apply Wf.fL | apply Wf.fI | apply Wf.fr)))) only [bq_n, bd_s, mp_s, rz_0, rz_1, bI_rz, zadd, zmul, zsub, le_nI, lt_nI, eq_nI, neg_nI, gen_nI, neg_lt, neg_le, neg_lt', neg_le', nI_lt0]
  by_cases z1 : w = 1
  · rw [if_pos z1, cI_t (by omega)]
  · by_cases z2 : w = 4
    · rw [if_neg z1, if_pos z2, cI_t (by omega)]
    · by_cases z3 : w = 5
      · rw [if_neg z1, if_neg z2, if_pos z3, cI_t (by omega)]
      · by_cases z4 : w = 8
        · rw [if_neg z1, if_neg z2, if_neg z3, if_pos z4, cI_t (by omega)]
        · rw [if_neg z1, if_neg z2, if_neg z3, if_neg z4, cI_f (by omega)]
/-- two limits -/
theorem m_limL (h : RSt σ T n s) (hE : RdE σ E) {x hi : Nat} (hx : x + 1 < 12) (hhi : hi ≤ 99) : ∃ τ, (∀ {β : Type} (K : ah_H → Option β), (f_X12_numeral 225 (nI 0) (nI hi) σ).bind (fun r16 => (f_X12_reads 225 (nI x) r16.1 r16.2).bind fun r17 => (f_X12_fresher 225 (nI x) r17).bind fun r18 => (f_X12_numeral 225 r18.1 (nI hi) r18.2).bind fun r19 => (f_X12_reads 225 (nI (x + 1)) r19.1 r19.2).bind fun r20 => K r20) = K τ) ∧ Fr Xbd σ τ ∧ RSt τ T n (bLim (tks T n) E x hi s).1 ∧ RdE τ (bLim (tks T n) E x hi s).2 := by
  obtain ⟨σ1, a1, a2, a3⟩ := m_numS h (lo := 0) (hi := hi) (by omega) (by omega)
  have hvb : sNumV (tks T n) s 0 hi ≤ 99 := by
    obtain ⟨i, _ | y⟩ := s
    · show (if _ then _ else 0) ≤ 99
      split
      · rename_i z; omega
      · omega
    · exact Nat.zero_le _
  have b3 := a3.wr (a := 227) (j := 12 + x) (v := nI (sNumV (tks T n) s 0 hi)) (by omega)
  have bE := (hE.f a2).wr (a := 227) (j := x) (v := nI (sNumV (tks T n) s 0 hi)) (show x < 12 by omega)
  have bF := (Fr.rfl (σ := σ) (X := Xbd)).tf a2 |>.tw (a := 227) (j := 12 + x) (v := nI (sNumV (tks T n) s 0 hi)) (by omega) (by omega) (Nat.le_add_right 12 _)
  have e1 := m_frs b3.w bE (k := x) (by omega)
  rw [up_e] at e1
  obtain ⟨σ2, c1, c2, c3⟩ := m_numS b3 (lo := sNumV (tks T n) s 0 hi) (hi := hi) (by omega) (by omega)
  refine ⟨ah_wI σ2 227 (12 + (x + 1)) (nI (sNumV (tks T n) (sNumS (tks T n) s 0 hi) (sNumV (tks T n) s 0 hi) hi)), fun K => ?_, bF.tf c2 |>.tw (by omega) (by omega) (Nat.le_add_right 12 _), c3.wr (by omega), (bE.f c2).wr (a := 227) (j := x + 1) (show x + 1 < 12 by omega)⟩
  rw [a1, bd_s, m_rds a3.w (by omega), bd_s, show f_X12_fresher 225 (nI x) (ah_wI σ1 227 (12 + x) (nI (sNumV (tks T n) s 0 hi), σ1).1) = _ from e1, bd_s]
  show (f_X12_numeral 225 (nI (sNumV (tks T n) s 0 hi)) (nI hi) (ah_wI σ1 227 (12 + x) (nI (sNumV (tks T n) s 0 hi)))).bind _ = _
  rw [c1, bd_s, m_rds c3.w (by omega), bd_s]
theorem m_rivL (h : RSt σ T n s) (hE : RdE σ E) (ht : MT E) : ∃ τ, (∀ {β : Type} (K : ah_H → Option β), (f_X12_corner 225 σ).bind (fun r7 => (f_X12_reads 225 (nI 4) r7.1 r7.2).bind fun r8 => (f_X12_goOn 225 r8).bind fun r9 => (f_X12_numeral 225 (nI 0) (nI 999) r9).bind fun r10 => (f_X12_reads 225 (nI 5) r10.1 r10.2).bind fun r11 => K r11) = K τ) ∧ Fr Xbd σ τ ∧ RSt τ T n (bRiv (tks T n) E s).1 ∧ RdE τ (bRiv (tks T n) E s).2 := by
  obtain ⟨σ1, a1, a2, a3⟩ := m_corS h hE (m := nC E) ht.1.1.1 ht.1.1.2
  have b3 := a3.wr (a := 227) (j := 12 + 4) (v := nI (sCorV (tks T n) s (E 228) (nC E))) (by omega)
  have bE := (hE.f a2).wr (a := 227) (j := 4) (v := nI (sCorV (tks T n) s (E 228) (nC E))) (by decide)
  have bF := (Fr.rfl (σ := σ) (X := Xbd)).tf a2 |>.tw (a := 227) (j := 12 + 4) (v := nI (sCorV (tks T n) s (E 228) (nC E))) (by omega) (by omega) (by decide)
  obtain ⟨σ2, c1, c2, c3⟩ := m_goS b3 (fun z => by obtain ⟨-, w2, w3, -⟩ := sCor_n z; rw [w2, w3]; omega)
  obtain ⟨σ3, d1, d2, d3⟩ := m_numS c3 (lo := 0) (hi := 999) (by omega) (by omega)
  refine ⟨ah_wI σ3 227 (12 + 5) (nI (sNumV (tks T n) (sGo (sCorS (tks T n) s (E 228) (nC E))) 0 999)), fun K => ?_, (bF.tf (c2.mono Xtk_f)).tf d2 |>.tw (by omega) (by omega) (by decide), d3.wr (by omega), ((bE.f (c2.mono Xtk_f)).f d2).wr (a := 227) (j := 5) (by decide)⟩
  rw [a1, bd_s, m_rds a3.w (by omega), bd_s]
  show (f_X12_goOn 225 (ah_wI σ1 227 (12 + 4) (nI (sCorV (tks T n) s (E 228) (nC E))))).bind _ = _
  rw [c1, bd_s, d1, bd_s, m_rds d3.w (by omega), bd_s]
theorem m_carL (h : RSt σ T n s) (hE : RdE σ E) : ∃ τ, (∀ {β : Type} (K : ah_H → Option β), (f_X12_numeral 225 (nI 0) (nI 99) σ).bind (fun r29 => (f_X12_reads 225 (nI 10) r29.1 r29.2).bind fun r30 => K r30) = K τ) ∧ Fr Xbd σ τ ∧ RSt τ T n (bCar (tks T n) E s).1 ∧ RdE τ (bCar (tks T n) E s).2 := by
  obtain ⟨σ1, a1, a2, a3⟩ := m_numS h (lo := 0) (hi := 99) (by omega) (by omega)
  refine ⟨ah_wI σ1 227 (12 + 10) (nI (sNumV (tks T n) s 0 99)), fun K => ?_, (Fr.rfl (σ := σ) (X := Xbd)).tf a2 |>.tw (by omega) (by omega) (by decide), a3.wr (by omega), (hE.f a2).wr (a := 227) (j := 10) (by decide)⟩
  rw [a1, bd_s, m_rds a3.w (by omega), bd_s]
end
