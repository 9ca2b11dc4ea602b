/-! LINES OF THE REFERENCE: what they read -/
abbrev LnS := Nat × Option (Nat × Nat)
def sErr (s : LnS) (f : Nat) : LnS := match s with
  | (i, none) => (i, some (f, i))
  | (i, some x) => (i, some x)
def sGo (s : LnS) : LnS := match s with
  | (i, none) => (i + 1, none)
  | (i, some x) => (i, some x)
def sNumS (k : Nat → TK) (s : LnS) (lo hi : Nat) : LnS := match s with
  | (i, none) => if tS (k i) = 2 then (if lo ≤ tV (k i) ∧ tV (k i) ≤ hi then (i + 1, none) else (i, some (2, i))) else (i, some (1, i))
  | (i, some x) => (i, some x)
def sNumV (k : Nat → TK) (s : LnS) (lo hi : Nat) : Nat := match s with
  | (i, none) => if tS (k i) = 2 ∧ lo ≤ tV (k i) ∧ tV (k i) ≤ hi then tV (k i) else lo
  | (_, some _) => lo
def sNamS (k : Nat → TK) (s : LnS) (g : Nat → Int32) (m : Nat) : LnS := match s with
  | (i, none) => if tS (k i) = 1 then (if fnd g (nI (tV (k i))) 0 m = mI 1 then (i + 1, none) else (i, some (3, i))) else (i, some (1, i))
  | (i, some x) => (i, some x)
def sNamV (k : Nat → TK) (s : LnS) (g : Nat → Int32) (m : Nat) : Nat := match s with
  | (i, none) => if tS (k i) = 1 ∧ fnd g (nI (tV (k i))) 0 m = mI 1 then tV (k i) else 0
  | (_, some _) => 0
def sCorS (k : Nat → TK) (s : LnS) (g : Nat → Int32) (m : Nat) : LnS := match s with
  | (i, none) => if tS (k i) = 1 then (if fnd g (nI (tV (k i))) 0 m = mI 1 then (i, some (4, i)) else (i, none)) else (i, some (1, i))
  | (i, some x) => (i, some x)
def sCorV (k : Nat → TK) (s : LnS) (g : Nat → Int32) (m : Nat) : Nat := match s with
  | (i, none) => if tS (k i) = 1 ∧ fnd g (nI (tV (k i))) 0 m ≠ mI 1 then ix (fnd g (nI (tV (k i))) 0 m) else 0
  | (_, some _) => 0
/-- the keyword w stands here -/
abbrev sWd (k : Nat → TK) (s : LnS) (w : Nat) : Prop := s.2 = none ∧ tS (k s.1) = 0 ∧ tV (k s.1) = w
def RSt (σ : ah_H) (T : Nat → Nat) (n : Nat) (s : LnS) : Prop := match s with
  | (i, none) => RAt σ T n i ∧ ah_I σ 225 29 = nI 0
  | (_, some (f, j)) => XpF σ T n f j
def hf (a : Nat) : Nat := if a = 227 then 12 else if a ≤ 231 then 7 else if a ≤ 236 then 10 else if a ≤ 240 then 4 else if a = 241 then 24 else if a ≤ 243 then 3 else 64
def RdE (σ : ah_H) (E : DD) : Prop := ∀ a j, 227 ≤ a → a ≤ 243 → j < hf a → ah_I σ a (hf a + j) = E a j
def Xfp (a j : Nat) : Prop := a = 225 ∧ 25 ≤ j ∧ j ≤ 30
def Xtx (a j : Nat) : Prop := a = 225 ∧ (j = 22 ∨ 25 ≤ j ∧ j ≤ 30 ∨ j = 33 ∨ j = 34) ∨ 227 ≤ a ∧ a ≤ 245 ∧ hf a ≤ j
def Xbd (a j : Nat) : Prop := a = 225 ∧ 25 ≤ j ∧ j ≤ 30 ∨ 227 ≤ a ∧ a ≤ 243 ∧ hf a ≤ j
def Xln (a j : Nat) : Prop := Xtx a j ∨ a = 225 ∧ j = 23
theorem Xfp_b : ∀ a j, Xfp a j → Xbd a j := by
  intro a j h; unfold Xfp at h; unfold Xbd; omega
theorem Xbd_t : ∀ a j, Xbd a j → Xtx a j := by
  intro a j h; unfold Xbd at h; unfold Xtx; omega
theorem Xtk_f : ∀ a j, Xtk a j → Xfp a j := by
  intro a j h; unfold Xtk at h; unfold Xfp; omega
theorem Xwr_f : ∀ a j, Xwr a j → Xfp a j := by
  intro a j h; unfold Xwr at h; unfold Xfp; omega
theorem Xfp_t : ∀ a j, Xfp a j → Xtx a j := by
  intro a j h; unfold Xfp at h; unfold Xtx; omega
section
variable {σ τ : ah_H} {T : Nat → Nat} {n i : Nat} {s : LnS} {E : DD}
theorem RSt.w (h : RSt σ T n s) : Wf σ := by
  obtain ⟨i, _ | ⟨f, j⟩⟩ := s
  · exact h.1.w
  · exact h.1
theorem RSt.fr {X : Nat → Nat → Prop} (h : RSt σ T n s) (g : Fr X σ τ) (hX : ∀ a j, X a j → a ≠ 226 ∧ ¬ (a = 225 ∧ 24 ≤ j ∧ j ≤ 30)) : RSt τ T n s := by
  obtain ⟨i, _ | ⟨f, j⟩⟩ := s
  · exact ⟨h.1.fr g (fun a j z => by have := hX a j z; omega), (g.I (fun z => by have := hX _ _ z; omega)).trans h.2⟩
  · obtain ⟨h1, h2, h3, h4, h5⟩ := h
    exact ⟨h1.fr g, (g.I (fun z => by have := hX _ _ z; omega)).trans h2, h3, h4, (g.I (fun z => by have := hX _ _ z; omega)).trans h5⟩
theorem RSt.wr (h : RSt σ T n s) {a j : Nat} {v : Int32} (ha : 227 ≤ a) : RSt (ah_wI σ a j v) T n s := h.fr (X := fun x y => x = a ∧ y = j) (Fr.rfl.wI ⟨rfl, rfl⟩) (fun x y z => by omega)
theorem RdE.fr {X : Nat → Nat → Prop} (h : RdE σ E) (g : Fr X σ τ) (hX : ∀ a j, 227 ≤ a → a ≤ 243 → hf a ≤ j → ¬ X a j) : RdE τ E := fun a j h1 h2 h3 => by
  rw [g.I (hX _ _ h1 h2 (by omega))]; exact h a j h1 h2 h3
theorem RdE.f (h : RdE σ E) (g : Fr Xfp σ τ) : RdE τ E := h.fr g (fun a j _ _ _ z => by unfold Xfp at z; omega)
theorem RdE.wr (h : RdE σ E) {a j : Nat} {v : Int32} (hj : j < hf a) : RdE (ah_wI σ a (hf a + j) v) (up E a j v) := fun a' j' h1 h2 h3 => by
  by_cases z : a' = a
  · subst z
    by_cases y : j' = j
    · rw [y, rI_eq, up_e]
    · rw [rI_ne (by omega), up_j y]; exact h _ _ h1 h2 h3
  · rw [rI_ne (by omega), up_a z]; exact h _ _ h1 h2 h3
theorem RSt.ne {f j : Nat} (h : RSt σ T n (i, some (f, j))) : ah_I σ 225 29 ≠ nI 0 := XpF.ne h
theorem m_errS (h : RSt σ T n s) {f : Nat} (h1 : 1 ≤ f) (h5 : f ≤ 5) : ∃ τ, f_X12_wrong 225 (nI f) σ = some τ ∧ Fr Xwr σ τ ∧ RSt τ T n (sErr s f) := by
  obtain ⟨i, _ | ⟨g, j⟩⟩ := s
  · exact m_wrong h.1 h.2 h1 h5
  · exact ⟨σ, m_wrongF h.1 h.ne _, Fr.rfl, h⟩
theorem m_goS (h : RSt σ T n s) (he : s.2 = none → tS (tks T n s.1) ≠ 4) : ∃ τ, f_X12_goOn 225 σ = some τ ∧ Fr Xtk σ τ ∧ RSt τ T n (sGo s) := by
  obtain ⟨i, _ | ⟨g, j⟩⟩ := s
  · obtain ⟨h1, h2⟩ := h
    have hW := h1.w
    obtain ⟨τ, e1, e2, e3⟩ := m_next h1 (he rfl)
    refine ⟨τ, ?_, e2, e3, (e2.I (by unfold Xtk; omega)).trans h2⟩
    unfold f_X12_goOn f_X12_goOn_0
    simp only [to_bq, l_0, l_1, l_2, l_3, l_4, l_5, l_6, l_7, l_8, l_9, l_10, l_11, l_12, l_13, l_14, l_15, l_16, l_17, l_18, l_19, l_20, l_21, l_22, l_23, l_24, l_25, l_26, l_27, l_28, l_29, l_30, l_31, l_32, l_40, l_41, l_42, l_43, l_44, l_45, l_46, l_47, l_48, l_49, l_50, l_51, l_52, l_53, l_54, l_55, l_56, l_57, l_58, l_59, l_60, l_61, l_62, l_63, l_64, l_72, l_97, l_99, l_100, l_104, l_120, l_122, l_128, l_140, l_255, l_256, l_257, l_258, l_260, l_261, l_262, l_364, l_680, l_700, l_701, l_840, l_999, l_1023, l_1024, l_9999, l_10000, l_1000000, lm]
    simp (disch := first | (with_reducible assumption) | omega | exact ⟨by omega, by omega⟩ | ((with_reducible first | apply Wf.wI | apply Wf.wL | apply Wf.fL | apply Wf.fI | apply Wf.fr); (repeat (with_reducible first | assumption | apply Wf.wI | apply Wf.wL | apply Wf.fL | apply Wf.fI | apply Wf.fr)))) only [ck_225, gI_225, gL_225, pI_225, pZ0_225, pZ1_225, pL_225, gR_225_1, gR_225_3, gR_225_4, gR_225_5, gR_225_6, gR_225_7, gR_225_8, gR_225_9, gR_225_10, gR_225_11, gR_225_12, gR_225_13, gR_225_14, gR_225_15, gR_225_16, gR_225_17, gR_225_18, gR_225_19, gR_225_20, gR_225_21, gR_225_35, gR_225_36, gR_225_38, gR_225_39, gR_225_40, gR_225_41, gR_225_43, gR_225_44, gR_225_45, gR_225_48, gR_225_49, gR_225_50, gR_225_51, gR_225_53, gR_225_54, gR_225_55, gR_225_56, gR_225_58, gR_225_59, gR_225_60, gR_225_61, gR_225_62, gR_225_63, gR_225_66, gR_225_67, bq_n, bd_s, mp_s, rz_0, rz_1, bI_rz, h2, if_true, if_false, ite_true, ite_false, reduceIte, not_true, not_false, and_true, true_and, and_false, false_and, or_true, true_or, or_false, false_or, eq_self, e1]
  · exact ⟨σ, m_goOnF h.1 h.ne, Fr.rfl, h⟩
theorem m_wdS (h : RSt σ T n s) {w : Nat} (hw : w < 1000) : f_X12_isWord 225 (nI w) σ = some (cI (sWd (tks T n) s w), σ) := by
  obtain ⟨i, _ | ⟨g, j⟩⟩ := s
  · rw [m_isWord h.1 h.2 hw]
    congr 2
    exact cI_eq ⟨fun z => ⟨rfl, z⟩, fun z => z.2⟩
  · rw [m_isWordF h.1 h.ne, cI_f (fun z => nomatch z.1)]
theorem m_numF (hW : Wf σ) (h : ah_I σ 225 29 ≠ nI 0) (x y : Int32) : f_X12_numeral 225 x y σ = some (x, σ) := by
  unfold f_X12_numeral f_X12_numeral_0
  simp only [to_bq, l_0, l_1, l_2, l_3, l_4, l_5, l_6, l_7, l_8, l_9, l_10, l_11, l_12, l_13, l_14, l_15, l_16, l_17, l_18, l_19, l_20, l_21, l_22, l_23, l_24, l_25, l_26, l_27, l_28, l_29, l_30, l_31, l_32, l_40, l_41, l_42, l_43, l_44, l_45, l_46, l_47, l_48, l_49, l_50, l_51, l_52, l_53, l_54, l_55, l_56, l_57, l_58, l_59, l_60, l_61, l_62, l_63, l_64, l_72, l_97, l_99, l_100, l_104, l_120, l_122, l_128, l_140, l_255, l_256, l_257, l_258, l_260, l_261, l_262, l_364, l_680, l_700, l_701, l_840, l_999, l_1023, l_1024, l_9999, l_10000, l_1000000, lm]
  simp (disch := first | (with_reducible assumption) | omega | exact ⟨by omega, by omega⟩ | ((with_reducible first | apply Wf.wI | apply Wf.wL | apply Wf.fL | apply Wf.fI | apply Wf.fr); (repeat (with_reducible first | assumption | apply Wf.wI | apply Wf.wL | apply Wf.fL | apply Wf.fI | apply Wf.fr)))) only [ck_225, gI_225, gL_225, pI_225, pZ0_225, pZ1_225, pL_225, gR_225_1, gR_225_3, gR_225_4, gR_225_5, gR_225_6, gR_225_7, gR_225_8, gR_225_9, gR_225_10, gR_225_11, gR_225_12, gR_225_13, gR_225_14, gR_225_15, gR_225_16, gR_225_17, gR_225_18, gR_225_19, gR_225_20, gR_225_21, gR_225_35, gR_225_36, gR_225_38, gR_225_39, gR_225_40, gR_225_41, gR_225_43, gR_225_44, gR_225_45, gR_225_48, gR_225_49, gR_225_50, gR_225_51, gR_225_53, gR_225_54, gR_225_55, gR_225_56, gR_225_58, gR_225_59, gR_225_60, gR_225_61, gR_225_62, gR_225_63, gR_225_66, gR_225_67, bq_n, bd_s, mp_s, rz_0, rz_1, bI_rz, if_neg h]
theorem m_num46F (hW : Wf σ) (h : ah_I σ 225 29 ≠ nI 0) (x : Int32) : f_X12_numeral_46 225 x σ = some (x, σ) := by
  unfold f_X12_numeral_46
  simp only [to_bq, l_0, l_1, l_2, l_3, l_4, l_5, l_6, l_7, l_8, l_9, l_10, l_11, l_12, l_13, l_14, l_15, l_16, l_17, l_18, l_19, l_20, l_21, l_22, l_23, l_24, l_25, l_26, l_27, l_28, l_29, l_30, l_31, l_32, l_40, l_41, l_42, l_43, l_44, l_45, l_46, l_47, l_48, l_49, l_50, l_51, l_52, l_53, l_54, l_55, l_56, l_57, l_58, l_59, l_60, l_61, l_62, l_63, l_64, l_72, l_97, l_99, l_100, l_104, l_120, l_122, l_128, l_140, l_255, l_256, l_257, l_258, l_260, l_261, l_262, l_364, l_680, l_700, l_701, l_840, l_999, l_1023, l_1024, l_9999, l_10000, l_1000000, lm]
  simp (disch := first | (with_reducible assumption) | omega | exact ⟨by omega, by omega⟩ | ((with_reducible first | apply Wf.wI | apply Wf.wL | apply Wf.fL | apply Wf.fI | apply Wf.fr); (repeat (with_reducible first | assumption | apply Wf.wI | apply Wf.wL | apply Wf.fL | apply Wf.fI | apply Wf.fr)))) only [ck_225, gI_225, gL_225, pI_225, pZ0_225, pZ1_225, pL_225, gR_225_1, gR_225_3, gR_225_4, gR_225_5, gR_225_6, gR_225_7, gR_225_8, gR_225_9, gR_225_10, gR_225_11, gR_225_12, gR_225_13, gR_225_14, gR_225_15, gR_225_16, gR_225_17, gR_225_18, gR_225_19, gR_225_20, gR_225_21, gR_225_35, gR_225_36, gR_225_38, gR_225_39, gR_225_40, gR_225_41, gR_225_43, gR_225_44, gR_225_45, gR_225_48, gR_225_49, gR_225_50, gR_225_51, gR_225_53, gR_225_54, gR_225_55, gR_225_56, gR_225_58, gR_225_59, gR_225_60, gR_225_61, gR_225_62, gR_225_63, gR_225_66, gR_225_67, bq_n, bd_s, mp_s, rz_0, rz_1, bI_rz, if_neg h]
theorem m_numS (h : RSt σ T n s) {lo hi : Nat} (hlo : lo ≤ 100000) (hhi : hi ≤ 100000) : ∃ τ, f_X12_numeral 225 (nI lo) (nI hi) σ = some (nI (sNumV (tks T n) s lo hi), τ) ∧ Fr Xfp σ τ ∧ RSt τ T n (sNumS (tks T n) s lo hi) := by
  obtain ⟨i, _ | ⟨g, j⟩⟩ := s
  · obtain ⟨h1, h2⟩ := h
    have hW := h1.w
    have hv := h1.v
    have hs := (tks_n (T := T) (n := n) i).2.2
    obtain ⟨k1, k2, k3, k4⟩ := h1.2
    unfold f_X12_numeral f_X12_numeral_0 f_X12_numeral_41
    simp only [to_bq, l_0, l_1, l_2, l_3, l_4, l_5, l_6, l_7, l_8, l_9, l_10, l_11, l_12, l_13, l_14, l_15, l_16, l_17, l_18, l_19, l_20, l_21, l_22, l_23, l_24, l_25, l_26, l_27, l_28, l_29, l_30, l_31, l_32, l_40, l_41, l_42, l_43, l_44, l_45, l_46, l_47, l_48, l_49, l_50, l_51, l_52, l_53, l_54, l_55, l_56, l_57, l_58, l_59, l_60, l_61, l_62, l_63, l_64, l_72, l_97, l_99, l_100, l_104, l_120, l_122, l_128, l_140, l_255, l_256, l_257, l_258, l_260, l_261, l_262, l_364, l_680, l_700, l_701, l_840, l_999, l_1023, l_1024, l_9999, l_10000, l_1000000, lm]
    simp (disch := first | (with_reducible assumption) | omega | exact ⟨by omega, by omega⟩ | ((with_reducible first | apply Wf.wI | apply Wf.wL | apply Wf.fL | apply Wf.fI | apply Wf.fr); (repeat (with_reducible first | assumption | apply Wf.wI | apply Wf.wL | apply Wf.fL | apply Wf.fI | apply Wf.fr)))) only [ck_225, gI_225, gL_225, pI_225, pZ0_225, pZ1_225, pL_225, gR_225_1, gR_225_3, gR_225_4, gR_225_5, gR_225_6, gR_225_7, gR_225_8, gR_225_9, gR_225_10, gR_225_11, gR_225_12, gR_225_13, gR_225_14, gR_225_15, gR_225_16, gR_225_17, gR_225_18, gR_225_19, gR_225_20, gR_225_21, gR_225_35, gR_225_36, gR_225_38, gR_225_39, gR_225_40, gR_225_41, gR_225_43, gR_225_44, gR_225_45, gR_225_48, gR_225_49, gR_225_50, gR_225_51, gR_225_53, gR_225_54, gR_225_55, gR_225_56, gR_225_58, gR_225_59, gR_225_60, gR_225_61, gR_225_62, gR_225_63, gR_225_66, gR_225_67, bq_n, bd_s, mp_s, rz_0, rz_1, bI_rz, h2, if_true, if_false, ite_true, ite_false, reduceIte, not_true, not_false, and_true, true_and, and_false, false_and, or_true, true_or, or_false, false_or, eq_self, k3]
    by_cases z : tS (tks T n i) = 2
    · have hvb := hv.2.2.1 z
      rw [k4 (by omega)]
      simp (disch := first | (with_reducible assumption) | omega | exact ⟨by omega, by omega⟩ | ((with_reducible first | apply Wf.wI | apply Wf.wL | apply Wf.fL | apply Wf.fI | apply Wf.fr); (repeat (with_reducible first | assumption | apply Wf.wI | apply Wf.wL | apply Wf.fL | apply Wf.fI | apply Wf.fr)))) only [z, if_true, if_false, ite_true, ite_false, reduceIte, not_true, not_false, and_true, true_and, and_false, false_and, or_true, true_or, or_false, false_or, eq_self, bq_n, bd_s, mp_s, rz_0, rz_1, bI_rz]
      by_cases z1 : tV (tks T n i) < lo
      · obtain ⟨τ, e1, e2, e3⟩ := m_wrong (f := 2) h1 h2 (by omega) (by omega)
        refine ⟨τ, ?_, e2.mono Xwr_f, ?_⟩
        · simp (disch := first | (with_reducible assumption) | omega | exact ⟨by omega, by omega⟩ | ((with_reducible first | apply Wf.wI | apply Wf.wL | apply Wf.fL | apply Wf.fI | apply Wf.fr); (repeat (with_reducible first | assumption | apply Wf.wI | apply Wf.wL | apply Wf.fL | apply Wf.fI | apply Wf.fr)))) only [zadd, zmul, zsub, le_nI, lt_nI, eq_nI, neg_nI, gen_nI, neg_lt, neg_le, neg_lt', neg_le', nI_lt0, z1, bq_n, bd_s, mp_s, rz_0, rz_1, bI_rz, if_true, if_false, ite_true, ite_false, reduceIte, not_true, not_false, and_true, true_and, and_false, false_and, or_true, true_or, or_false, false_or, eq_self, e1, m_num46F e3.1 e3.ne]
          rw [show sNumV (tks T n) (i, none) lo hi = lo from if_neg (by omega)]
        · show RSt τ T n (if _ then (if _ then _ else _) else _)
          rw [if_pos z, if_neg (by omega)]; exact e3
      · by_cases z2 : tV (tks T n i) ≤ hi
        · obtain ⟨τ, e1, e2, e3⟩ := m_next h1 (by omega)
          refine ⟨τ, ?_, e2.mono Xtk_f, ?_⟩
          · simp (disch := first | (with_reducible assumption) | omega | exact ⟨by omega, by omega⟩ | ((with_reducible first | apply Wf.wI | apply Wf.wL | apply Wf.fL | apply Wf.fI | apply Wf.fr); (repeat (with_reducible first | assumption | apply Wf.wI | apply Wf.wL | apply Wf.fL | apply Wf.fI | apply Wf.fr)))) only [zadd, zmul, zsub, le_nI, lt_nI, eq_nI, neg_nI, gen_nI, neg_lt, neg_le, neg_lt', neg_le', nI_lt0, z1, z2, bq_n, bd_s, mp_s, rz_0, rz_1, bI_rz, if_true, if_false, ite_true, ite_false, reduceIte, not_true, not_false, and_true, true_and, and_false, false_and, or_true, true_or, or_false, false_or, eq_self]
            unfold f_X12_numeral_46
            simp only [to_bq, l_0, l_1, l_2, l_3, l_4, l_5, l_6, l_7, l_8, l_9, l_10, l_11, l_12, l_13, l_14, l_15, l_16, l_17, l_18, l_19, l_20, l_21, l_22, l_23, l_24, l_25, l_26, l_27, l_28, l_29, l_30, l_31, l_32, l_40, l_41, l_42, l_43, l_44, l_45, l_46, l_47, l_48, l_49, l_50, l_51, l_52, l_53, l_54, l_55, l_56, l_57, l_58, l_59, l_60, l_61, l_62, l_63, l_64, l_72, l_97, l_99, l_100, l_104, l_120, l_122, l_128, l_140, l_255, l_256, l_257, l_258, l_260, l_261, l_262, l_364, l_680, l_700, l_701, l_840, l_999, l_1023, l_1024, l_9999, l_10000, l_1000000, lm]
            simp (disch := first | (with_reducible assumption) | omega | exact ⟨by omega, by omega⟩ | ((with_reducible first | apply Wf.wI | apply Wf.wL | apply Wf.fL | apply Wf.fI | apply Wf.fr); (repeat (with_reducible first | assumption | apply Wf.wI | apply Wf.wL | apply Wf.fL | apply Wf.fI | apply Wf.fr)))) only [ck_225, gI_225, gL_225, pI_225, pZ0_225, pZ1_225, pL_225, gR_225_1, gR_225_3, gR_225_4, gR_225_5, gR_225_6, gR_225_7, gR_225_8, gR_225_9, gR_225_10, gR_225_11, gR_225_12, gR_225_13, gR_225_14, gR_225_15, gR_225_16, gR_225_17, gR_225_18, gR_225_19, gR_225_20, gR_225_21, gR_225_35, gR_225_36, gR_225_38, gR_225_39, gR_225_40, gR_225_41, gR_225_43, gR_225_44, gR_225_45, gR_225_48, gR_225_49, gR_225_50, gR_225_51, gR_225_53, gR_225_54, gR_225_55, gR_225_56, gR_225_58, gR_225_59, gR_225_60, gR_225_61, gR_225_62, gR_225_63, gR_225_66, gR_225_67, h2, if_true, if_false, ite_true, ite_false, reduceIte, not_true, not_false, and_true, true_and, and_false, false_and, or_true, true_or, or_false, false_or, eq_self, k4, e1, bq_n, bd_s, mp_s, rz_0, rz_1, bI_rz]
            rw [show sNumV (tks T n) (i, none) lo hi = tV (tks T n i) from if_pos ⟨z, by omega, z2⟩]
          · show RSt τ T n (if _ then (if _ then _ else _) else _)
            rw [if_pos z, if_pos ⟨by omega, z2⟩]
            exact ⟨e3, (e2.I (by unfold Xtk; omega)).trans h2⟩
        · obtain ⟨τ, e1, e2, e3⟩ := m_wrong (f := 2) h1 h2 (by omega) (by omega)
          refine ⟨τ, ?_, e2.mono Xwr_f, ?_⟩
          · simp (disch := first | (with_reducible assumption) | omega | exact ⟨by omega, by omega⟩ | ((with_reducible first | apply Wf.wI | apply Wf.wL | apply Wf.fL | apply Wf.fI | apply Wf.fr); (repeat (with_reducible first | assumption | apply Wf.wI | apply Wf.wL | apply Wf.fL | apply Wf.fI | apply Wf.fr)))) only [zadd, zmul, zsub, le_nI, lt_nI, eq_nI, neg_nI, gen_nI, neg_lt, neg_le, neg_lt', neg_le', nI_lt0, z1, z2, bq_n, bd_s, mp_s, rz_0, rz_1, bI_rz, if_true, if_false, ite_true, ite_false, reduceIte, not_true, not_false, and_true, true_and, and_false, false_and, or_true, true_or, or_false, false_or, eq_self, e1, m_num46F e3.1 e3.ne]
            rw [show sNumV (tks T n) (i, none) lo hi = lo from if_neg (by omega)]
          · show RSt τ T n (if _ then (if _ then _ else _) else _)
            rw [if_pos z, if_neg (by omega)]; exact e3
    · obtain ⟨τ, e1, e2, e3⟩ := m_wrong (f := 1) h1 h2 (by omega) (by omega)
      refine ⟨τ, ?_, e2.mono Xwr_f, ?_⟩
      · simp (disch := first | (with_reducible assumption) | omega | exact ⟨by omega, by omega⟩ | ((with_reducible first | apply Wf.wI | apply Wf.wL | apply Wf.fL | apply Wf.fI | apply Wf.fr); (repeat (with_reducible first | assumption | apply Wf.wI | apply Wf.wL | apply Wf.fL | apply Wf.fI | apply Wf.fr)))) only [zadd, zmul, zsub, le_nI, lt_nI, eq_nI, neg_nI, gen_nI, neg_lt, neg_le, neg_lt', neg_le', nI_lt0, z, bq_n, bd_s, mp_s, rz_0, rz_1, bI_rz, if_true, if_false, ite_true, ite_false, reduceIte, not_true, not_false, and_true, true_and, and_false, false_and, or_true, true_or, or_false, false_or, eq_self, e1, m_num46F e3.1 e3.ne]
        rw [show sNumV (tks T n) (i, none) lo hi = lo from if_neg (by omega)]
      · show RSt τ T n (if _ then (if _ then _ else _) else _)
        rw [if_neg z]; exact e3
  · exact ⟨σ, m_numF h.1 h.ne _ _, Fr.rfl, h⟩
theorem m_frs (hW : Wf σ) (hE : RdE σ E) {k : Nat} (hk : k < 12) : f_X12_fresher 225 (nI k) σ = some (E 227 k, σ) := by
  have e := hE 227 k (by omega) (by omega) hk
  have e : ah_I σ 227 (12 + k) = E 227 k := e
  unfold f_X12_fresher f_X12_fresher_0
  simp only [to_bq, l_0, l_1, l_2, l_3, l_4, l_5, l_6, l_7, l_8, l_9, l_10, l_11, l_12, l_13, l_14, l_15, l_16, l_17, l_18, l_19, l_20, l_21, l_22, l_23, l_24, l_25, l_26, l_27, l_28, l_29, l_30, l_31, l_32, l_40, l_41, l_42, l_43, l_44, l_45, l_46, l_47, l_48, l_49, l_50, l_51, l_52, l_53, l_54, l_55, l_56, l_57, l_58, l_59, l_60, l_61, l_62, l_63, l_64, l_72, l_97, l_99, l_100, l_104, l_120, l_122, l_128, l_140, l_255, l_256, l_257, l_258, l_260, l_261, l_262, l_364, l_680, l_700, l_701, l_840, l_999, l_1023, l_1024, l_9999, l_10000, l_1000000, lm]
  simp (disch := first | (with_reducible assumption) | omega | exact ⟨by omega, by omega⟩ | ((with_reducible first | apply Wf.wI | apply Wf.wL | apply Wf.fL | apply Wf.fI | apply Wf.fr); (repeat (with_reducible first | assumption | apply Wf.wI | apply Wf.wL | apply Wf.fL | apply Wf.fI | apply Wf.fr)))) only [ck_225, gI_225, gL_225, pI_225, pZ0_225, pZ1_225, pL_225, gR_225_1, gR_225_3, gR_225_4, gR_225_5, gR_225_6, gR_225_7, gR_225_8, gR_225_9, gR_225_10, gR_225_11, gR_225_12, gR_225_13, gR_225_14, gR_225_15, gR_225_16, gR_225_17, gR_225_18, gR_225_19, gR_225_20, gR_225_21, gR_225_35, gR_225_36, gR_225_38, gR_225_39, gR_225_40, gR_225_41, gR_225_43, gR_225_44, gR_225_45, gR_225_48, gR_225_49, gR_225_50, gR_225_51, gR_225_53, gR_225_54, gR_225_55, gR_225_56, gR_225_58, gR_225_59, gR_225_60, gR_225_61, gR_225_62, gR_225_63, gR_225_66, gR_225_67, bq_n, bd_s, mp_s, rz_0, rz_1, bI_rz, if_true, if_false, ite_true, ite_false, reduceIte, not_true, not_false, and_true, true_and, and_false, false_and, or_true, true_or, or_false, false_or, eq_self, zadd, aI_227, sI_227, len_227, e]
theorem m_rds (hW : Wf σ) {k : Nat} (hk : k < 12) (v : Int32) : f_X12_reads 225 (nI k) v σ = some (ah_wI σ 227 (12 + k) v) := by
  unfold f_X12_reads f_X12_reads_0
  simp only [to_bq, l_0, l_1, l_2, l_3, l_4, l_5, l_6, l_7, l_8, l_9, l_10, l_11, l_12, l_13, l_14, l_15, l_16, l_17, l_18, l_19, l_20, l_21, l_22, l_23, l_24, l_25, l_26, l_27, l_28, l_29, l_30, l_31, l_32, l_40, l_41, l_42, l_43, l_44, l_45, l_46, l_47, l_48, l_49, l_50, l_51, l_52, l_53, l_54, l_55, l_56, l_57, l_58, l_59, l_60, l_61, l_62, l_63, l_64, l_72, l_97, l_99, l_100, l_104, l_120, l_122, l_128, l_140, l_255, l_256, l_257, l_258, l_260, l_261, l_262, l_364, l_680, l_700, l_701, l_840, l_999, l_1023, l_1024, l_9999, l_10000, l_1000000, lm]
  simp (disch := first | (with_reducible assumption) | omega | exact ⟨by omega, by omega⟩ | ((with_reducible first | apply Wf.wI | apply Wf.wL | apply Wf.fL | apply Wf.fI | apply Wf.fr); (repeat (with_reducible first | assumption | apply Wf.wI | apply Wf.wL | apply Wf.fL | apply Wf.fI | apply Wf.fr)))) only [ck_225, gI_225, gL_225, pI_225, pZ0_225, pZ1_225, pL_225, gR_225_1, gR_225_3, gR_225_4, gR_225_5, gR_225_6, gR_225_7, gR_225_8, gR_225_9, gR_225_10, gR_225_11, gR_225_12, gR_225_13, gR_225_14, gR_225_15, gR_225_16, gR_225_17, gR_225_18, gR_225_19, gR_225_20, gR_225_21, gR_225_35, gR_225_36, gR_225_38, gR_225_39, gR_225_40, gR_225_41, gR_225_43, gR_225_44, gR_225_45, gR_225_48, gR_225_49, gR_225_50, gR_225_51, gR_225_53, gR_225_54, gR_225_55, gR_225_56, gR_225_58, gR_225_59, gR_225_60, gR_225_61, gR_225_62, gR_225_63, gR_225_66, gR_225_67, bq_n, bd_s, mp_s, rz_0, rz_1, bI_rz, if_true, if_false, ite_true, ite_false, reduceIte, not_true, not_false, and_true, true_and, and_false, false_and, or_true, true_or, or_false, false_or, eq_self, zadd, aI_227, sI_227, len_227]
theorem fnd_E (hE : RdE σ E) {a : Nat} (ha : 227 ≤ a) (ha2 : a ≤ 243) {m : Nat} (hm : m ≤ hf a) (v : Int32) : fnd (fun j => ah_I σ a (hf a + j)) v 0 m = fnd (E a) v 0 m := fnd_eq _ _ _ _ _ (fun j _ h2 => hE a j ha ha2 (by omega))
theorem m_fdE (hE : RdE σ E) {a m : Nat} (ha : 227 ≤ a) (ha2 : a ≤ 243) (hm : m ≤ hf a) (hr : ∀ k, k < m → op_aI σ a (nI (hf a + k)) = some (ah_I σ a (hf a + k))) (hm9 : m ≤ 100) (v : Int32) : f_X12_found a (nI (hf a)) (nI m) v σ = some (fnd (E a) v 0 m, σ) := by
  rw [← fnd_E hE ha ha2 hm]
  exact m_found (σ := σ) (a := a) (n := m) (b := hf a) v hr m 0 5000 (by omega) (by omega) (by omega)
theorem m_frh44F (hW : Wf σ) (h : ah_I σ 225 29 ≠ nI 0) : f_X12_fresh_44 225 σ = some (nI 0, σ) := by
  unfold f_X12_fresh_44
  simp only [to_bq, l_0, l_1, l_2, l_3, l_4, l_5, l_6, l_7, l_8, l_9, l_10, l_11, l_12, l_13, l_14, l_15, l_16, l_17, l_18, l_19, l_20, l_21, l_22, l_23, l_24, l_25, l_26, l_27, l_28, l_29, l_30, l_31, l_32, l_40, l_41, l_42, l_43, l_44, l_45, l_46, l_47, l_48, l_49, l_50, l_51, l_52, l_53, l_54, l_55, l_56, l_57, l_58, l_59, l_60, l_61, l_62, l_63, l_64, l_72, l_97, l_99, l_100, l_104, l_120, l_122, l_128, l_140, l_255, l_256, l_257, l_258, l_260, l_261, l_262, l_364, l_680, l_700, l_701, l_840, l_999, l_1023, l_1024, l_9999, l_10000, l_1000000, lm]
  simp (disch := first | (with_reducible assumption) | omega | exact ⟨by omega, by omega⟩ | ((with_reducible first | apply Wf.wI | apply Wf.wL | apply Wf.fL | apply Wf.fI | apply Wf.fr); (repeat (with_reducible first | assumption | apply Wf.wI | apply Wf.wL | apply Wf.fL | apply Wf.fI | apply Wf.fr)))) only [ck_225, gI_225, gL_225, pI_225, pZ0_225, pZ1_225, pL_225, gR_225_1, gR_225_3, gR_225_4, gR_225_5, gR_225_6, gR_225_7, gR_225_8, gR_225_9, gR_225_10, gR_225_11, gR_225_12, gR_225_13, gR_225_14, gR_225_15, gR_225_16, gR_225_17, gR_225_18, gR_225_19, gR_225_20, gR_225_21, gR_225_35, gR_225_36, gR_225_38, gR_225_39, gR_225_40, gR_225_41, gR_225_43, gR_225_44, gR_225_45, gR_225_48, gR_225_49, gR_225_50, gR_225_51, gR_225_53, gR_225_54, gR_225_55, gR_225_56, gR_225_58, gR_225_59, gR_225_60, gR_225_61, gR_225_62, gR_225_63, gR_225_66, gR_225_67, bq_n, bd_s, mp_s, rz_0, rz_1, bI_rz, if_neg h]
theorem m_frhF (hW : Wf σ) (h : ah_I σ 225 29 ≠ nI 0) (a : Nat) (x y : Int32) : f_X12_fresh 225 a x y σ = some (nI 0, σ) := by
  unfold f_X12_fresh f_X12_fresh_0
  simp only [to_bq, l_0, l_1, l_2, l_3, l_4, l_5, l_6, l_7, l_8, l_9, l_10, l_11, l_12, l_13, l_14, l_15, l_16, l_17, l_18, l_19, l_20, l_21, l_22, l_23, l_24, l_25, l_26, l_27, l_28, l_29, l_30, l_31, l_32, l_40, l_41, l_42, l_43, l_44, l_45, l_46, l_47, l_48, l_49, l_50, l_51, l_52, l_53, l_54, l_55, l_56, l_57, l_58, l_59, l_60, l_61, l_62, l_63, l_64, l_72, l_97, l_99, l_100, l_104, l_120, l_122, l_128, l_140, l_255, l_256, l_257, l_258, l_260, l_261, l_262, l_364, l_680, l_700, l_701, l_840, l_999, l_1023, l_1024, l_9999, l_10000, l_1000000, lm]
  simp (disch := first | (with_reducible assumption) | omega | exact ⟨by omega, by omega⟩ | ((with_reducible first | apply Wf.wI | apply Wf.wL | apply Wf.fL | apply Wf.fI | apply Wf.fr); (repeat (with_reducible first | assumption | apply Wf.wI | apply Wf.wL | apply Wf.fL | apply Wf.fI | apply Wf.fr)))) only [ck_225, gI_225, gL_225, pI_225, pZ0_225, pZ1_225, pL_225, gR_225_1, gR_225_3, gR_225_4, gR_225_5, gR_225_6, gR_225_7, gR_225_8, gR_225_9, gR_225_10, gR_225_11, gR_225_12, gR_225_13, gR_225_14, gR_225_15, gR_225_16, gR_225_17, gR_225_18, gR_225_19, gR_225_20, gR_225_21, gR_225_35, gR_225_36, gR_225_38, gR_225_39, gR_225_40, gR_225_41, gR_225_43, gR_225_44, gR_225_45, gR_225_48, gR_225_49, gR_225_50, gR_225_51, gR_225_53, gR_225_54, gR_225_55, gR_225_56, gR_225_58, gR_225_59, gR_225_60, gR_225_61, gR_225_62, gR_225_63, gR_225_66, gR_225_67, bq_n, bd_s, mp_s, rz_0, rz_1, bI_rz, if_neg h]
theorem m_namS (h : RSt σ T n s) (hE : RdE σ E) {a m : Nat} (ha : a = 228 ∧ m ≤ 7 ∨ a = 239 ∧ m ≤ 4) : ∃ τ, f_X12_fresh 225 a (nI (hf a)) (nI m) σ = some (nI (sNamV (tks T n) s (E a) m), τ) ∧ Fr Xfp σ τ ∧ RSt τ T n (sNamS (tks T n) s (E a) m) := by
  obtain ⟨i, _ | ⟨g, j⟩⟩ := s
  · obtain ⟨h1, h2⟩ := h
    have hW := h1.w
    have hv := h1.v
    have hs := (tks_n (T := T) (n := n) i).2.2
    obtain ⟨k1, k2, k3, k4⟩ := h1.2
    have ef : ∀ v, f_X12_found a (nI (hf a)) (nI m) v σ = some (fnd (E a) v 0 m, σ) := by
      rcases ha with ⟨rfl, hm⟩ | ⟨rfl, hm⟩
      · have e7 : hf 228 = 7 := rfl
        exact m_fdE hE (by omega) (by omega) (by omega) (fun k hk => by rw [e7, aI_228 hW (by omega)]) (by omega)
      · have e7 : hf 239 = 4 := rfl
        exact m_fdE hE (by omega) (by omega) (by omega) (fun k hk => by rw [e7, aI_239 hW (by omega)]) (by omega)
    unfold f_X12_fresh f_X12_fresh_0
    simp only [to_bq, l_0, l_1, l_2, l_3, l_4, l_5, l_6, l_7, l_8, l_9, l_10, l_11, l_12, l_13, l_14, l_15, l_16, l_17, l_18, l_19, l_20, l_21, l_22, l_23, l_24, l_25, l_26, l_27, l_28, l_29, l_30, l_31, l_32, l_40, l_41, l_42, l_43, l_44, l_45, l_46, l_47, l_48, l_49, l_50, l_51, l_52, l_53, l_54, l_55, l_56, l_57, l_58, l_59, l_60, l_61, l_62, l_63, l_64, l_72, l_97, l_99, l_100, l_104, l_120, l_122, l_128, l_140, l_255, l_256, l_257, l_258, l_260, l_261, l_262, l_364, l_680, l_700, l_701, l_840, l_999, l_1023, l_1024, l_9999, l_10000, l_1000000, lm]
    simp (disch := first | (with_reducible assumption) | omega | exact ⟨by omega, by omega⟩ | ((with_reducible first | apply Wf.wI | apply Wf.wL | apply Wf.fL | apply Wf.fI | apply Wf.fr); (repeat (with_reducible first | assumption | apply Wf.wI | apply Wf.wL | apply Wf.fL | apply Wf.fI | apply Wf.fr)))) only [ck_225, gI_225, gL_225, pI_225, pZ0_225, pZ1_225, pL_225, gR_225_1, gR_225_3, gR_225_4, gR_225_5, gR_225_6, gR_225_7, gR_225_8, gR_225_9, gR_225_10, gR_225_11, gR_225_12, gR_225_13, gR_225_14, gR_225_15, gR_225_16, gR_225_17, gR_225_18, gR_225_19, gR_225_20, gR_225_21, gR_225_35, gR_225_36, gR_225_38, gR_225_39, gR_225_40, gR_225_41, gR_225_43, gR_225_44, gR_225_45, gR_225_48, gR_225_49, gR_225_50, gR_225_51, gR_225_53, gR_225_54, gR_225_55, gR_225_56, gR_225_58, gR_225_59, gR_225_60, gR_225_61, gR_225_62, gR_225_63, gR_225_66, gR_225_67, bq_n, bd_s, mp_s, rz_0, rz_1, bI_rz, h2, if_true, if_false, ite_true, ite_false, reduceIte, not_true, not_false, and_true, true_and, and_false, false_and, or_true, true_or, or_false, false_or, eq_self, k3]
    by_cases z : tS (tks T n i) = 1
    · rw [k4 (by omega)]
      simp (disch := first | (with_reducible assumption) | omega | exact ⟨by omega, by omega⟩ | ((with_reducible first | apply Wf.wI | apply Wf.wL | apply Wf.fL | apply Wf.fI | apply Wf.fr); (repeat (with_reducible first | assumption | apply Wf.wI | apply Wf.wL | apply Wf.fL | apply Wf.fI | apply Wf.fr)))) only [z, if_true, if_false, ite_true, ite_false, reduceIte, not_true, not_false, and_true, true_and, and_false, false_and, or_true, true_or, or_false, false_or, eq_self, bq_n, bd_s, mp_s, rz_0, rz_1, bI_rz, ef]
      by_cases z1 : fnd (E a) (nI (tV (tks T n i))) 0 m = mI 1
      · obtain ⟨τ, e1, e2, e3⟩ := m_next h1 (by omega)
        refine ⟨τ, ?_, e2.mono Xtk_f, ?_⟩
        · simp (disch := first | (with_reducible assumption) | omega | exact ⟨by omega, by omega⟩ | ((with_reducible first | apply Wf.wI | apply Wf.wL | apply Wf.fL | apply Wf.fI | apply Wf.fr); (repeat (with_reducible first | assumption | apply Wf.wI | apply Wf.wL | apply Wf.fL | apply Wf.fI | apply Wf.fr)))) only [z1, bq_n, bd_s, mp_s, rz_0, rz_1, bI_rz, if_true, if_false, ite_true, ite_false, reduceIte, not_true, not_false, and_true, true_and, and_false, false_and, or_true, true_or, or_false, false_or, eq_self]
          unfold f_X12_fresh_44
          simp only [to_bq, l_0, l_1, l_2, l_3, l_4, l_5, l_6, l_7, l_8, l_9, l_10, l_11, l_12, l_13, l_14, l_15, l_16, l_17, l_18, l_19, l_20, l_21, l_22, l_23, l_24, l_25, l_26, l_27, l_28, l_29, l_30, l_31, l_32, l_40, l_41, l_42, l_43, l_44, l_45, l_46, l_47, l_48, l_49, l_50, l_51, l_52, l_53, l_54, l_55, l_56, l_57, l_58, l_59, l_60, l_61, l_62, l_63, l_64, l_72, l_97, l_99, l_100, l_104, l_120, l_122, l_128, l_140, l_255, l_256, l_257, l_258, l_260, l_261, l_262, l_364, l_680, l_700, l_701, l_840, l_999, l_1023, l_1024, l_9999, l_10000, l_1000000, lm]
          simp (disch := first | (with_reducible assumption) | omega | exact ⟨by omega, by omega⟩ | ((with_reducible first | apply Wf.wI | apply Wf.wL | apply Wf.fL | apply Wf.fI | apply Wf.fr); (repeat (with_reducible first | assumption | apply Wf.wI | apply Wf.wL | apply Wf.fL | apply Wf.fI | apply Wf.fr)))) only [ck_225, gI_225, gL_225, pI_225, pZ0_225, pZ1_225, pL_225, gR_225_1, gR_225_3, gR_225_4, gR_225_5, gR_225_6, gR_225_7, gR_225_8, gR_225_9, gR_225_10, gR_225_11, gR_225_12, gR_225_13, gR_225_14, gR_225_15, gR_225_16, gR_225_17, gR_225_18, gR_225_19, gR_225_20, gR_225_21, gR_225_35, gR_225_36, gR_225_38, gR_225_39, gR_225_40, gR_225_41, gR_225_43, gR_225_44, gR_225_45, gR_225_48, gR_225_49, gR_225_50, gR_225_51, gR_225_53, gR_225_54, gR_225_55, gR_225_56, gR_225_58, gR_225_59, gR_225_60, gR_225_61, gR_225_62, gR_225_63, gR_225_66, gR_225_67, h2, if_true, if_false, ite_true, ite_false, reduceIte, not_true, not_false, and_true, true_and, and_false, false_and, or_true, true_or, or_false, false_or, eq_self, k4, e1, bq_n, bd_s, mp_s, rz_0, rz_1, bI_rz]
          rw [show sNamV (tks T n) (i, none) (E a) m = tV (tks T n i) from if_pos ⟨z, z1⟩]
        · show RSt τ T n (if _ then (if _ then _ else _) else _)
          rw [if_pos z, if_pos z1]
          exact ⟨e3, (e2.I (by unfold Xtk; omega)).trans h2⟩
      · obtain ⟨τ, e1, e2, e3⟩ := m_wrong (f := 3) h1 h2 (by omega) (by omega)
        refine ⟨τ, ?_, e2.mono Xwr_f, ?_⟩
        · simp (disch := first | (with_reducible assumption) | omega | exact ⟨by omega, by omega⟩ | ((with_reducible first | apply Wf.wI | apply Wf.wL | apply Wf.fL | apply Wf.fI | apply Wf.fr); (repeat (with_reducible first | assumption | apply Wf.wI | apply Wf.wL | apply Wf.fL | apply Wf.fI | apply Wf.fr)))) only [z1, bq_n, bd_s, mp_s, rz_0, rz_1, bI_rz, if_true, if_false, ite_true, ite_false, reduceIte, not_true, not_false, and_true, true_and, and_false, false_and, or_true, true_or, or_false, false_or, eq_self, e1, m_frh44F e3.1 e3.ne]
          rw [show sNamV (tks T n) (i, none) (E a) m = 0 from if_neg (fun z => z1 z.2)]
        · show RSt τ T n (if _ then (if _ then _ else _) else _)
          rw [if_pos z, if_neg z1]; exact e3
    · obtain ⟨τ, e1, e2, e3⟩ := m_wrong (f := 1) h1 h2 (by omega) (by omega)
      refine ⟨τ, ?_, e2.mono Xwr_f, ?_⟩
      · simp (disch := first | (with_reducible assumption) | omega | exact ⟨by omega, by omega⟩ | ((with_reducible first | apply Wf.wI | apply Wf.wL | apply Wf.fL | apply Wf.fI | apply Wf.fr); (repeat (with_reducible first | assumption | apply Wf.wI | apply Wf.wL | apply Wf.fL | apply Wf.fI | apply Wf.fr)))) only [zadd, zmul, zsub, le_nI, lt_nI, eq_nI, neg_nI, gen_nI, neg_lt, neg_le, neg_lt', neg_le', nI_lt0, z, bq_n, bd_s, mp_s, rz_0, rz_1, bI_rz, if_true, if_false, ite_true, ite_false, reduceIte, not_true, not_false, and_true, true_and, and_false, false_and, or_true, true_or, or_false, false_or, eq_self, e1, m_frh44F e3.1 e3.ne]
        rw [show sNamV (tks T n) (i, none) (E a) m = 0 from if_neg (fun y => z y.1)]
      · show RSt τ T n (if _ then (if _ then _ else _) else _)
        rw [if_neg z]; exact e3
  · exact ⟨σ, m_frhF h.1 h.ne _ _ _, Fr.rfl, h⟩
theorem fnd_ix {g : Nat → Int32} {v : Int32} {m : Nat} (hm : m ≤ 1000) (h : fnd g v 0 m ≠ mI 1) : ∃ c, c < m ∧ fnd g v 0 m = nI c ∧ g c = v ∧ ∀ j, j < c → g j ≠ v := by
  have key : ∀ m k, k + m ≤ 1000 → fnd g v k m ≠ mI 1 → ∃ c, k ≤ c ∧ c < k + m ∧ fnd g v k m = nI c ∧ g c = v ∧ ∀ j, k ≤ j → j < c → g j ≠ v := by
    intro m
    induction m with
    | zero => intro k _ h; exact absurd rfl h
    | succ m ih =>
      intro k hk h
      rw [fnd_s] at h ⊢
      by_cases z : g k = v
      · rw [if_pos z]
        exact ⟨k, by omega, by omega, rfl, z, fun j h1 h2 => by omega⟩
      · rw [if_neg z] at h ⊢
        obtain ⟨c, h1, h2, h3, h4, h5⟩ := ih (k + 1) (by omega) h
        refine ⟨c, by omega, by omega, h3, h4, fun j q1 q2 => ?_⟩
        by_cases y : j = k
        · rw [y]; exact z
        · exact h5 j (by omega) q2
  obtain ⟨c, -, h2, h3, h4, h5⟩ := key m 0 (by omega) h
  exact ⟨c, by omega, h3, h4, fun j hj => h5 j (by omega) hj⟩
theorem m_cor52F (hW : Wf σ) (h : ah_I σ 225 29 ≠ nI 0) : f_X12_corner_52 225 σ = some (nI 0, σ) := by
  unfold f_X12_corner_52
  simp only [to_bq, l_0, l_1, l_2, l_3, l_4, l_5, l_6, l_7, l_8, l_9, l_10, l_11, l_12, l_13, l_14, l_15, l_16, l_17, l_18, l_19, l_20, l_21, l_22, l_23, l_24, l_25, l_26, l_27, l_28, l_29, l_30, l_31, l_32, l_40, l_41, l_42, l_43, l_44, l_45, l_46, l_47, l_48, l_49, l_50, l_51, l_52, l_53, l_54, l_55, l_56, l_57, l_58, l_59, l_60, l_61, l_62, l_63, l_64, l_72, l_97, l_99, l_100, l_104, l_120, l_122, l_128, l_140, l_255, l_256, l_257, l_258, l_260, l_261, l_262, l_364, l_680, l_700, l_701, l_840, l_999, l_1023, l_1024, l_9999, l_10000, l_1000000, lm]
  simp (disch := first | (with_reducible assumption) | omega | exact ⟨by omega, by omega⟩ | ((with_reducible first | apply Wf.wI | apply Wf.wL | apply Wf.fL | apply Wf.fI | apply Wf.fr); (repeat (with_reducible first | assumption | apply Wf.wI | apply Wf.wL | apply Wf.fL | apply Wf.fI | apply Wf.fr)))) only [ck_225, gI_225, gL_225, pI_225, pZ0_225, pZ1_225, pL_225, gR_225_1, gR_225_3, gR_225_4, gR_225_5, gR_225_6, gR_225_7, gR_225_8, gR_225_9, gR_225_10, gR_225_11, gR_225_12, gR_225_13, gR_225_14, gR_225_15, gR_225_16, gR_225_17, gR_225_18, gR_225_19, gR_225_20, gR_225_21, gR_225_35, gR_225_36, gR_225_38, gR_225_39, gR_225_40, gR_225_41, gR_225_43, gR_225_44, gR_225_45, gR_225_48, gR_225_49, gR_225_50, gR_225_51, gR_225_53, gR_225_54, gR_225_55, gR_225_56, gR_225_58, gR_225_59, gR_225_60, gR_225_61, gR_225_62, gR_225_63, gR_225_66, gR_225_67, bq_n, bd_s, mp_s, rz_0, rz_1, bI_rz, if_neg h]
theorem m_corF (hW : Wf σ) (h : ah_I σ 225 29 ≠ nI 0) : f_X12_corner 225 σ = some (nI 0, σ) := by
  unfold f_X12_corner f_X12_corner_0
  simp only [to_bq, l_0, l_1, l_2, l_3, l_4, l_5, l_6, l_7, l_8, l_9, l_10, l_11, l_12, l_13, l_14, l_15, l_16, l_17, l_18, l_19, l_20, l_21, l_22, l_23, l_24, l_25, l_26, l_27, l_28, l_29, l_30, l_31, l_32, l_40, l_41, l_42, l_43, l_44, l_45, l_46, l_47, l_48, l_49, l_50, l_51, l_52, l_53, l_54, l_55, l_56, l_57, l_58, l_59, l_60, l_61, l_62, l_63, l_64, l_72, l_97, l_99, l_100, l_104, l_120, l_122, l_128, l_140, l_255, l_256, l_257, l_258, l_260, l_261, l_262, l_364, l_680, l_700, l_701, l_840, l_999, l_1023, l_1024, l_9999, l_10000, l_1000000, lm]
  simp (disch := first | (with_reducible assumption) | omega | exact ⟨by omega, by omega⟩ | ((with_reducible first | apply Wf.wI | apply Wf.wL | apply Wf.fL | apply Wf.fI | apply Wf.fr); (repeat (with_reducible first | assumption | apply Wf.wI | apply Wf.wL | apply Wf.fL | apply Wf.fI | apply Wf.fr)))) only [ck_225, gI_225, gL_225, pI_225, pZ0_225, pZ1_225, pL_225, gR_225_1, gR_225_3, gR_225_4, gR_225_5, gR_225_6, gR_225_7, gR_225_8, gR_225_9, gR_225_10, gR_225_11, gR_225_12, gR_225_13, gR_225_14, gR_225_15, gR_225_16, gR_225_17, gR_225_18, gR_225_19, gR_225_20, gR_225_21, gR_225_35, gR_225_36, gR_225_38, gR_225_39, gR_225_40, gR_225_41, gR_225_43, gR_225_44, gR_225_45, gR_225_48, gR_225_49, gR_225_50, gR_225_51, gR_225_53, gR_225_54, gR_225_55, gR_225_56, gR_225_58, gR_225_59, gR_225_60, gR_225_61, gR_225_62, gR_225_63, gR_225_66, gR_225_67, bq_n, bd_s, mp_s, rz_0, rz_1, bI_rz, if_neg h]
theorem m_corS (h : RSt σ T n s) (hE : RdE σ E) {m : Nat} (hC : E 227 0 = nI m) (hm : m ≤ 7) : ∃ τ, f_X12_corner 225 σ = some (nI (sCorV (tks T n) s (E 228) m), τ) ∧ Fr Xfp σ τ ∧ RSt τ T n (sCorS (tks T n) s (E 228) m) := by
  obtain ⟨i, _ | ⟨g, j⟩⟩ := s
  · obtain ⟨h1, h2⟩ := h
    have hW := h1.w
    have hv := h1.v
    have hs := (tks_n (T := T) (n := n) i).2.2
    obtain ⟨k1, k2, k3, k4⟩ := h1.2
    have ef : ∀ v, f_X12_found 228 (nI 7) (nI m) v σ = some (fnd (E 228) v 0 m, σ) := m_fdE (a := 228) hE (by omega) (by omega) hm (fun k hk => by rw [show hf 228 = 7 from rfl, aI_228 hW (by omega)]) (by omega)
    have e0 := m_frs hW hE (k := 0) (by omega)
    rw [hC] at e0
    unfold f_X12_corner f_X12_corner_0
    simp only [to_bq, l_0, l_1, l_2, l_3, l_4, l_5, l_6, l_7, l_8, l_9, l_10, l_11, l_12, l_13, l_14, l_15, l_16, l_17, l_18, l_19, l_20, l_21, l_22, l_23, l_24, l_25, l_26, l_27, l_28, l_29, l_30, l_31, l_32, l_40, l_41, l_42, l_43, l_44, l_45, l_46, l_47, l_48, l_49, l_50, l_51, l_52, l_53, l_54, l_55, l_56, l_57, l_58, l_59, l_60, l_61, l_62, l_63, l_64, l_72, l_97, l_99, l_100, l_104, l_120, l_122, l_128, l_140, l_255, l_256, l_257, l_258, l_260, l_261, l_262, l_364, l_680, l_700, l_701, l_840, l_999, l_1023, l_1024, l_9999, l_10000, l_1000000, lm]
    simp (disch := first | (with_reducible assumption) | omega | exact ⟨by omega, by omega⟩ | ((with_reducible first | apply Wf.wI | apply Wf.wL | apply Wf.fL | apply Wf.fI | apply Wf.fr); (repeat (with_reducible first | assumption | apply Wf.wI | apply Wf.wL | apply Wf.fL | apply Wf.fI | apply Wf.fr)))) only [ck_225, gI_225, gL_225, pI_225, pZ0_225, pZ1_225, pL_225, gR_225_1, gR_225_3, gR_225_4, gR_225_5, gR_225_6, gR_225_7, gR_225_8, gR_225_9, gR_225_10, gR_225_11, gR_225_12, gR_225_13, gR_225_14, gR_225_15, gR_225_16, gR_225_17, gR_225_18, gR_225_19, gR_225_20, gR_225_21, gR_225_35, gR_225_36, gR_225_38, gR_225_39, gR_225_40, gR_225_41, gR_225_43, gR_225_44, gR_225_45, gR_225_48, gR_225_49, gR_225_50, gR_225_51, gR_225_53, gR_225_54, gR_225_55, gR_225_56, gR_225_58, gR_225_59, gR_225_60, gR_225_61, gR_225_62, gR_225_63, gR_225_66, gR_225_67, bq_n, bd_s, mp_s, rz_0, rz_1, bI_rz, h2, if_true, if_false, ite_true, ite_false, reduceIte, not_true, not_false, and_true, true_and, and_false, false_and, or_true, true_or, or_false, false_or, eq_self, k3]
    by_cases z : tS (tks T n i) = 1
    · simp (disch := first | (with_reducible assumption) | omega | exact ⟨by omega, by omega⟩ | ((with_reducible first | apply Wf.wI | apply Wf.wL | apply Wf.fL | apply Wf.fI | apply Wf.fr); (repeat (with_reducible first | assumption | apply Wf.wI | apply Wf.wL | apply Wf.fL | apply Wf.fI | apply Wf.fr)))) only [z, if_true, if_false, ite_true, ite_false, reduceIte, not_true, not_false, and_true, true_and, and_false, false_and, or_true, true_or, or_false, false_or, eq_self, bq_n, bd_s, mp_s, rz_0, rz_1, bI_rz, e0, ck_225, gI_225, gL_225, pI_225, pZ0_225, pZ1_225, pL_225, gR_225_1, gR_225_3, gR_225_4, gR_225_5, gR_225_6, gR_225_7, gR_225_8, gR_225_9, gR_225_10, gR_225_11, gR_225_12, gR_225_13, gR_225_14, gR_225_15, gR_225_16, gR_225_17, gR_225_18, gR_225_19, gR_225_20, gR_225_21, gR_225_35, gR_225_36, gR_225_38, gR_225_39, gR_225_40, gR_225_41, gR_225_43, gR_225_44, gR_225_45, gR_225_48, gR_225_49, gR_225_50, gR_225_51, gR_225_53, gR_225_54, gR_225_55, gR_225_56, gR_225_58, gR_225_59, gR_225_60, gR_225_61, gR_225_62, gR_225_63, gR_225_66, gR_225_67]
      rw [k4 (by omega)]
      simp (disch := first | (with_reducible assumption) | omega | exact ⟨by omega, by omega⟩ | ((with_reducible first | apply Wf.wI | apply Wf.wL | apply Wf.fL | apply Wf.fI | apply Wf.fr); (repeat (with_reducible first | assumption | apply Wf.wI | apply Wf.wL | apply Wf.fL | apply Wf.fI | apply Wf.fr)))) only [if_true, if_false, ite_true, ite_false, reduceIte, not_true, not_false, and_true, true_and, and_false, false_and, or_true, true_or, or_false, false_or, eq_self, bq_n, bd_s, mp_s, rz_0, rz_1, bI_rz, ef]
      by_cases z1 : fnd (E 228) (nI (tV (tks T n i))) 0 m = mI 1
      · obtain ⟨τ, e1, e2, e3⟩ := m_wrong (f := 4) h1 h2 (by omega) (by omega)
        refine ⟨τ, ?_, e2.mono Xwr_f, ?_⟩
        · simp (disch := first | (with_reducible assumption) | omega | exact ⟨by omega, by omega⟩ | ((with_reducible first | apply Wf.wI | apply Wf.wL | apply Wf.fL | apply Wf.fI | apply Wf.fr); (repeat (with_reducible first | assumption | apply Wf.wI | apply Wf.wL | apply Wf.fL | apply Wf.fI | apply Wf.fr)))) only [z1, bq_n, bd_s, mp_s, rz_0, rz_1, bI_rz, if_true, if_false, ite_true, ite_false, reduceIte, not_true, not_false, and_true, true_and, and_false, false_and, or_true, true_or, or_false, false_or, eq_self, e1, m_cor52F e3.1 e3.ne]
          rw [show sCorV (tks T n) (i, none) (E 228) m = 0 from if_neg (fun z => z.2 z1)]
        · show RSt τ T n (if _ then (if _ then _ else _) else _)
          rw [if_pos z, if_pos z1]; exact e3
      · refine ⟨σ, ?_, Fr.rfl, ?_⟩
        · simp (disch := first | (with_reducible assumption) | omega | exact ⟨by omega, by omega⟩ | ((with_reducible first | apply Wf.wI | apply Wf.wL | apply Wf.fL | apply Wf.fI | apply Wf.fr); (repeat (with_reducible first | assumption | apply Wf.wI | apply Wf.wL | apply Wf.fL | apply Wf.fI | apply Wf.fr)))) only [z1, bq_n, bd_s, mp_s, rz_0, rz_1, bI_rz, if_true, if_false, ite_true, ite_false, reduceIte, not_true, not_false, and_true, true_and, and_false, false_and, or_true, true_or, or_false, false_or, eq_self]
          unfold f_X12_corner_52
          simp only [to_bq, l_0, l_1, l_2, l_3, l_4, l_5, l_6, l_7, l_8, l_9, l_10, l_11, l_12, l_13, l_14, l_15, l_16, l_17, l_18, l_19, l_20, l_21, l_22, l_23, l_24, l_25, l_26, l_27, l_28, l_29, l_30, l_31, l_32, l_40, l_41, l_42, l_43, l_44, l_45, l_46, l_47, l_48, l_49, l_50, l_51, l_52, l_53, l_54, l_55, l_56, l_57, l_58, l_59, l_60, l_61, l_62, l_63, l_64, l_72, l_97, l_99, l_100, l_104, l_120, l_122, l_128, l_140, l_255, l_256, l_257, l_258, l_260, l_261, l_262, l_364, l_680, l_700, l_701, l_840, l_999, l_1023, l_1024, l_9999, l_10000, l_1000000, lm]
          simp (disch := first | (with_reducible assumption) | omega | exact ⟨by omega, by omega⟩ | ((with_reducible first | apply Wf.wI | apply Wf.wL | apply Wf.fL | apply Wf.fI | apply Wf.fr); (repeat (with_reducible first | assumption | apply Wf.wI | apply Wf.wL | apply Wf.fL | apply Wf.fI | apply Wf.fr)))) only [ck_225, gI_225, gL_225, pI_225, pZ0_225, pZ1_225, pL_225, gR_225_1, gR_225_3, gR_225_4, gR_225_5, gR_225_6, gR_225_7, gR_225_8, gR_225_9, gR_225_10, gR_225_11, gR_225_12, gR_225_13, gR_225_14, gR_225_15, gR_225_16, gR_225_17, gR_225_18, gR_225_19, gR_225_20, gR_225_21, gR_225_35, gR_225_36, gR_225_38, gR_225_39, gR_225_40, gR_225_41, gR_225_43, gR_225_44, gR_225_45, gR_225_48, gR_225_49, gR_225_50, gR_225_51, gR_225_53, gR_225_54, gR_225_55, gR_225_56, gR_225_58, gR_225_59, gR_225_60, gR_225_61, gR_225_62, gR_225_63, gR_225_66, gR_225_67, h2, if_true, if_false, ite_true, ite_false, reduceIte, not_true, not_false, and_true, true_and, and_false, false_and, or_true, true_or, or_false, false_or, eq_self, k4, e0, bq_n, bd_s, mp_s, rz_0, rz_1, bI_rz]
          simp (disch := first | (with_reducible assumption) | omega | exact ⟨by omega, by omega⟩ | ((with_reducible first | apply Wf.wI | apply Wf.wL | apply Wf.fL | apply Wf.fI | apply Wf.fr); (repeat (with_reducible first | assumption | apply Wf.wI | apply Wf.wL | apply Wf.fL | apply Wf.fI | apply Wf.fr)))) only [ef, bq_n, bd_s, mp_s, rz_0, rz_1, bI_rz]
          obtain ⟨c, q1, q2, -⟩ := fnd_ix (by omega) z1
          rw [show sCorV (tks T n) (i, none) (E 228) m = ix (fnd (E 228) (nI (tV (tks T n i))) 0 m) from if_pos ⟨z, z1⟩, q2, ix_nI (by omega)]
        · show RSt σ T n (if _ then (if _ then _ else _) else _)
          rw [if_pos z, if_neg z1]
          exact ⟨h1, h2⟩
    · obtain ⟨τ, e1, e2, e3⟩ := m_wrong (f := 1) h1 h2 (by omega) (by omega)
      refine ⟨τ, ?_, e2.mono Xwr_f, ?_⟩
      · simp (disch := first | (with_reducible assumption) | omega | exact ⟨by omega, by omega⟩ | ((with_reducible first | apply Wf.wI | apply Wf.wL | apply Wf.fL | apply Wf.fI | apply Wf.fr); (repeat (with_reducible first | assumption | apply Wf.wI | apply Wf.wL | apply Wf.fL | apply Wf.fI | apply Wf.fr)))) only [zadd, zmul, zsub, le_nI, lt_nI, eq_nI, neg_nI, gen_nI, neg_lt, neg_le, neg_lt', neg_le', nI_lt0, z, bq_n, bd_s, mp_s, rz_0, rz_1, bI_rz, if_true, if_false, ite_true, ite_false, reduceIte, not_true, not_false, and_true, true_and, and_false, false_and, or_true, true_or, or_false, false_or, eq_self, e1, m_cor52F e3.1 e3.ne]
        rw [show sCorV (tks T n) (i, none) (E 228) m = 0 from if_neg (fun y => z y.1)]
      · show RSt τ T n (if _ then (if _ then _ else _) else _)
        rw [if_neg z]; exact e3
  · exact ⟨σ, m_corF h.1 h.ne, Fr.rfl, h⟩
end
