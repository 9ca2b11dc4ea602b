/-! LINES OF THE REFERENCE: rain -/
def sRn (k : Nat → TK) : Nat → Nat → List Nat → LnS × List Nat
  | 0, i, vs => ((i, some (2, i)), vs)
  | f + 1, i, vs => if tS (k i) = 2 then (if tV (k i) ≤ 99 then (if tS (k (i + 1)) = 2 then sRn k f (i + 1) (vs ++ [tV (k i)]) else ((i + 1, none), vs ++ [tV (k i)])) else ((i, some (2, i)), vs)) else ((i, some (1, i)), vs)
def sRai (k : Nat → TK) (s : LnS) : LnS × List Nat := match s with
  | (i, none) => sRn k 6 i []
  | (i, some x) => ((i, some x), [])
def eR1 (E : DD) (nm : Nat) (vs : List Nat) : DD := fun a j => if a = 239 ∧ j = nR E then nI nm else if a = 240 ∧ j = nR E then nI vs.length else if a = 241 ∧ 6 * nR E ≤ j ∧ j < 6 * nR E + vs.length then nI (vs.getD (j - 6 * nR E) 0) else E a j
section
variable {σ τ : ah_H} {T : Nat → Nat} {n i : Nat} {s : LnS} {E E' : DD} {nm : Nat} {vs : List Nat}
theorem RdE.cg (h : RdE σ E) (e : ∀ a j, 227 ≤ a → a ≤ 243 → j < hf a → E a j = E' a j) : RdE σ E' := fun a j h1 h2 h3 => (h a j h1 h2 h3).trans (e a j h1 h2 h3)
theorem eR1_i : up (eR1 E nm vs) 227 3 (nI (nR E + 1)) = eRai E nm vs := funext fun a => funext fun j => by
  obtain ⟨r1, r2, r3, r4, r5, r6, r7, r8, r9⟩ := eRai_r (E := E) (n := nm) (vs := vs)
  by_cases z : a = 227 ∧ j = 3
  · rw [z.1, z.2, up_e, r4]
  · unfold up
    rw [if_neg z]
    unfold eR1
    by_cases z1 : a = 239 ∧ j = nR E
    · rw [if_pos z1, z1.1, z1.2, r6]
    · rw [if_neg z1]
      by_cases z2 : a = 240 ∧ j = nR E
      · rw [if_pos z2, z2.1, z2.2, r7]
      · rw [if_neg z2]
        by_cases z3 : a = 241 ∧ 6 * nR E ≤ j ∧ j < 6 * nR E + vs.length
        · rw [if_pos z3, z3.1]
          have := r8 (j - 6 * nR E) (by omega)
          rw [show 6 * nR E + (j - 6 * nR E) = j by omega] at this
          rw [this]
        · rw [if_neg z3]
          by_cases y1 : a = 227
          · rw [y1, r3 j (by omega)]
          · by_cases y2 : a = 241
            · rw [y2, r9 j (by omega)]
            · by_cases y3 : a = 239 ∨ a = 240
              · rw [r5 a j (by omega) (by omega) (by omega)]
              · by_cases y4 : 242 ≤ a
                · rw [r1 a y4]
                · by_cases y5 : 228 ≤ a
                  · rw [r2 a y5 (by omega)]
                  · unfold eRai; rw [up_a (by omega), eRaw_a (by omega), up_a (by omega), up_a (by omega)]
theorem eR1_s {v : Nat} : up (up (eR1 E nm vs) 241 (6 * nR E + vs.length) (nI v)) 240 (nR E) (nI (vs.length + 1)) = eR1 E nm (vs ++ [v]) := funext fun a => funext fun j => by
  have hl : (vs ++ [v]).length = vs.length + 1 := by simp
  by_cases z2 : a = 240 ∧ j = nR E
  · rw [z2.1, z2.2, up_e]
    unfold eR1
    rw [if_neg (by omega), if_pos ⟨rfl, rfl⟩, hl]
  · rw [show up (up (eR1 E nm vs) 241 (6 * nR E + vs.length) (nI v)) 240 (nR E) (nI (vs.length + 1)) a j = up (eR1 E nm vs) 241 (6 * nR E + vs.length) (nI v) a j from if_neg z2]
    by_cases z3 : a = 241 ∧ j = 6 * nR E + vs.length
    · rw [z3.1, z3.2, up_e]
      unfold eR1
      rw [if_neg (by omega), if_neg (by omega), if_pos ⟨rfl, by omega, by omega⟩, show 6 * nR E + vs.length - 6 * nR E = vs.length by omega]
      simp
    · rw [show up (eR1 E nm vs) 241 (6 * nR E + vs.length) (nI v) a j = eR1 E nm vs a j from if_neg z3]
      unfold eR1
      by_cases z1 : a = 239 ∧ j = nR E
      · rw [if_pos z1, if_pos z1]
      · rw [if_neg z1, if_neg z1, if_neg z2, if_neg z2]
        by_cases y : a = 241 ∧ 6 * nR E ≤ j ∧ j < 6 * nR E + vs.length
        · rw [if_pos y, if_pos ⟨y.1, y.2.1, by omega⟩]
          rw [List.getD_eq_getElem?_getD, List.getD_eq_getElem?_getD, List.getElem?_append_left (by omega)]
        · rw [if_neg y, if_neg (by omega)]
theorem m_rai109 (h : RSt σ T n s) (hE : RdE σ (eR1 E nm vs)) (hR : E 227 3 = nI (nR E)) (h4 : nR E < 4) : ∃ τ, f_X12_rainLine_109 225 σ = some τ ∧ Fr Xbd σ τ ∧ RSt τ T n s ∧ RdE τ (eRai E nm vs) := by
  obtain ⟨σ9, r1, r2, r3, r4⟩ := m_inc h hE (k := 3) (c := nR E) (by omega) (by unfold eR1; rw [if_neg (by omega), if_neg (by omega), if_neg (by omega)]; exact hR) (by omega)
  rw [eR1_i] at r4
  refine ⟨σ9, ?_, r2, r3, r4⟩
  unfold f_X12_rainLine_109
  simp only [to_bq, l_0, l_1, l_2, l_3, l_4, l_5, l_6, l_7, l_8, l_9, l_10, l_11, l_12, l_13, l_14, l_15, l_16, l_17, l_18, l_19, l_20, l_21, l_22, l_23, l_24, l_25, l_26, l_27, l_28, l_29, l_30, l_31, l_32, l_40, l_41, l_42, l_43, l_44, l_45, l_46, l_47, l_48, l_49, l_50, l_51, l_52, l_53, l_54, l_55, l_56, l_57, l_58, l_59, l_60, l_61, l_62, l_63, l_64, l_72, l_97, l_99, l_100, l_104, l_120, l_122, l_128, l_140, l_255, l_256, l_257, l_258, l_260, l_261, l_262, l_364, l_680, l_700, l_701, l_840, l_999, l_1023, l_1024, l_9999, l_10000, l_1000000, lm]
  exact r1 some
theorem m_rai27 (hR : E 227 3 = nI (nR E)) (h4 : nR E < 4) : ∀ f fu vs σ i, vs.length + f = 6 → f < fu → RSt σ T n (i, none) → RdE σ (eR1 E nm vs) → (f = 0 → tS (tks T n i) = 2) → ∃ τ, f_X12_rainLine_27 fu 225 (nI (4 + nR E)) σ = some τ ∧ Fr Xbd σ τ ∧ RSt τ T n (sRn (tks T n) f i vs).1 ∧ ((sRn (tks T n) f i vs).1.2 = none → RdE τ (eRai E nm (sRn (tks T n) f i vs).2)) := by
  intro f
  induction f with
  | zero =>
    intro fu vs σ i hl hfu h hE h2
    obtain ⟨fu, rfl⟩ : ∃ q, fu = q + 1 := ⟨fu - 1, by omega⟩
    have h2 := h2 rfl
    have hW := h.w
    obtain ⟨k1, k2, k3, k4⟩ := h.1.2
    have e40 : ah_I σ 240 (4 + nR E) = nI vs.length := (hE 240 (nR E) (by omega) (by omega) h4).trans (by unfold eR1; rw [if_neg (by omega), if_pos ⟨rfl, rfl⟩])
    obtain ⟨σ1, w1, w2, w3⟩ := m_errS h (f := 2) (by omega) (by omega)
    refine ⟨σ1, ?_, (w2.mono Xwr_f).mono Xfp_b, w3, fun z => nomatch z⟩
    show f_X12_rainLine_27_b _ _ _ _ = _
    unfold f_X12_rainLine_27_b
    simp only [to_bq, l_0, l_1, l_2, l_3, l_4, l_5, l_6, l_7, l_8, l_9, l_10, l_11, l_12, l_13, l_14, l_15, l_16, l_17, l_18, l_19, l_20, l_21, l_22, l_23, l_24, l_25, l_26, l_27, l_28, l_29, l_30, l_31, l_32, l_40, l_41, l_42, l_43, l_44, l_45, l_46, l_47, l_48, l_49, l_50, l_51, l_52, l_53, l_54, l_55, l_56, l_57, l_58, l_59, l_60, l_61, l_62, l_63, l_64, l_72, l_97, l_99, l_100, l_104, l_120, l_122, l_128, l_140, l_255, l_256, l_257, l_258, l_260, l_261, l_262, l_364, l_680, l_700, l_701, l_840, l_999, l_1023, l_1024, l_9999, l_10000, l_1000000, lm]
    have hv6 : vs.length = 6 := by omega
    simp (disch := first | (with_reducible assumption) | omega | exact ⟨by omega, by omega⟩ | ((with_reducible first | apply Wf.wI | apply Wf.wL | apply Wf.fL | apply Wf.fI | apply Wf.fr); (repeat (with_reducible first | assumption | apply Wf.wI | apply Wf.wL | apply Wf.fL | apply Wf.fI | apply Wf.fr)))) only [bq_n, bd_s, mp_s, rz_0, rz_1, bI_rz, ck_225, gI_225, gL_225, pI_225, pZ0_225, pZ1_225, pL_225, gR_225_1, gR_225_3, gR_225_4, gR_225_5, gR_225_6, gR_225_7, gR_225_8, gR_225_9, gR_225_10, gR_225_11, gR_225_12, gR_225_13, gR_225_14, gR_225_15, gR_225_16, gR_225_17, gR_225_18, gR_225_19, gR_225_20, gR_225_21, gR_225_35, gR_225_36, gR_225_38, gR_225_39, gR_225_40, gR_225_41, gR_225_43, gR_225_44, gR_225_45, gR_225_48, gR_225_49, gR_225_50, gR_225_51, gR_225_53, gR_225_54, gR_225_55, gR_225_56, gR_225_58, gR_225_59, gR_225_60, gR_225_61, gR_225_62, gR_225_63, gR_225_66, gR_225_67, h.2, k3, h2, if_true, if_false, ite_true, ite_false, reduceIte, not_true, not_false, and_true, true_and, and_false, false_and, or_true, true_or, or_false, false_or, eq_self, aI_240, sI_240, len_240, e40, hv6]
    rw [w1]
    simp (disch := first | (with_reducible assumption) | omega | exact ⟨by omega, by omega⟩ | ((with_reducible first | apply Wf.wI | apply Wf.wL | apply Wf.fL | apply Wf.fI | apply Wf.fr); (repeat (with_reducible first | assumption | apply Wf.wI | apply Wf.wL | apply Wf.fL | apply Wf.fI | apply Wf.fr)))) only [bq_n, bd_s, mp_s, rz_0, rz_1, bI_rz]
    unfold f_X12_rainLine_58
    simp only [to_bq, l_0, l_1, l_2, l_3, l_4, l_5, l_6, l_7, l_8, l_9, l_10, l_11, l_12, l_13, l_14, l_15, l_16, l_17, l_18, l_19, l_20, l_21, l_22, l_23, l_24, l_25, l_26, l_27, l_28, l_29, l_30, l_31, l_32, l_40, l_41, l_42, l_43, l_44, l_45, l_46, l_47, l_48, l_49, l_50, l_51, l_52, l_53, l_54, l_55, l_56, l_57, l_58, l_59, l_60, l_61, l_62, l_63, l_64, l_72, l_97, l_99, l_100, l_104, l_120, l_122, l_128, l_140, l_255, l_256, l_257, l_258, l_260, l_261, l_262, l_364, l_680, l_700, l_701, l_840, l_999, l_1023, l_1024, l_9999, l_10000, l_1000000, lm]
    rw [m_numF w3.w (RSt.ne w3)]
    have w1W := w3.w
    simp (disch := first | (with_reducible assumption) | omega | exact ⟨by omega, by omega⟩ | ((with_reducible first | apply Wf.wI | apply Wf.wL | apply Wf.fL | apply Wf.fI | apply Wf.fr); (repeat (with_reducible first | assumption | apply Wf.wI | apply Wf.wL | apply Wf.fL | apply Wf.fI | apply Wf.fr)))) only [bq_n, bd_s, mp_s, rz_0, rz_1, bI_rz, ck_225, gI_225, gL_225, pI_225, pZ0_225, pZ1_225, pL_225, gR_225_1, gR_225_3, gR_225_4, gR_225_5, gR_225_6, gR_225_7, gR_225_8, gR_225_9, gR_225_10, gR_225_11, gR_225_12, gR_225_13, gR_225_14, gR_225_15, gR_225_16, gR_225_17, gR_225_18, gR_225_19, gR_225_20, gR_225_21, gR_225_35, gR_225_36, gR_225_38, gR_225_39, gR_225_40, gR_225_41, gR_225_43, gR_225_44, gR_225_45, gR_225_48, gR_225_49, gR_225_50, gR_225_51, gR_225_53, gR_225_54, gR_225_55, gR_225_56, gR_225_58, gR_225_59, gR_225_60, gR_225_61, gR_225_62, gR_225_63, gR_225_66, gR_225_67, if_neg (RSt.ne w3)]
  | succ f ih =>
    intro fu vs σ i hl hfu h hE h2
    obtain ⟨fu, rfl⟩ : ∃ q, fu = q + 1 := ⟨fu - 1, by omega⟩
    have hW := h.w
    obtain ⟨k1, k2, k3, k4⟩ := h.1.2
    have hs := (tks_n (T := T) (n := n) i).2.2
    have e40 : ah_I σ 240 (4 + nR E) = nI vs.length := (hE 240 (nR E) (by omega) (by omega) h4).trans (by unfold eR1; rw [if_neg (by omega), if_pos ⟨rfl, rfl⟩])
    show ∃ τ, f_X12_rainLine_27_b (f_X12_rainLine_27 fu) _ _ _ = some τ ∧ _
    have e58 : f_X12_rainLine_27_b (f_X12_rainLine_27 fu) 225 (nI (4 + nR E)) σ = f_X12_rainLine_58 (f_X12_rainLine_27 fu) 225 (nI (4 + nR E)) σ := by
      unfold f_X12_rainLine_27_b
      simp only [to_bq, l_0, l_1, l_2, l_3, l_4, l_5, l_6, l_7, l_8, l_9, l_10, l_11, l_12, l_13, l_14, l_15, l_16, l_17, l_18, l_19, l_20, l_21, l_22, l_23, l_24, l_25, l_26, l_27, l_28, l_29, l_30, l_31, l_32, l_40, l_41, l_42, l_43, l_44, l_45, l_46, l_47, l_48, l_49, l_50, l_51, l_52, l_53, l_54, l_55, l_56, l_57, l_58, l_59, l_60, l_61, l_62, l_63, l_64, l_72, l_97, l_99, l_100, l_104, l_120, l_122, l_128, l_140, l_255, l_256, l_257, l_258, l_260, l_261, l_262, l_364, l_680, l_700, l_701, l_840, l_999, l_1023, l_1024, l_9999, l_10000, l_1000000, lm]
      have n6 : ¬ nI vs.length = nI 6 := by rw [eq_nI (by omega) (by omega)]; omega
      simp (disch := first | (with_reducible assumption) | omega | exact ⟨by omega, by omega⟩ | ((with_reducible first | apply Wf.wI | apply Wf.wL | apply Wf.fL | apply Wf.fI | apply Wf.fr); (repeat (with_reducible first | assumption | apply Wf.wI | apply Wf.wL | apply Wf.fL | apply Wf.fI | apply Wf.fr)))) only [bq_n, bd_s, mp_s, rz_0, rz_1, bI_rz, ck_225, gI_225, gL_225, pI_225, pZ0_225, pZ1_225, pL_225, gR_225_1, gR_225_3, gR_225_4, gR_225_5, gR_225_6, gR_225_7, gR_225_8, gR_225_9, gR_225_10, gR_225_11, gR_225_12, gR_225_13, gR_225_14, gR_225_15, gR_225_16, gR_225_17, gR_225_18, gR_225_19, gR_225_20, gR_225_21, gR_225_35, gR_225_36, gR_225_38, gR_225_39, gR_225_40, gR_225_41, gR_225_43, gR_225_44, gR_225_45, gR_225_48, gR_225_49, gR_225_50, gR_225_51, gR_225_53, gR_225_54, gR_225_55, gR_225_56, gR_225_58, gR_225_59, gR_225_60, gR_225_61, gR_225_62, gR_225_63, gR_225_66, gR_225_67, h.2, if_true, if_false, ite_true, ite_false, reduceIte, not_true, not_false, and_true, true_and, and_false, false_and, or_true, true_or, or_false, false_or, eq_self, aI_240, sI_240, len_240, e40, if_neg n6]
      split <;> rfl
    rw [e58]
    obtain ⟨σ1, w1, w2, w3⟩ := m_numS h (lo := 0) (hi := 99) (by omega) (by omega)
    have w1W := w3.w
    unfold f_X12_rainLine_58
    simp only [to_bq, l_0, l_1, l_2, l_3, l_4, l_5, l_6, l_7, l_8, l_9, l_10, l_11, l_12, l_13, l_14, l_15, l_16, l_17, l_18, l_19, l_20, l_21, l_22, l_23, l_24, l_25, l_26, l_27, l_28, l_29, l_30, l_31, l_32, l_40, l_41, l_42, l_43, l_44, l_45, l_46, l_47, l_48, l_49, l_50, l_51, l_52, l_53, l_54, l_55, l_56, l_57, l_58, l_59, l_60, l_61, l_62, l_63, l_64, l_72, l_97, l_99, l_100, l_104, l_120, l_122, l_128, l_140, l_255, l_256, l_257, l_258, l_260, l_261, l_262, l_364, l_680, l_700, l_701, l_840, l_999, l_1023, l_1024, l_9999, l_10000, l_1000000, lm]
    rw [w1]
    simp (disch := first | (with_reducible assumption) | omega | exact ⟨by omega, by omega⟩ | ((with_reducible first | apply Wf.wI | apply Wf.wL | apply Wf.fL | apply Wf.fI | apply Wf.fr); (repeat (with_reducible first | assumption | apply Wf.wI | apply Wf.wL | apply Wf.fL | apply Wf.fI | apply Wf.fr)))) only [bq_n, bd_s, mp_s, rz_0, rz_1, bI_rz, ck_225, gI_225, gL_225, pI_225, pZ0_225, pZ1_225, pL_225, gR_225_1, gR_225_3, gR_225_4, gR_225_5, gR_225_6, gR_225_7, gR_225_8, gR_225_9, gR_225_10, gR_225_11, gR_225_12, gR_225_13, gR_225_14, gR_225_15, gR_225_16, gR_225_17, gR_225_18, gR_225_19, gR_225_20, gR_225_21, gR_225_35, gR_225_36, gR_225_38, gR_225_39, gR_225_40, gR_225_41, gR_225_43, gR_225_44, gR_225_45, gR_225_48, gR_225_49, gR_225_50, gR_225_51, gR_225_53, gR_225_54, gR_225_55, gR_225_56, gR_225_58, gR_225_59, gR_225_60, gR_225_61, gR_225_62, gR_225_63, gR_225_66, gR_225_67]
    have eS : sNumS (tks T n) (i, none) 0 99 = if tS (tks T n i) = 2 then (if 0 ≤ tV (tks T n i) ∧ tV (tks T n i) ≤ 99 then (i + 1, none) else (i, some (2, i))) else (i, some (1, i)) := rfl
    have eV : sNumV (tks T n) (i, none) 0 99 = if tS (tks T n i) = 2 ∧ 0 ≤ tV (tks T n i) ∧ tV (tks T n i) ≤ 99 then tV (tks T n i) else 0 := rfl
    have eN : sRn (tks T n) (f + 1) i vs = if tS (tks T n i) = 2 then (if tV (tks T n i) ≤ 99 then (if tS (tks T n (i + 1)) = 2 then sRn (tks T n) f (i + 1) (vs ++ [tV (tks T n i)]) else ((i + 1, none), vs ++ [tV (tks T n i)])) else ((i, some (2, i)), vs)) else ((i, some (1, i)), vs) := rfl
    by_cases z : tS (tks T n i) = 2
    · by_cases z1 : tV (tks T n i) ≤ 99
      · rw [eS, if_pos z, if_pos ⟨by omega, z1⟩] at w3
        rw [eV.trans (if_pos ⟨z, by omega, z1⟩)]
        rw [eN, if_pos z, if_pos z1]
        obtain ⟨y1, y2, y3, y4⟩ := w3.1.2
        have wE := hE.f w2
        have e41 : ah_I σ1 240 (4 + nR E) = nI vs.length := by rw [w2.I (by unfold Xfp; omega)]; exact e40
        have hix : nI 6 * nI (4 + nR E) + nI vs.length = nI (24 + (6 * nR E + vs.length)) := by rw [zmul, zadd]; congr 1; omega
        have g3 := (w3.wr (a := 241) (j := 24 + (6 * nR E + vs.length)) (v := nI (tV (tks T n i))) (by omega)).wr (a := 240) (j := 4 + nR E) (v := nI (vs.length + 1)) (by omega)
        have gE := (wE.wr (a := 241) (j := 6 * nR E + vs.length) (v := nI (tV (tks T n i))) (show 6 * nR E + vs.length < 24 by omega)).wr (a := 240) (j := nR E) (v := nI (vs.length + 1)) h4
        rw [eR1_s] at gE
        have gF := ((Fr.rfl (X := Xbd) (σ := σ)).tf w2 |>.tw (a := 241) (j := 24 + (6 * nR E + vs.length)) (v := nI (tV (tks T n i))) (by omega) (by omega) (Nat.le_add_right 24 _)).tw (a := 240) (j := 4 + nR E) (v := nI (vs.length + 1)) (by omega) (by omega) (Nat.le_add_right 4 _)
        have hs1 := (tks_n (T := T) (n := n) (i + 1)).2.2
        simp (disch := first | (with_reducible assumption) | omega | exact ⟨by omega, by omega⟩ | ((with_reducible first | apply Wf.wI | apply Wf.wL | apply Wf.fL | apply Wf.fI | apply Wf.fr); (repeat (with_reducible first | assumption | apply Wf.wI | apply Wf.wL | apply Wf.fL | apply Wf.fI | apply Wf.fr)))) only [bq_n, bd_s, mp_s, rz_0, rz_1, bI_rz, w3.2, if_true, if_false, ite_true, ite_false, reduceIte, not_true, not_false, and_true, true_and, and_false, false_and, or_true, true_or, or_false, false_or, eq_self, ck_225, gI_225, gL_225, pI_225, pZ0_225, pZ1_225, pL_225, gR_225_1, gR_225_3, gR_225_4, gR_225_5, gR_225_6, gR_225_7, gR_225_8, gR_225_9, gR_225_10, gR_225_11, gR_225_12, gR_225_13, gR_225_14, gR_225_15, gR_225_16, gR_225_17, gR_225_18, gR_225_19, gR_225_20, gR_225_21, gR_225_35, gR_225_36, gR_225_38, gR_225_39, gR_225_40, gR_225_41, gR_225_43, gR_225_44, gR_225_45, gR_225_48, gR_225_49, gR_225_50, gR_225_51, gR_225_53, gR_225_54, gR_225_55, gR_225_56, gR_225_58, gR_225_59, gR_225_60, gR_225_61, gR_225_62, gR_225_63, gR_225_66, gR_225_67, aI_240, sI_240, len_240, e41]
        simp (disch := first | (with_reducible assumption) | omega | exact ⟨by omega, by omega⟩ | ((with_reducible first | apply Wf.wI | apply Wf.wL | apply Wf.fL | apply Wf.fI | apply Wf.fr); (repeat (with_reducible first | assumption | apply Wf.wI | apply Wf.wL | apply Wf.fL | apply Wf.fI | apply Wf.fr)))) only [hix, aI_241, sI_241, len_241, bq_n, bd_s, mp_s, rz_0, rz_1, bI_rz, ck_225, gI_225, gL_225, pI_225, pZ0_225, pZ1_225, pL_225, gR_225_1, gR_225_3, gR_225_4, gR_225_5, gR_225_6, gR_225_7, gR_225_8, gR_225_9, gR_225_10, gR_225_11, gR_225_12, gR_225_13, gR_225_14, gR_225_15, gR_225_16, gR_225_17, gR_225_18, gR_225_19, gR_225_20, gR_225_21, gR_225_35, gR_225_36, gR_225_38, gR_225_39, gR_225_40, gR_225_41, gR_225_43, gR_225_44, gR_225_45, gR_225_48, gR_225_49, gR_225_50, gR_225_51, gR_225_53, gR_225_54, gR_225_55, gR_225_56, gR_225_58, gR_225_59, gR_225_60, gR_225_61, gR_225_62, gR_225_63, gR_225_66, gR_225_67, aI_240, sI_240, len_240, e41, zadd, Nat.reduceEqDiff, Nat.reduceAdd, Nat.reduceMul, Nat.reduceSub, Nat.reduceLT, Nat.reduceLeDiff, Nat.add_sub_cancel, Nat.zero_add, Nat.add_zero, Nat.mul_zero, Nat.zero_mul]
        have e42 : ah_I (ah_wI σ1 241 (24 + (6 * nR E + vs.length)) (nI (tV (tks T n i)))) 240 (4 + nR E) = nI vs.length := by rw [rI_ne (by omega)]; exact e41
        have e43 : ah_I (ah_wI (ah_wI σ1 241 (24 + (6 * nR E + vs.length)) (nI (tV (tks T n i)))) 240 (4 + nR E) (nI (vs.length + 1))) 225 27 = nI (tS (tks T n (i + 1))) := by rw [rI_ne (by omega), rI_ne (by omega)]; exact y3
        simp only [e42, zadd]
        simp only [e43]
        by_cases z2 : tS (tks T n (i + 1)) = 2
        · rw [if_pos z2]
          simp only [z2, if_true, if_false, ite_true, ite_false, reduceIte, not_true, not_false, and_true, true_and, and_false, false_and, or_true, true_or, or_false, false_or, eq_self]
          obtain ⟨τ, t1, t2, t3, t4⟩ := ih fu (vs ++ [tV (tks T n i)]) _ (i + 1) (by simp; omega) (by omega) g3 gE (fun _ => z2)
          exact ⟨τ, t1, gF.trans t2, t3, t4⟩
        · rw [if_neg z2]
          have z3 : ¬ nI (tS (tks T n (i + 1))) = nI 2 := by rw [eq_nI (by omega) (by omega)]; exact z2
          simp only [z3, if_true, if_false, ite_true, ite_false, reduceIte, not_true, not_false, and_true, true_and, and_false, false_and, or_true, true_or, or_false, false_or, eq_self]
          obtain ⟨τ, t1, t2, t3, t4⟩ := m_rai109 g3 gE hR h4
          exact ⟨τ, t1, gF.trans t2, t3, fun _ => t4⟩
      · rw [eS, if_pos z, if_neg (by omega)] at w3
        rw [eN, if_pos z, if_neg z1]
        simp (disch := first | (with_reducible assumption) | omega | exact ⟨by omega, by omega⟩ | ((with_reducible first | apply Wf.wI | apply Wf.wL | apply Wf.fL | apply Wf.fI | apply Wf.fr); (repeat (with_reducible first | assumption | apply Wf.wI | apply Wf.wL | apply Wf.fL | apply Wf.fI | apply Wf.fr)))) only [if_neg (RSt.ne w3)]
        exact ⟨σ1, rfl, w2.mono Xfp_b, w3, fun z => nomatch z⟩
    · rw [eS, if_neg z] at w3
      rw [eN, if_neg z]
      simp (disch := first | (with_reducible assumption) | omega | exact ⟨by omega, by omega⟩ | ((with_reducible first | apply Wf.wI | apply Wf.wL | apply Wf.fL | apply Wf.fI | apply Wf.fr); (repeat (with_reducible first | assumption | apply Wf.wI | apply Wf.wL | apply Wf.fL | apply Wf.fI | apply Wf.fr)))) only [if_neg (RSt.ne w3)]
      exact ⟨σ1, rfl, w2.mono Xfp_b, w3, fun z => nomatch z⟩
theorem m_raiL (h : RSt σ T n s) (hE : RdE σ E) (ht : MT E) (h4 : nR E < 4) (s1 : LnS) (q1 : s1 = sNamS (tks T n) s (E 239) (nR E)) : ∃ τ, f_X12_rainLine 225 (nI (4 + nR E)) σ = some τ ∧ Fr Xbd σ τ ∧ RSt τ T n (sRai (tks T n) s1).1 ∧ ((sRai (tks T n) s1).1.2 = none → RdE τ (eRai E (sNamV (tks T n) s (E 239) (nR E)) (sRai (tks T n) s1).2)) := by
  have hW := h.w
  have hR : E 227 3 = nI (nR E) := ht.1.2.2.2.1.1
  have e0 := m_frs hW hE (k := 3) (by omega)
  rw [hR] at e0
  obtain ⟨σ1, a1, a2, a3⟩ := m_namS h hE (a := 239) (m := nR E) (by omega)
  rw [← q1] at a3
  have aW := a3.w
  have b3 := (a3.wr (a := 239) (j := 4 + nR E) (v := nI (sNamV (tks T n) s (E 239) (nR E))) (by omega)).wr (a := 240) (j := 4 + nR E) (v := nI 0) (by omega)
  have bE := ((hE.f a2).wr (a := 239) (j := nR E) (v := nI (sNamV (tks T n) s (E 239) (nR E))) h4).wr (a := 240) (j := nR E) (v := nI 0) h4
  have bF := ((Fr.rfl (σ := σ) (X := Xbd)).tf a2 |>.tw (a := 239) (j := 4 + nR E) (v := nI (sNamV (tks T n) s (E 239) (nR E))) (by omega) (by omega) (Nat.le_add_right 4 _)).tw (a := 240) (j := 4 + nR E) (v := nI 0) (by omega) (by omega) (Nat.le_add_right 4 _)
  have bW := b3.w
  have bE2 : RdE (ah_wI (ah_wI σ1 239 (4 + nR E) (nI (sNamV (tks T n) s (E 239) (nR E)))) 240 (4 + nR E) (nI 0)) (eR1 E (sNamV (tks T n) s (E 239) (nR E)) []) := bE.cg (fun a j _ _ _ => by
    unfold eR1
    by_cases z1 : a = 240 ∧ j = nR E
    · rw [z1.1, z1.2, up_e, if_neg (by omega), if_pos ⟨rfl, rfl⟩]; rfl
    · rw [show up (up E 239 (nR E) (nI (sNamV (tks T n) s (E 239) (nR E)))) 240 (nR E) (nI 0) a j = up E 239 (nR E) (nI (sNamV (tks T n) s (E 239) (nR E))) a j from if_neg z1]
      by_cases z2 : a = 239 ∧ j = nR E
      · rw [z2.1, z2.2, up_e, if_pos ⟨rfl, rfl⟩]
      · rw [if_neg z2, if_neg z1, if_neg (fun w => by have := w.2.2; simp at this; omega)]
        exact if_neg z2)
  have hd : f_X12_rainLine 225 (nI (4 + nR E)) σ = f_X12_rainLine_27 5000 225 (nI (4 + nR E)) (ah_wI (ah_wI σ1 239 (4 + nR E) (nI (sNamV (tks T n) s (E 239) (nR E)))) 240 (4 + nR E) (nI 0)) := by
    unfold f_X12_rainLine f_X12_rainLine_0
    simp only [to_bq, l_0, l_1, l_2, l_3, l_4, l_5, l_6, l_7, l_8, l_9, l_10, l_11, l_12, l_13, l_14, l_15, l_16, l_17, l_18, l_19, l_20, l_21, l_22, l_23, l_24, l_25, l_26, l_27, l_28, l_29, l_30, l_31, l_32, l_40, l_41, l_42, l_43, l_44, l_45, l_46, l_47, l_48, l_49, l_50, l_51, l_52, l_53, l_54, l_55, l_56, l_57, l_58, l_59, l_60, l_61, l_62, l_63, l_64, l_72, l_97, l_99, l_100, l_104, l_120, l_122, l_128, l_140, l_255, l_256, l_257, l_258, l_260, l_261, l_262, l_364, l_680, l_700, l_701, l_840, l_999, l_1023, l_1024, l_9999, l_10000, l_1000000, lm]
    simp (disch := first | (with_reducible assumption) | omega | exact ⟨by omega, by omega⟩ | ((with_reducible first | apply Wf.wI | apply Wf.wL | apply Wf.fL | apply Wf.fI | apply Wf.fr); (repeat (with_reducible first | assumption | apply Wf.wI | apply Wf.wL | apply Wf.fL | apply Wf.fI | apply Wf.fr)))) only [ck_225, gI_225, gL_225, pI_225, pZ0_225, pZ1_225, pL_225, gR_225_1, gR_225_3, gR_225_4, gR_225_5, gR_225_6, gR_225_7, gR_225_8, gR_225_9, gR_225_10, gR_225_11, gR_225_12, gR_225_13, gR_225_14, gR_225_15, gR_225_16, gR_225_17, gR_225_18, gR_225_19, gR_225_20, gR_225_21, gR_225_35, gR_225_36, gR_225_38, gR_225_39, gR_225_40, gR_225_41, gR_225_43, gR_225_44, gR_225_45, gR_225_48, gR_225_49, gR_225_50, gR_225_51, gR_225_53, gR_225_54, gR_225_55, gR_225_56, gR_225_58, gR_225_59, gR_225_60, gR_225_61, gR_225_62, gR_225_63, gR_225_66, gR_225_67, bq_n, bd_s, mp_s, rz_0, rz_1, bI_rz, e0]
    rw [show (nI 4 : Int32) = nI (hf 239) from rfl, a1]
    simp (disch := first | (with_reducible assumption) | omega | exact ⟨by omega, by omega⟩ | ((with_reducible first | apply Wf.wI | apply Wf.wL | apply Wf.fL | apply Wf.fI | apply Wf.fr); (repeat (with_reducible first | assumption | apply Wf.wI | apply Wf.wL | apply Wf.fL | apply Wf.fI | apply Wf.fr)))) only [ck_225, gI_225, gL_225, pI_225, pZ0_225, pZ1_225, pL_225, gR_225_1, gR_225_3, gR_225_4, gR_225_5, gR_225_6, gR_225_7, gR_225_8, gR_225_9, gR_225_10, gR_225_11, gR_225_12, gR_225_13, gR_225_14, gR_225_15, gR_225_16, gR_225_17, gR_225_18, gR_225_19, gR_225_20, gR_225_21, gR_225_35, gR_225_36, gR_225_38, gR_225_39, gR_225_40, gR_225_41, gR_225_43, gR_225_44, gR_225_45, gR_225_48, gR_225_49, gR_225_50, gR_225_51, gR_225_53, gR_225_54, gR_225_55, gR_225_56, gR_225_58, gR_225_59, gR_225_60, gR_225_61, gR_225_62, gR_225_63, gR_225_66, gR_225_67, bq_n, bd_s, mp_s, rz_0, rz_1, bI_rz, aI_239, sI_239, len_239, aI_240, sI_240, len_240]
  rw [hd]
  obtain ⟨i1, _ | x⟩ := s1
  · obtain ⟨τ, t1, t2, t3, t4⟩ := m_rai27 hR h4 6 5000 [] _ i1 rfl (by omega) b3 bE2 (by omega)
    exact ⟨τ, t1, bF.trans t2, t3, t4⟩
  · refine ⟨_, ?_, bF, b3, fun z => nomatch z⟩
    show f_X12_rainLine_27_b _ _ _ _ = _
    have hne := RSt.ne b3
    unfold f_X12_rainLine_27_b f_X12_rainLine_58
    simp only [to_bq, l_0, l_1, l_2, l_3, l_4, l_5, l_6, l_7, l_8, l_9, l_10, l_11, l_12, l_13, l_14, l_15, l_16, l_17, l_18, l_19, l_20, l_21, l_22, l_23, l_24, l_25, l_26, l_27, l_28, l_29, l_30, l_31, l_32, l_40, l_41, l_42, l_43, l_44, l_45, l_46, l_47, l_48, l_49, l_50, l_51, l_52, l_53, l_54, l_55, l_56, l_57, l_58, l_59, l_60, l_61, l_62, l_63, l_64, l_72, l_97, l_99, l_100, l_104, l_120, l_122, l_128, l_140, l_255, l_256, l_257, l_258, l_260, l_261, l_262, l_364, l_680, l_700, l_701, l_840, l_999, l_1023, l_1024, l_9999, l_10000, l_1000000, lm]
    simp (disch := first | (with_reducible assumption) | omega | exact ⟨by omega, by omega⟩ | ((with_reducible first | apply Wf.wI | apply Wf.wL | apply Wf.fL | apply Wf.fI | apply Wf.fr); (repeat (with_reducible first | assumption | apply Wf.wI | apply Wf.wL | apply Wf.fL | apply Wf.fI | apply Wf.fr)))) only [bq_n, bd_s, mp_s, rz_0, rz_1, bI_rz, ck_225, gI_225, gL_225, pI_225, pZ0_225, pZ1_225, pL_225, gR_225_1, gR_225_3, gR_225_4, gR_225_5, gR_225_6, gR_225_7, gR_225_8, gR_225_9, gR_225_10, gR_225_11, gR_225_12, gR_225_13, gR_225_14, gR_225_15, gR_225_16, gR_225_17, gR_225_18, gR_225_19, gR_225_20, gR_225_21, gR_225_35, gR_225_36, gR_225_38, gR_225_39, gR_225_40, gR_225_41, gR_225_43, gR_225_44, gR_225_45, gR_225_48, gR_225_49, gR_225_50, gR_225_51, gR_225_53, gR_225_54, gR_225_55, gR_225_56, gR_225_58, gR_225_59, gR_225_60, gR_225_61, gR_225_62, gR_225_63, gR_225_66, gR_225_67, if_neg hne]
    rw [m_numF bW hne]
    simp (disch := first | (with_reducible assumption) | omega | exact ⟨by omega, by omega⟩ | ((with_reducible first | apply Wf.wI | apply Wf.wL | apply Wf.fL | apply Wf.fI | apply Wf.fr); (repeat (with_reducible first | assumption | apply Wf.wI | apply Wf.wL | apply Wf.fL | apply Wf.fI | apply Wf.fr)))) only [bq_n, bd_s, mp_s, rz_0, rz_1, bI_rz, ck_225, gI_225, gL_225, pI_225, pZ0_225, pZ1_225, pL_225, gR_225_1, gR_225_3, gR_225_4, gR_225_5, gR_225_6, gR_225_7, gR_225_8, gR_225_9, gR_225_10, gR_225_11, gR_225_12, gR_225_13, gR_225_14, gR_225_15, gR_225_16, gR_225_17, gR_225_18, gR_225_19, gR_225_20, gR_225_21, gR_225_35, gR_225_36, gR_225_38, gR_225_39, gR_225_40, gR_225_41, gR_225_43, gR_225_44, gR_225_45, gR_225_48, gR_225_49, gR_225_50, gR_225_51, gR_225_53, gR_225_54, gR_225_55, gR_225_56, gR_225_58, gR_225_59, gR_225_60, gR_225_61, gR_225_62, gR_225_63, gR_225_66, gR_225_67, if_neg hne]
end
