/-! LINES OF THE REFERENCE: corner, street, pipe -/
def sOptS (k : Nat → TK) (s : LnS) (w hi : Nat) : LnS := if sWd k s w then sNumS k (sGo s) 0 hi else s
def sOptV (k : Nat → TK) (s : LnS) (w hi d : Nat) : Nat := if sWd k s w then sNumV k (sGo s) 0 hi else d
section
variable {σ τ : ah_H} {T : Nat → Nat} {n i : Nat} {s : LnS} {E : DD}
theorem up_up {a j : Nat} {v w : Int32} : up (up E a j v) a j w = up E a j w := funext fun a' => funext fun j' => by
  unfold up
  by_cases z : a' = a ∧ j' = j
  · rw [if_pos z, if_pos z]
  · rw [if_neg z, if_neg z, if_neg z]
theorem Fr.tw {a j : Nat} {v : Int32} (g : Fr Xtx σ τ) (ha : 227 ≤ a) (ha2 : a ≤ 245) (hj : hf a ≤ j) : Fr Xtx σ (ah_wI τ a j v) := g.wI (Or.inr ⟨ha, ha2, hj⟩)
theorem Fr.tf {υ : ah_H} (g : Fr Xtx σ τ) (g2 : Fr Xfp τ υ) : Fr Xtx σ υ := g.trans (g2.mono Xfp_t)
theorem m_nextS (h : RSt σ T n s) {w : Nat} (hw : sWd (tks T n) s w) : ∃ τ, f_X12_token 225 σ = some τ ∧ Fr Xfp σ τ ∧ RSt τ T n (sGo s) := by
  obtain ⟨i, _ | ⟨g, j⟩⟩ := s
  · have hw : tS (tks T n i) = 0 := hw.2.1
    obtain ⟨τ, e1, e2, e3⟩ := m_next h.1 (by omega)
    exact ⟨τ, e1, e2.mono Xtk_f, e3, (e2.I (by unfold Xtk; omega)).trans h.2⟩
  · exact absurd hw.1 (fun z => nomatch z)
theorem m_corL (h : RSt σ T n s) (hE : RdE σ E) (hC : E 227 0 = nI (nC E)) (h7 : nC E < 7) (s1 s2 s3 : LnS) (q1 : s1 = sNamS (tks T n) s (E 228) (nC E)) (q2 : s2 = sNumS (tks T n) s1 0 999) (q3 : s3 = sNumS (tks T n) s2 0 99) : ∃ τ, f_X12_cornerLine 225 (nI (7 + nC E)) σ = some τ ∧ Fr Xtx σ τ ∧ RSt τ T n (sOptS (tks T n) s3 9 20) ∧ RdE τ (eCor E (sNamV (tks T n) s (E 228) (nC E)) (sNumV (tks T n) s1 0 999) (sNumV (tks T n) s2 0 99) (sOptV (tks T n) s3 9 20 20)) := by
  have hW := h.w
  obtain ⟨σ1, a1, a2, a3⟩ := m_namS h hE (a := 228) (m := nC E) (by omega)
  rw [← q1] at a3
  have b3 := a3.wr (a := 228) (j := 7 + nC E) (v := nI (sNamV (tks T n) s (E 228) (nC E))) (by omega)
  have bE := (hE.f a2).wr (a := 228) (j := nC E) (v := nI (sNamV (tks T n) s (E 228) (nC E))) h7
  have bF := (Fr.rfl (σ := σ) (X := Xtx)).tf a2 |>.tw (a := 228) (j := 7 + nC E) (v := nI (sNamV (tks T n) s (E 228) (nC E))) (by omega) (by omega) (Nat.le_add_right 7 _)
  have bW := b3.w
  obtain ⟨σ2, c1, c2, c3⟩ := m_numS b3 (lo := 0) (hi := 999) (by omega) (by omega)
  rw [← q2] at c3
  have d3 := c3.wr (a := 229) (j := 7 + nC E) (v := nI (sNumV (tks T n) s1 0 999)) (by omega)
  have dE := (bE.f c2).wr (a := 229) (j := nC E) (v := nI (sNumV (tks T n) s1 0 999)) h7
  have dF := bF.tf c2 |>.tw (a := 229) (j := 7 + nC E) (v := nI (sNumV (tks T n) s1 0 999)) (by omega) (by omega) (Nat.le_add_right 7 _)
  have dW := d3.w
  obtain ⟨σ3, e1, e2, e3⟩ := m_numS d3 (lo := 0) (hi := 99) (by omega) (by omega)
  rw [← q3] at e3
  have f3 := (e3.wr (a := 230) (j := 7 + nC E) (v := nI (sNumV (tks T n) s2 0 99)) (by omega)).wr (a := 231) (j := 7 + nC E) (v := nI 20) (by omega)
  have fE := ((dE.f e2).wr (a := 230) (j := nC E) (v := nI (sNumV (tks T n) s2 0 99)) h7).wr (a := 231) (j := nC E) (v := nI 20) h7
  have fF := (dF.tf e2 |>.tw (a := 230) (j := 7 + nC E) (v := nI (sNumV (tks T n) s2 0 99)) (by omega) (by omega) (Nat.le_add_right 7 _)).tw (a := 231) (j := 7 + nC E) (v := nI 20) (by omega) (by omega) (Nat.le_add_right 7 _)
  have fW := f3.w
  have aW := a3.w
  have cW := c3.w
  have eW := e3.w
  have g1 := m_wdS f3 (w := 9) (by omega)
  have e0 := m_frs hW hE (k := 0) (by omega)
  rw [hC] at e0
  have fin : ∀ υ F, RSt υ T n (sOptS (tks T n) s3 9 20) → RdE υ F → F 227 0 = nI (nC E) → Fr Xtx σ υ → (up F 227 0 (nI (nC E + 1))) = (eCor E (sNamV (tks T n) s (E 228) (nC E)) (sNumV (tks T n) s1 0 999) (sNumV (tks T n) s2 0 99) (sOptV (tks T n) s3 9 20 20)) → ∃ τ, f_X12_cornerLine_82 225 υ = some τ ∧ Fr Xtx σ τ ∧ RSt τ T n (sOptS (tks T n) s3 9 20) ∧ RdE τ (eCor E (sNamV (tks T n) s (E 228) (nC E)) (sNumV (tks T n) s1 0 999) (sNumV (tks T n) s2 0 99) (sOptV (tks T n) s3 9 20 20)) := by
    intro υ F k1 k2 k3 k4 k5
    have kW := k1.w
    have w0 := m_frs kW k2 (k := 0) (by omega)
    rw [k3] at w0
    refine ⟨ah_wI υ 227 (12 + 0) (nI (nC E + 1)), ?_, k4.tw (by omega) (by omega) (by decide), k1.wr (by omega), k5 ▸ k2.wr (a := 227) (j := 0) (by decide)⟩
    unfold f_X12_cornerLine_82
    simp only [to_bq, l_0, l_1, l_2, l_3, l_4, l_5, l_6, l_7, l_8, l_9, l_10, l_11, l_12, l_13, l_14, l_15, l_16, l_17, l_18, l_19, l_20, l_21, l_22, l_23, l_24, l_25, l_26, l_27, l_28, l_29, l_30, l_31, l_32, l_40, l_41, l_42, l_43, l_44, l_45, l_46, l_47, l_48, l_49, l_50, l_51, l_52, l_53, l_54, l_55, l_56, l_57, l_58, l_59, l_60, l_61, l_62, l_63, l_64, l_72, l_97, l_99, l_100, l_104, l_120, l_122, l_128, l_140, l_255, l_256, l_257, l_258, l_260, l_261, l_262, l_364, l_680, l_700, l_701, l_840, l_999, l_1023, l_1024, l_9999, l_10000, l_1000000, lm]
    rw [w0]
    simp (disch := first | (with_reducible assumption) | omega | exact ⟨by omega, by omega⟩ | ((with_reducible first | apply Wf.wI | apply Wf.wL | apply Wf.fL | apply Wf.fI | apply Wf.fr); (repeat (with_reducible first | assumption | apply Wf.wI | apply Wf.wL | apply Wf.fL | apply Wf.fI | apply Wf.fr)))) only [bq_n, bd_s, mp_s, rz_0, rz_1, bI_rz, zadd]
    rw [m_rds kW (k := 0) (by omega)]
    simp only [bq_n, bd_s, mp_s, rz_0, rz_1, bI_rz]
  unfold f_X12_cornerLine f_X12_cornerLine_0
  simp only [to_bq, l_0, l_1, l_2, l_3, l_4, l_5, l_6, l_7, l_8, l_9, l_10, l_11, l_12, l_13, l_14, l_15, l_16, l_17, l_18, l_19, l_20, l_21, l_22, l_23, l_24, l_25, l_26, l_27, l_28, l_29, l_30, l_31, l_32, l_40, l_41, l_42, l_43, l_44, l_45, l_46, l_47, l_48, l_49, l_50, l_51, l_52, l_53, l_54, l_55, l_56, l_57, l_58, l_59, l_60, l_61, l_62, l_63, l_64, l_72, l_97, l_99, l_100, l_104, l_120, l_122, l_128, l_140, l_255, l_256, l_257, l_258, l_260, l_261, l_262, l_364, l_680, l_700, l_701, l_840, l_999, l_1023, l_1024, l_9999, l_10000, l_1000000, lm]
  simp (disch := first | (with_reducible assumption) | omega | exact ⟨by omega, by omega⟩ | ((with_reducible first | apply Wf.wI | apply Wf.wL | apply Wf.fL | apply Wf.fI | apply Wf.fr); (repeat (with_reducible first | assumption | apply Wf.wI | apply Wf.wL | apply Wf.fL | apply Wf.fI | apply Wf.fr)))) only [ck_225, gI_225, gL_225, pI_225, pZ0_225, pZ1_225, pL_225, gR_225_1, gR_225_3, gR_225_4, gR_225_5, gR_225_6, gR_225_7, gR_225_8, gR_225_9, gR_225_10, gR_225_11, gR_225_12, gR_225_13, gR_225_14, gR_225_15, gR_225_16, gR_225_17, gR_225_18, gR_225_19, gR_225_20, gR_225_21, gR_225_35, gR_225_36, gR_225_38, gR_225_39, gR_225_40, gR_225_41, gR_225_43, gR_225_44, gR_225_45, gR_225_48, gR_225_49, gR_225_50, gR_225_51, gR_225_53, gR_225_54, gR_225_55, gR_225_56, gR_225_58, gR_225_59, gR_225_60, gR_225_61, gR_225_62, gR_225_63, gR_225_66, gR_225_67, bq_n, bd_s, mp_s, rz_0, rz_1, bI_rz, e0]
  rw [show (nI 7 : Int32) = nI (hf 228) from rfl, a1]
  simp (disch := first | (with_reducible assumption) | omega | exact ⟨by omega, by omega⟩ | ((with_reducible first | apply Wf.wI | apply Wf.wL | apply Wf.fL | apply Wf.fI | apply Wf.fr); (repeat (with_reducible first | assumption | apply Wf.wI | apply Wf.wL | apply Wf.fL | apply Wf.fI | apply Wf.fr)))) only [ck_225, gI_225, gL_225, pI_225, pZ0_225, pZ1_225, pL_225, gR_225_1, gR_225_3, gR_225_4, gR_225_5, gR_225_6, gR_225_7, gR_225_8, gR_225_9, gR_225_10, gR_225_11, gR_225_12, gR_225_13, gR_225_14, gR_225_15, gR_225_16, gR_225_17, gR_225_18, gR_225_19, gR_225_20, gR_225_21, gR_225_35, gR_225_36, gR_225_38, gR_225_39, gR_225_40, gR_225_41, gR_225_43, gR_225_44, gR_225_45, gR_225_48, gR_225_49, gR_225_50, gR_225_51, gR_225_53, gR_225_54, gR_225_55, gR_225_56, gR_225_58, gR_225_59, gR_225_60, gR_225_61, gR_225_62, gR_225_63, gR_225_66, gR_225_67, bq_n, bd_s, mp_s, rz_0, rz_1, bI_rz, aI_228, sI_228, len_228]
  rw [c1]
  simp (disch := first | (with_reducible assumption) | omega | exact ⟨by omega, by omega⟩ | ((with_reducible first | apply Wf.wI | apply Wf.wL | apply Wf.fL | apply Wf.fI | apply Wf.fr); (repeat (with_reducible first | assumption | apply Wf.wI | apply Wf.wL | apply Wf.fL | apply Wf.fI | apply Wf.fr)))) only [ck_225, gI_225, gL_225, pI_225, pZ0_225, pZ1_225, pL_225, gR_225_1, gR_225_3, gR_225_4, gR_225_5, gR_225_6, gR_225_7, gR_225_8, gR_225_9, gR_225_10, gR_225_11, gR_225_12, gR_225_13, gR_225_14, gR_225_15, gR_225_16, gR_225_17, gR_225_18, gR_225_19, gR_225_20, gR_225_21, gR_225_35, gR_225_36, gR_225_38, gR_225_39, gR_225_40, gR_225_41, gR_225_43, gR_225_44, gR_225_45, gR_225_48, gR_225_49, gR_225_50, gR_225_51, gR_225_53, gR_225_54, gR_225_55, gR_225_56, gR_225_58, gR_225_59, gR_225_60, gR_225_61, gR_225_62, gR_225_63, gR_225_66, gR_225_67, bq_n, bd_s, mp_s, rz_0, rz_1, bI_rz, aI_229, sI_229, len_229]
  rw [e1]
  simp (disch := first | (with_reducible assumption) | omega | exact ⟨by omega, by omega⟩ | ((with_reducible first | apply Wf.wI | apply Wf.wL | apply Wf.fL | apply Wf.fI | apply Wf.fr); (repeat (with_reducible first | assumption | apply Wf.wI | apply Wf.wL | apply Wf.fL | apply Wf.fI | apply Wf.fr)))) only [ck_225, gI_225, gL_225, pI_225, pZ0_225, pZ1_225, pL_225, gR_225_1, gR_225_3, gR_225_4, gR_225_5, gR_225_6, gR_225_7, gR_225_8, gR_225_9, gR_225_10, gR_225_11, gR_225_12, gR_225_13, gR_225_14, gR_225_15, gR_225_16, gR_225_17, gR_225_18, gR_225_19, gR_225_20, gR_225_21, gR_225_35, gR_225_36, gR_225_38, gR_225_39, gR_225_40, gR_225_41, gR_225_43, gR_225_44, gR_225_45, gR_225_48, gR_225_49, gR_225_50, gR_225_51, gR_225_53, gR_225_54, gR_225_55, gR_225_56, gR_225_58, gR_225_59, gR_225_60, gR_225_61, gR_225_62, gR_225_63, gR_225_66, gR_225_67, bq_n, bd_s, mp_s, rz_0, rz_1, bI_rz, aI_230, sI_230, len_230, aI_231, sI_231, len_231]
  rw [g1]
  simp (disch := first | (with_reducible assumption) | omega | exact ⟨by omega, by omega⟩ | ((with_reducible first | apply Wf.wI | apply Wf.wL | apply Wf.fL | apply Wf.fI | apply Wf.fr); (repeat (with_reducible first | assumption | apply Wf.wI | apply Wf.wL | apply Wf.fL | apply Wf.fI | apply Wf.fr)))) only [bq_n, bd_s, mp_s, rz_0, rz_1, bI_rz, cI_0]
  by_cases z : sWd (tks T n) s3 9
  · rw [if_neg (by simpa using z)]
    obtain ⟨σ4, w1, w2, w3⟩ := m_nextS f3 z
    obtain ⟨σ5, y1, y2, y3⟩ := m_numS w3 (lo := 0) (hi := 20) (by omega) (by omega)
    have wW := w3.w
    have yW := y3.w
    rw [w1]
    simp (disch := first | (with_reducible assumption) | omega | exact ⟨by omega, by omega⟩ | ((with_reducible first | apply Wf.wI | apply Wf.wL | apply Wf.fL | apply Wf.fI | apply Wf.fr); (repeat (with_reducible first | assumption | apply Wf.wI | apply Wf.wL | apply Wf.fL | apply Wf.fI | apply Wf.fr)))) only [ck_225, gI_225, gL_225, pI_225, pZ0_225, pZ1_225, pL_225, gR_225_1, gR_225_3, gR_225_4, gR_225_5, gR_225_6, gR_225_7, gR_225_8, gR_225_9, gR_225_10, gR_225_11, gR_225_12, gR_225_13, gR_225_14, gR_225_15, gR_225_16, gR_225_17, gR_225_18, gR_225_19, gR_225_20, gR_225_21, gR_225_35, gR_225_36, gR_225_38, gR_225_39, gR_225_40, gR_225_41, gR_225_43, gR_225_44, gR_225_45, gR_225_48, gR_225_49, gR_225_50, gR_225_51, gR_225_53, gR_225_54, gR_225_55, gR_225_56, gR_225_58, gR_225_59, gR_225_60, gR_225_61, gR_225_62, gR_225_63, gR_225_66, gR_225_67, bq_n, bd_s, mp_s, rz_0, rz_1, bI_rz]
    rw [y1]
    simp (disch := first | (with_reducible assumption) | omega | exact ⟨by omega, by omega⟩ | ((with_reducible first | apply Wf.wI | apply Wf.wL | apply Wf.fL | apply Wf.fI | apply Wf.fr); (repeat (with_reducible first | assumption | apply Wf.wI | apply Wf.wL | apply Wf.fL | apply Wf.fI | apply Wf.fr)))) only [bq_n, bd_s, mp_s, rz_0, rz_1, bI_rz, aI_231, sI_231, len_231]
    have eS : sOptS (tks T n) s3 9 20 = sNumS (tks T n) (sGo s3) 0 20 := if_pos z
    have eV : sOptV (tks T n) s3 9 20 20 = sNumV (tks T n) (sGo s3) 0 20 := if_pos z
    refine fin _ _ (by rw [eS]; exact y3.wr (by omega)) (((fE.f w2).f y2).wr (a := 231) (j := nC E) (v := nI (sNumV (tks T n) (sGo s3) 0 20)) h7) ?_ ((fF.tf w2).tf y2 |>.tw (by omega) (by omega) (Nat.le_add_right 7 _)) ?_
    · rw [up_a (by omega), up_a (by omega), up_a (by omega), up_a (by omega), up_a (by omega)]; exact hC
    · rw [up_up, eV]; rfl
  · rw [if_pos (by simpa using z)]
    have eS : sOptS (tks T n) s3 9 20 = s3 := if_neg z
    have eV : sOptV (tks T n) s3 9 20 20 = 20 := if_neg z
    refine fin _ _ (by rw [eS]; exact f3) fE ?_ fF ?_
    · rw [up_a (by omega), up_a (by omega), up_a (by omega), up_a (by omega)]; exact hC
    · rw [eV]; rfl
end
