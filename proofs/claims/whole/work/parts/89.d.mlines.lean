/-! LINES OF THE REFERENCE: corner, street, pipe -/
def sOptS (k : Nat → TK) (s : LnS) (w hi : Nat) : LnS := if sWd k s w then sNumS k (sGo s) 0 hi else s
def sOptV (k : Nat → TK) (s : LnS) (w hi d : Nat) : Nat := if sWd k s w then sNumV k (sGo s) 0 hi else d
section
variable {σ τ : ah_H} {T : Nat → Nat} {n i : Nat} {s : LnS} {E : DD}
theorem up_up {a j : Nat} {v w : Int32} : up (up E a j v) a j w = up E a j w := funext fun a' => funext fun j' => by
  unfold up
  by_cases z : a' = a ∧ j' = j
  · rw [if_pos z, if_pos z]
  · rw [if_neg z, if_neg z, if_neg z]
theorem Fr.tw {a j : Nat} {v : Int32} (g : Fr Xbd σ τ) (ha : 227 ≤ a) (ha2 : a ≤ 243) (hj : hf a ≤ j) : Fr Xbd σ (ah_wI τ a j v) := g.wI (Or.inr ⟨ha, ha2, hj⟩)
theorem Fr.tf {υ : ah_H} (g : Fr Xbd σ τ) (g2 : Fr Xfp τ υ) : Fr Xbd σ υ := g.trans (g2.mono Xfp_b)
theorem m_nextS (h : RSt σ T n s) {w : Nat} (hw : sWd (tks T n) s w) : ∃ τ, f_X12_token 225 σ = some τ ∧ Fr Xfp σ τ ∧ RSt τ T n (sGo s) := by
  obtain ⟨i, _ | ⟨g, j⟩⟩ := s
  · have hw : tS (tks T n i) = 0 := hw.2.1
    obtain ⟨τ, e1, e2, e3⟩ := m_next h.1 (by omega)
    exact ⟨τ, e1, e2.mono Xtk_f, e3, (e2.I (by unfold Xtk; omega)).trans h.2⟩
  · exact absurd hw.1 (fun z => nomatch z)
theorem m_corL (h : RSt σ T n s) (hE : RdE σ E) (hC : E 227 0 = nI (nC E)) (h7 : nC E < 7) (s1 s2 s3 : LnS) (q1 : s1 = sNamS (tks T n) s (E 228) (nC E)) (q2 : s2 = sNumS (tks T n) s1 0 999) (q3 : s3 = sNumS (tks T n) s2 0 99) : ∃ τ, f_X12_cornerLine 225 (nI (7 + nC E)) σ = some τ ∧ Fr Xbd σ τ ∧ RSt τ T n (sOptS (tks T n) s3 9 20) ∧ RdE τ (eCor E (sNamV (tks T n) s (E 228) (nC E)) (sNumV (tks T n) s1 0 999) (sNumV (tks T n) s2 0 99) (sOptV (tks T n) s3 9 20 20)) := by
  have hW := h.w
  obtain ⟨σ1, a1, a2, a3⟩ := m_namS h hE (a := 228) (m := nC E) (by omega)
  rw [← q1] at a3
  have b3 := a3.wr (a := 228) (j := 7 + nC E) (v := nI (sNamV (tks T n) s (E 228) (nC E))) (by omega)
  have bE := (hE.f a2).wr (a := 228) (j := nC E) (v := nI (sNamV (tks T n) s (E 228) (nC E))) h7
  have bF := (Fr.rfl (σ := σ) (X := Xbd)).tf a2 |>.tw (a := 228) (j := 7 + nC E) (v := nI (sNamV (tks T n) s (E 228) (nC E))) (by omega) (by omega) (Nat.le_add_right 7 _)
  have bW := b3.w
  obtain ⟨σ2, c1, c2, c3⟩ := m_numS b3 (lo := 0) (hi := 999) (by omega) (by omega)
  rw [← q2] at c3
  have d3 := c3.wr (a := 229) (j := 7 + nC E) (v := nI (sNumV (tks T n) s1 0 999)) (by omega)
  have dE := (bE.f c2).wr (a := 229) (j := nC E) (v := nI (sNumV (tks T n) s1 0 999)) h7
  have dF := bF.tf c2 |>.tw (a := 229) (j := 7 + nC E) (v := nI (sNumV (tks T n) s1 0 999)) (by omega) (by omega) (Nat.le_add_right 7 _)
  have dW := d3.w
  obtain ⟨σ3, e1, e2, e3⟩ := m_numS d3 (lo := 0) (hi := 99) (by omega) (by omega)
  rw [← q3] at e3
  have f3 := (e3.wr (a := 230) (j := 7 + nC E) (v := nI (sNumV (tks T n) s2 0 99)) (by omega)).wr (a := 231) (j := 7 + nC E) (v := nI 20) (by omega)
  have fE := ((dE.f e2).wr (a := 230) (j := nC E) (v := nI (sNumV (tks T n) s2 0 99)) h7).wr (a := 231) (j := nC E) (v := nI 20) h7
  have fF := (dF.tf e2 |>.tw (a := 230) (j := 7 + nC E) (v := nI (sNumV (tks T n) s2 0 99)) (by omega) (by omega) (Nat.le_add_right 7 _)).tw (a := 231) (j := 7 + nC E) (v := nI 20) (by omega) (by omega) (Nat.le_add_right 7 _)
  have fW := f3.w
  have aW := a3.w
  have cW := c3.w
  have eW := e3.w
  have g1 := m_wdS f3 (w := 9) (by omega)
  have e0 := m_frs hW hE (k := 0) (by omega)
  rw [hC] at e0
  have fin : ∀ υ F, RSt υ T n (sOptS (tks T n) s3 9 20) → RdE υ F → F 227 0 = nI (nC E) → Fr Xbd σ υ → (up F 227 0 (nI (nC E + 1))) = (eCor E (sNamV (tks T n) s (E 228) (nC E)) (sNumV (tks T n) s1 0 999) (sNumV (tks T n) s2 0 99) (sOptV (tks T n) s3 9 20 20)) → ∃ τ, f_X12_cornerLine_82 225 υ = some τ ∧ Fr Xbd σ τ ∧ RSt τ T n (sOptS (tks T n) s3 9 20) ∧ RdE τ (eCor E (sNamV (tks T n) s (E 228) (nC E)) (sNumV (tks T n) s1 0 999) (sNumV (tks T n) s2 0 99) (sOptV (tks T n) s3 9 20 20)) := by
    intro υ F k1 k2 k3 k4 k5
    have kW := k1.w
    have w0 := m_frs kW k2 (k := 0) (by omega)
    rw [k3] at w0
    refine ⟨ah_wI υ 227 (12 + 0) (nI (nC E + 1)), ?_, k4.tw (by omega) (by omega) (by decide), k1.wr (by omega), k5 ▸ k2.wr (a := 227) (j := 0) (by decide)⟩
    unfold f_X12_cornerLine_82
    simp only [to_bq, l_0, l_1, l_2, l_3, l_4, l_5, l_6, l_7, l_8, l_9, l_10, l_11, l_12, l_13, l_14, l_15, l_16, l_17, l_18, l_19, l_20, l_21, l_22, l_23, l_24, l_25, l_26, l_27, l_28, l_29, l_30, l_31, l_32, l_40, l_41, l_42, l_43, l_44, l_45, l_46, l_47, l_48, l_49, l_50, l_51, l_52, l_53, l_54, l_55, l_56, l_57, l_58, l_59, l_60, l_61, l_62, l_63, l_64, l_72, l_97, l_99, l_100, l_104, l_120, l_122, l_128, l_140, l_255, l_256, l_257, l_258, l_260, l_261, l_262, l_364, l_680, l_700, l_701, l_840, l_999, l_1023, l_1024, l_9999, l_10000, l_1000000, lm]
    rw [w0]
    simp (disch := first | (with_reducible assumption) | omega | exact ⟨by omega, by omega⟩ | ((with_reducible first | apply Wf.wI | apply Wf.wL | apply Wf.fL | apply Wf.fI | apply Wf.fr); (repeat (with_reducible first | assumption | apply Wf.wI | apply Wf.wL | apply Wf.fL | apply Wf.fI | apply Wf.fr)))) only [bq_n, bd_s, mp_s, rz_0, rz_1, bI_rz, zadd]
    rw [m_rds kW (k := 0) (by omega)]
    simp only [bq_n, bd_s, mp_s, rz_0, rz_1, bI_rz]
  unfold f_X12_cornerLine f_X12_cornerLine_0
  simp only [to_bq, l_0, l_1, l_2, l_3, l_4, l_5, l_6, l_7, l_8, l_9, l_10, l_11, l_12, l_13, l_14, l_15, l_16, l_17, l_18, l_19, l_20, l_21, l_22, l_23, l_24, l_25, l_26, l_27, l_28, l_29, l_30, l_31, l_32, l_40, l_41, l_42, l_43, l_44, l_45, l_46, l_47, l_48, l_49, l_50, l_51, l_52, l_53, l_54, l_55, l_56, l_57, l_58, l_59, l_60, l_61, l_62, l_63, l_64, l_72, l_97, l_99, l_100, l_104, l_120, l_122, l_128, l_140, l_255, l_256, l_257, l_258, l_260, l_261, l_262, l_364, l_680, l_700, l_701, l_840, l_999, l_1023, l_1024, l_9999, l_10000, l_1000000, lm]
  simp (disch := first | (with_reducible assumption) | omega | exact ⟨by omega, by omega⟩ | ((with_reducible first | apply Wf.wI | apply Wf.wL | apply Wf.fL | apply Wf.fI | apply Wf.fr); (repeat (with_reducible first | assumption | apply Wf.wI | apply Wf.wL | apply Wf.fL | apply Wf.fI | apply Wf.fr)))) only [ck_225, gI_225, gL_225, pI_225, pZ0_225, pZ1_225, pL_225, gR_225_1, gR_225_3, gR_225_4, gR_225_5, gR_225_6, gR_225_7, gR_225_8, gR_225_9, gR_225_10, gR_225_11, gR_225_12, gR_225_13, gR_225_14, gR_225_15, gR_225_16, gR_225_17, gR_225_18, gR_225_19, gR_225_20, gR_225_21, gR_225_35, gR_225_36, gR_225_38, gR_225_39, gR_225_40, gR_225_41, gR_225_43, gR_225_44, gR_225_45, gR_225_48, gR_225_49, gR_225_50, gR_225_51, gR_225_53, gR_225_54, gR_225_55, gR_225_56, gR_225_58, gR_225_59, gR_225_60, gR_225_61, gR_225_62, gR_225_63, gR_225_66, gR_225_67, bq_n, bd_s, mp_s, rz_0, rz_1, bI_rz, e0]
  rw [show (nI 7 : Int32) = nI (hf 228) from rfl, a1]
  simp (disch := first | (with_reducible assumption) | omega | exact ⟨by omega, by omega⟩ | ((with_reducible first | apply Wf.wI | apply Wf.wL | apply Wf.fL | apply Wf.fI | apply Wf.fr); (repeat (with_reducible first | assumption | apply Wf.wI | apply Wf.wL | apply Wf.fL | apply Wf.fI | apply Wf.fr)))) only [ck_225, gI_225, gL_225, pI_225, pZ0_225, pZ1_225, pL_225, gR_225_1, gR_225_3, gR_225_4, gR_225_5, gR_225_6, gR_225_7, gR_225_8, gR_225_9, gR_225_10, gR_225_11, gR_225_12, gR_225_13, gR_225_14, gR_225_15, gR_225_16, gR_225_17, gR_225_18, gR_225_19, gR_225_20, gR_225_21, gR_225_35, gR_225_36, gR_225_38, gR_225_39, gR_225_40, gR_225_41, gR_225_43, gR_225_44, gR_225_45, gR_225_48, gR_225_49, gR_225_50, gR_225_51, gR_225_53, gR_225_54, gR_225_55, gR_225_56, gR_225_58, gR_225_59, gR_225_60, gR_225_61, gR_225_62, gR_225_63, gR_225_66, gR_225_67, bq_n, bd_s, mp_s, rz_0, rz_1, bI_rz, aI_228, sI_228, len_228]
  rw [c1]
  simp (disch := first | (with_reducible assumption) | omega | exact ⟨by omega, by omega⟩ | ((with_reducible first | apply Wf.wI | apply Wf.wL | apply Wf.fL | apply Wf.fI | apply Wf.fr); (repeat (with_reducible first | assumption | apply Wf.wI | apply Wf.wL | apply Wf.fL | apply Wf.fI | apply Wf.fr)))) only [ck_225, gI_225, gL_225, pI_225, pZ0_225, pZ1_225, pL_225, gR_225_1, gR_225_3, gR_225_4, gR_225_5, gR_225_6, gR_225_7, gR_225_8, gR_225_9, gR_225_10, gR_225_11, gR_225_12, gR_225_13, gR_225_14, gR_225_15, gR_225_16, gR_225_17, gR_225_18, gR_225_19, gR_225_20, gR_225_21, gR_225_35, gR_225_36, gR_225_38, gR_225_39, gR_225_40, gR_225_41, gR_225_43, gR_225_44, gR_225_45, gR_225_48, gR_225_49, gR_225_50, gR_225_51, gR_225_53, gR_225_54, gR_225_55, gR_225_56, gR_225_58, gR_225_59, gR_225_60, gR_225_61, gR_225_62, gR_225_63, gR_225_66, gR_225_67, bq_n, bd_s, mp_s, rz_0, rz_1, bI_rz, aI_229, sI_229, len_229]
  rw [e1]
  simp (disch := first | (with_reducible assumption) | omega | exact ⟨by omega, by omega⟩ | ((with_reducible first | apply Wf.wI | apply Wf.wL | apply Wf.fL | apply Wf.fI | apply Wf.fr); (repeat (with_reducible first | assumption | apply Wf.wI | apply Wf.wL | apply Wf.fL | apply Wf.fI | apply Wf.fr)))) only [ck_225, gI_225, gL_225, pI_225, pZ0_225, pZ1_225, pL_225, gR_225_1, gR_225_3, gR_225_4, gR_225_5, gR_225_6, gR_225_7, gR_225_8, gR_225_9, gR_225_10, gR_225_11, gR_225_12, gR_225_13, gR_225_14, gR_225_15, gR_225_16, gR_225_17, gR_225_18, gR_225_19, gR_225_20, gR_225_21, gR_225_35, gR_225_36, gR_225_38, gR_225_39, gR_225_40, gR_225_41, gR_225_43, gR_225_44, gR_225_45, gR_225_48, gR_225_49, gR_225_50, gR_225_51, gR_225_53, gR_225_54, gR_225_55, gR_225_56, gR_225_58, gR_225_59, gR_225_60, gR_225_61, gR_225_62, gR_225_63, gR_225_66, gR_225_67, bq_n, bd_s, mp_s, rz_0, rz_1, bI_rz, aI_230, sI_230, len_230, aI_231, sI_231, len_231]
  rw [g1]
  simp (disch := first | (with_reducible assumption) | omega | exact ⟨by omega, by omega⟩ | ((with_reducible first | apply Wf.wI | apply Wf.wL | apply Wf.fL | apply Wf.fI | apply Wf.fr); (repeat (with_reducible first | assumption | apply Wf.wI | apply Wf.wL | apply Wf.fL | apply Wf.fI | apply Wf.fr)))) only [bq_n, bd_s, mp_s, rz_0, rz_1, bI_rz, cI_0]
  by_cases z : sWd (tks T n) s3 9
  · rw [if_neg (by simpa using z)]
    obtain ⟨σ4, w1, w2, w3⟩ := m_nextS f3 z
    obtain ⟨σ5, y1, y2, y3⟩ := m_numS w3 (lo := 0) (hi := 20) (by omega) (by omega)
    have wW := w3.w
    have yW := y3.w
    rw [w1]
    simp (disch := first | (with_reducible assumption) | omega | exact ⟨by omega, by omega⟩ | ((with_reducible first | apply Wf.wI | apply Wf.wL | apply Wf.fL | apply Wf.fI | apply Wf.fr); (repeat (with_reducible first | assumption | apply Wf.wI | apply Wf.wL | apply Wf.fL | apply Wf.fI | apply Wf.fr)))) only [ck_225, gI_225, gL_225, pI_225, pZ0_225, pZ1_225, pL_225, gR_225_1, gR_225_3, gR_225_4, gR_225_5, gR_225_6, gR_225_7, gR_225_8, gR_225_9, gR_225_10, gR_225_11, gR_225_12, gR_225_13, gR_225_14, gR_225_15, gR_225_16, gR_225_17, gR_225_18, gR_225_19, gR_225_20, gR_225_21, gR_225_35, gR_225_36, gR_225_38, gR_225_39, gR_225_40, gR_225_41, gR_225_43, gR_225_44, gR_225_45, gR_225_48, gR_225_49, gR_225_50, gR_225_51, gR_225_53, gR_225_54, gR_225_55, gR_225_56, gR_225_58, gR_225_59, gR_225_60, gR_225_61, gR_225_62, gR_225_63, gR_225_66, gR_225_67, bq_n, bd_s, mp_s, rz_0, rz_1, bI_rz]
    rw [y1]
    simp (disch := first | (with_reducible assumption) | omega | exact ⟨by omega, by omega⟩ | ((with_reducible first | apply Wf.wI | apply Wf.wL | apply Wf.fL | apply Wf.fI | apply Wf.fr); (repeat (with_reducible first | assumption | apply Wf.wI | apply Wf.wL | apply Wf.fL | apply Wf.fI | apply Wf.fr)))) only [bq_n, bd_s, mp_s, rz_0, rz_1, bI_rz, aI_231, sI_231, len_231]
    have eS : sOptS (tks T n) s3 9 20 = sNumS (tks T n) (sGo s3) 0 20 := if_pos z
    have eV : sOptV (tks T n) s3 9 20 20 = sNumV (tks T n) (sGo s3) 0 20 := if_pos z
    refine fin _ _ (by rw [eS]; exact y3.wr (by omega)) (((fE.f w2).f y2).wr (a := 231) (j := nC E) (v := nI (sNumV (tks T n) (sGo s3) 0 20)) h7) ?_ ((fF.tf w2).tf y2 |>.tw (by omega) (by omega) (Nat.le_add_right 7 _)) ?_
    · rw [up_a (by omega), up_a (by omega), up_a (by omega), up_a (by omega), up_a (by omega)]; exact hC
    · rw [up_up, eV]; rfl
  · rw [if_pos (by simpa using z)]
    have eS : sOptS (tks T n) s3 9 20 = s3 := if_neg z
    have eV : sOptV (tks T n) s3 9 20 20 = 20 := if_neg z
    refine fin _ _ (by rw [eS]; exact f3) fE ?_ fF ?_
    · rw [up_a (by omega), up_a (by omega), up_a (by omega), up_a (by omega)]; exact hC
    · rw [eV]; rfl
/-- one more of a kind -/
theorem m_inc (h : RSt σ T n s) (hE : RdE σ E) {k c : Nat} (hk : k < 12) (hc : E 227 k = nI c) (hc9 : c ≤ 1000) : ∃ τ, (∀ {β : Type} (K : ah_H → Option β), (f_X12_fresher 225 (nI k) σ).bind (fun r1 => (f_X12_reads 225 (nI k) (r1.1 + nI 1) r1.2).bind fun r2 => K r2) = K τ) ∧ Fr Xbd σ τ ∧ RSt τ T n s ∧ RdE τ (up E 227 k (nI (c + 1))) := by
  have hW := h.w
  have w0 := m_frs hW hE hk
  rw [hc] at w0
  refine ⟨ah_wI σ 227 (12 + k) (nI (c + 1)), fun K => ?_, (Fr.rfl (X := Xbd)).tw (by omega) (by omega) (Nat.le_add_right 12 _), h.wr (by omega), hE.wr (a := 227) (j := k) hk⟩
  rw [w0]
  show (f_X12_reads 225 (nI k) (nI c + nI 1) σ).bind (fun r2 => K r2) = _
  rw [zadd, m_rds hW hk]
  rfl
theorem lpw_b (ht : MT E) (h4 : nP E ≤ 4) : lpw E ≤ 100 := by
  unfold lpw
  split
  · omega
  · have := ((ht.2.2.2.1 (nP E - 1) (by omega)).1).2
    have : wid E (nP E - 1) ≤ 99 := this
    omega
theorem m_pipL (h : RSt σ T n s) (hE : RdE σ E) (ht : MT E) (h4 : nP E < 4) (s1 : LnS) (q1 : s1 = sNumS (tks T n) s (lpw E) 99) : ∃ τ, f_X12_pipeLine 225 (nI (4 + nP E)) σ = some τ ∧ Fr Xbd σ τ ∧ RSt τ T n (sNumS (tks T n) s1 0 99) ∧ RdE τ (ePip E (sNumV (tks T n) s (lpw E) 99) (sNumV (tks T n) s1 0 99)) := by
  have hW := h.w
  have hlb := lpw_b ht (by omega)
  have e0 := m_frs hW hE (k := 2) (by omega)
  have qp : E 227 2 = nI (nP E) := ht.1.2.2.1.1
  rw [qp] at e0
  obtain ⟨σ1, a1, a2, a3⟩ := m_numS h (lo := lpw E) (hi := 99) (by omega) (by omega)
  rw [← q1] at a3
  have b3 := a3.wr (a := 237) (j := 4 + nP E) (v := nI (sNumV (tks T n) s (lpw E) 99)) (by omega)
  have bE := (hE.f a2).wr (a := 237) (j := nP E) (v := nI (sNumV (tks T n) s (lpw E) 99)) h4
  have bF := (Fr.rfl (σ := σ) (X := Xbd)).tf a2 |>.tw (a := 237) (j := 4 + nP E) (v := nI (sNumV (tks T n) s (lpw E) 99)) (by omega) (by omega) (Nat.le_add_right 4 _)
  have bW := b3.w
  obtain ⟨σ2, c1, c2, c3⟩ := m_numS b3 (lo := 0) (hi := 99) (by omega) (by omega)
  have d3 := c3.wr (a := 238) (j := 4 + nP E) (v := nI (sNumV (tks T n) s1 0 99)) (by omega)
  have dE := (bE.f c2).wr (a := 238) (j := nP E) (v := nI (sNumV (tks T n) s1 0 99)) h4
  have dF := bF.tf c2 |>.tw (a := 238) (j := 4 + nP E) (v := nI (sNumV (tks T n) s1 0 99)) (by omega) (by omega) (Nat.le_add_right 4 _)
  have aW := a3.w
  have cW := c3.w
  obtain ⟨σ3, i1, i2, i3, i4⟩ := m_inc d3 dE (k := 2) (c := nP E) (by omega) (by rw [up_a (by omega), up_a (by omega)]; exact qp) (by omega)
  refine ⟨σ3, ?_, dF.trans i2, i3, i4⟩
  have tail : f_X12_pipeLine_28 225 (nI (4 + nP E)) 237 (nI (4 + nP E)) 225 (nI (lpw E)) σ = some σ3 := by
    unfold f_X12_pipeLine_28
    simp only [to_bq, l_0, l_1, l_2, l_3, l_4, l_5, l_6, l_7, l_8, l_9, l_10, l_11, l_12, l_13, l_14, l_15, l_16, l_17, l_18, l_19, l_20, l_21, l_22, l_23, l_24, l_25, l_26, l_27, l_28, l_29, l_30, l_31, l_32, l_40, l_41, l_42, l_43, l_44, l_45, l_46, l_47, l_48, l_49, l_50, l_51, l_52, l_53, l_54, l_55, l_56, l_57, l_58, l_59, l_60, l_61, l_62, l_63, l_64, l_72, l_97, l_99, l_100, l_104, l_120, l_122, l_128, l_140, l_255, l_256, l_257, l_258, l_260, l_261, l_262, l_364, l_680, l_700, l_701, l_840, l_999, l_1023, l_1024, l_9999, l_10000, l_1000000, lm]
    rw [a1]
    simp (disch := first | (with_reducible assumption) | omega | exact ⟨by omega, by omega⟩ | ((with_reducible first | apply Wf.wI | apply Wf.wL | apply Wf.fL | apply Wf.fI | apply Wf.fr); (repeat (with_reducible first | assumption | apply Wf.wI | apply Wf.wL | apply Wf.fL | apply Wf.fI | apply Wf.fr)))) only [ck_225, gI_225, gL_225, pI_225, pZ0_225, pZ1_225, pL_225, gR_225_1, gR_225_3, gR_225_4, gR_225_5, gR_225_6, gR_225_7, gR_225_8, gR_225_9, gR_225_10, gR_225_11, gR_225_12, gR_225_13, gR_225_14, gR_225_15, gR_225_16, gR_225_17, gR_225_18, gR_225_19, gR_225_20, gR_225_21, gR_225_35, gR_225_36, gR_225_38, gR_225_39, gR_225_40, gR_225_41, gR_225_43, gR_225_44, gR_225_45, gR_225_48, gR_225_49, gR_225_50, gR_225_51, gR_225_53, gR_225_54, gR_225_55, gR_225_56, gR_225_58, gR_225_59, gR_225_60, gR_225_61, gR_225_62, gR_225_63, gR_225_66, gR_225_67, bq_n, bd_s, mp_s, rz_0, rz_1, bI_rz, aI_237, sI_237, len_237]
    rw [c1]
    simp (disch := first | (with_reducible assumption) | omega | exact ⟨by omega, by omega⟩ | ((with_reducible first | apply Wf.wI | apply Wf.wL | apply Wf.fL | apply Wf.fI | apply Wf.fr); (repeat (with_reducible first | assumption | apply Wf.wI | apply Wf.wL | apply Wf.fL | apply Wf.fI | apply Wf.fr)))) only [ck_225, gI_225, gL_225, pI_225, pZ0_225, pZ1_225, pL_225, gR_225_1, gR_225_3, gR_225_4, gR_225_5, gR_225_6, gR_225_7, gR_225_8, gR_225_9, gR_225_10, gR_225_11, gR_225_12, gR_225_13, gR_225_14, gR_225_15, gR_225_16, gR_225_17, gR_225_18, gR_225_19, gR_225_20, gR_225_21, gR_225_35, gR_225_36, gR_225_38, gR_225_39, gR_225_40, gR_225_41, gR_225_43, gR_225_44, gR_225_45, gR_225_48, gR_225_49, gR_225_50, gR_225_51, gR_225_53, gR_225_54, gR_225_55, gR_225_56, gR_225_58, gR_225_59, gR_225_60, gR_225_61, gR_225_62, gR_225_63, gR_225_66, gR_225_67, bq_n, bd_s, mp_s, rz_0, rz_1, bI_rz, aI_238, sI_238, len_238]
    exact i1 some
  unfold f_X12_pipeLine f_X12_pipeLine_0
  simp only [to_bq, l_0, l_1, l_2, l_3, l_4, l_5, l_6, l_7, l_8, l_9, l_10, l_11, l_12, l_13, l_14, l_15, l_16, l_17, l_18, l_19, l_20, l_21, l_22, l_23, l_24, l_25, l_26, l_27, l_28, l_29, l_30, l_31, l_32, l_40, l_41, l_42, l_43, l_44, l_45, l_46, l_47, l_48, l_49, l_50, l_51, l_52, l_53, l_54, l_55, l_56, l_57, l_58, l_59, l_60, l_61, l_62, l_63, l_64, l_72, l_97, l_99, l_100, l_104, l_120, l_122, l_128, l_140, l_255, l_256, l_257, l_258, l_260, l_261, l_262, l_364, l_680, l_700, l_701, l_840, l_999, l_1023, l_1024, l_9999, l_10000, l_1000000, lm]
  simp (disch := first | (with_reducible assumption) | omega | exact ⟨by omega, by omega⟩ | ((with_reducible first | apply Wf.wI | apply Wf.wL | apply Wf.fL | apply Wf.fI | apply Wf.fr); (repeat (with_reducible first | assumption | apply Wf.wI | apply Wf.wL | apply Wf.fL | apply Wf.fI | apply Wf.fr)))) only [ck_225, gI_225, gL_225, pI_225, pZ0_225, pZ1_225, pL_225, gR_225_1, gR_225_3, gR_225_4, gR_225_5, gR_225_6, gR_225_7, gR_225_8, gR_225_9, gR_225_10, gR_225_11, gR_225_12, gR_225_13, gR_225_14, gR_225_15, gR_225_16, gR_225_17, gR_225_18, gR_225_19, gR_225_20, gR_225_21, gR_225_35, gR_225_36, gR_225_38, gR_225_39, gR_225_40, gR_225_41, gR_225_43, gR_225_44, gR_225_45, gR_225_48, gR_225_49, gR_225_50, gR_225_51, gR_225_53, gR_225_54, gR_225_55, gR_225_56, gR_225_58, gR_225_59, gR_225_60, gR_225_61, gR_225_62, gR_225_63, gR_225_66, gR_225_67, bq_n, bd_s, mp_s, rz_0, rz_1, bI_rz, e0]
  by_cases z : nP E = 0
  · have el : lpw E = 1 := if_pos z
    rw [el] at tail
    simp only [z, if_true, if_false, ite_true, ite_false, reduceIte, not_true, not_false, and_true, true_and, and_false, false_and, or_true, true_or, or_false, false_or, eq_self] at tail ⊢
    exact tail
  · have el : lpw E = wid E (nP E - 1) + 1 := if_neg z
    have ew : ah_I σ 237 (4 + (nP E - 1)) = E 237 (nP E - 1) := hE 237 (nP E - 1) (by omega) (by omega) (show nP E - 1 < 4 by omega)
    have ew2 : E 237 (nP E - 1) = nI (wid E (nP E - 1)) := (ht.2.2.2.1 (nP E - 1) (by omega)).1.1
    rw [el] at tail
    have zs : nI (4 + nP E) - nI 1 = nI (4 + (nP E - 1)) := by rw [zsub (by omega)]; congr 1; omega
    simp (disch := first | (with_reducible assumption) | omega | exact ⟨by omega, by omega⟩ | ((with_reducible first | apply Wf.wI | apply Wf.wL | apply Wf.fL | apply Wf.fI | apply Wf.fr); (repeat (with_reducible first | assumption | apply Wf.wI | apply Wf.wL | apply Wf.fL | apply Wf.fI | apply Wf.fr)))) only [zadd, zmul, zsub, le_nI, lt_nI, eq_nI, neg_nI, gen_nI, neg_lt, neg_le, neg_lt', neg_le', nI_lt0, z, if_true, if_false, ite_true, ite_false, reduceIte, not_true, not_false, and_true, true_and, and_false, false_and, or_true, true_or, or_false, false_or, eq_self, zs, aI_237, sI_237, len_237, bq_n, bd_s, mp_s, rz_0, rz_1, bI_rz, ew, ew2]
    exact tail
/-! streets -/
def hst (E : DD) (a b : Int32) (k : Nat) : Prop := ∃ j, k ≤ j ∧ j < nS E ∧ (E 232 j = a ∧ E 233 j = b ∨ E 232 j = b ∧ E 233 j = a)
theorem m_hst (hW : Wf σ) (hE : RdE σ E) (hS : E 227 1 = nI (nS E)) (h10 : nS E ≤ 10) (a b : Int32) : ∀ m k fu, k + m = nS E → m < fu → f_X12_hasStreet_3 fu 225 a b (nI (10 + k)) σ = some (cI (hst E a b k), σ) := by
  have e0 := m_frs hW hE (k := 1) (by omega)
  rw [hS] at e0
  intro m
  induction m with
  | zero =>
    intro k fu hk hf
    obtain ⟨fu, rfl⟩ : ∃ q, fu = q + 1 := ⟨fu - 1, by omega⟩
    show f_X12_hasStreet_3_b _ _ _ _ _ _ = _
    unfold f_X12_hasStreet_3_b
    simp only [to_bq, l_0, l_1, l_2, l_3, l_4, l_5, l_6, l_7, l_8, l_9, l_10, l_11, l_12, l_13, l_14, l_15, l_16, l_17, l_18, l_19, l_20, l_21, l_22, l_23, l_24, l_25, l_26, l_27, l_28, l_29, l_30, l_31, l_32, l_40, l_41, l_42, l_43, l_44, l_45, l_46, l_47, l_48, l_49, l_50, l_51, l_52, l_53, l_54, l_55, l_56, l_57, l_58, l_59, l_60, l_61, l_62, l_63, l_64, l_72, l_97, l_99, l_100, l_104, l_120, l_122, l_128, l_140, l_255, l_256, l_257, l_258, l_260, l_261, l_262, l_364, l_680, l_700, l_701, l_840, l_999, l_1023, l_1024, l_9999, l_10000, l_1000000, lm]
    rw [e0]
    simp (disch := first | (with_reducible assumption) | omega | exact ⟨by omega, by omega⟩ | ((with_reducible first | apply Wf.wI | apply Wf.wL | apply Wf.fL | apply Wf.fI | apply Wf.fr); (repeat (with_reducible first | assumption | apply Wf.wI | apply Wf.wL | apply Wf.fL | apply Wf.fI | apply Wf.fr)))) only [bq_n, bd_s, mp_s, rz_0, rz_1, bI_rz, zadd, zmul, zsub, le_nI, lt_nI, eq_nI, neg_nI, gen_nI, neg_lt, neg_le, neg_lt', neg_le', nI_lt0, show (10 + nS E ≤ 10 + k) = True from eq_true (by omega), if_true, if_false, ite_true, ite_false, reduceIte, not_true, not_false, and_true, true_and, and_false, false_and, or_true, true_or, or_false, false_or, eq_self]
    rw [cI_f (fun ⟨j, h1, h2, _⟩ => by omega)]
  | succ m ih =>
    intro k fu hk hf
    obtain ⟨fu, rfl⟩ : ∃ q, fu = q + 1 := ⟨fu - 1, by omega⟩
    have r1 : ah_I σ 232 (10 + k) = E 232 k := hE 232 k (by omega) (by omega) (show k < 10 by omega)
    have r2 : ah_I σ 233 (10 + k) = E 233 k := hE 233 k (by omega) (by omega) (show k < 10 by omega)
    have ih' := ih (k + 1) fu (by omega) (by omega)
    have nx : nI (10 + k) + nI 1 = nI (10 + (k + 1)) := by rw [zadd]; rfl
    show f_X12_hasStreet_3_b _ _ _ _ _ _ = _
    unfold f_X12_hasStreet_3_b f_X12_hasStreet_35 f_X12_hasStreet_57
    simp only [to_bq, l_0, l_1, l_2, l_3, l_4, l_5, l_6, l_7, l_8, l_9, l_10, l_11, l_12, l_13, l_14, l_15, l_16, l_17, l_18, l_19, l_20, l_21, l_22, l_23, l_24, l_25, l_26, l_27, l_28, l_29, l_30, l_31, l_32, l_40, l_41, l_42, l_43, l_44, l_45, l_46, l_47, l_48, l_49, l_50, l_51, l_52, l_53, l_54, l_55, l_56, l_57, l_58, l_59, l_60, l_61, l_62, l_63, l_64, l_72, l_97, l_99, l_100, l_104, l_120, l_122, l_128, l_140, l_255, l_256, l_257, l_258, l_260, l_261, l_262, l_364, l_680, l_700, l_701, l_840, l_999, l_1023, l_1024, l_9999, l_10000, l_1000000, lm]
    rw [e0]
    simp (disch := first | (with_reducible assumption) | omega | exact ⟨by omega, by omega⟩ | ((with_reducible first | apply Wf.wI | apply Wf.wL | apply Wf.fL | apply Wf.fI | apply Wf.fr); (repeat (with_reducible first | assumption | apply Wf.wI | apply Wf.wL | apply Wf.fL | apply Wf.fI | apply Wf.fr)))) only [bq_n, bd_s, mp_s, rz_0, rz_1, bI_rz, zadd, zmul, zsub, le_nI, lt_nI, eq_nI, neg_nI, gen_nI, neg_lt, neg_le, neg_lt', neg_le', nI_lt0, show (10 + nS E ≤ 10 + k) = False from eq_false (by omega), if_true, if_false, ite_true, ite_false, reduceIte, not_true, not_false, and_true, true_and, and_false, false_and, or_true, true_or, or_false, false_or, eq_self, ck_225, gI_225, gL_225, pI_225, pZ0_225, pZ1_225, pL_225, gR_225_1, gR_225_3, gR_225_4, gR_225_5, gR_225_6, gR_225_7, gR_225_8, gR_225_9, gR_225_10, gR_225_11, gR_225_12, gR_225_13, gR_225_14, gR_225_15, gR_225_16, gR_225_17, gR_225_18, gR_225_19, gR_225_20, gR_225_21, gR_225_35, gR_225_36, gR_225_38, gR_225_39, gR_225_40, gR_225_41, gR_225_43, gR_225_44, gR_225_45, gR_225_48, gR_225_49, gR_225_50, gR_225_51, gR_225_53, gR_225_54, gR_225_55, gR_225_56, gR_225_58, gR_225_59, gR_225_60, gR_225_61, gR_225_62, gR_225_63, gR_225_66, gR_225_67, aI_232, sI_232, len_232, aI_233, sI_233, len_233, r1, r2]
    rw [show 10 + k + 1 = 10 + (k + 1) from rfl, ih']
    have split : hst E a b k ↔ (E 232 k = a ∧ E 233 k = b ∨ E 232 k = b ∧ E 233 k = a) ∨ hst E a b (k + 1) := by
      constructor
      · rintro ⟨j, h1, h2, h3⟩
        by_cases z : j = k
        · subst z; exact Or.inl h3
        · exact Or.inr ⟨j, by omega, h2, h3⟩
      · rintro (h3 | ⟨j, h1, h2, h3⟩)
        · exact ⟨k, by omega, by omega, h3⟩
        · exact ⟨j, by omega, h2, h3⟩
    by_cases y1 : E 232 k = a
    · by_cases y2 : E 233 k = b
      · rw [if_pos y1, if_pos y2, cI_t (split.mpr (Or.inl (Or.inl ⟨y1, y2⟩)))]
      · rw [if_pos y1, if_neg y2]
        by_cases y3 : E 232 k = b
        · by_cases y4 : E 233 k = a
          · rw [if_pos y3, if_pos y4, cI_t (split.mpr (Or.inl (Or.inr ⟨y3, y4⟩)))]
          · rw [if_pos y3, if_neg y4, cI_eq (show hst E a b k ↔ hst E a b (k + 1) from ⟨fun q => (split.mp q).resolve_left (fun w => w.elim (fun w => y2 w.2) (fun w => y4 w.2)), fun q => split.mpr (Or.inr q)⟩)]
        · rw [if_neg y3, cI_eq (show hst E a b k ↔ hst E a b (k + 1) from ⟨fun q => (split.mp q).resolve_left (fun w => w.elim (fun w => y2 w.2) (fun w => y3 w.1)), fun q => split.mpr (Or.inr q)⟩)]
    · rw [if_neg y1]
      by_cases y3 : E 232 k = b
      · by_cases y4 : E 233 k = a
        · rw [if_pos y3, if_pos y4, cI_t (split.mpr (Or.inl (Or.inr ⟨y3, y4⟩)))]
        · rw [if_pos y3, if_neg y4, cI_eq (show hst E a b k ↔ hst E a b (k + 1) from ⟨fun q => (split.mp q).resolve_left (fun w => w.elim (fun w => y1 w.1) (fun w => y4 w.2)), fun q => split.mpr (Or.inr q)⟩)]
      · rw [if_neg y3, cI_eq (show hst E a b k ↔ hst E a b (k + 1) from ⟨fun q => (split.mp q).resolve_left (fun w => w.elim (fun w => y1 w.1) (fun w => y3 w.1)), fun q => split.mpr (Or.inr q)⟩)]
end
