/-! LINES OF THE REFERENCE: street -/
noncomputable def sJn (E : DD) (a b : Nat) (s : LnS) : LnS := cif (hst E (nI a) (nI b) 0) (sErr s 3) (if a = b then sErr s 5 else s)
section
variable {σ τ : ah_H} {T : Nat → Nat} {n i : Nat} {s : LnS} {E : DD} {k : Nat → TK}
theorem up_id {a j : Nat} {v : Int32} (h : E a j = v) : up E a j v = E := funext fun a' => funext fun j' => by
  unfold up
  by_cases z : a' = a ∧ j' = j
  · rw [if_pos z, z.1, z.2, h]
  · rw [if_neg z]
theorem sCor_n {g : Nat → Int32} {m : Nat} (h : (sCorS k s g m).2 = none) : s.2 = none ∧ sCorS k s g m = s ∧ tS (k s.1) = 1 ∧ fnd g (nI (tV (k s.1))) 0 m ≠ mI 1 ∧ sCorV k s g m = ix (fnd g (nI (tV (k s.1))) 0 m) := by
  obtain ⟨i, _ | x⟩ := s
  · have e : sCorS k (i, none) g m = if tS (k i) = 1 then (if fnd g (nI (tV (k i))) 0 m = mI 1 then (i, some (4, i)) else (i, none)) else (i, some (1, i)) := rfl
    rw [e] at h ⊢
    by_cases z : tS (k i) = 1
    · rw [if_pos z] at h ⊢
      by_cases y : fnd g (nI (tV (k i))) 0 m = mI 1
      · rw [if_pos y] at h; exact nomatch h
      · rw [if_neg y]
        exact ⟨rfl, rfl, z, y, if_pos ⟨z, y⟩⟩
    · rw [if_neg z] at h; exact nomatch h
  · exact nomatch h
theorem sErr_n {f : Nat} (h : (sErr s f).2 = none) : False := by
  obtain ⟨i, _ | x⟩ := s
  · exact nomatch h
  · exact nomatch h
theorem sErr_s {f : Nat} (h : s.2 ≠ none) : sErr s f = s := by
  obtain ⟨i, _ | x⟩ := s
  · exact absurd rfl h
  · rfl
theorem sJn_n {a b : Nat} (h : (sJn E a b s).2 = none) : sJn E a b s = s ∧ ¬ hst E (nI a) (nI b) 0 ∧ a ≠ b := by
  unfold sJn at h ⊢
  by_cases z : hst E (nI a) (nI b) 0
  · rw [cif_t z] at h; exact (sErr_n h).elim
  · rw [cif_f z] at h ⊢
    by_cases y : a = b
    · rw [if_pos y] at h; exact (sErr_n h).elim
    · rw [if_neg y]; exact ⟨rfl, z, y⟩
theorem sJn_s {a b : Nat} (h : s.2 ≠ none) : sJn E a b s = s := by
  unfold sJn
  rw [sErr_s h, sErr_s h]
  by_cases z : hst E (nI a) (nI b) 0
  · rw [cif_t z]
  · rw [cif_f z]; split <;> rfl
/-- a word and a number that may stand there -/
theorem m_optL (h : RSt σ T n s) (hE : RdE σ E) {w hi a j d f : Nat} (hw : w < 1000) (hhi : hi ≤ 100000) (ha : 227 ≤ a) (ha2 : a ≤ 243) (hj : j < hf a) (hd : E a j = nI d) (hR : ∀ σ, Wf σ → op_gR 12 f σ 225 = some a) (hS : ∀ σ v, Wf σ → op_sI σ a (nI (hf a + j)) v = some (ah_wI σ a (hf a + j) v)) : ∃ τ, (∀ {β : Type} (K : ah_H → Option β), (f_X12_isWord 225 (nI w) σ).bind (fun r1 => if r1.1 = nI 0 then K r1.2 else ((f_X12_token 225 r1.2).bind fun r2 => (op_gR 12 f r2 225).bind fun v3 => (f_X12_numeral 225 (nI 0) (nI hi) r2).bind fun r4 => (op_sI r4.2 v3 (nI (hf a + j)) r4.1).bind fun σ5 => K σ5)) = K τ) ∧ Fr Xbd σ τ ∧ RSt τ T n (sOptS (tks T n) s w hi) ∧ RdE τ (up E a j (nI (sOptV (tks T n) s w hi d))) := by
  have hW := h.w
  have g1 := m_wdS h hw
  by_cases z : sWd (tks T n) s w
  · obtain ⟨σ4, w1, w2, w3⟩ := m_nextS h z
    obtain ⟨σ5, y1, y2, y3⟩ := m_numS w3 (lo := 0) (hi := hi) (by omega) hhi
    have eS : sOptS (tks T n) s w hi = sNumS (tks T n) (sGo s) 0 hi := if_pos z
    have eV : sOptV (tks T n) s w hi d = sNumV (tks T n) (sGo s) 0 hi := if_pos z
    refine ⟨ah_wI σ5 a (hf a + j) (nI (sNumV (tks T n) (sGo s) 0 hi)), fun K => ?_, ((Fr.rfl (X := Xbd)).tf w2).tf y2 |>.tw ha ha2 (Nat.le_add_right _ _), by rw [eS]; exact y3.wr ha, by rw [eV]; exact ((hE.f w2).f y2).wr hj⟩
    rw [g1, cI_t z]
    show (if nI 1 = nI 0 then K σ else _) = _
    rw [if_neg (by decide), w1]
    show (op_gR 12 f σ4 225).bind _ = _
    rw [hR _ w3.w]
    show (f_X12_numeral 225 (nI 0) (nI hi) σ4).bind _ = _
    rw [y1]
    show (op_sI σ5 a (nI (hf a + j)) _).bind _ = _
    rw [hS _ _ y3.w]
    rfl
  · have eS : sOptS (tks T n) s w hi = s := if_neg z
    have eV : sOptV (tks T n) s w hi d = d := if_neg z
    refine ⟨σ, fun K => ?_, Fr.rfl, by rw [eS]; exact h, by rw [eV, up_id hd]; exact hE⟩
    rw [g1, cI_f z]
    rw [bd_s]
    exact if_pos rfl
theorem m_strL (h : RSt σ T n s) (hE : RdE σ E) (ht : MT E) (h10 : nS E < 10) (s1 s3 s5 s6 s7 : LnS) (a b : Nat) (q1 : s1 = sCorS (tks T n) s (E 228) (nC E)) (qa : a = sCorV (tks T n) s (E 228) (nC E)) (q3 : s3 = sCorS (tks T n) (sGo s1) (E 228) (nC E)) (qb : b = sCorV (tks T n) (sGo s1) (E 228) (nC E)) (q5 : s5 = sGo (sJn E a b s3)) (q6 : s6 = sNumS (tks T n) s5 1 99) (q7 : s7 = sOptS (tks T n) s6 10 3) : ∃ τ, f_X12_streetLine 225 (nI (10 + nS E)) σ = some τ ∧ Fr Xbd σ τ ∧ RSt τ T n (sOptS (tks T n) s7 11 99) ∧ RdE τ (eStr E a b (sNumV (tks T n) s5 1 99) (sOptV (tks T n) s6 10 3 0) (sOptV (tks T n) s7 11 99 1)) := by
  have hW := h.w
  have hC : E 227 0 = nI (nC E) := ht.1.1.1
  have hS : E 227 1 = nI (nS E) := ht.1.2.1.1
  have h7 : nC E ≤ 7 := ht.1.1.2
  obtain ⟨σ1, a1, a2, a3⟩ := m_corS h hE hC h7
  rw [← q1] at a3
  rw [← qa] at a1
  obtain ⟨σ2, b1, b2, b3⟩ := m_goS a3 (fun z => by rw [q1] at z ⊢; obtain ⟨-, w2, w3, -⟩ := sCor_n z; rw [w2, w3]; omega)
  have bE := (hE.f a2).f (b2.mono Xtk_f)
  obtain ⟨σ3, c1, c2, c3⟩ := m_corS b3 bE hC h7
  rw [← q3] at c3
  rw [← qb] at c1
  have cE := bE.f c2
  have cW := c3.w
  have cF : Fr Xbd σ σ3 := (((Fr.rfl (X := Xbd)).tf a2).tf (b2.mono Xtk_f)).tf c2
  -- the join
  have hj : ∀ σ4, RSt σ4 T n (sJn E a b s3) → Fr Xwr σ3 σ4 → ∃ τ, f_X12_streetLine_55 225 (nI (10 + nS E)) (nI a) (nI b) σ4 = some τ ∧ Fr Xbd σ τ ∧ RSt τ T n (sOptS (tks T n) s7 11 99) ∧ RdE τ (eStr E a b (sNumV (tks T n) s5 1 99) (sOptV (tks T n) s6 10 3 0) (sOptV (tks T n) s7 11 99 1)) := by
    intro σ4 d3 d2
    have dE := cE.f (d2.mono Xwr_f)
    have dF := cF.tf (d2.mono Xwr_f)
    obtain ⟨σ5, e1, e2, e3⟩ := m_goS d3 (fun z => by
      obtain ⟨w1, -, -⟩ := sJn_n z
      rw [w1] at z ⊢
      rw [q3] at z ⊢
      obtain ⟨-, w2, w3, -⟩ := sCor_n z; rw [w2, w3]; omega)
    rw [← q5] at e3
    have eW := e3.w
    have f3 := (e3.wr (a := 232) (j := 10 + nS E) (v := nI a) (by omega)).wr (a := 233) (j := 10 + nS E) (v := nI b) (by omega)
    have fE := ((dE.f (e2.mono Xtk_f)).wr (a := 232) (j := nS E) (v := nI a) h10).wr (a := 233) (j := nS E) (v := nI b) h10
    have fF := (dF.tf (e2.mono Xtk_f) |>.tw (a := 232) (j := 10 + nS E) (v := nI a) (by omega) (by omega) (Nat.le_add_right 10 _)).tw (a := 233) (j := 10 + nS E) (v := nI b) (by omega) (by omega) (Nat.le_add_right 10 _)
    have fW := f3.w
    obtain ⟨σ6, g1, g2, g3⟩ := m_numS f3 (lo := 1) (hi := 99) (by omega) (by omega)
    rw [← q6] at g3
    have gW := g3.w
    have k3 := ((g3.wr (a := 234) (j := 10 + nS E) (v := nI (sNumV (tks T n) s5 1 99)) (by omega)).wr (a := 235) (j := 10 + nS E) (v := nI 0) (by omega)).wr (a := 236) (j := 10 + nS E) (v := nI 1) (by omega)
    have kE := (((fE.f g2).wr (a := 234) (j := nS E) (v := nI (sNumV (tks T n) s5 1 99)) h10).wr (a := 235) (j := nS E) (v := nI 0) h10).wr (a := 236) (j := nS E) (v := nI 1) h10
    have kF := ((fF.tf g2 |>.tw (a := 234) (j := 10 + nS E) (v := nI (sNumV (tks T n) s5 1 99)) (by omega) (by omega) (Nat.le_add_right 10 _)).tw (a := 235) (j := 10 + nS E) (v := nI 0) (by omega) (by omega) (Nat.le_add_right 10 _)).tw (a := 236) (j := 10 + nS E) (v := nI 1) (by omega) (by omega) (Nat.le_add_right 10 _)
    obtain ⟨σ7, l1, l2, l3, l4⟩ := m_optL k3 kE (w := 10) (hi := 3) (a := 235) (j := nS E) (d := 0) (f := 11) (by omega) (by omega) (by omega) (by omega) h10 (by rw [up_a (by omega), up_e]) (fun σ hw => by simp (disch := first | (with_reducible assumption) | omega | exact ⟨by omega, by omega⟩ | ((with_reducible first | apply Wf.wI | apply Wf.wL | apply Wf.fL | apply Wf.fI | apply Wf.fr); (repeat (with_reducible first | assumption | apply Wf.wI | apply Wf.wL | apply Wf.fL | apply Wf.fI | apply Wf.fr)))) only [ck_225, gI_225, gL_225, pI_225, pZ0_225, pZ1_225, pL_225, gR_225_1, gR_225_3, gR_225_4, gR_225_5, gR_225_6, gR_225_7, gR_225_8, gR_225_9, gR_225_10, gR_225_11, gR_225_12, gR_225_13, gR_225_14, gR_225_15, gR_225_16, gR_225_17, gR_225_18, gR_225_19, gR_225_20, gR_225_21, gR_225_35, gR_225_36, gR_225_38, gR_225_39, gR_225_40, gR_225_41, gR_225_43, gR_225_44, gR_225_45, gR_225_48, gR_225_49, gR_225_50, gR_225_51, gR_225_53, gR_225_54, gR_225_55, gR_225_56, gR_225_58, gR_225_59, gR_225_60, gR_225_61, gR_225_62, gR_225_63, gR_225_66, gR_225_67]) (fun σ v hw => by rw [show hf 235 = 10 from rfl]; simp (disch := first | (with_reducible assumption) | omega | exact ⟨by omega, by omega⟩ | ((with_reducible first | apply Wf.wI | apply Wf.wL | apply Wf.fL | apply Wf.fI | apply Wf.fr); (repeat (with_reducible first | assumption | apply Wf.wI | apply Wf.wL | apply Wf.fL | apply Wf.fI | apply Wf.fr)))) only [aI_235, sI_235, len_235])
    rw [← q7] at l3
    obtain ⟨σ8, p1, p2, p3, p4⟩ := m_optL l3 l4 (w := 11) (hi := 99) (a := 236) (j := nS E) (d := 1) (f := 12) (by omega) (by omega) (by omega) (by omega) h10 (by rw [up_a (by omega), up_e]) (fun σ hw => by simp (disch := first | (with_reducible assumption) | omega | exact ⟨by omega, by omega⟩ | ((with_reducible first | apply Wf.wI | apply Wf.wL | apply Wf.fL | apply Wf.fI | apply Wf.fr); (repeat (with_reducible first | assumption | apply Wf.wI | apply Wf.wL | apply Wf.fL | apply Wf.fI | apply Wf.fr)))) only [ck_225, gI_225, gL_225, pI_225, pZ0_225, pZ1_225, pL_225, gR_225_1, gR_225_3, gR_225_4, gR_225_5, gR_225_6, gR_225_7, gR_225_8, gR_225_9, gR_225_10, gR_225_11, gR_225_12, gR_225_13, gR_225_14, gR_225_15, gR_225_16, gR_225_17, gR_225_18, gR_225_19, gR_225_20, gR_225_21, gR_225_35, gR_225_36, gR_225_38, gR_225_39, gR_225_40, gR_225_41, gR_225_43, gR_225_44, gR_225_45, gR_225_48, gR_225_49, gR_225_50, gR_225_51, gR_225_53, gR_225_54, gR_225_55, gR_225_56, gR_225_58, gR_225_59, gR_225_60, gR_225_61, gR_225_62, gR_225_63, gR_225_66, gR_225_67]) (fun σ v hw => by rw [show hf 236 = 10 from rfl]; simp (disch := first | (with_reducible assumption) | omega | exact ⟨by omega, by omega⟩ | ((with_reducible first | apply Wf.wI | apply Wf.wL | apply Wf.fL | apply Wf.fI | apply Wf.fr); (repeat (with_reducible first | assumption | apply Wf.wI | apply Wf.wL | apply Wf.fL | apply Wf.fI | apply Wf.fr)))) only [aI_236, sI_236, len_236])
    obtain ⟨σ9, r1, r2, r3, r4⟩ := m_inc p3 p4 (k := 1) (c := nS E) (by omega) (by rw [up_a (by omega), up_a (by omega), up_a (by omega), up_a (by omega), up_a (by omega), up_a (by omega), up_a (by omega)]; exact hS) (by omega)
    refine ⟨σ9, ?_, ((kF.trans l2).trans p2).trans r2, r3, ?_⟩
    · have t1 : f_X12_streetLine_151 225 σ8 = some σ9 := by
        unfold f_X12_streetLine_151
        simp only [to_bq, l_0, l_1, l_2, l_3, l_4, l_5, l_6, l_7, l_8, l_9, l_10, l_11, l_12, l_13, l_14, l_15, l_16, l_17, l_18, l_19, l_20, l_21, l_22, l_23, l_24, l_25, l_26, l_27, l_28, l_29, l_30, l_31, l_32, l_40, l_41, l_42, l_43, l_44, l_45, l_46, l_47, l_48, l_49, l_50, l_51, l_52, l_53, l_54, l_55, l_56, l_57, l_58, l_59, l_60, l_61, l_62, l_63, l_64, l_72, l_97, l_99, l_100, l_104, l_120, l_122, l_128, l_140, l_255, l_256, l_257, l_258, l_260, l_261, l_262, l_364, l_680, l_700, l_701, l_840, l_999, l_1023, l_1024, l_9999, l_10000, l_1000000, lm]
        exact r1 some
      have t2 : f_X12_streetLine_125 225 (nI (10 + nS E)) σ7 = some σ9 := by
        unfold f_X12_streetLine_125
        simp only [to_bq, l_0, l_1, l_2, l_3, l_4, l_5, l_6, l_7, l_8, l_9, l_10, l_11, l_12, l_13, l_14, l_15, l_16, l_17, l_18, l_19, l_20, l_21, l_22, l_23, l_24, l_25, l_26, l_27, l_28, l_29, l_30, l_31, l_32, l_40, l_41, l_42, l_43, l_44, l_45, l_46, l_47, l_48, l_49, l_50, l_51, l_52, l_53, l_54, l_55, l_56, l_57, l_58, l_59, l_60, l_61, l_62, l_63, l_64, l_72, l_97, l_99, l_100, l_104, l_120, l_122, l_128, l_140, l_255, l_256, l_257, l_258, l_260, l_261, l_262, l_364, l_680, l_700, l_701, l_840, l_999, l_1023, l_1024, l_9999, l_10000, l_1000000, lm]
        exact (p1 (f_X12_streetLine_151 225)).trans t1
      unfold f_X12_streetLine_55
      simp only [to_bq, l_0, l_1, l_2, l_3, l_4, l_5, l_6, l_7, l_8, l_9, l_10, l_11, l_12, l_13, l_14, l_15, l_16, l_17, l_18, l_19, l_20, l_21, l_22, l_23, l_24, l_25, l_26, l_27, l_28, l_29, l_30, l_31, l_32, l_40, l_41, l_42, l_43, l_44, l_45, l_46, l_47, l_48, l_49, l_50, l_51, l_52, l_53, l_54, l_55, l_56, l_57, l_58, l_59, l_60, l_61, l_62, l_63, l_64, l_72, l_97, l_99, l_100, l_104, l_120, l_122, l_128, l_140, l_255, l_256, l_257, l_258, l_260, l_261, l_262, l_364, l_680, l_700, l_701, l_840, l_999, l_1023, l_1024, l_9999, l_10000, l_1000000, lm]
      rw [e1]
      simp (disch := first | (with_reducible assumption) | omega | exact ⟨by omega, by omega⟩ | ((with_reducible first | apply Wf.wI | apply Wf.wL | apply Wf.fL | apply Wf.fI | apply Wf.fr); (repeat (with_reducible first | assumption | apply Wf.wI | apply Wf.wL | apply Wf.fL | apply Wf.fI | apply Wf.fr)))) only [ck_225, gI_225, gL_225, pI_225, pZ0_225, pZ1_225, pL_225, gR_225_1, gR_225_3, gR_225_4, gR_225_5, gR_225_6, gR_225_7, gR_225_8, gR_225_9, gR_225_10, gR_225_11, gR_225_12, gR_225_13, gR_225_14, gR_225_15, gR_225_16, gR_225_17, gR_225_18, gR_225_19, gR_225_20, gR_225_21, gR_225_35, gR_225_36, gR_225_38, gR_225_39, gR_225_40, gR_225_41, gR_225_43, gR_225_44, gR_225_45, gR_225_48, gR_225_49, gR_225_50, gR_225_51, gR_225_53, gR_225_54, gR_225_55, gR_225_56, gR_225_58, gR_225_59, gR_225_60, gR_225_61, gR_225_62, gR_225_63, gR_225_66, gR_225_67, bq_n, bd_s, mp_s, rz_0, rz_1, bI_rz, aI_232, sI_232, len_232, aI_233, sI_233, len_233]
      rw [g1]
      simp (disch := first | (with_reducible assumption) | omega | exact ⟨by omega, by omega⟩ | ((with_reducible first | apply Wf.wI | apply Wf.wL | apply Wf.fL | apply Wf.fI | apply Wf.fr); (repeat (with_reducible first | assumption | apply Wf.wI | apply Wf.wL | apply Wf.fL | apply Wf.fI | apply Wf.fr)))) only [ck_225, gI_225, gL_225, pI_225, pZ0_225, pZ1_225, pL_225, gR_225_1, gR_225_3, gR_225_4, gR_225_5, gR_225_6, gR_225_7, gR_225_8, gR_225_9, gR_225_10, gR_225_11, gR_225_12, gR_225_13, gR_225_14, gR_225_15, gR_225_16, gR_225_17, gR_225_18, gR_225_19, gR_225_20, gR_225_21, gR_225_35, gR_225_36, gR_225_38, gR_225_39, gR_225_40, gR_225_41, gR_225_43, gR_225_44, gR_225_45, gR_225_48, gR_225_49, gR_225_50, gR_225_51, gR_225_53, gR_225_54, gR_225_55, gR_225_56, gR_225_58, gR_225_59, gR_225_60, gR_225_61, gR_225_62, gR_225_63, gR_225_66, gR_225_67, bq_n, bd_s, mp_s, rz_0, rz_1, bI_rz, aI_234, sI_234, len_234, aI_235, sI_235, len_235, aI_236, sI_236, len_236]
      exact (l1 (f_X12_streetLine_125 225 (nI (10 + nS E)))).trans t2
    · have : (eStr E a b (sNumV (tks T n) s5 1 99) (sOptV (tks T n) s6 10 3 0) (sOptV (tks T n) s7 11 99 1)) = up (up (up (up (up (up (up (up E 232 (nS E) (nI a)) 233 (nS E) (nI b)) 234 (nS E) (nI (sNumV (tks T n) s5 1 99))) 235 (nS E) (nI 0)) 236 (nS E) (nI 1)) 235 (nS E) (nI (sOptV (tks T n) s6 10 3 0))) 236 (nS E) (nI (sOptV (tks T n) s7 11 99 1))) 227 1 (nI (nS E + 1)) := by
        unfold eStr
        congr 1
        refine funext fun x => funext fun y => ?_
        unfold up
        by_cases z1 : x = 236 ∧ y = nS E
        · simp only [if_pos z1]
        · simp only [if_neg z1]
          by_cases z2 : x = 235 ∧ y = nS E
          · simp only [if_pos z2]
          · simp only [if_neg z2]
      rw [this]
      exact r4
  unfold f_X12_streetLine f_X12_streetLine_0
  simp only [to_bq, l_0, l_1, l_2, l_3, l_4, l_5, l_6, l_7, l_8, l_9, l_10, l_11, l_12, l_13, l_14, l_15, l_16, l_17, l_18, l_19, l_20, l_21, l_22, l_23, l_24, l_25, l_26, l_27, l_28, l_29, l_30, l_31, l_32, l_40, l_41, l_42, l_43, l_44, l_45, l_46, l_47, l_48, l_49, l_50, l_51, l_52, l_53, l_54, l_55, l_56, l_57, l_58, l_59, l_60, l_61, l_62, l_63, l_64, l_72, l_97, l_99, l_100, l_104, l_120, l_122, l_128, l_140, l_255, l_256, l_257, l_258, l_260, l_261, l_262, l_364, l_680, l_700, l_701, l_840, l_999, l_1023, l_1024, l_9999, l_10000, l_1000000, lm]
  simp (disch := first | (with_reducible assumption) | omega | exact ⟨by omega, by omega⟩ | ((with_reducible first | apply Wf.wI | apply Wf.wL | apply Wf.fL | apply Wf.fI | apply Wf.fr); (repeat (with_reducible first | assumption | apply Wf.wI | apply Wf.wL | apply Wf.fL | apply Wf.fI | apply Wf.fr)))) only [ck_225, gI_225, gL_225, pI_225, pZ0_225, pZ1_225, pL_225, gR_225_1, gR_225_3, gR_225_4, gR_225_5, gR_225_6, gR_225_7, gR_225_8, gR_225_9, gR_225_10, gR_225_11, gR_225_12, gR_225_13, gR_225_14, gR_225_15, gR_225_16, gR_225_17, gR_225_18, gR_225_19, gR_225_20, gR_225_21, gR_225_35, gR_225_36, gR_225_38, gR_225_39, gR_225_40, gR_225_41, gR_225_43, gR_225_44, gR_225_45, gR_225_48, gR_225_49, gR_225_50, gR_225_51, gR_225_53, gR_225_54, gR_225_55, gR_225_56, gR_225_58, gR_225_59, gR_225_60, gR_225_61, gR_225_62, gR_225_63, gR_225_66, gR_225_67]
  rw [a1]
  simp (disch := first | (with_reducible assumption) | omega | exact ⟨by omega, by omega⟩ | ((with_reducible first | apply Wf.wI | apply Wf.wL | apply Wf.fL | apply Wf.fI | apply Wf.fr); (repeat (with_reducible first | assumption | apply Wf.wI | apply Wf.wL | apply Wf.fL | apply Wf.fI | apply Wf.fr)))) only [bq_n, bd_s, mp_s, rz_0, rz_1, bI_rz]
  rw [b1]
  simp (disch := first | (with_reducible assumption) | omega | exact ⟨by omega, by omega⟩ | ((with_reducible first | apply Wf.wI | apply Wf.wL | apply Wf.fL | apply Wf.fI | apply Wf.fr); (repeat (with_reducible first | assumption | apply Wf.wI | apply Wf.wL | apply Wf.fL | apply Wf.fI | apply Wf.fr)))) only [bq_n, bd_s, mp_s, rz_0, rz_1, bI_rz]
  rw [c1]
  simp (disch := first | (with_reducible assumption) | omega | exact ⟨by omega, by omega⟩ | ((with_reducible first | apply Wf.wI | apply Wf.wL | apply Wf.fL | apply Wf.fI | apply Wf.fr); (repeat (with_reducible first | assumption | apply Wf.wI | apply Wf.wL | apply Wf.fL | apply Wf.fI | apply Wf.fr)))) only [bq_n, bd_s, mp_s, rz_0, rz_1, bI_rz, ck_225, gI_225, gL_225, pI_225, pZ0_225, pZ1_225, pL_225, gR_225_1, gR_225_3, gR_225_4, gR_225_5, gR_225_6, gR_225_7, gR_225_8, gR_225_9, gR_225_10, gR_225_11, gR_225_12, gR_225_13, gR_225_14, gR_225_15, gR_225_16, gR_225_17, gR_225_18, gR_225_19, gR_225_20, gR_225_21, gR_225_35, gR_225_36, gR_225_38, gR_225_39, gR_225_40, gR_225_41, gR_225_43, gR_225_44, gR_225_45, gR_225_48, gR_225_49, gR_225_50, gR_225_51, gR_225_53, gR_225_54, gR_225_55, gR_225_56, gR_225_58, gR_225_59, gR_225_60, gR_225_61, gR_225_62, gR_225_63, gR_225_66, gR_225_67]
  cases hs3 : s3.2 with
  | some x =>
    have n3 : s3.2 ≠ none := by rw [hs3]; exact fun z => nomatch z
    have hne : ah_I σ3 225 29 ≠ nI 0 := by
      obtain ⟨i3, x3⟩ := s3
      have : x3 = some x := hs3
      subst this
      exact RSt.ne c3
    rw [if_neg hne]
    unfold f_X12_streetLine_38
    simp only [to_bq, l_0, l_1, l_2, l_3, l_4, l_5, l_6, l_7, l_8, l_9, l_10, l_11, l_12, l_13, l_14, l_15, l_16, l_17, l_18, l_19, l_20, l_21, l_22, l_23, l_24, l_25, l_26, l_27, l_28, l_29, l_30, l_31, l_32, l_40, l_41, l_42, l_43, l_44, l_45, l_46, l_47, l_48, l_49, l_50, l_51, l_52, l_53, l_54, l_55, l_56, l_57, l_58, l_59, l_60, l_61, l_62, l_63, l_64, l_72, l_97, l_99, l_100, l_104, l_120, l_122, l_128, l_140, l_255, l_256, l_257, l_258, l_260, l_261, l_262, l_364, l_680, l_700, l_701, l_840, l_999, l_1023, l_1024, l_9999, l_10000, l_1000000, lm]
    simp (disch := first | (with_reducible assumption) | omega | exact ⟨by omega, by omega⟩ | ((with_reducible first | apply Wf.wI | apply Wf.wL | apply Wf.fL | apply Wf.fI | apply Wf.fr); (repeat (with_reducible first | assumption | apply Wf.wI | apply Wf.wL | apply Wf.fL | apply Wf.fI | apply Wf.fr)))) only [bq_n, bd_s, mp_s, rz_0, rz_1, bI_rz, ck_225, gI_225, gL_225, pI_225, pZ0_225, pZ1_225, pL_225, gR_225_1, gR_225_3, gR_225_4, gR_225_5, gR_225_6, gR_225_7, gR_225_8, gR_225_9, gR_225_10, gR_225_11, gR_225_12, gR_225_13, gR_225_14, gR_225_15, gR_225_16, gR_225_17, gR_225_18, gR_225_19, gR_225_20, gR_225_21, gR_225_35, gR_225_36, gR_225_38, gR_225_39, gR_225_40, gR_225_41, gR_225_43, gR_225_44, gR_225_45, gR_225_48, gR_225_49, gR_225_50, gR_225_51, gR_225_53, gR_225_54, gR_225_55, gR_225_56, gR_225_58, gR_225_59, gR_225_60, gR_225_61, gR_225_62, gR_225_63, gR_225_66, gR_225_67, if_neg hne]
    exact hj σ3 (by rw [sJn_s n3]; exact c3) Fr.rfl
  | none =>
    have c3' := c3
    obtain ⟨i3, x3⟩ := s3
    have : x3 = none := hs3
    subst this
    have h29 : ah_I σ3 225 29 = nI 0 := c3.2
    rw [if_pos h29]
    have m1 := m_hst cW cE hS (by omega) (nI a) (nI b) (nS E) 0 5000 (by omega) (by omega)
    have m2 : f_X12_hasStreet 225 (nI a) (nI b) σ3 = some (cI (hst E (nI a) (nI b) 0), σ3) := by
      unfold f_X12_hasStreet f_X12_hasStreet_0
      simp only [to_bq, l_0, l_1, l_2, l_3, l_4, l_5, l_6, l_7, l_8, l_9, l_10, l_11, l_12, l_13, l_14, l_15, l_16, l_17, l_18, l_19, l_20, l_21, l_22, l_23, l_24, l_25, l_26, l_27, l_28, l_29, l_30, l_31, l_32, l_40, l_41, l_42, l_43, l_44, l_45, l_46, l_47, l_48, l_49, l_50, l_51, l_52, l_53, l_54, l_55, l_56, l_57, l_58, l_59, l_60, l_61, l_62, l_63, l_64, l_72, l_97, l_99, l_100, l_104, l_120, l_122, l_128, l_140, l_255, l_256, l_257, l_258, l_260, l_261, l_262, l_364, l_680, l_700, l_701, l_840, l_999, l_1023, l_1024, l_9999, l_10000, l_1000000, lm]
      simp (disch := first | (with_reducible assumption) | omega | exact ⟨by omega, by omega⟩ | ((with_reducible first | apply Wf.wI | apply Wf.wL | apply Wf.fL | apply Wf.fI | apply Wf.fr); (repeat (with_reducible first | assumption | apply Wf.wI | apply Wf.wL | apply Wf.fL | apply Wf.fI | apply Wf.fr)))) only [ck_225, gI_225, gL_225, pI_225, pZ0_225, pZ1_225, pL_225, gR_225_1, gR_225_3, gR_225_4, gR_225_5, gR_225_6, gR_225_7, gR_225_8, gR_225_9, gR_225_10, gR_225_11, gR_225_12, gR_225_13, gR_225_14, gR_225_15, gR_225_16, gR_225_17, gR_225_18, gR_225_19, gR_225_20, gR_225_21, gR_225_35, gR_225_36, gR_225_38, gR_225_39, gR_225_40, gR_225_41, gR_225_43, gR_225_44, gR_225_45, gR_225_48, gR_225_49, gR_225_50, gR_225_51, gR_225_53, gR_225_54, gR_225_55, gR_225_56, gR_225_58, gR_225_59, gR_225_60, gR_225_61, gR_225_62, gR_225_63, gR_225_66, gR_225_67]
      exact m1
    rw [m2]
    simp (disch := first | (with_reducible assumption) | omega | exact ⟨by omega, by omega⟩ | ((with_reducible first | apply Wf.wI | apply Wf.wL | apply Wf.fL | apply Wf.fI | apply Wf.fr); (repeat (with_reducible first | assumption | apply Wf.wI | apply Wf.wL | apply Wf.fL | apply Wf.fI | apply Wf.fr)))) only [bq_n, bd_s, mp_s, rz_0, rz_1, bI_rz]
    by_cases z : hst E (nI a) (nI b) 0
    · rw [if_neg (by rw [cI_t z]; decide)]
      obtain ⟨σ4, w1, w2, w3⟩ := m_errS c3' (f := 3) (by omega) (by omega)
      rw [w1]
      simp (disch := first | (with_reducible assumption) | omega | exact ⟨by omega, by omega⟩ | ((with_reducible first | apply Wf.wI | apply Wf.wL | apply Wf.fL | apply Wf.fI | apply Wf.fr); (repeat (with_reducible first | assumption | apply Wf.wI | apply Wf.wL | apply Wf.fL | apply Wf.fI | apply Wf.fr)))) only [bq_n, bd_s, mp_s, rz_0, rz_1, bI_rz]
      exact hj σ4 (by unfold sJn; rw [cif_t z]; exact w3) w2
    · rw [if_pos (cI_f z)]
      unfold f_X12_streetLine_38
      simp only [to_bq, l_0, l_1, l_2, l_3, l_4, l_5, l_6, l_7, l_8, l_9, l_10, l_11, l_12, l_13, l_14, l_15, l_16, l_17, l_18, l_19, l_20, l_21, l_22, l_23, l_24, l_25, l_26, l_27, l_28, l_29, l_30, l_31, l_32, l_40, l_41, l_42, l_43, l_44, l_45, l_46, l_47, l_48, l_49, l_50, l_51, l_52, l_53, l_54, l_55, l_56, l_57, l_58, l_59, l_60, l_61, l_62, l_63, l_64, l_72, l_97, l_99, l_100, l_104, l_120, l_122, l_128, l_140, l_255, l_256, l_257, l_258, l_260, l_261, l_262, l_364, l_680, l_700, l_701, l_840, l_999, l_1023, l_1024, l_9999, l_10000, l_1000000, lm]
      simp (disch := first | (with_reducible assumption) | omega | exact ⟨by omega, by omega⟩ | ((with_reducible first | apply Wf.wI | apply Wf.wL | apply Wf.fL | apply Wf.fI | apply Wf.fr); (repeat (with_reducible first | assumption | apply Wf.wI | apply Wf.wL | apply Wf.fL | apply Wf.fI | apply Wf.fr)))) only [bq_n, bd_s, mp_s, rz_0, rz_1, bI_rz, ck_225, gI_225, gL_225, pI_225, pZ0_225, pZ1_225, pL_225, gR_225_1, gR_225_3, gR_225_4, gR_225_5, gR_225_6, gR_225_7, gR_225_8, gR_225_9, gR_225_10, gR_225_11, gR_225_12, gR_225_13, gR_225_14, gR_225_15, gR_225_16, gR_225_17, gR_225_18, gR_225_19, gR_225_20, gR_225_21, gR_225_35, gR_225_36, gR_225_38, gR_225_39, gR_225_40, gR_225_41, gR_225_43, gR_225_44, gR_225_45, gR_225_48, gR_225_49, gR_225_50, gR_225_51, gR_225_53, gR_225_54, gR_225_55, gR_225_56, gR_225_58, gR_225_59, gR_225_60, gR_225_61, gR_225_62, gR_225_63, gR_225_66, gR_225_67, if_pos h29]
      have hb9 : ∀ s : LnS, sCorV (tks T n) s (E 228) (nC E) < 100 := fun s => by
        obtain ⟨i, _ | x⟩ := s
        · show (if _ ∧ _ then _ else 0) < 100
          split
          · rename_i w
            obtain ⟨c, w1, w2, -⟩ := fnd_ix (by omega) w.2
            rw [w2, ix_nI (by omega)]; omega
          · omega
        · exact Nat.zero_lt_succ _
      have ba := hb9 s
      have bb := hb9 (sGo s1)
      rw [← qa] at ba
      rw [← qb] at bb
      by_cases y : a = b
      · rw [if_pos (by rw [y])]
        obtain ⟨σ4, w1, w2, w3⟩ := m_errS c3' (f := 5) (by omega) (by omega)
        rw [w1]
        simp (disch := first | (with_reducible assumption) | omega | exact ⟨by omega, by omega⟩ | ((with_reducible first | apply Wf.wI | apply Wf.wL | apply Wf.fL | apply Wf.fI | apply Wf.fr); (repeat (with_reducible first | assumption | apply Wf.wI | apply Wf.wL | apply Wf.fL | apply Wf.fI | apply Wf.fr)))) only [bq_n, bd_s, mp_s, rz_0, rz_1, bI_rz]
        exact hj σ4 (by unfold sJn; rw [cif_f z, if_pos y]; exact w3) w2
      · rw [if_neg (by rw [eq_nI (by omega) (by omega)]; exact y)]
        exact hj σ3 (by unfold sJn; rw [cif_f z, if_neg y]; exact c3') Fr.rfl
end
