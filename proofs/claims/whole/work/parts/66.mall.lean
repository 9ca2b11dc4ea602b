/-! THE REFERENCE: all that comes to a corner, and what is behind it -/
section
variable {σ : ah_H} {D : DD} {T : Tbl} {w m e c : Nat} {st : Nat → Option Nat} {p : DPr}
theorem sm_k {B : Nat} (n : Nat) : sm (fun _ => B) n ≤ n * B := sm_le (fun _ _ => Nat.le_refl _)
theorem vb_smk {f : Nat → VV} {B n : Nat} (h : ∀ i, i < n → vb (f i) B) (k : Nat) (hk : k ≤ n) : vb (vsm f k) (k * B) := vb_mono (vb_sm (g := fun _ => B) k (fun i hi => h i (by omega))) (sm_k k)
def Kid (σ : ah_H) (D : DD) (st : Nat → Option Nat) (T : Tbl) (c : Nat) : Prop := ∀ o, o < nC D → nx D st o = some c → RowT σ T o
theorem Kid.fr {X : Nat → Nat → Prop} {τ : ah_H} (h : Kid σ D st T c) (g : Fr X σ τ) (hX : ∀ j, ¬ X 264 j) : Kid τ D st T c := fun o ho hx => (h o ho hx).fr g hX
theorem kid_b (hp : dpx p = nx D st ∧ dpn p = nC D) (hr : Kid σ D st T c) (hw : w < 4) (hm : m < 13) : ∀ o, o < nC D → vb (if dpx p o = some c then comT T o w m else some (0, 0)) 1000000000000000 := by
  intro o ho
  by_cases q : dpx p o = some c
  · rw [if_pos q]
    rw [hp.1] at q
    exact (hr o ho q).com hw hm
  · rw [if_neg q]
    intro x hx; cases hx; exact Nat.zero_le _
theorem m_all6 (h : MInv σ D) (hs : StR σ D e st) (hp : dpx p = nx D st ∧ dpn p = nC D) (hc : c < nC D) (hr : Kid σ D st T c) (hw : w < 4) (hm : m < 13) (x4 : Int32) : ∀ i k fu, k + i = nC D → i < fu → f_X12_allCome_6 fu 225 (nI c) (nI w) (nI m) x4 (iL (lv (vsm (fun o => if dpx p o = some c then comT T o w m else some (0, 0)) k))) (nI k) σ = f_X12_allCome_49 225 (nI c) (nI w) (nI m) x4 (iL (lv (chsT p T c w m))) σ := by
  have hb := h.bd
  have hW := h.w
  have kb := kid_b hp hr hw hm
  intro i
  induction i with
  | zero =>
    intro k fu hk hf
    obtain ⟨fu, rfl⟩ : ∃ q, fu = q + 1 := ⟨fu - 1, by omega⟩
    show f_X12_allCome_6_b _ _ _ _ _ _ _ _ _ = _
    unfold f_X12_allCome_6_b
    simp only [to_bq, l_0, l_1, l_2, l_3, l_4, l_5, l_6, l_7, l_8, l_9, l_10, l_11, l_12, l_13, l_14, l_15, l_16, l_17, l_18, l_19, l_20, l_21, l_22, l_23, l_24, l_25, l_26, l_27, l_28, l_29, l_30, l_31, l_32, l_40, l_41, l_42, l_43, l_44, l_45, l_46, l_47, l_48, l_49, l_50, l_51, l_52, l_53, l_54, l_55, l_56, l_57, l_58, l_59, l_60, l_61, l_62, l_63, l_64, l_72, l_97, l_99, l_100, l_104, l_120, l_122, l_128, l_140, l_255, l_256, l_257, l_258, l_260, l_261, l_262, l_364, l_680, l_700, l_701, l_840, l_999, l_1023, l_1024, l_9999, l_10000, l_1000000, lm]
    simp (disch := first | (with_reducible assumption) | omega | exact ⟨by omega, by omega⟩ | ((with_reducible first | apply Wf.wI | apply Wf.wL | apply Wf.fL | apply Wf.fI | apply Wf.fr); (repeat (with_reducible first | assumption | apply Wf.wI | apply Wf.wL | apply Wf.fL | apply Wf.fI | apply Wf.fr)))) only [ck_225, gI_225, gL_225, pI_225, pZ0_225, pZ1_225, pL_225, gR_225_1, gR_225_3, gR_225_4, gR_225_5, gR_225_6, gR_225_7, gR_225_8, gR_225_9, gR_225_10, gR_225_11, gR_225_12, gR_225_13, gR_225_14, gR_225_15, gR_225_16, gR_225_17, gR_225_18, gR_225_19, gR_225_20, gR_225_21, gR_225_35, gR_225_36, gR_225_38, gR_225_39, gR_225_40, gR_225_41, gR_225_43, gR_225_44, gR_225_45, gR_225_48, gR_225_49, gR_225_50, gR_225_51, gR_225_53, gR_225_54, gR_225_55, gR_225_56, gR_225_58, gR_225_59, gR_225_60, gR_225_61, gR_225_62, gR_225_63, gR_225_66, gR_225_67, bq_n, bd_s, mp_s, rz_0, rz_1, bI_rz, zadd, zmul, zsub, le_nI, lt_nI, eq_nI, neg_nI, gen_nI, neg_lt, neg_le, neg_lt', neg_le', nI_lt0, if_true, if_false, ite_true, ite_false, reduceIte, not_true, not_false, and_true, true_and, and_false, false_and, or_true, true_or, or_false, false_or, eq_self, aI_227, rd_C h, show (nC D ≤ k) = True from eq_true (by omega)]
    rw [show k = nC D by omega, ← hp.2]
    rfl
  | succ i ih =>
    intro k fu hk hf
    obtain ⟨fu, rfl⟩ : ∃ q, fu = q + 1 := ⟨fu - 1, by omega⟩
    have hk' : k < nC D := by omega
    have e0 : f_X12_allCome_6_b (f_X12_allCome_6 fu) 225 (nI c) (nI w) (nI m) x4 (iL (lv (vsm (fun o => if dpx p o = some c then comT T o w m else some (0, 0)) k))) (nI k) σ = f_X12_allCome_6 fu 225 (nI c) (nI w) (nI m) x4 (iL (lv (vsm (fun o => if dpx p o = some c then comT T o w m else some (0, 0)) (k + 1)))) (nI (k + 1)) σ := by
      unfold f_X12_allCome_6_b f_X12_allCome_43
      simp only [to_bq, l_0, l_1, l_2, l_3, l_4, l_5, l_6, l_7, l_8, l_9, l_10, l_11, l_12, l_13, l_14, l_15, l_16, l_17, l_18, l_19, l_20, l_21, l_22, l_23, l_24, l_25, l_26, l_27, l_28, l_29, l_30, l_31, l_32, l_40, l_41, l_42, l_43, l_44, l_45, l_46, l_47, l_48, l_49, l_50, l_51, l_52, l_53, l_54, l_55, l_56, l_57, l_58, l_59, l_60, l_61, l_62, l_63, l_64, l_72, l_97, l_99, l_100, l_104, l_120, l_122, l_128, l_140, l_255, l_256, l_257, l_258, l_260, l_261, l_262, l_364, l_680, l_700, l_701, l_840, l_999, l_1023, l_1024, l_9999, l_10000, l_1000000, lm]
      simp (disch := first | (with_reducible assumption) | omega | exact ⟨by omega, by omega⟩ | ((with_reducible first | apply Wf.wI | apply Wf.wL | apply Wf.fL | apply Wf.fI | apply Wf.fr); (repeat (with_reducible first | assumption | apply Wf.wI | apply Wf.wL | apply Wf.fL | apply Wf.fI | apply Wf.fr)))) only [ck_225, gI_225, gL_225, pI_225, pZ0_225, pZ1_225, pL_225, gR_225_1, gR_225_3, gR_225_4, gR_225_5, gR_225_6, gR_225_7, gR_225_8, gR_225_9, gR_225_10, gR_225_11, gR_225_12, gR_225_13, gR_225_14, gR_225_15, gR_225_16, gR_225_17, gR_225_18, gR_225_19, gR_225_20, gR_225_21, gR_225_35, gR_225_36, gR_225_38, gR_225_39, gR_225_40, gR_225_41, gR_225_43, gR_225_44, gR_225_45, gR_225_48, gR_225_49, gR_225_50, gR_225_51, gR_225_53, gR_225_54, gR_225_55, gR_225_56, gR_225_58, gR_225_59, gR_225_60, gR_225_61, gR_225_62, gR_225_63, gR_225_66, gR_225_67, bq_n, bd_s, mp_s, rz_0, rz_1, bI_rz, zadd, zmul, zsub, le_nI, lt_nI, eq_nI, neg_nI, gen_nI, neg_lt, neg_le, neg_lt', neg_le', nI_lt0, if_true, if_false, ite_true, ite_false, reduceIte, not_true, not_false, and_true, true_and, and_false, false_and, or_true, true_or, or_false, false_or, eq_self, aI_227, rd_C h, show (nC D ≤ k) = False from eq_false (by omega), m_runsTo h hs hk' hc, bI_0, ite_n]
      by_cases q : nx D st k = some c
      · rw [if_pos q, m_comes hW (by omega) (hr k hk' q) hw hm, bq_n, m_plus (vb_smk kb k (by omega)) ((hr k hk' q).com hw hm) (by omega), bq_n]
        show _ = f_X12_allCome_6 fu 225 (nI c) (nI w) (nI m) x4 (iL (lv (vadd (vsm (fun o => if dpx p o = some c then comT T o w m else some (0, 0)) k) (if dpx p k = some c then comT T k w m else some (0, 0))))) (nI (k + 1)) σ
        rw [if_pos (show dpx p k = some c by rw [hp.1]; exact q), zadd]
      · rw [if_neg q]
        show _ = f_X12_allCome_6 fu 225 (nI c) (nI w) (nI m) x4 (iL (lv (vadd (vsm (fun o => if dpx p o = some c then comT T o w m else some (0, 0)) k) (if dpx p k = some c then comT T k w m else some (0, 0))))) (nI (k + 1)) σ
        rw [if_neg (show ¬ dpx p k = some c by rw [hp.1]; exact q), vadd_z]
    show f_X12_allCome_6_b _ _ _ _ _ _ _ _ _ = _
    rw [e0]
    exact ih (k + 1) fu (by omega) (by omega)
theorem m_all0 (h : MInv σ D) (hs : StR σ D e st) (hp : dpx p = nx D st ∧ dpn p = nC D) (hc : c < nC D) (hr : Kid σ D st T c) (hw : w < 4) (hm : m < 13) : f_X12_allCome 225 (nI c) (nI w) (nI m) (nI 0) σ = some (iL (lv (chsT p T c w m)), σ) := by
  have hb := h.bd
  unfold f_X12_allCome f_X12_allCome_0
  rw [ck_225 h.w]
  refine (m_all6 h hs hp hc hr hw hm (nI 0) (nC D) 0 5000 (by omega) (by omega)).trans ?_
  unfold f_X12_allCome_49
  simp only [to_bq, l_0, l_1, l_2, l_3, l_4, l_5, l_6, l_7, l_8, l_9, l_10, l_11, l_12, l_13, l_14, l_15, l_16, l_17, l_18, l_19, l_20, l_21, l_22, l_23, l_24, l_25, l_26, l_27, l_28, l_29, l_30, l_31, l_32, l_40, l_41, l_42, l_43, l_44, l_45, l_46, l_47, l_48, l_49, l_50, l_51, l_52, l_53, l_54, l_55, l_56, l_57, l_58, l_59, l_60, l_61, l_62, l_63, l_64, l_72, l_97, l_99, l_100, l_104, l_120, l_122, l_128, l_140, l_255, l_256, l_257, l_258, l_260, l_261, l_262, l_364, l_680, l_700, l_701, l_840, l_999, l_1023, l_1024, l_9999, l_10000, l_1000000, lm]
  rw [if_pos trivial]
def ch0T (p : DPr) (T : Tbl) (c w m q o : Nat) : VV := if dpx p o = some c then (if o = q then some (0, 0) else comT T o w m) else some (0, 0)
theorem ch1_eq {q : Nat} (hq : q < dpn p) (hx : dpx p q = some c) : ch1T p T c w m q = vadd (cmjT T q w m) (vsm (ch0T p T c w m q) (dpn p)) := by
  unfold ch1T
  rw [vsm_one (g := ch0T p T c w m q) (q := q) (fun i hi => ?_) ?_ (dpn p) hq]
  · rw [if_pos hx, if_pos rfl]
  · unfold ch0T
    rw [if_pos hx, if_pos rfl]
  · unfold ch0T
    rw [if_neg hi, if_neg hi]
theorem ch0_b {q : Nat} (hp : dpx p = nx D st ∧ dpn p = nC D) (hr : Kid σ D st T c) (hw : w < 4) (hm : m < 13) : ∀ o, o < nC D → vb (ch0T p T c w m q o) 1000000000000000 := by
  intro o ho
  unfold ch0T
  by_cases q1 : dpx p o = some c
  · rw [if_pos q1]
    by_cases q2 : o = q
    · rw [if_pos q2]; intro x hx; cases hx; exact Nat.zero_le _
    · rw [if_neg q2]
      rw [hp.1] at q1
      exact (hr o ho q1).com hw hm
  · rw [if_neg q1]
    intro x hx; cases hx; exact Nat.zero_le _
theorem ch1_b {q : Nat} (hp : dpx p = nx D st ∧ dpn p = nC D) (h7 : nC D ≤ 7) (hr : Kid σ D st T c) (hw : w < 4) (hm : m < 13) (hq : q < nC D) (hx : nx D st q = some c) : vb (ch1T p T c w m q) 8000000000000000 := by
  rw [ch1_eq (by rw [hp.2]; exact hq) (by rw [hp.1]; exact hx), hp.2]
  exact vb_mono (vb_add ((hr q hq hx).cmj hw hm) (vb_smk (ch0_b hp hr hw hm) (nC D) (Nat.le_refl _))) (by omega)
theorem m_all103 {K65 : Nat → Int32 → Int32 → Int32 → Int64 → Int32 → ah_H → Option (Int64 × ah_H)} {q : Nat} (h : MInv σ D) (hs : StR σ D e st) (hp : dpx p = nx D st ∧ dpn p = nC D) (hc : c < nC D) (hr : Kid σ D st T c) (hw : w < 4) (hm : m < 13) (hq : q < nC D) (hx : nx D st q = some c) {X : VV} (hX : vb X 8000000000000000) : ∀ i k fu, k + i = nC D → i < fu → f_X12_allCome_103 K65 fu 225 (nI c) (nI w) (nI m) (iL (lv X)) (nI q) (iL (lv (vadd (cmjT T q w m) (vsm (ch0T p T c w m q) k)))) (nI k) σ = K65 225 (nI c) (nI w) (nI m) (iL (lv (vmin X (ch1T p T c w m q)))) (nI (q + 1)) σ := by
  have hb := h.bd
  have hW := h.w
  have kb := ch0_b (q := q) hp hr hw hm
  have jb := (hr q hq hx).cmj hw hm
  intro i
  induction i with
  | zero =>
    intro k fu hk hf
    obtain ⟨fu, rfl⟩ : ∃ q, fu = q + 1 := ⟨fu - 1, by omega⟩
    have hb1 := ch1_b hp hb.1 hr hw hm hq hx
    have e1 : vadd (cmjT T q w m) (vsm (ch0T p T c w m q) k) = ch1T p T c w m q := by
      rw [ch1_eq (by rw [hp.2]; exact hq) (by rw [hp.1]; exact hx), hp.2, show k = nC D by omega]
    rw [e1]
    show f_X12_allCome_103_b _ _ _ _ _ _ _ _ _ _ _ = _
    unfold f_X12_allCome_103_b f_X12_allCome_153 f_X12_allCome_162
    simp only [to_bq, l_0, l_1, l_2, l_3, l_4, l_5, l_6, l_7, l_8, l_9, l_10, l_11, l_12, l_13, l_14, l_15, l_16, l_17, l_18, l_19, l_20, l_21, l_22, l_23, l_24, l_25, l_26, l_27, l_28, l_29, l_30, l_31, l_32, l_40, l_41, l_42, l_43, l_44, l_45, l_46, l_47, l_48, l_49, l_50, l_51, l_52, l_53, l_54, l_55, l_56, l_57, l_58, l_59, l_60, l_61, l_62, l_63, l_64, l_72, l_97, l_99, l_100, l_104, l_120, l_122, l_128, l_140, l_255, l_256, l_257, l_258, l_260, l_261, l_262, l_364, l_680, l_700, l_701, l_840, l_999, l_1023, l_1024, l_9999, l_10000, l_1000000, lm]
    simp (disch := first | (with_reducible assumption) | omega | exact ⟨by omega, by omega⟩ | ((with_reducible first | apply Wf.wI | apply Wf.wL | apply Wf.fL | apply Wf.fI | apply Wf.fr); (repeat (with_reducible first | assumption | apply Wf.wI | apply Wf.wL | apply Wf.fL | apply Wf.fI | apply Wf.fr)))) only [ck_225, gI_225, gL_225, pI_225, pZ0_225, pZ1_225, pL_225, gR_225_1, gR_225_3, gR_225_4, gR_225_5, gR_225_6, gR_225_7, gR_225_8, gR_225_9, gR_225_10, gR_225_11, gR_225_12, gR_225_13, gR_225_14, gR_225_15, gR_225_16, gR_225_17, gR_225_18, gR_225_19, gR_225_20, gR_225_21, gR_225_35, gR_225_36, gR_225_38, gR_225_39, gR_225_40, gR_225_41, gR_225_43, gR_225_44, gR_225_45, gR_225_48, gR_225_49, gR_225_50, gR_225_51, gR_225_53, gR_225_54, gR_225_55, gR_225_56, gR_225_58, gR_225_59, gR_225_60, gR_225_61, gR_225_62, gR_225_63, gR_225_66, gR_225_67, bq_n, bd_s, mp_s, rz_0, rz_1, bI_rz, zadd, zmul, zsub, le_nI, lt_nI, eq_nI, neg_nI, gen_nI, neg_lt, neg_le, neg_lt', neg_le', nI_lt0, if_true, if_false, ite_true, ite_false, reduceIte, not_true, not_false, and_true, true_and, and_false, false_and, or_true, true_or, or_false, false_or, eq_self, aI_227, rd_C h, show (nC D ≤ k) = True from eq_true (by omega), minl_v hX hb1 (by decide)]
  | succ i ih =>
    intro k fu hk hf
    obtain ⟨fu, rfl⟩ : ∃ q, fu = q + 1 := ⟨fu - 1, by omega⟩
    have hk' : k < nC D := by omega
    have pb := vb_add jb (vb_smk kb k (by omega))
    have e0 : f_X12_allCome_103_b K65 (f_X12_allCome_103 K65 fu) 225 (nI c) (nI w) (nI m) (iL (lv X)) (nI q) (iL (lv (vadd (cmjT T q w m) (vsm (ch0T p T c w m q) k)))) (nI k) σ = f_X12_allCome_103 K65 fu 225 (nI c) (nI w) (nI m) (iL (lv X)) (nI q) (iL (lv (vadd (cmjT T q w m) (vsm (ch0T p T c w m q) (k + 1))))) (nI (k + 1)) σ := by
      have e2 : vsm (ch0T p T c w m q) (k + 1) = vadd (vsm (ch0T p T c w m q) k) (ch0T p T c w m q k) := rfl
      rw [e2, ← vadd_as]
      unfold f_X12_allCome_103_b f_X12_allCome_147
      simp only [to_bq, l_0, l_1, l_2, l_3, l_4, l_5, l_6, l_7, l_8, l_9, l_10, l_11, l_12, l_13, l_14, l_15, l_16, l_17, l_18, l_19, l_20, l_21, l_22, l_23, l_24, l_25, l_26, l_27, l_28, l_29, l_30, l_31, l_32, l_40, l_41, l_42, l_43, l_44, l_45, l_46, l_47, l_48, l_49, l_50, l_51, l_52, l_53, l_54, l_55, l_56, l_57, l_58, l_59, l_60, l_61, l_62, l_63, l_64, l_72, l_97, l_99, l_100, l_104, l_120, l_122, l_128, l_140, l_255, l_256, l_257, l_258, l_260, l_261, l_262, l_364, l_680, l_700, l_701, l_840, l_999, l_1023, l_1024, l_9999, l_10000, l_1000000, lm]
      simp (disch := first | (with_reducible assumption) | omega | exact ⟨by omega, by omega⟩ | ((with_reducible first | apply Wf.wI | apply Wf.wL | apply Wf.fL | apply Wf.fI | apply Wf.fr); (repeat (with_reducible first | assumption | apply Wf.wI | apply Wf.wL | apply Wf.fL | apply Wf.fI | apply Wf.fr)))) only [ck_225, gI_225, gL_225, pI_225, pZ0_225, pZ1_225, pL_225, gR_225_1, gR_225_3, gR_225_4, gR_225_5, gR_225_6, gR_225_7, gR_225_8, gR_225_9, gR_225_10, gR_225_11, gR_225_12, gR_225_13, gR_225_14, gR_225_15, gR_225_16, gR_225_17, gR_225_18, gR_225_19, gR_225_20, gR_225_21, gR_225_35, gR_225_36, gR_225_38, gR_225_39, gR_225_40, gR_225_41, gR_225_43, gR_225_44, gR_225_45, gR_225_48, gR_225_49, gR_225_50, gR_225_51, gR_225_53, gR_225_54, gR_225_55, gR_225_56, gR_225_58, gR_225_59, gR_225_60, gR_225_61, gR_225_62, gR_225_63, gR_225_66, gR_225_67, bq_n, bd_s, mp_s, rz_0, rz_1, bI_rz, zadd, zmul, zsub, le_nI, lt_nI, eq_nI, neg_nI, gen_nI, neg_lt, neg_le, neg_lt', neg_le', nI_lt0, if_true, if_false, ite_true, ite_false, reduceIte, not_true, not_false, and_true, true_and, and_false, false_and, or_true, true_or, or_false, false_or, eq_self, aI_227, rd_C h, show (nC D ≤ k) = False from eq_false (by omega), m_runsTo h hs hk' hc, bI_0, ite_n]
      by_cases q2 : k = q
      · rw [if_pos q2]
        have : ch0T p T c w m q k = some (0, 0) := by
          unfold ch0T; rw [if_pos (by rw [hp.1, q2]; exact hx), if_pos q2]
        rw [this, vadd_z]
      rw [if_neg q2]
      by_cases q3 : nx D st k = some c
      · have e3 : ch0T p T c w m q k = comT T k w m := by
          unfold ch0T; rw [if_pos (by rw [hp.1]; exact q3), if_neg q2]
        rw [if_pos q3, m_comes hW (by omega) (hr k hk' q3) hw hm, bq_n, m_plus pb ((hr k hk' q3).com hw hm) (by omega), bq_n, e3, zadd]
      · have e3 : ch0T p T c w m q k = some (0, 0) := by
          unfold ch0T; rw [if_neg (by rw [hp.1]; exact q3)]
        rw [if_neg q3, e3, vadd_z]
    show f_X12_allCome_103_b _ _ _ _ _ _ _ _ _ _ _ = _
    rw [e0]
    exact ih (k + 1) fu (by omega) (by omega)
theorem chj_b (hp : dpx p = nx D st ∧ dpn p = nC D) (h7 : nC D ≤ 7) (hr : Kid σ D st T c) (hw : w < 4) (hm : m < 13) (k : Nat) (hk : k ≤ nC D) : vb (vmn (fun q => if dpx p q = some c then ch1T p T c w m q else none) k) 8000000000000000 := by
  refine vb_mn _ (fun q hq => ?_)
  by_cases z : dpx p q = some c
  · rw [if_pos z]
    rw [hp.1] at z
    exact ch1_b hp h7 hr hw hm (by omega) z
  · rw [if_neg z]; exact vb_none _
theorem m_all65 (h : MInv σ D) (hs : StR σ D e st) (hp : dpx p = nx D st ∧ dpn p = nC D) (hc : c < nC D) (hr : Kid σ D st T c) (hw : w < 4) (hm : m < 13) : ∀ i k fu, k + i = nC D → i < fu → f_X12_allCome_65 fu 225 (nI c) (nI w) (nI m) (iL (lv (vmn (fun q => if dpx p q = some c then ch1T p T c w m q else none) k))) (nI k) σ = some (iL (lv (chjT p T c w m)), σ) := by
  have hb := h.bd
  have hW := h.w
  intro i
  induction i with
  | zero =>
    intro k fu hk hf
    obtain ⟨fu, rfl⟩ : ∃ q, fu = q + 1 := ⟨fu - 1, by omega⟩
    show f_X12_allCome_65_b _ _ _ _ _ _ _ _ = _
    unfold f_X12_allCome_65_b
    simp only [to_bq, l_0, l_1, l_2, l_3, l_4, l_5, l_6, l_7, l_8, l_9, l_10, l_11, l_12, l_13, l_14, l_15, l_16, l_17, l_18, l_19, l_20, l_21, l_22, l_23, l_24, l_25, l_26, l_27, l_28, l_29, l_30, l_31, l_32, l_40, l_41, l_42, l_43, l_44, l_45, l_46, l_47, l_48, l_49, l_50, l_51, l_52, l_53, l_54, l_55, l_56, l_57, l_58, l_59, l_60, l_61, l_62, l_63, l_64, l_72, l_97, l_99, l_100, l_104, l_120, l_122, l_128, l_140, l_255, l_256, l_257, l_258, l_260, l_261, l_262, l_364, l_680, l_700, l_701, l_840, l_999, l_1023, l_1024, l_9999, l_10000, l_1000000, lm]
    simp (disch := first | (with_reducible assumption) | omega | exact ⟨by omega, by omega⟩ | ((with_reducible first | apply Wf.wI | apply Wf.wL | apply Wf.fL | apply Wf.fI | apply Wf.fr); (repeat (with_reducible first | assumption | apply Wf.wI | apply Wf.wL | apply Wf.fL | apply Wf.fI | apply Wf.fr)))) only [ck_225, gI_225, gL_225, pI_225, pZ0_225, pZ1_225, pL_225, gR_225_1, gR_225_3, gR_225_4, gR_225_5, gR_225_6, gR_225_7, gR_225_8, gR_225_9, gR_225_10, gR_225_11, gR_225_12, gR_225_13, gR_225_14, gR_225_15, gR_225_16, gR_225_17, gR_225_18, gR_225_19, gR_225_20, gR_225_21, gR_225_35, gR_225_36, gR_225_38, gR_225_39, gR_225_40, gR_225_41, gR_225_43, gR_225_44, gR_225_45, gR_225_48, gR_225_49, gR_225_50, gR_225_51, gR_225_53, gR_225_54, gR_225_55, gR_225_56, gR_225_58, gR_225_59, gR_225_60, gR_225_61, gR_225_62, gR_225_63, gR_225_66, gR_225_67, bq_n, bd_s, mp_s, rz_0, rz_1, bI_rz, zadd, zmul, zsub, le_nI, lt_nI, eq_nI, neg_nI, gen_nI, neg_lt, neg_le, neg_lt', neg_le', nI_lt0, if_true, if_false, ite_true, ite_false, reduceIte, not_true, not_false, and_true, true_and, and_false, false_and, or_true, true_or, or_false, false_or, eq_self, aI_227, rd_C h, show (nC D ≤ k) = True from eq_true (by omega)]
    rw [show k = nC D by omega, ← hp.2]
    rfl
  | succ i ih =>
    intro k fu hk hf
    obtain ⟨fu, rfl⟩ : ∃ q, fu = q + 1 := ⟨fu - 1, by omega⟩
    have hk' : k < nC D := by omega
    have hX := chj_b hp hb.1 hr hw hm k (by omega)
    have e0 : f_X12_allCome_65_b (f_X12_allCome_65 fu) 225 (nI c) (nI w) (nI m) (iL (lv (vmn (fun q => if dpx p q = some c then ch1T p T c w m q else none) k))) (nI k) σ = f_X12_allCome_65 fu 225 (nI c) (nI w) (nI m) (iL (lv (vmn (fun q => if dpx p q = some c then ch1T p T c w m q else none) (k + 1)))) (nI (k + 1)) σ := by
      have e2 : vmn (fun q => if dpx p q = some c then ch1T p T c w m q else none) (k + 1) = vmin (vmn (fun q => if dpx p q = some c then ch1T p T c w m q else none) k) (if dpx p k = some c then ch1T p T c w m k else none) := rfl
      rw [e2]
      unfold f_X12_allCome_65_b f_X12_allCome_162
      simp only [to_bq, l_0, l_1, l_2, l_3, l_4, l_5, l_6, l_7, l_8, l_9, l_10, l_11, l_12, l_13, l_14, l_15, l_16, l_17, l_18, l_19, l_20, l_21, l_22, l_23, l_24, l_25, l_26, l_27, l_28, l_29, l_30, l_31, l_32, l_40, l_41, l_42, l_43, l_44, l_45, l_46, l_47, l_48, l_49, l_50, l_51, l_52, l_53, l_54, l_55, l_56, l_57, l_58, l_59, l_60, l_61, l_62, l_63, l_64, l_72, l_97, l_99, l_100, l_104, l_120, l_122, l_128, l_140, l_255, l_256, l_257, l_258, l_260, l_261, l_262, l_364, l_680, l_700, l_701, l_840, l_999, l_1023, l_1024, l_9999, l_10000, l_1000000, lm]
      simp (disch := first | (with_reducible assumption) | omega | exact ⟨by omega, by omega⟩ | ((with_reducible first | apply Wf.wI | apply Wf.wL | apply Wf.fL | apply Wf.fI | apply Wf.fr); (repeat (with_reducible first | assumption | apply Wf.wI | apply Wf.wL | apply Wf.fL | apply Wf.fI | apply Wf.fr)))) only [ck_225, gI_225, gL_225, pI_225, pZ0_225, pZ1_225, pL_225, gR_225_1, gR_225_3, gR_225_4, gR_225_5, gR_225_6, gR_225_7, gR_225_8, gR_225_9, gR_225_10, gR_225_11, gR_225_12, gR_225_13, gR_225_14, gR_225_15, gR_225_16, gR_225_17, gR_225_18, gR_225_19, gR_225_20, gR_225_21, gR_225_35, gR_225_36, gR_225_38, gR_225_39, gR_225_40, gR_225_41, gR_225_43, gR_225_44, gR_225_45, gR_225_48, gR_225_49, gR_225_50, gR_225_51, gR_225_53, gR_225_54, gR_225_55, gR_225_56, gR_225_58, gR_225_59, gR_225_60, gR_225_61, gR_225_62, gR_225_63, gR_225_66, gR_225_67, bq_n, bd_s, mp_s, rz_0, rz_1, bI_rz, zadd, zmul, zsub, le_nI, lt_nI, eq_nI, neg_nI, gen_nI, neg_lt, neg_le, neg_lt', neg_le', nI_lt0, if_true, if_false, ite_true, ite_false, reduceIte, not_true, not_false, and_true, true_and, and_false, false_and, or_true, true_or, or_false, false_or, eq_self, aI_227, rd_C h, show (nC D ≤ k) = False from eq_false (by omega), m_runsTo h hs hk' hc, bI_0, ite_n]
      by_cases q : nx D st k = some c
      · rw [if_pos q, m_comesj hW (by omega) (hr k hk' q) hw hm, bq_n, if_pos (by rw [hp.1]; exact q)]
        have := m_all103 (K65 := f_X12_allCome_65 fu) h hs hp hc hr hw hm hk' q hX (nC D) 0 5000 (by omega) (by omega)
        rw [show vadd (cmjT T k w m) (vsm (ch0T p T c w m k) 0) = cmjT T k w m from vadd_z _] at this
        exact this
      · rw [if_neg q, if_neg (by rw [hp.1]; exact q), vmin_n]
    show f_X12_allCome_65_b _ _ _ _ _ _ _ _ = _
    rw [e0]
    exact ih (k + 1) fu (by omega) (by omega)
theorem m_all1 (h : MInv σ D) (hs : StR σ D e st) (hp : dpx p = nx D st ∧ dpn p = nC D) (hc : c < nC D) (hr : Kid σ D st T c) (hw : w < 4) (hm : m < 13) : f_X12_allCome 225 (nI c) (nI w) (nI m) (nI 1) σ = some (iL (lv (chjT p T c w m)), σ) := by
  have hb := h.bd
  unfold f_X12_allCome f_X12_allCome_0
  rw [ck_225 h.w]
  refine (m_all6 h hs hp hc hr hw hm (nI 1) (nC D) 0 5000 (by omega) (by omega)).trans ?_
  unfold f_X12_allCome_49
  simp only [to_bq, l_0, l_1, l_2, l_3, l_4, l_5, l_6, l_7, l_8, l_9, l_10, l_11, l_12, l_13, l_14, l_15, l_16, l_17, l_18, l_19, l_20, l_21, l_22, l_23, l_24, l_25, l_26, l_27, l_28, l_29, l_30, l_31, l_32, l_40, l_41, l_42, l_43, l_44, l_45, l_46, l_47, l_48, l_49, l_50, l_51, l_52, l_53, l_54, l_55, l_56, l_57, l_58, l_59, l_60, l_61, l_62, l_63, l_64, l_72, l_97, l_99, l_100, l_104, l_120, l_122, l_128, l_140, l_255, l_256, l_257, l_258, l_260, l_261, l_262, l_364, l_680, l_700, l_701, l_840, l_999, l_1023, l_1024, l_9999, l_10000, l_1000000, lm]
  rw [if_neg (by decide)]
  exact m_all65 h hs hp hc hr hw hm (nC D) 0 5000 (by omega) (by omega)
end
