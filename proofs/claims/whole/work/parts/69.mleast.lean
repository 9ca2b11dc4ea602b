/-! THE REFERENCE: the least of a tree -/
section
variable {σ : ah_H} {D : DD} {T : Tbl} {e c s : Nat} {st : Nat → Option Nat} {p : DPr} {Q : Nat → Int} {F1 F2 F3 : Nat → Int32} {ky : Nat → Nat → Nat → Nat → Nat}
theorem m_lay2 (hc : c < 7) : ∀ i k fu τ, k + i = 52 → i < fu → Wf τ → Fr (Xlc c) σ τ → (∀ j, j < k → ah_L τ 264 (c * 52 + j) = iL 4000000000000000000) → ∃ τ', f_X12_layCorner_2 fu 225 (nI c) (nI k) τ = f_X12_layCorner_30 225 (nI c) τ' ∧ Fr (Xlc c) σ τ' ∧ RowG τ' c (fun _ _ => none) := by
  intro i
  induction i with
  | zero =>
    intro k fu τ hk hf hW g hr
    obtain ⟨fu, rfl⟩ : ∃ q, fu = q + 1 := ⟨fu - 1, by omega⟩
    refine ⟨τ, ?_, g, fun v b hv hb => ⟨?_, vb_none _⟩⟩
    · show f_X12_layCorner_2_b _ _ _ _ _ = _
      unfold f_X12_layCorner_2_b
      simp only [to_bq, l_0, l_1, l_2, l_3, l_4, l_5, l_6, l_7, l_8, l_9, l_10, l_11, l_12, l_13, l_14, l_15, l_16, l_17, l_18, l_19, l_20, l_21, l_22, l_23, l_24, l_25, l_26, l_27, l_28, l_29, l_30, l_31, l_32, l_40, l_41, l_42, l_43, l_44, l_45, l_46, l_47, l_48, l_49, l_50, l_51, l_52, l_53, l_54, l_55, l_56, l_57, l_58, l_59, l_60, l_61, l_62, l_63, l_64, l_72, l_97, l_99, l_100, l_104, l_120, l_122, l_128, l_140, l_255, l_256, l_257, l_258, l_260, l_261, l_262, l_364, l_680, l_700, l_701, l_840, l_999, l_1023, l_1024, l_9999, l_10000, l_1000000, lm]
      rw [if_pos (by rw [le_nI (by omega) (by omega)]; omega)]
    · have := hr (v * 13 + b) (by omega)
      rw [show (c * 4 + v) * 13 + b = c * 52 + (v * 13 + b) by omega]
      exact this
  | succ i ih =>
    intro k fu τ hk hf hW g hr
    obtain ⟨fu, rfl⟩ : ∃ q, fu = q + 1 := ⟨fu - 1, by omega⟩
    have he : f_X12_layCorner_2 (fu + 1) 225 (nI c) (nI k) τ = f_X12_layCorner_2 fu 225 (nI c) (nI (k + 1)) (ah_wL τ 264 (c * 52 + k) (iL 4000000000000000000)) := by
      show f_X12_layCorner_2_b _ _ _ _ _ = _
      unfold f_X12_layCorner_2_b f_X12_atLeast f_X12_atLeast_0
      simp only [to_bq, l_0, l_1, l_2, l_3, l_4, l_5, l_6, l_7, l_8, l_9, l_10, l_11, l_12, l_13, l_14, l_15, l_16, l_17, l_18, l_19, l_20, l_21, l_22, l_23, l_24, l_25, l_26, l_27, l_28, l_29, l_30, l_31, l_32, l_40, l_41, l_42, l_43, l_44, l_45, l_46, l_47, l_48, l_49, l_50, l_51, l_52, l_53, l_54, l_55, l_56, l_57, l_58, l_59, l_60, l_61, l_62, l_63, l_64, l_72, l_97, l_99, l_100, l_104, l_120, l_122, l_128, l_140, l_255, l_256, l_257, l_258, l_260, l_261, l_262, l_364, l_680, l_700, l_701, l_840, l_999, l_1023, l_1024, l_9999, l_10000, l_1000000, lm]
      rw [if_neg (by rw [le_nI (by omega) (by omega)]; omega)]
      simp (disch := first | (with_reducible assumption) | omega | exact ⟨by omega, by omega⟩ | ((with_reducible first | apply Wf.wI | apply Wf.wL | apply Wf.fL | apply Wf.fI | apply Wf.fr); (repeat (with_reducible first | assumption | apply Wf.wI | apply Wf.wL | apply Wf.fL | apply Wf.fI | apply Wf.fr)))) only [ck_225, gI_225, gL_225, pI_225, pZ0_225, pZ1_225, pL_225, gR_225_1, gR_225_3, gR_225_4, gR_225_5, gR_225_6, gR_225_7, gR_225_8, gR_225_9, gR_225_10, gR_225_11, gR_225_12, gR_225_13, gR_225_14, gR_225_15, gR_225_16, gR_225_17, gR_225_18, gR_225_19, gR_225_20, gR_225_21, gR_225_35, gR_225_36, gR_225_38, gR_225_39, gR_225_40, gR_225_41, gR_225_43, gR_225_44, gR_225_45, gR_225_48, gR_225_49, gR_225_50, gR_225_51, gR_225_53, gR_225_54, gR_225_55, gR_225_56, gR_225_58, gR_225_59, gR_225_60, gR_225_61, gR_225_62, gR_225_63, gR_225_66, gR_225_67, bq_n, bd_s, mp_s, rz_0, rz_1, bI_rz, zadd, zmul, zsub, le_nI, lt_nI, eq_nI, neg_nI, gen_nI, neg_lt, neg_le, neg_lt', neg_le', nI_lt0, if_true, if_false, ite_true, ite_false, reduceIte, not_true, not_false, and_true, true_and, and_false, false_and, or_true, true_or, or_false, false_or, eq_self, q_4000000000000000000, aL_264, sL_264, len_264]
      rw [show (c * 4 + 0) * 13 + 0 + k = c * 52 + k by omega]
    rw [he]
    refine ih (k + 1) fu _ (by omega) (by omega) (hW.wL _ _ _) (g.wL (Or.inr ⟨rfl, by omega, by omega⟩)) (fun j hj => ?_)
    by_cases q : j = k
    · rw [q, rL_eq]
    · rw [rL_ne (by omega)]; exact hr j (by omega)
theorem m_layCorner (h : LyC σ D e st p T Q F1 F2 F3 ky c s) : ∃ τ, f_X12_layCorner 225 (nI c) σ = some τ ∧ Fr (Xlc c) σ τ ∧ RowG τ c (layT p T c) := by
  have hb := h.1.bd
  have hc := h.2.2.2.2.1
  obtain ⟨τ, e1, e2, e3⟩ := m_lay2 (σ := σ) (c := c) (by omega) 52 0 5000 σ (by omega) (by omega) h.1.w Fr.rfl (fun j hj => by omega)
  have h' := h.fr e2
  obtain ⟨τ', f1, f2, f3⟩ := m_lay38 h (nP D) 0 5000 τ (by omega) (by omega) e2 (e3.cg (fun v b _ _ => by
    unfold layG
    rw [if_neg (by omega)]
    by_cases q : v = 0
    · rw [if_pos q]; rfl
    · rw [if_neg q]))
  refine ⟨τ', ?_, f2, f3⟩
  unfold f_X12_layCorner f_X12_layCorner_0
  simp only [to_bq, l_0, l_1, l_2, l_3, l_4, l_5, l_6, l_7, l_8, l_9, l_10, l_11, l_12, l_13, l_14, l_15, l_16, l_17, l_18, l_19, l_20, l_21, l_22, l_23, l_24, l_25, l_26, l_27, l_28, l_29, l_30, l_31, l_32, l_40, l_41, l_42, l_43, l_44, l_45, l_46, l_47, l_48, l_49, l_50, l_51, l_52, l_53, l_54, l_55, l_56, l_57, l_58, l_59, l_60, l_61, l_62, l_63, l_64, l_72, l_97, l_99, l_100, l_104, l_120, l_122, l_128, l_140, l_255, l_256, l_257, l_258, l_260, l_261, l_262, l_364, l_680, l_700, l_701, l_840, l_999, l_1023, l_1024, l_9999, l_10000, l_1000000, lm]
  rw [ck_225 h.1.w, e1]
  unfold f_X12_layCorner_30
  simp only [to_bq, l_0, l_1, l_2, l_3, l_4, l_5, l_6, l_7, l_8, l_9, l_10, l_11, l_12, l_13, l_14, l_15, l_16, l_17, l_18, l_19, l_20, l_21, l_22, l_23, l_24, l_25, l_26, l_27, l_28, l_29, l_30, l_31, l_32, l_40, l_41, l_42, l_43, l_44, l_45, l_46, l_47, l_48, l_49, l_50, l_51, l_52, l_53, l_54, l_55, l_56, l_57, l_58, l_59, l_60, l_61, l_62, l_63, l_64, l_72, l_97, l_99, l_100, l_104, l_120, l_122, l_128, l_140, l_255, l_256, l_257, l_258, l_260, l_261, l_262, l_364, l_680, l_700, l_701, l_840, l_999, l_1023, l_1024, l_9999, l_10000, l_1000000, lm]
  rw [m_streetOf h'.1 h'.2.1 hc, bq_n, h.2.2.2.2.2.1]
  exact f1
/-- all that the least of a tree rests on -/
def LsC (σ : ah_H) (D : DD) (st : Nat → Option Nat) (p : DPr) (Q : Nat → Int) (F1 F2 F3 : Nat → Int32) (ky : Nat → Nat → Nat → Nat → Nat) (r : Nat) (dp : Nat → Nat) : Prop := MInv σ D ∧ StR σ D 1 st ∧ Pq p D st Q ∧ dpo p = own D st Q F1 F2 F3 ky ∧ r < nC D ∧ (∀ c, c < nC D → c ≠ r → ∃ s, st c = some s) ∧ st r = none ∧ (∀ c, c < nC D → Qr σ Q c) ∧ (∀ c, c < nC D → ah_I σ 266 c = F1 c ∧ ah_I σ 267 c = F2 c ∧ ah_I σ 268 c = F3 c) ∧ (∀ c, c < nC D → ah_I σ 263 c = nI (dp c) ∧ dp c < nC D ∧ (dp c = 0 ↔ c = r) ∧ ∀ k, nx D st c = some k → dp c = dp k + 1)
def Xlo (a j : Nat) : Prop := Xv a j ∨ a = 264
theorem Xlo_q : ∀ a j, Xlo a j → Xq a j := by
  intro a j h
  rcases h with h | h
  · exact Xv_q a j h
  · unfold Xq; omega
theorem Xlc_o : ∀ a j, Xlc c a j → Xlo a j := fun _ _ h => h.elim Or.inl (fun z => Or.inr z.1)
variable {r : Nat} {dp : Nat → Nat}
theorem LsC.fr {τ : ah_H} (h : LsC σ D st p Q F1 F2 F3 ky r dp) (g : Fr Xlo σ τ) : LsC τ D st p Q F1 F2 F3 ky r dp := by
  obtain ⟨h1, h2, h3, h4, h5, h6, h7, h8, h9, h10⟩ := h
  have hx : ∀ a j, a ≠ 264 → ¬ Xv a j → ¬ Xlo a j := fun a j q1 q2 z => z.elim q2 (fun z => q1 z)
  refine ⟨h1.q (g.mono Xlo_q), h2.fr g h1.bd.1 (hx _ _ (by omega) (by unfold Xv; omega)) (fun j _ => hx _ _ (by omega) (by unfold Xv; omega)), h3, h4, h5, h6, h7, fun c hc => ⟨by rw [g.L (hx _ _ (by omega) (by unfold Xv; omega))]; exact (h8 c hc).1, (h8 c hc).2⟩, fun c hc => ?_, fun c hc => ?_⟩
  · rw [g.I (hx _ _ (by omega) (by unfold Xv; omega)), g.I (hx _ _ (by omega) (by unfold Xv; omega)), g.I (hx _ _ (by omega) (by unfold Xv; omega))]
    exact h9 c hc
  · rw [g.I (hx _ _ (by omega) (by unfold Xv; omega))]
    exact h10 c hc
theorem LsC.nxl (h : LsC σ D st p Q F1 F2 F3 ky r dp) : ∀ c k, c < dpn p → dpx p c = some k → k < dpn p := by
  rw [h.2.2.1.1.1, h.2.2.1.1.2]
  exact h.2.1.nxl h.1.t
theorem LsC.hd (h : LsC σ D st p Q F1 F2 F3 ky r dp) {c : Nat} (hc : c < nC D) : Hd (dpx p) (dpn p) (nC D) c := by
  have hn := h.nxl
  rw [h.2.2.1.1.1, h.2.2.1.1.2] at hn ⊢
  refine (Rg_or hn hc).resolve_left ?_
  rintro ⟨k, hk, hi⟩
  have key : ∀ j x y, x < nC D → itn (nx D st) j x = some y → dp x = dp y + j := by
    intro j
    induction j with
    | zero => intro x y hx hy; rw [show x = y from Option.some.inj hy]; rfl
    | succ j ih =>
      intro x y hx hy
      have hy : (nx D st x).bind (itn (nx D st) j) = some y := hy
      cases e : nx D st x with
      | none => rw [e] at hy; cases hy
      | some z =>
        rw [e] at hy
        have h1 := (h.2.2.2.2.2.2.2.2.2 x hx).2.2.2 z e
        have h2 := ih z y (hn x z hx e) hy
        omega
  have := key (k + 1) c c hc hi
  omega
/-- its table -/
def Tw (p : DPr) (D : DD) : Tbl := lw p (nC D)
theorem LsC.tn (h : LsC σ D st p Q F1 F2 F3 ky r dp) {c : Nat} (hc : c < nC D) (v b : Nat) : layT p (Tw p D) c v b = Tw p D c v b :=
  lw_st (p := p) (nC D + 1) (nC D) c (Hd_s (h.hd hc)) (h.hd hc) v b
theorem LsC.tb (h : LsC σ D st p Q F1 F2 F3 ky r dp) {c : Nat} (hc : c < nC D) (v b : Nat) : vb (Tw p D c v b) 1000000000000000 := by
  have hb := h.1.bd
  have h1 := lw_b (p := p) (U1 := 99000000009801) (U2 := 1000000000000) h.nxl (fun c hc w a b => by
    rw [h.2.2.2.1]
    rw [h.2.2.1.1.2] at hc
    exact own_b h.1.t (fun s hs => (h.2.1.2.2 c hc).2 s hs)) (fun c k hc hk => by
    rw [h.2.2.1.2.2]
    rw [h.2.2.1.1.2] at hc
    rw [h.2.2.1.2.1] at hk
    exact pmv_b h.1.t (h.2.2.2.2.2.2.2.1 c hc).2 (by omega)) (nC D) c (by rw [h.2.2.1.1.2]; exact hc) (h.hd hc) v b
  have h2 := sub_le (nx := dpx p) (n := dpn p) (fun _ => 99000000009801 + 1000000000000) c (B := 100000000009801) (fun _ _ => by omega)
  rw [h.2.2.1.1.2] at h2
  refine vb_mono h1 (Nat.le_trans (by rw [h.2.2.1.1.2]; exact h2) ?_)
  omega
/-- how much a corner comes to -/
def topT (D : DD) (p : DPr) (T : Tbl) : VV := if nC D = 1 then some (0, 0) else if hgt D (riv D) < lev D then none else chsT p T (riv D) 3 (min (mc D) (hgt D (riv D) - lev D))
theorem m_ls47 (h : LsC σ D st p Q F1 F2 F3 ky r dp) (hr4 : D 227 4 ≠ mI 1) (hr : r = riv D) (hk : Kid σ D st T r) : f_X12_leastOf_47 225 (nI (nC D)) σ = some (iL (lv (topT D p T)), σ) := by
  have hb := h.1.bd
  have hW := h.1.w
  obtain ⟨e1, e2, e3, e4⟩ := h.1.t.rv hr4
  have r1 := rd_riv h.1
  rw [e1] at r1
  have r2 := rd_lev h.1
  rw [e3] at r2
  have b1 := h.1.t.qhgt9 e2
  unfold f_X12_leastOf_47 topT
  simp only [to_bq, l_0, l_1, l_2, l_3, l_4, l_5, l_6, l_7, l_8, l_9, l_10, l_11, l_12, l_13, l_14, l_15, l_16, l_17, l_18, l_19, l_20, l_21, l_22, l_23, l_24, l_25, l_26, l_27, l_28, l_29, l_30, l_31, l_32, l_40, l_41, l_42, l_43, l_44, l_45, l_46, l_47, l_48, l_49, l_50, l_51, l_52, l_53, l_54, l_55, l_56, l_57, l_58, l_59, l_60, l_61, l_62, l_63, l_64, l_72, l_97, l_99, l_100, l_104, l_120, l_122, l_128, l_140, l_255, l_256, l_257, l_258, l_260, l_261, l_262, l_364, l_680, l_700, l_701, l_840, l_999, l_1023, l_1024, l_9999, l_10000, l_1000000, lm]
  simp (disch := first | (with_reducible assumption) | omega | exact ⟨by omega, by omega⟩ | ((with_reducible first | apply Wf.wI | apply Wf.wL | apply Wf.fL | apply Wf.fI | apply Wf.fr); (repeat (with_reducible first | assumption | apply Wf.wI | apply Wf.wL | apply Wf.fL | apply Wf.fI | apply Wf.fr)))) only [ck_225, gI_225, gL_225, pI_225, pZ0_225, pZ1_225, pL_225, gR_225_1, gR_225_3, gR_225_4, gR_225_5, gR_225_6, gR_225_7, gR_225_8, gR_225_9, gR_225_10, gR_225_11, gR_225_12, gR_225_13, gR_225_14, gR_225_15, gR_225_16, gR_225_17, gR_225_18, gR_225_19, gR_225_20, gR_225_21, gR_225_35, gR_225_36, gR_225_38, gR_225_39, gR_225_40, gR_225_41, gR_225_43, gR_225_44, gR_225_45, gR_225_48, gR_225_49, gR_225_50, gR_225_51, gR_225_53, gR_225_54, gR_225_55, gR_225_56, gR_225_58, gR_225_59, gR_225_60, gR_225_61, gR_225_62, gR_225_63, gR_225_66, gR_225_67, bq_n, bd_s, mp_s, rz_0, rz_1, bI_rz, if_true, if_false, ite_true, ite_false, reduceIte, not_true, not_false, and_true, true_and, and_false, false_and, or_true, true_or, or_false, false_or, eq_self, aI_227, r1, r2, rd_mc h.1, aI_229, rd_hgt h.1 e2, eq_nI, q_0, q_4000000000000000000]
  by_cases q : nC D = 1
  · rw [if_pos q, if_pos q]; rfl
  rw [if_neg q, if_neg q]
  have em : op_mini (nI (mc D)) (nI (hgt D (riv D)) - nI (lev D)) = jI (min (mc D : Int) ((hgt D (riv D) : Int) - lev D)) := by
    rw [jI_n, jI_n, jI_n, jsub, mini_j ⟨by omega, by omega⟩ ⟨by omega, by omega⟩]
  rw [em]
  by_cases q2 : hgt D (riv D) < lev D
  · rw [if_neg (by rw [jI_n, jle ⟨by omega, by omega⟩ ⟨by omega, by omega⟩]; omega), if_pos q2]; rfl
  · rw [if_pos (by rw [jI_n, jle ⟨by omega, by omega⟩ ⟨by omega, by omega⟩]; omega), if_neg q2]
    rw [show jI (min (mc D : Int) ((hgt D (riv D) : Int) - lev D)) = nI (min (mc D) (hgt D (riv D) - lev D)) by rw [jI_n]; congr 1; omega]
    rw [hr] at hk
    rw [m_all0 h.1 h.2.1 h.2.2.1.1 e2 hk (by omega) (by omega), bq_n]
/-- one round of the corners that lie so far -/
theorem m_ls15 {K9 : Nat → Int32 → Int32 → ah_H → Option (Int64 × ah_H)} (h0 : LsC σ D st p Q F1 F2 F3 ky r dp) {d : Nat} (hd : 1 ≤ d) (hd2 : d < 100) : ∀ i k fu τ, k + i = nC D → i < fu → Fr Xlo σ τ → (∀ c, c < nC D → (d < dp c ∨ dp c = d ∧ c < k) → RowT τ (Tw p D) c) → ∃ τ', f_X12_leastOf_15 K9 fu 225 (nI (nC D)) (nI d) (nI k) τ = K9 225 (nI (nC D)) (nI (d - 1)) τ' ∧ Fr Xlo σ τ' ∧ (∀ c, c < nC D → d ≤ dp c → RowT τ' (Tw p D) c) := by
  have hb := h0.1.bd
  intro i
  induction i with
  | zero =>
    intro k fu τ hk hf g hr
    obtain ⟨fu, rfl⟩ : ∃ q, fu = q + 1 := ⟨fu - 1, by omega⟩
    refine ⟨τ, ?_, g, fun c hc hdc => hr c hc (by omega)⟩
    show f_X12_leastOf_15_b _ _ _ _ _ _ _ = _
    unfold f_X12_leastOf_15_b f_X12_leastOf_41
    simp only [to_bq, l_0, l_1, l_2, l_3, l_4, l_5, l_6, l_7, l_8, l_9, l_10, l_11, l_12, l_13, l_14, l_15, l_16, l_17, l_18, l_19, l_20, l_21, l_22, l_23, l_24, l_25, l_26, l_27, l_28, l_29, l_30, l_31, l_32, l_40, l_41, l_42, l_43, l_44, l_45, l_46, l_47, l_48, l_49, l_50, l_51, l_52, l_53, l_54, l_55, l_56, l_57, l_58, l_59, l_60, l_61, l_62, l_63, l_64, l_72, l_97, l_99, l_100, l_104, l_120, l_122, l_128, l_140, l_255, l_256, l_257, l_258, l_260, l_261, l_262, l_364, l_680, l_700, l_701, l_840, l_999, l_1023, l_1024, l_9999, l_10000, l_1000000, lm]
    rw [if_pos (by rw [le_nI (by omega) (by omega)]; omega)]
    rw [show nI d + mI 1 = nI (d - 1) by rw [jI_n, jI_m, jadd, jI_n]; congr 1; omega]
  | succ i ih =>
    intro k fu τ hk hf g hr
    obtain ⟨fu, rfl⟩ : ∃ q, fu = q + 1 := ⟨fu - 1, by omega⟩
    have h := h0.fr g
    have hW := h.1.w
    have hk' : k < nC D := by omega
    obtain ⟨f1, f2, f3, f4⟩ := h.2.2.2.2.2.2.2.2.2 k hk'
    show ∃ τ', f_X12_leastOf_15_b K9 (f_X12_leastOf_15 K9 fu) 225 (nI (nC D)) (nI d) (nI k) τ = _ ∧ _
    by_cases q : dp k = d
    · have hkr : k ≠ r := fun z => by have := f3.mpr z; omega
      obtain ⟨s, hs⟩ := h.2.2.2.2.2.1 k hk' hkr
      have ly : LyC τ D 1 st p (Tw p D) Q F1 F2 F3 ky k s := by
        refine ⟨h.1, h.2.1, h.2.2.1, h.2.2.2.1, hk', hs, fun o ho hox => hr o ho (Or.inl ?_), h.2.2.2.2.2.2.2.1 k hk', h.2.2.2.2.2.2.2.2.1 k hk'⟩
        have := (h.2.2.2.2.2.2.2.2.2 o ho).2.2.2 k hox
        omega
      obtain ⟨τ', e1, e2, e3⟩ := m_layCorner ly
      have he : f_X12_leastOf_15_b K9 (f_X12_leastOf_15 K9 fu) 225 (nI (nC D)) (nI d) (nI k) τ = f_X12_leastOf_15 K9 fu 225 (nI (nC D)) (nI d) (nI (k + 1)) τ' := by
        unfold f_X12_leastOf_15_b f_X12_leastOf_35
        simp only [to_bq, l_0, l_1, l_2, l_3, l_4, l_5, l_6, l_7, l_8, l_9, l_10, l_11, l_12, l_13, l_14, l_15, l_16, l_17, l_18, l_19, l_20, l_21, l_22, l_23, l_24, l_25, l_26, l_27, l_28, l_29, l_30, l_31, l_32, l_40, l_41, l_42, l_43, l_44, l_45, l_46, l_47, l_48, l_49, l_50, l_51, l_52, l_53, l_54, l_55, l_56, l_57, l_58, l_59, l_60, l_61, l_62, l_63, l_64, l_72, l_97, l_99, l_100, l_104, l_120, l_122, l_128, l_140, l_255, l_256, l_257, l_258, l_260, l_261, l_262, l_364, l_680, l_700, l_701, l_840, l_999, l_1023, l_1024, l_9999, l_10000, l_1000000, lm]
        rw [if_neg (by rw [le_nI (by omega) (by omega)]; omega)]
        simp (disch := first | (with_reducible assumption) | omega | exact ⟨by omega, by omega⟩ | ((with_reducible first | apply Wf.wI | apply Wf.wL | apply Wf.fL | apply Wf.fI | apply Wf.fr); (repeat (with_reducible first | assumption | apply Wf.wI | apply Wf.wL | apply Wf.fL | apply Wf.fI | apply Wf.fr)))) only [ck_225, gI_225, gL_225, pI_225, pZ0_225, pZ1_225, pL_225, gR_225_1, gR_225_3, gR_225_4, gR_225_5, gR_225_6, gR_225_7, gR_225_8, gR_225_9, gR_225_10, gR_225_11, gR_225_12, gR_225_13, gR_225_14, gR_225_15, gR_225_16, gR_225_17, gR_225_18, gR_225_19, gR_225_20, gR_225_21, gR_225_35, gR_225_36, gR_225_38, gR_225_39, gR_225_40, gR_225_41, gR_225_43, gR_225_44, gR_225_45, gR_225_48, gR_225_49, gR_225_50, gR_225_51, gR_225_53, gR_225_54, gR_225_55, gR_225_56, gR_225_58, gR_225_59, gR_225_60, gR_225_61, gR_225_62, gR_225_63, gR_225_66, gR_225_67, bq_n, bd_s, mp_s, rz_0, rz_1, bI_rz, zadd, zmul, zsub, le_nI, lt_nI, eq_nI, neg_nI, gen_nI, neg_lt, neg_le, neg_lt', neg_le', nI_lt0, if_true, if_false, ite_true, ite_false, reduceIte, not_true, not_false, and_true, true_and, and_false, false_and, or_true, true_or, or_false, false_or, eq_self, aI_263, sI_263, len_263, f1, q, e1]
      rw [he]
      refine ih (k + 1) fu τ' (by omega) (by omega) (g.trans (e2.mono Xlc_o)) (fun c hc hx v b hv hb2 => ?_)
      by_cases qc : c = k
      · subst qc
        obtain ⟨g1, g2⟩ := e3 v b hv hb2
        rw [h0.tn hc] at g1
        exact ⟨g1, h0.tb hc v b⟩
      · rw [e2.L (by unfold Xlc Xv; omega)]
        exact hr c hc (by omega) v b hv hb2
    · have he : f_X12_leastOf_15_b K9 (f_X12_leastOf_15 K9 fu) 225 (nI (nC D)) (nI d) (nI k) τ = f_X12_leastOf_15 K9 fu 225 (nI (nC D)) (nI d) (nI (k + 1)) τ := by
        unfold f_X12_leastOf_15_b f_X12_leastOf_35
        simp only [to_bq, l_0, l_1, l_2, l_3, l_4, l_5, l_6, l_7, l_8, l_9, l_10, l_11, l_12, l_13, l_14, l_15, l_16, l_17, l_18, l_19, l_20, l_21, l_22, l_23, l_24, l_25, l_26, l_27, l_28, l_29, l_30, l_31, l_32, l_40, l_41, l_42, l_43, l_44, l_45, l_46, l_47, l_48, l_49, l_50, l_51, l_52, l_53, l_54, l_55, l_56, l_57, l_58, l_59, l_60, l_61, l_62, l_63, l_64, l_72, l_97, l_99, l_100, l_104, l_120, l_122, l_128, l_140, l_255, l_256, l_257, l_258, l_260, l_261, l_262, l_364, l_680, l_700, l_701, l_840, l_999, l_1023, l_1024, l_9999, l_10000, l_1000000, lm]
        rw [if_neg (by rw [le_nI (by omega) (by omega)]; omega)]
        simp (disch := first | (with_reducible assumption) | omega | exact ⟨by omega, by omega⟩ | ((with_reducible first | apply Wf.wI | apply Wf.wL | apply Wf.fL | apply Wf.fI | apply Wf.fr); (repeat (with_reducible first | assumption | apply Wf.wI | apply Wf.wL | apply Wf.fL | apply Wf.fI | apply Wf.fr)))) only [ck_225, gI_225, gL_225, pI_225, pZ0_225, pZ1_225, pL_225, gR_225_1, gR_225_3, gR_225_4, gR_225_5, gR_225_6, gR_225_7, gR_225_8, gR_225_9, gR_225_10, gR_225_11, gR_225_12, gR_225_13, gR_225_14, gR_225_15, gR_225_16, gR_225_17, gR_225_18, gR_225_19, gR_225_20, gR_225_21, gR_225_35, gR_225_36, gR_225_38, gR_225_39, gR_225_40, gR_225_41, gR_225_43, gR_225_44, gR_225_45, gR_225_48, gR_225_49, gR_225_50, gR_225_51, gR_225_53, gR_225_54, gR_225_55, gR_225_56, gR_225_58, gR_225_59, gR_225_60, gR_225_61, gR_225_62, gR_225_63, gR_225_66, gR_225_67, bq_n, bd_s, mp_s, rz_0, rz_1, bI_rz, zadd, zmul, zsub, le_nI, lt_nI, eq_nI, neg_nI, gen_nI, neg_lt, neg_le, neg_lt', neg_le', nI_lt0, if_true, if_false, ite_true, ite_false, reduceIte, not_true, not_false, and_true, true_and, and_false, false_and, or_true, true_or, or_false, false_or, eq_self, aI_263, sI_263, len_263, f1, q]
      rw [he]
      refine ih (k + 1) fu τ (by omega) (by omega) g (fun c hc hx => hr c hc ?_)
      rcases hx with hx | ⟨hx, hx2⟩
      · exact Or.inl hx
      · refine Or.inr ⟨hx, ?_⟩
        by_cases qc : c = k
        · rw [qc] at hx; exact absurd hx q
        · omega
theorem m_ls9 (h0 : LsC σ D st p Q F1 F2 F3 ky r dp) (hr4 : D 227 4 ≠ mI 1) (hr : r = riv D) : ∀ d fu τ, d < fu → d < 100 → Fr Xlo σ τ → (∀ c, c < nC D → d < dp c → RowT τ (Tw p D) c) → ∃ τ', f_X12_leastOf_9 fu 225 (nI (nC D)) (nI d) τ = some (iL (lv (topT D p (Tw p D))), τ') ∧ Fr Xlo σ τ' := by
  have hb := h0.1.bd
  intro d
  induction d with
  | zero =>
    intro fu τ hf _ g hrow
    obtain ⟨fu, rfl⟩ : ∃ q, fu = q + 1 := ⟨fu - 1, by omega⟩
    have h := h0.fr g
    refine ⟨τ, ?_, g⟩
    show f_X12_leastOf_9_b _ _ _ _ _ = _
    unfold f_X12_leastOf_9_b
    simp only [to_bq, l_0, l_1, l_2, l_3, l_4, l_5, l_6, l_7, l_8, l_9, l_10, l_11, l_12, l_13, l_14, l_15, l_16, l_17, l_18, l_19, l_20, l_21, l_22, l_23, l_24, l_25, l_26, l_27, l_28, l_29, l_30, l_31, l_32, l_40, l_41, l_42, l_43, l_44, l_45, l_46, l_47, l_48, l_49, l_50, l_51, l_52, l_53, l_54, l_55, l_56, l_57, l_58, l_59, l_60, l_61, l_62, l_63, l_64, l_72, l_97, l_99, l_100, l_104, l_120, l_122, l_128, l_140, l_255, l_256, l_257, l_258, l_260, l_261, l_262, l_364, l_680, l_700, l_701, l_840, l_999, l_1023, l_1024, l_9999, l_10000, l_1000000, lm]
    rw [if_pos (by decide)]
    refine m_ls47 h hr4 hr (fun o ho hox => hrow o ho ?_)
    have := (h.2.2.2.2.2.2.2.2.2 o ho).2.2.2 r hox
    omega
  | succ d ih =>
    intro fu τ hf hd g hrow
    obtain ⟨fu, rfl⟩ : ∃ q, fu = q + 1 := ⟨fu - 1, by omega⟩
    obtain ⟨τ', e1, e2, e3⟩ := m_ls15 (K9 := f_X12_leastOf_9 fu) h0 (d := d + 1) (by omega) (by omega) (nC D) 0 5000 τ (by omega) (by omega) g (fun c hc hx => hrow c hc (by omega))
    have he : f_X12_leastOf_9 (fu + 1) 225 (nI (nC D)) (nI (d + 1)) τ = f_X12_leastOf_15 (f_X12_leastOf_9 fu) 5000 225 (nI (nC D)) (nI (d + 1)) (nI 0) τ := by
      show f_X12_leastOf_9_b _ _ _ _ _ = _
      unfold f_X12_leastOf_9_b
      simp only [to_bq, l_0, l_1, l_2, l_3, l_4, l_5, l_6, l_7, l_8, l_9, l_10, l_11, l_12, l_13, l_14, l_15, l_16, l_17, l_18, l_19, l_20, l_21, l_22, l_23, l_24, l_25, l_26, l_27, l_28, l_29, l_30, l_31, l_32, l_40, l_41, l_42, l_43, l_44, l_45, l_46, l_47, l_48, l_49, l_50, l_51, l_52, l_53, l_54, l_55, l_56, l_57, l_58, l_59, l_60, l_61, l_62, l_63, l_64, l_72, l_97, l_99, l_100, l_104, l_120, l_122, l_128, l_140, l_255, l_256, l_257, l_258, l_260, l_261, l_262, l_364, l_680, l_700, l_701, l_840, l_999, l_1023, l_1024, l_9999, l_10000, l_1000000, lm]
      rw [if_neg (by rw [le_nI (by omega) (by omega)]; omega)]
    rw [he, e1]
    exact ih fu τ' (by omega) (by omega) e2 (fun c hc hx => e3 c hc (by omega))
theorem m_leastOf (h : LsC σ D st p Q F1 F2 F3 ky r dp) (hr4 : D 227 4 ≠ mI 1) (hr : r = riv D) : ∃ τ, f_X12_leastOf 225 σ = some (iL (lv (topT D p (Tw p D))), τ) ∧ Fr Xlo σ τ := by
  have hb := h.1.bd
  have hW := h.1.w
  obtain ⟨τ, e1, e2⟩ := m_ls9 h hr4 hr (nC D) 5000 σ (by omega) (by omega) Fr.rfl (fun c hc hx => by have := (h.2.2.2.2.2.2.2.2.2 c hc).2.1; omega)
  refine ⟨τ, ?_, e2⟩
  unfold f_X12_leastOf f_X12_leastOf_0
  simp only [to_bq, l_0, l_1, l_2, l_3, l_4, l_5, l_6, l_7, l_8, l_9, l_10, l_11, l_12, l_13, l_14, l_15, l_16, l_17, l_18, l_19, l_20, l_21, l_22, l_23, l_24, l_25, l_26, l_27, l_28, l_29, l_30, l_31, l_32, l_40, l_41, l_42, l_43, l_44, l_45, l_46, l_47, l_48, l_49, l_50, l_51, l_52, l_53, l_54, l_55, l_56, l_57, l_58, l_59, l_60, l_61, l_62, l_63, l_64, l_72, l_97, l_99, l_100, l_104, l_120, l_122, l_128, l_140, l_255, l_256, l_257, l_258, l_260, l_261, l_262, l_364, l_680, l_700, l_701, l_840, l_999, l_1023, l_1024, l_9999, l_10000, l_1000000, lm]
  simp (disch := first | (with_reducible assumption) | omega | exact ⟨by omega, by omega⟩ | ((with_reducible first | apply Wf.wI | apply Wf.wL | apply Wf.fL | apply Wf.fI | apply Wf.fr); (repeat (with_reducible first | assumption | apply Wf.wI | apply Wf.wL | apply Wf.fL | apply Wf.fI | apply Wf.fr)))) only [ck_225, gI_225, gL_225, pI_225, pZ0_225, pZ1_225, pL_225, gR_225_1, gR_225_3, gR_225_4, gR_225_5, gR_225_6, gR_225_7, gR_225_8, gR_225_9, gR_225_10, gR_225_11, gR_225_12, gR_225_13, gR_225_14, gR_225_15, gR_225_16, gR_225_17, gR_225_18, gR_225_19, gR_225_20, gR_225_21, gR_225_35, gR_225_36, gR_225_38, gR_225_39, gR_225_40, gR_225_41, gR_225_43, gR_225_44, gR_225_45, gR_225_48, gR_225_49, gR_225_50, gR_225_51, gR_225_53, gR_225_54, gR_225_55, gR_225_56, gR_225_58, gR_225_59, gR_225_60, gR_225_61, gR_225_62, gR_225_63, gR_225_66, gR_225_67, bq_n, bd_s, mp_s, rz_0, rz_1, bI_rz, if_true, if_false, ite_true, ite_false, reduceIte, not_true, not_false, and_true, true_and, and_false, false_and, or_true, true_or, or_false, false_or, eq_self, aI_227, rd_C h.1]
  exact e1
end
