/-! THE CLASS: all but the trees; what is asked -/
def kyl : List Nat := [116996274, 614143552, 659100852, 546837504, 202781280, 117118528, 605337600, 404455424, 102322176, 619817984, 284871264, 614050816, 102320928, 143884288, 559333376, 781325312, 202780672, 139640832, 619818784, 412307456, 214424576, 522190848, 48365568, 486146048]
def kyv (k : Nat) : Int32 := nI (kyl.getD k 0)
/-- the class's cells, but for the trees -/
def CJ (σ : ah_H) (t : Nat) (D : DD) : Prop := JE σ t D ∧ PastR σ D ∧ ah_R σ 0 2 = some t ∧ ah_R σ 0 3 = some (44 - t) ∧ (ah_I σ 0 1 = D 225 2 ∧ ∀ j, j < tpd D → ah_I σ 1 j = vp_nar .byte (D 226 j)) ∧ (ah_I σ 82 3 = D 225 31 ∧ ah_I σ 82 4 = D 225 32) ∧ ∀ k, k < 24 → ah_I σ 84 k = kyv k
section
variable {σ : ah_H} {t : Nat} {D : DD}
theorem CJ.xj {τ : ah_H} (h : CJ σ t D) (g : Fr (Xj t) σ τ) (hj : JE τ t D) : CJ τ t D := by
  obtain ⟨h1, h2, h3, h4, ⟨h5, h6⟩, ⟨h7, h8⟩, h9⟩ := h
  have hT : t = 2 ∨ t = 42 := h1.1.tn
  have hX : ∀ a j, a < 2 ∨ 82 ≤ a ∧ a ≤ 116 → ¬ Xj t a j := fun a j _ => by unfold Xj Xl Xn Xf; omega
  exact ⟨hj, h2.fr g (fun a j _ => hX a j (by omega)), (g.R (Or.inr (hX _ _ (by omega)))).trans h3, (g.R (Or.inr (hX _ _ (by omega)))).trans h4, ⟨(g.I (hX _ _ (by omega))).trans h5, fun j hj => (g.I (hX _ _ (by omega))).trans (h6 j hj)⟩, ⟨(g.I (hX _ _ (by omega))).trans h7, (g.I (hX _ _ (by omega))).trans h8⟩, fun k hk => (g.I (hX _ _ (by omega))).trans (h9 k hk)⟩
theorem CJ.w (h : CJ σ t D) : Wf σ := h.1.w
theorem CJ.r (h : CJ σ t D) : TR σ t D := h.1.1
theorem CJ.n (h : CJ σ t D) : MN D := h.1.2.1
/-- what a question of the class leaves -/
def CQ {α : Type} (σ : ah_H) (t : Nat) (D : DD) (v : α) (r : α × ah_H) : Prop := r.1 = v ∧ Fr (Xj t) σ r.2 ∧ CJ r.2 t D
theorem JQ.c {α : Type} {v : α} {r : α × ah_H} (h : CJ σ t D) (q : JQ σ t D v r) : CQ σ t D v r := ⟨q.1, q.2.1, h.xj q.2.1 q.2.2⟩
theorem CQ.z {α : Type} (h : CJ σ t D) {v : α} : CQ σ t D v (v, σ) := ⟨rfl, Fr.rfl, h⟩
theorem c_fault (h : CJ σ t D) (w : Int32) : f_X11_fault 0 w σ = some (sFault D w, σ) := by
  have hw := h.w
  unfold f_X11_fault f_X11_fault_0 sFault
  simp only [to_bq, l_0, l_1, l_2, l_3, l_4, l_5, l_6, l_7, l_8, l_9, l_10, l_11, l_12, l_13, l_14, l_15, l_16, l_17, l_18, l_19, l_20, l_21, l_22, l_23, l_24, l_25, l_26, l_27, l_28, l_29, l_30, l_31, l_32, l_40, l_41, l_42, l_43, l_44, l_45, l_46, l_47, l_48, l_49, l_50, l_51, l_52, l_53, l_54, l_55, l_56, l_57, l_58, l_59, l_60, l_61, l_62, l_63, l_64, l_72, l_97, l_99, l_100, l_104, l_120, l_122, l_128, l_140, l_255, l_256, l_257, l_258, l_260, l_261, l_262, l_364, l_680, l_700, l_701, l_840, l_999, l_1023, l_1024, l_9999, l_10000, l_1000000, lm]
  simp (disch := first | (with_reducible assumption) | omega | exact ⟨by omega, by omega⟩ | ((with_reducible first | apply Wf.wI | apply Wf.wL | apply Wf.fL | apply Wf.fI | apply Wf.fr); (repeat (with_reducible first | assumption | apply Wf.wI | apply Wf.wL | apply Wf.fL | apply Wf.fI | apply Wf.fr)))) only [ck_0, gI_0, gL_0, pI_0, pZ0_0, pZ1_0, pL_0, gR_0_0, pR_0_2, gR_0_2, pR_0_3, gR_0_3, gR_0_4, gR_0_5, gR_0_6, gR_0_7, gR_0_8, ck_82, gI_82, gL_82, pI_82, pZ0_82, pZ1_82, pL_82, gR_82_0, gR_82_1, pR_82_2, gR_82_2, bq_s, bd_s, mp_s, rz_0, rz_1, bI_rz, h.2.2.2.2.2.1.1, h.2.2.2.2.2.1.2, lm, iteS]
theorem c_named (h : CJ σ t D) (w v : Int32) : f_X11_named 0 w v σ = some (sNamed D w v, σ) := by
  have hw := h.w
  unfold f_X11_named f_X11_named_0
  simp only [to_bq, l_0, l_1, l_2, l_3, l_4, l_5, l_6, l_7, l_8, l_9, l_10, l_11, l_12, l_13, l_14, l_15, l_16, l_17, l_18, l_19, l_20, l_21, l_22, l_23, l_24, l_25, l_26, l_27, l_28, l_29, l_30, l_31, l_32, l_40, l_41, l_42, l_43, l_44, l_45, l_46, l_47, l_48, l_49, l_50, l_51, l_52, l_53, l_54, l_55, l_56, l_57, l_58, l_59, l_60, l_61, l_62, l_63, l_64, l_72, l_97, l_99, l_100, l_104, l_120, l_122, l_128, l_140, l_255, l_256, l_257, l_258, l_260, l_261, l_262, l_364, l_680, l_700, l_701, l_840, l_999, l_1023, l_1024, l_9999, l_10000, l_1000000, lm]
  simp (disch := first | (with_reducible assumption) | omega | exact ⟨by omega, by omega⟩ | ((with_reducible first | apply Wf.wI | apply Wf.wL | apply Wf.fL | apply Wf.fI | apply Wf.fr); (repeat (with_reducible first | assumption | apply Wf.wI | apply Wf.wL | apply Wf.fL | apply Wf.fI | apply Wf.fr)))) only [ck_0, gI_0, gL_0, pI_0, pZ0_0, pZ1_0, pL_0, gR_0_0, pR_0_2, gR_0_2, pR_0_3, gR_0_3, gR_0_4, gR_0_5, gR_0_6, gR_0_7, gR_0_8, bq_s, bd_s, mp_s, rz_0, rz_1, bI_rz, h.2.2.1, c_find h.r]
theorem c_look (h : CJ σ t D) (c w : Int32) : lk_g 0 c w σ = some (sThrown D c w, sLook D c w) := by
  have hw := h.w
  have ht := h.r.tn
  have b1 := h.r.bd
  unfold lk_g sLook sThrown
  simp only [to_bq, l_0, l_1, l_2, l_3, l_4, l_5, l_6, l_7, l_8, l_9, l_10, l_11, l_12, l_13, l_14, l_15, l_16, l_17, l_18, l_19, l_20, l_21, l_22, l_23, l_24, l_25, l_26, l_27, l_28, l_29, l_30, l_31, l_32, l_40, l_41, l_42, l_43, l_44, l_45, l_46, l_47, l_48, l_49, l_50, l_51, l_52, l_53, l_54, l_55, l_56, l_57, l_58, l_59, l_60, l_61, l_62, l_63, l_64, l_72, l_97, l_99, l_100, l_104, l_120, l_122, l_128, l_140, l_255, l_256, l_257, l_258, l_260, l_261, l_262, l_364, l_680, l_700, l_701, l_840, l_999, l_1023, l_1024, l_9999, l_10000, l_1000000, lm]
  simp (disch := first | (with_reducible assumption) | omega | exact ⟨by omega, by omega⟩ | ((with_reducible first | apply Wf.wI | apply Wf.wL | apply Wf.fL | apply Wf.fI | apply Wf.fr); (repeat (with_reducible first | assumption | apply Wf.wI | apply Wf.wL | apply Wf.fL | apply Wf.fI | apply Wf.fr)))) only [ck_0, gI_0, gL_0, pI_0, pZ0_0, pZ1_0, pL_0, gR_0_0, pR_0_2, gR_0_2, pR_0_3, gR_0_3, gR_0_4, gR_0_5, gR_0_6, gR_0_7, gR_0_8, bq_s, bd_s, mp_s, rz_0, rz_1, bI_rz, h.2.2.1, c_isCorner' h.r, bI_0, ite_n]
  by_cases q : okC D c
  · rw [if_pos q, if_pos q]
    by_cases q1 : w < nI 0
    · rw [if_pos q1, if_pos q1, if_neg (by decide)]
    rw [if_neg q1, if_neg q1]
    by_cases q2 : w ≤ nI 2
    · rw [if_pos q2, if_pos q2, if_pos rfl]
      obtain ⟨k, hk, rfl⟩ := okC_of h.r.t q
      rw [ix_nI (by omega)]
      obtain ⟨j, hj, rfl⟩ := nI_rng (n := 3) (by omega) q1 (by rw [Int32.le_iff_toInt_le, nI_t (by omega)] at q2; rw [Int32.le_iff_toInt_le, nI_t (by omega)]; omega)
      simp (disch := first | (with_reducible assumption) | omega | exact ⟨by omega, by omega⟩ | ((with_reducible first | apply Wf.wI | apply Wf.wL | apply Wf.fL | apply Wf.fI | apply Wf.fr); (repeat (with_reducible first | assumption | apply Wf.wI | apply Wf.wL | apply Wf.fL | apply Wf.fI | apply Wf.fr)))) only [ck_t, gI_t, gL_t, pI_t, pZ0_t, pZ1_t, pL_t, ck_w, gI_w, gL_w, pI_w, pZ0_w, pZ1_w, pL_w, gR_t_1, gR_t_5, gR_t_7, gR_t_9, gR_t_10, gR_t_11, gR_t_12, gR_t_15, gR_w_2, gR_w_3, gR_w_4, gR_w_5, gR_w_6, gR_w_7, aR_crow, aR_srow, aR_prow, aR_rrow, aI_crow, sI_crow, len_crow, aI_srow, sI_srow, len_srow, aI_prow, sI_prow, len_prow, aI_rrow, sI_rrow, len_rrow, aI_t25, sI_t25, len_t25, aI_t31, sI_t31, len_t31, aI_t32, sI_t32, len_t32, aI_t34, sI_t34, len_t34, aI_t35, sI_t35, len_t35, aI_t36, sI_t36, len_t36, aI_t37, sI_t37, len_t37, aL_t38, sL_t38, len_t38, aL_t39, sL_t39, len_t39, bq_s, bd_s, mp_s, rz_0, rz_1, bI_rz, zadd, zmul, zsub, le_nI, lt_nI, eq_nI, neg_nI, gen_nI, neg_lt, neg_le, neg_lt', neg_le', nI_lt0]
      rcases (show j = 0 ∨ j = 1 ∨ j = 2 by omega) with rfl | rfl | rfl
      · rw [if_pos rfl, tr_hgt h.r hk, h.r.t.qhgt hk]
      · rw [if_neg (by omega), if_pos rfl, tr_are h.r hk, h.r.t.qare hk]
      · rw [if_neg (by omega), if_neg (by omega), tr_rck h.r hk, h.r.t.qrck hk]
    · rw [if_neg q2, if_neg q2, if_neg (by decide)]
  · rw [if_neg q, if_neg q, if_neg (by decide)]
theorem le_rng {w : Int32} {n : Nat} (hn : n < 1000) (q1 : ¬ w < nI 0) (q2 : w ≤ nI n) : ∃ j, j < n + 1 ∧ w = nI j := nI_rng (n := n + 1) (by omega) q1 (by rw [Int32.le_iff_toInt_le, nI_t (by omega)] at q2; rw [Int32.le_iff_toInt_le, nI_t (by omega)]; omega)
theorem gt_rng {w : Int32} {n j : Nat} (hn : n < 1000) (hj : j ≤ n) (q : ¬ w ≤ nI n) : w ≠ nI j := by
  intro e
  rw [e, le_nI (by omega) (by omega)] at q
  exact q hj
theorem lt_rng {w : Int32} {j : Nat} (hj : j < 1000) (q : w < nI 0) : w ≠ nI j := by
  intro e
  rw [e, lt_nI (by omega) (by omega)] at q
  omega
theorem c_street (h : CJ σ t D) (s w : Int32) : f_X11_street 0 s w σ = some (sStreet D s w, σ) := by
  have hw := h.w
  have ht := h.r.tn
  have b1 := h.r.bd
  unfold f_X11_street f_X11_street_0 sStreet
  simp only [to_bq, l_0, l_1, l_2, l_3, l_4, l_5, l_6, l_7, l_8, l_9, l_10, l_11, l_12, l_13, l_14, l_15, l_16, l_17, l_18, l_19, l_20, l_21, l_22, l_23, l_24, l_25, l_26, l_27, l_28, l_29, l_30, l_31, l_32, l_40, l_41, l_42, l_43, l_44, l_45, l_46, l_47, l_48, l_49, l_50, l_51, l_52, l_53, l_54, l_55, l_56, l_57, l_58, l_59, l_60, l_61, l_62, l_63, l_64, l_72, l_97, l_99, l_100, l_104, l_120, l_122, l_128, l_140, l_255, l_256, l_257, l_258, l_260, l_261, l_262, l_364, l_680, l_700, l_701, l_840, l_999, l_1023, l_1024, l_9999, l_10000, l_1000000, lm]
  simp (disch := first | (with_reducible assumption) | omega | exact ⟨by omega, by omega⟩ | ((with_reducible first | apply Wf.wI | apply Wf.wL | apply Wf.fL | apply Wf.fI | apply Wf.fr); (repeat (with_reducible first | assumption | apply Wf.wI | apply Wf.wL | apply Wf.fL | apply Wf.fI | apply Wf.fr)))) only [ck_0, gI_0, gL_0, pI_0, pZ0_0, pZ1_0, pL_0, gR_0_0, pR_0_2, gR_0_2, pR_0_3, gR_0_3, gR_0_4, gR_0_5, gR_0_6, gR_0_7, gR_0_8, bq_s, bd_s, mp_s, rz_0, rz_1, bI_rz, h.2.2.1, c_isStreet' h.r, bI_0, ite_n, lm]
  by_cases q : okS D s
  · rw [if_pos q, if_pos q]
    by_cases q1 : w < nI 0
    · rw [if_pos q1, if_neg (lt_rng (by omega) q1), if_neg (lt_rng (by omega) q1), if_neg (lt_rng (by omega) q1), if_neg (lt_rng (by omega) q1), if_neg (lt_rng (by omega) q1)]
    rw [if_neg q1]
    by_cases q2 : w ≤ nI 4
    · rw [if_pos q2]
      obtain ⟨k, hk, rfl⟩ := okS_of h.r.t q
      rw [ix_nI (by omega)]
      obtain ⟨j, hj, rfl⟩ := le_rng (by omega) q1 q2
      simp (disch := first | (with_reducible assumption) | omega | exact ⟨by omega, by omega⟩ | ((with_reducible first | apply Wf.wI | apply Wf.wL | apply Wf.fL | apply Wf.fI | apply Wf.fr); (repeat (with_reducible first | assumption | apply Wf.wI | apply Wf.wL | apply Wf.fL | apply Wf.fI | apply Wf.fr)))) only [ck_t, gI_t, gL_t, pI_t, pZ0_t, pZ1_t, pL_t, ck_w, gI_w, gL_w, pI_w, pZ0_w, pZ1_w, pL_w, gR_t_1, gR_t_5, gR_t_7, gR_t_9, gR_t_10, gR_t_11, gR_t_12, gR_t_15, gR_w_2, gR_w_3, gR_w_4, gR_w_5, gR_w_6, gR_w_7, aR_crow, aR_srow, aR_prow, aR_rrow, aI_crow, sI_crow, len_crow, aI_srow, sI_srow, len_srow, aI_prow, sI_prow, len_prow, aI_rrow, sI_rrow, len_rrow, aI_t25, sI_t25, len_t25, aI_t31, sI_t31, len_t31, aI_t32, sI_t32, len_t32, aI_t34, sI_t34, len_t34, aI_t35, sI_t35, len_t35, aI_t36, sI_t36, len_t36, aI_t37, sI_t37, len_t37, aL_t38, sL_t38, len_t38, aL_t39, sL_t39, len_t39, bq_s, bd_s, mp_s, rz_0, rz_1, bI_rz, zadd, zmul, zsub, le_nI, lt_nI, eq_nI, neg_nI, gen_nI, neg_lt, neg_le, neg_lt', neg_le', nI_lt0]
      rcases (show j = 0 ∨ j = 1 ∨ j = 2 ∨ j = 3 ∨ j = 4 by omega) with rfl | rfl | rfl | rfl | rfl
      · rw [if_pos rfl, tr_sA h.r hk, h.r.t.qsA hk]
      · rw [if_neg (by omega), if_pos rfl, tr_sB h.r hk, h.r.t.qsB hk]
      · rw [if_neg (by omega), if_neg (by omega), if_pos rfl, tr_len h.r hk, h.r.t.qlen hk]
      · rw [if_neg (by omega), if_neg (by omega), if_neg (by omega), if_pos rfl, tr_hrs h.r hk, h.r.t.qhrs hk]
      · rw [if_neg (by omega), if_neg (by omega), if_neg (by omega), if_neg (by omega), if_pos rfl, tr_rsk h.r hk, h.r.t.qrsk hk]
    · rw [if_neg q2, if_neg (gt_rng (by omega) (by omega) q2), if_neg (gt_rng (by omega) (by omega) q2), if_neg (gt_rng (by omega) (by omega) q2), if_neg (gt_rng (by omega) (by omega) q2), if_neg (gt_rng (by omega) (by omega) q2)]
  · rw [if_neg q, if_neg q]
theorem c_pipe (h : CJ σ t D) (s w : Int32) : f_X11_pipe 0 s w σ = some (sPipe D s w, σ) := by
  have hw := h.w
  have ht := h.r.tn
  have b1 := h.r.bd
  unfold f_X11_pipe f_X11_pipe_0 sPipe
  simp only [to_bq, l_0, l_1, l_2, l_3, l_4, l_5, l_6, l_7, l_8, l_9, l_10, l_11, l_12, l_13, l_14, l_15, l_16, l_17, l_18, l_19, l_20, l_21, l_22, l_23, l_24, l_25, l_26, l_27, l_28, l_29, l_30, l_31, l_32, l_40, l_41, l_42, l_43, l_44, l_45, l_46, l_47, l_48, l_49, l_50, l_51, l_52, l_53, l_54, l_55, l_56, l_57, l_58, l_59, l_60, l_61, l_62, l_63, l_64, l_72, l_97, l_99, l_100, l_104, l_120, l_122, l_128, l_140, l_255, l_256, l_257, l_258, l_260, l_261, l_262, l_364, l_680, l_700, l_701, l_840, l_999, l_1023, l_1024, l_9999, l_10000, l_1000000, lm]
  simp (disch := first | (with_reducible assumption) | omega | exact ⟨by omega, by omega⟩ | ((with_reducible first | apply Wf.wI | apply Wf.wL | apply Wf.fL | apply Wf.fI | apply Wf.fr); (repeat (with_reducible first | assumption | apply Wf.wI | apply Wf.wL | apply Wf.fL | apply Wf.fI | apply Wf.fr)))) only [ck_0, gI_0, gL_0, pI_0, pZ0_0, pZ1_0, pL_0, gR_0_0, pR_0_2, gR_0_2, pR_0_3, gR_0_3, gR_0_4, gR_0_5, gR_0_6, gR_0_7, gR_0_8, bq_s, bd_s, mp_s, rz_0, rz_1, bI_rz, h.2.2.1, c_isPipe' h.r, bI_0, ite_n, lm]
  by_cases q : okP D s
  · rw [if_pos q, if_pos q]
    by_cases q1 : w < nI 0
    · rw [if_pos q1, if_pos q1]
    rw [if_neg q1, if_neg q1]
    by_cases q2 : w ≤ nI 1
    · rw [if_pos q2, if_pos q2]
      obtain ⟨k, hk, rfl⟩ := okP_of h.r.t q
      rw [ix_nI (by omega)]
      obtain ⟨j, hj, rfl⟩ := le_rng (by omega) q1 q2
      simp (disch := first | (with_reducible assumption) | omega | exact ⟨by omega, by omega⟩ | ((with_reducible first | apply Wf.wI | apply Wf.wL | apply Wf.fL | apply Wf.fI | apply Wf.fr); (repeat (with_reducible first | assumption | apply Wf.wI | apply Wf.wL | apply Wf.fL | apply Wf.fI | apply Wf.fr)))) only [ck_t, gI_t, gL_t, pI_t, pZ0_t, pZ1_t, pL_t, ck_w, gI_w, gL_w, pI_w, pZ0_w, pZ1_w, pL_w, gR_t_1, gR_t_5, gR_t_7, gR_t_9, gR_t_10, gR_t_11, gR_t_12, gR_t_15, gR_w_2, gR_w_3, gR_w_4, gR_w_5, gR_w_6, gR_w_7, aR_crow, aR_srow, aR_prow, aR_rrow, aI_crow, sI_crow, len_crow, aI_srow, sI_srow, len_srow, aI_prow, sI_prow, len_prow, aI_rrow, sI_rrow, len_rrow, aI_t25, sI_t25, len_t25, aI_t31, sI_t31, len_t31, aI_t32, sI_t32, len_t32, aI_t34, sI_t34, len_t34, aI_t35, sI_t35, len_t35, aI_t36, sI_t36, len_t36, aI_t37, sI_t37, len_t37, aL_t38, sL_t38, len_t38, aL_t39, sL_t39, len_t39, bq_s, bd_s, mp_s, rz_0, rz_1, bI_rz, zadd, zmul, zsub, le_nI, lt_nI, eq_nI, neg_nI, gen_nI, neg_lt, neg_le, neg_lt', neg_le', nI_lt0]
      rcases (show j = 0 ∨ j = 1 by omega) with rfl | rfl
      · rw [if_pos rfl, tr_wid h.r hk, h.r.t.qwid hk]
      · rw [if_neg (by omega), tr_pri h.r hk, h.r.t.qpri hk]
    · rw [if_neg q2, if_neg q2]
  · rw [if_neg q, if_neg q]
theorem c_hasPipe (h : CJ σ t D) (c : Int32) : f_X11_hasPipe 0 c σ = some (bI (laidQ D c), σ) := by
  have hw := h.w
  have b1 := h.r.bd
  unfold f_X11_hasPipe f_X11_hasPipe_0
  simp only [to_bq, l_0, l_1, l_2, l_3, l_4, l_5, l_6, l_7, l_8, l_9, l_10, l_11, l_12, l_13, l_14, l_15, l_16, l_17, l_18, l_19, l_20, l_21, l_22, l_23, l_24, l_25, l_26, l_27, l_28, l_29, l_30, l_31, l_32, l_40, l_41, l_42, l_43, l_44, l_45, l_46, l_47, l_48, l_49, l_50, l_51, l_52, l_53, l_54, l_55, l_56, l_57, l_58, l_59, l_60, l_61, l_62, l_63, l_64, l_72, l_97, l_99, l_100, l_104, l_120, l_122, l_128, l_140, l_255, l_256, l_257, l_258, l_260, l_261, l_262, l_364, l_680, l_700, l_701, l_840, l_999, l_1023, l_1024, l_9999, l_10000, l_1000000, lm]
  simp (disch := first | (with_reducible assumption) | omega | exact ⟨by omega, by omega⟩ | ((with_reducible first | apply Wf.wI | apply Wf.wL | apply Wf.fL | apply Wf.fI | apply Wf.fr); (repeat (with_reducible first | assumption | apply Wf.wI | apply Wf.wL | apply Wf.fL | apply Wf.fI | apply Wf.fr)))) only [ck_0, gI_0, gL_0, pI_0, pZ0_0, pZ1_0, pL_0, gR_0_0, pR_0_2, gR_0_2, pR_0_3, gR_0_3, gR_0_4, gR_0_5, gR_0_6, gR_0_7, gR_0_8, bq_s, bd_s, mp_s, rz_0, rz_1, bI_rz, h.2.2.1, c_isCorner' h.r, bI_0, ite_n]
  unfold bI
  by_cases q : okC D c
  · rw [if_pos q]
    obtain ⟨k, hk, rfl⟩ := okC_of h.r.t q
    have e1 : ix (nI k) = k := ix_nI (by omega)
    simp (disch := first | (with_reducible assumption) | omega | exact ⟨by omega, by omega⟩ | ((with_reducible first | apply Wf.wI | apply Wf.wL | apply Wf.fL | apply Wf.fI | apply Wf.fr); (repeat (with_reducible first | assumption | apply Wf.wI | apply Wf.wL | apply Wf.fL | apply Wf.fI | apply Wf.fr)))) only [ck_0, gI_0, gL_0, pI_0, pZ0_0, pZ1_0, pL_0, gR_0_0, pR_0_2, gR_0_2, pR_0_3, gR_0_3, gR_0_4, gR_0_5, gR_0_6, gR_0_7, gR_0_8, ck_90, gI_90, gL_90, pI_90, pZ0_90, pZ1_90, pL_90, gR_90_0, gR_90_1, gR_90_2, gR_90_3, gR_90_6, gR_90_8, aI_91, bq_s, bd_s, mp_s, rz_0, rz_1, bI_rz, lm, h.1.sn hk]
    by_cases q2 : stD D k = none
    · rw [if_pos q2, if_neg (fun r => by have := r.2; rw [e1] at this; exact this q2)]
    · rw [if_neg q2, if_pos ⟨q, by rw [e1]; exact q2⟩]
  · rw [if_neg q, if_neg (fun r => q r.1)]
theorem laidQ_of' (ht : MT D) {c : Int32} (q : laidQ D c) : ∃ k s, k < nC D ∧ c = nI k ∧ ix c = k ∧ stD D k = some s := by
  obtain ⟨k, hk, rfl⟩ := okC_of ht q.1
  have b1 := ht.qc7
  have e1 : ix (nI k) = k := ix_nI (by omega)
  cases hx : stD D k with
  | none => exact absurd (by rw [e1]; exact hx) q.2
  | some s => exact ⟨k, s, hk, rfl, e1, hx⟩
theorem laidQ_n (ht : MT D) {k : Nat} (hk : k < nC D) : laidQ D (nI k) ↔ stD D k ≠ none := by
  have b1 := ht.qc7
  have e1 : ix (nI k) = k := ix_nI (by omega)
  constructor
  · intro q; have := q.2; rw [e1] at this; exact this
  · intro q; exact ⟨okC_nI ht hk, by rw [e1]; exact q⟩
theorem c_net (h : CJ σ t D) (c w : Int32) : f_X11_net 0 c w σ = some (sNet D c w, σ) := by
  have hw := h.w
  have b1 := h.r.bd
  unfold f_X11_net f_X11_net_0 sNet
  simp only [to_bq, l_0, l_1, l_2, l_3, l_4, l_5, l_6, l_7, l_8, l_9, l_10, l_11, l_12, l_13, l_14, l_15, l_16, l_17, l_18, l_19, l_20, l_21, l_22, l_23, l_24, l_25, l_26, l_27, l_28, l_29, l_30, l_31, l_32, l_40, l_41, l_42, l_43, l_44, l_45, l_46, l_47, l_48, l_49, l_50, l_51, l_52, l_53, l_54, l_55, l_56, l_57, l_58, l_59, l_60, l_61, l_62, l_63, l_64, l_72, l_97, l_99, l_100, l_104, l_120, l_122, l_128, l_140, l_255, l_256, l_257, l_258, l_260, l_261, l_262, l_364, l_680, l_700, l_701, l_840, l_999, l_1023, l_1024, l_9999, l_10000, l_1000000, lm]
  simp (disch := first | (with_reducible assumption) | omega | exact ⟨by omega, by omega⟩ | ((with_reducible first | apply Wf.wI | apply Wf.wL | apply Wf.fL | apply Wf.fI | apply Wf.fr); (repeat (with_reducible first | assumption | apply Wf.wI | apply Wf.wL | apply Wf.fL | apply Wf.fI | apply Wf.fr)))) only [ck_0, gI_0, gL_0, pI_0, pZ0_0, pZ1_0, pL_0, gR_0_0, pR_0_2, gR_0_2, pR_0_3, gR_0_3, gR_0_4, gR_0_5, gR_0_6, gR_0_7, gR_0_8, bq_s, bd_s, mp_s, rz_0, rz_1, bI_rz, h.2.2.1, c_isCorner' h.r, bI_0, ite_n, lm]
  by_cases q : okC D c
  · rw [if_pos q, if_pos q]
    obtain ⟨k, hk, rfl⟩ := okC_of h.r.t q
    rw [ix_nI (by omega)]
    by_cases q1 : w < nI 0
    · rw [if_pos q1, if_pos q1]
    rw [if_neg q1, if_neg q1]
    by_cases q2 : w ≤ nI 5
    · rw [if_pos q2, if_pos q2]
      simp (disch := first | (with_reducible assumption) | omega | exact ⟨by omega, by omega⟩ | ((with_reducible first | apply Wf.wI | apply Wf.wL | apply Wf.fL | apply Wf.fI | apply Wf.fr); (repeat (with_reducible first | assumption | apply Wf.wI | apply Wf.wL | apply Wf.fL | apply Wf.fI | apply Wf.fr)))) only [ck_0, gI_0, gL_0, pI_0, pZ0_0, pZ1_0, pL_0, gR_0_0, pR_0_2, gR_0_2, pR_0_3, gR_0_3, gR_0_4, gR_0_5, gR_0_6, gR_0_7, gR_0_8, ck_90, gI_90, gL_90, pI_90, pZ0_90, pZ1_90, pL_90, gR_90_0, gR_90_1, gR_90_2, gR_90_3, gR_90_6, gR_90_8, aI_91, bq_s, bd_s, mp_s, rz_0, rz_1, bI_rz, h.1.sn hk]
      cases hx : stD D k with
      | none => simp only [if_true, if_false, ite_true, ite_false, reduceIte, not_true, not_false, and_true, true_and, and_false, false_and, or_true, true_or, or_false, false_or, eq_self, iteS]
      | some s =>
        obtain ⟨l1, l2, l3, l4, l5, l6, l7, l8, l9⟩ := lb h.r.t h.n hk hx
        obtain ⟨n1, n2, n3, n4⟩ := h.1.net hk hx
        simp (disch := first | (with_reducible assumption) | omega | exact ⟨by omega, by omega⟩ | ((with_reducible first | apply Wf.wI | apply Wf.wL | apply Wf.fL | apply Wf.fI | apply Wf.fr); (repeat (with_reducible first | assumption | apply Wf.wI | apply Wf.wL | apply Wf.fL | apply Wf.fI | apply Wf.fr)))) only [if_true, if_false, ite_true, ite_false, reduceIte, not_true, not_false, and_true, true_and, and_false, false_and, or_true, true_or, or_false, false_or, eq_self, reduceCtorEq, ck_0, gI_0, gL_0, pI_0, pZ0_0, pZ1_0, pL_0, gR_0_0, pR_0_2, gR_0_2, pR_0_3, gR_0_3, gR_0_4, gR_0_5, gR_0_6, gR_0_7, gR_0_8, ck_90, gI_90, gL_90, pI_90, pZ0_90, pZ1_90, pL_90, gR_90_0, gR_90_1, gR_90_2, gR_90_3, gR_90_6, gR_90_8, aI_91, aI_92, aI_93, aI_94, bq_s, bd_s, mp_s, rz_0, rz_1, bI_rz, n1, n2, n3, n4, l7, l8, l9, h.2.2.1, c_otherEnd h.r l1 (show k < 7 by omega), c_fallOf h.1 hk hx, iteS, (sFall_z h.r.t h.n (show k < 7 by omega) hx).1]
    · rw [if_neg q2, if_neg q2]
  · rw [if_neg q, if_neg q]
theorem c_count (h : CJ σ t D) (w : Int32) : f_X11_count 0 w σ = some (sCount D w, σ) := by
  have hw := h.w
  have ht := h.r.tn
  unfold f_X11_count f_X11_count_0 sCount
  simp only [to_bq, l_0, l_1, l_2, l_3, l_4, l_5, l_6, l_7, l_8, l_9, l_10, l_11, l_12, l_13, l_14, l_15, l_16, l_17, l_18, l_19, l_20, l_21, l_22, l_23, l_24, l_25, l_26, l_27, l_28, l_29, l_30, l_31, l_32, l_40, l_41, l_42, l_43, l_44, l_45, l_46, l_47, l_48, l_49, l_50, l_51, l_52, l_53, l_54, l_55, l_56, l_57, l_58, l_59, l_60, l_61, l_62, l_63, l_64, l_72, l_97, l_99, l_100, l_104, l_120, l_122, l_128, l_140, l_255, l_256, l_257, l_258, l_260, l_261, l_262, l_364, l_680, l_700, l_701, l_840, l_999, l_1023, l_1024, l_9999, l_10000, l_1000000, lm]
  simp (disch := first | (with_reducible assumption) | omega | exact ⟨by omega, by omega⟩ | ((with_reducible first | apply Wf.wI | apply Wf.wL | apply Wf.fL | apply Wf.fI | apply Wf.fr); (repeat (with_reducible first | assumption | apply Wf.wI | apply Wf.wL | apply Wf.fL | apply Wf.fI | apply Wf.fr)))) only [ck_0, gI_0, gL_0, pI_0, pZ0_0, pZ1_0, pL_0, gR_0_0, pR_0_2, gR_0_2, pR_0_3, gR_0_3, gR_0_4, gR_0_5, gR_0_6, gR_0_7, gR_0_8, ck_90, gI_90, gL_90, pI_90, pZ0_90, pZ1_90, pL_90, gR_90_0, gR_90_1, gR_90_2, gR_90_3, gR_90_6, gR_90_8, ck_t, gI_t, gL_t, pI_t, pZ0_t, pZ1_t, pL_t, ck_w, gI_w, gL_w, pI_w, pZ0_w, pZ1_w, pL_w, gR_t_1, gR_t_5, gR_t_7, gR_t_9, gR_t_10, gR_t_11, gR_t_12, gR_t_15, gR_w_2, gR_w_3, gR_w_4, gR_w_5, gR_w_6, gR_w_7, aR_crow, aR_srow, aR_prow, aR_rrow, aI_crow, sI_crow, len_crow, aI_srow, sI_srow, len_srow, aI_prow, sI_prow, len_prow, aI_rrow, sI_rrow, len_rrow, aI_t25, sI_t25, len_t25, aI_t31, sI_t31, len_t31, aI_t32, sI_t32, len_t32, aI_t34, sI_t34, len_t34, aI_t35, sI_t35, len_t35, aI_t36, sI_t36, len_t36, aI_t37, sI_t37, len_t37, aL_t38, sL_t38, len_t38, aL_t39, sL_t39, len_t39, bq_s, bd_s, mp_s, rz_0, rz_1, bI_rz, h.2.2.1, tr_C h.r, tr_S h.r, tr_P h.r, tr_N h.r, tr_K h.r, tr_riv h.r, tr_lev h.r, c_pipesLaid hw h.1.2.2.2.1 h.r.t h.n, h.2.1.1, lm, iteS]
theorem c_carries (h : CJ σ t D) (c : Int32) : Ok (f_X11_carries 0 c σ) (CQ σ t D (sCarries D c)) := by
  have hw := h.w
  unfold f_X11_carries f_X11_carries_0 sCarries
  simp only [to_bq, l_0, l_1, l_2, l_3, l_4, l_5, l_6, l_7, l_8, l_9, l_10, l_11, l_12, l_13, l_14, l_15, l_16, l_17, l_18, l_19, l_20, l_21, l_22, l_23, l_24, l_25, l_26, l_27, l_28, l_29, l_30, l_31, l_32, l_40, l_41, l_42, l_43, l_44, l_45, l_46, l_47, l_48, l_49, l_50, l_51, l_52, l_53, l_54, l_55, l_56, l_57, l_58, l_59, l_60, l_61, l_62, l_63, l_64, l_72, l_97, l_99, l_100, l_104, l_120, l_122, l_128, l_140, l_255, l_256, l_257, l_258, l_260, l_261, l_262, l_364, l_680, l_700, l_701, l_840, l_999, l_1023, l_1024, l_9999, l_10000, l_1000000, lm]
  simp (disch := first | (with_reducible assumption) | omega | exact ⟨by omega, by omega⟩ | ((with_reducible first | apply Wf.wI | apply Wf.wL | apply Wf.fL | apply Wf.fI | apply Wf.fr); (repeat (with_reducible first | assumption | apply Wf.wI | apply Wf.wL | apply Wf.fL | apply Wf.fI | apply Wf.fr)))) only [ck_0, gI_0, gL_0, pI_0, pZ0_0, pZ1_0, pL_0, gR_0_0, pR_0_2, gR_0_2, pR_0_3, gR_0_3, gR_0_4, gR_0_5, gR_0_6, gR_0_7, gR_0_8, bq_s, bd_s, mp_s, rz_0, rz_1, bI_rz, c_hasPipe h, bI_0, ite_n]
  by_cases q : laidQ D c
  · rw [if_pos q, if_pos q]
    obtain ⟨k, s, hk, rfl, e1, hx⟩ := laidQ_of' h.r.t q
    obtain ⟨⟨r1, r2⟩, k1, k2, k3⟩ := c_carriedBy h.1 hk hx
    rw [k1, bq_s, e1]
    exact ⟨_, rfl, k2, k3.mono Xl_j, h.xj (k3.mono Xl_j) (h.1.xl k3)⟩
  · rw [if_neg q, if_neg q]
    exact ⟨_, rfl, CQ.z h⟩
theorem c_cost (h : CJ σ t D) (c w : Int32) : Ok (f_X11_cost 0 c w σ) (CQ σ t D (sCost D c w)) := by
  have hw := h.w
  unfold f_X11_cost f_X11_cost_0 sCost
  simp only [to_bq, l_0, l_1, l_2, l_3, l_4, l_5, l_6, l_7, l_8, l_9, l_10, l_11, l_12, l_13, l_14, l_15, l_16, l_17, l_18, l_19, l_20, l_21, l_22, l_23, l_24, l_25, l_26, l_27, l_28, l_29, l_30, l_31, l_32, l_40, l_41, l_42, l_43, l_44, l_45, l_46, l_47, l_48, l_49, l_50, l_51, l_52, l_53, l_54, l_55, l_56, l_57, l_58, l_59, l_60, l_61, l_62, l_63, l_64, l_72, l_97, l_99, l_100, l_104, l_120, l_122, l_128, l_140, l_255, l_256, l_257, l_258, l_260, l_261, l_262, l_364, l_680, l_700, l_701, l_840, l_999, l_1023, l_1024, l_9999, l_10000, l_1000000, lm]
  simp (disch := first | (with_reducible assumption) | omega | exact ⟨by omega, by omega⟩ | ((with_reducible first | apply Wf.wI | apply Wf.wL | apply Wf.fL | apply Wf.fI | apply Wf.fr); (repeat (with_reducible first | assumption | apply Wf.wI | apply Wf.wL | apply Wf.fL | apply Wf.fI | apply Wf.fr)))) only [ck_0, gI_0, gL_0, pI_0, pZ0_0, pZ1_0, pL_0, gR_0_0, pR_0_2, gR_0_2, pR_0_3, gR_0_3, gR_0_4, gR_0_5, gR_0_6, gR_0_7, gR_0_8, bq_s, bd_s, mp_s, rz_0, rz_1, bI_rz, c_hasPipe h, bI_0, ite_n]
  by_cases q : laidQ D c
  · rw [if_pos q, if_pos q]
    by_cases q1 : w < nI 0
    · rw [if_pos q1, if_pos q1]; exact ⟨_, rfl, CQ.z h⟩
    rw [if_neg q1, if_neg q1]
    by_cases q2 : w ≤ nI 1
    · rw [if_pos q2, if_pos q2]
      obtain ⟨k, s, hk, rfl, e1, hx⟩ := laidQ_of' h.r.t q
      rw [e1]
      by_cases q3 : w = nI 0
      · rw [if_pos q3, if_pos q3]
        obtain ⟨⟨r1, r2⟩, k1, k2, k3⟩ := c_pipeCost h.1 hk hx
        rw [k1, bq_s]
        exact ⟨_, rfl, k2, k3.mono Xl_j, h.xj (k3.mono Xl_j) (h.1.xl k3)⟩
      · rw [if_neg q3, if_neg q3]
        obtain ⟨⟨r1, r2⟩, k1, k2⟩ := c_pumpCost h.1 hk hx
        rw [k1, bq_s]
        exact ⟨_, rfl, k2.c h⟩
    · rw [if_neg q2, if_neg q2]; exact ⟨_, rfl, CQ.z h⟩
  · rw [if_neg q, if_neg q]
    exact ⟨_, rfl, CQ.z h⟩
theorem c_all4 (h0 : CJ σ t D) : ∀ m k fu τ, k + m = nC D → m < fu → Fr (Xj t) σ τ → CJ τ t D → Ok (f_X11_all_4 fu 0 (iL (alv D k)) (nI k) τ) (CQ σ t D (iL (alv D (nC D)))) := by
  have b1 := h0.r.bd
  intro m
  induction m with
  | zero =>
    intro k fu τ hk hf hfr h
    obtain ⟨fu, rfl⟩ : ∃ q, fu = q + 1 := ⟨fu - 1, by omega⟩
    obtain rfl : k = nC D := by omega
    have hw := h.w
    have ht := h.r.tn
    show Ok (f_X11_all_4_b _ _ _ _ _) _
    unfold f_X11_all_4_b
    simp only [to_bq, l_0, l_1, l_2, l_3, l_4, l_5, l_6, l_7, l_8, l_9, l_10, l_11, l_12, l_13, l_14, l_15, l_16, l_17, l_18, l_19, l_20, l_21, l_22, l_23, l_24, l_25, l_26, l_27, l_28, l_29, l_30, l_31, l_32, l_40, l_41, l_42, l_43, l_44, l_45, l_46, l_47, l_48, l_49, l_50, l_51, l_52, l_53, l_54, l_55, l_56, l_57, l_58, l_59, l_60, l_61, l_62, l_63, l_64, l_72, l_97, l_99, l_100, l_104, l_120, l_122, l_128, l_140, l_255, l_256, l_257, l_258, l_260, l_261, l_262, l_364, l_680, l_700, l_701, l_840, l_999, l_1023, l_1024, l_9999, l_10000, l_1000000, lm]
    simp (disch := first | (with_reducible assumption) | omega | exact ⟨by omega, by omega⟩ | ((with_reducible first | apply Wf.wI | apply Wf.wL | apply Wf.fL | apply Wf.fI | apply Wf.fr); (repeat (with_reducible first | assumption | apply Wf.wI | apply Wf.wL | apply Wf.fL | apply Wf.fI | apply Wf.fr)))) only [ck_0, gI_0, gL_0, pI_0, pZ0_0, pZ1_0, pL_0, gR_0_0, pR_0_2, gR_0_2, pR_0_3, gR_0_3, gR_0_4, gR_0_5, gR_0_6, gR_0_7, gR_0_8, ck_t, gI_t, gL_t, pI_t, pZ0_t, pZ1_t, pL_t, ck_w, gI_w, gL_w, pI_w, pZ0_w, pZ1_w, pL_w, gR_t_1, gR_t_5, gR_t_7, gR_t_9, gR_t_10, gR_t_11, gR_t_12, gR_t_15, gR_w_2, gR_w_3, gR_w_4, gR_w_5, gR_w_6, gR_w_7, aR_crow, aR_srow, aR_prow, aR_rrow, aI_crow, sI_crow, len_crow, aI_srow, sI_srow, len_srow, aI_prow, sI_prow, len_prow, aI_rrow, sI_rrow, len_rrow, aI_t25, sI_t25, len_t25, aI_t31, sI_t31, len_t31, aI_t32, sI_t32, len_t32, aI_t34, sI_t34, len_t34, aI_t35, sI_t35, len_t35, aI_t36, sI_t36, len_t36, aI_t37, sI_t37, len_t37, aL_t38, sL_t38, len_t38, aL_t39, sL_t39, len_t39, bq_s, bd_s, mp_s, rz_0, rz_1, bI_rz, zadd, zmul, zsub, le_nI, lt_nI, eq_nI, neg_nI, gen_nI, neg_lt, neg_le, neg_lt', neg_le', nI_lt0, if_true, if_false, ite_true, ite_false, reduceIte, not_true, not_false, and_true, true_and, and_false, false_and, or_true, true_or, or_false, false_or, eq_self, h.2.2.1, tr_C h.r, Nat.le_refl]
    exact ⟨_, rfl, rfl, hfr, h⟩
  | succ m ih =>
    intro k fu τ hk hf hfr h
    obtain ⟨fu, rfl⟩ : ∃ q, fu = q + 1 := ⟨fu - 1, by omega⟩
    have hw := h.w
    have ht := h.r.tn
    have hk' : k < nC D := by omega
    have e1 : alv D (k + 1) = if stD D k = none then alv D k else alv D k + (costD D k + pumpD D k) := rfl
    show Ok (f_X11_all_4_b _ _ _ _ _) _
    unfold f_X11_all_4_b f_X11_all_43
    simp only [to_bq, l_0, l_1, l_2, l_3, l_4, l_5, l_6, l_7, l_8, l_9, l_10, l_11, l_12, l_13, l_14, l_15, l_16, l_17, l_18, l_19, l_20, l_21, l_22, l_23, l_24, l_25, l_26, l_27, l_28, l_29, l_30, l_31, l_32, l_40, l_41, l_42, l_43, l_44, l_45, l_46, l_47, l_48, l_49, l_50, l_51, l_52, l_53, l_54, l_55, l_56, l_57, l_58, l_59, l_60, l_61, l_62, l_63, l_64, l_72, l_97, l_99, l_100, l_104, l_120, l_122, l_128, l_140, l_255, l_256, l_257, l_258, l_260, l_261, l_262, l_364, l_680, l_700, l_701, l_840, l_999, l_1023, l_1024, l_9999, l_10000, l_1000000, lm]
    simp (disch := first | (with_reducible assumption) | omega | exact ⟨by omega, by omega⟩ | ((with_reducible first | apply Wf.wI | apply Wf.wL | apply Wf.fL | apply Wf.fI | apply Wf.fr); (repeat (with_reducible first | assumption | apply Wf.wI | apply Wf.wL | apply Wf.fL | apply Wf.fI | apply Wf.fr)))) only [ck_0, gI_0, gL_0, pI_0, pZ0_0, pZ1_0, pL_0, gR_0_0, pR_0_2, gR_0_2, pR_0_3, gR_0_3, gR_0_4, gR_0_5, gR_0_6, gR_0_7, gR_0_8, ck_t, gI_t, gL_t, pI_t, pZ0_t, pZ1_t, pL_t, ck_w, gI_w, gL_w, pI_w, pZ0_w, pZ1_w, pL_w, gR_t_1, gR_t_5, gR_t_7, gR_t_9, gR_t_10, gR_t_11, gR_t_12, gR_t_15, gR_w_2, gR_w_3, gR_w_4, gR_w_5, gR_w_6, gR_w_7, aR_crow, aR_srow, aR_prow, aR_rrow, aI_crow, sI_crow, len_crow, aI_srow, sI_srow, len_srow, aI_prow, sI_prow, len_prow, aI_rrow, sI_rrow, len_rrow, aI_t25, sI_t25, len_t25, aI_t31, sI_t31, len_t31, aI_t32, sI_t32, len_t32, aI_t34, sI_t34, len_t34, aI_t35, sI_t35, len_t35, aI_t36, sI_t36, len_t36, aI_t37, sI_t37, len_t37, aL_t38, sL_t38, len_t38, aL_t39, sL_t39, len_t39, bq_s, bd_s, mp_s, rz_0, rz_1, bI_rz, zadd, zmul, zsub, le_nI, lt_nI, eq_nI, neg_nI, gen_nI, neg_lt, neg_le, neg_lt', neg_le', nI_lt0, if_true, if_false, ite_true, ite_false, reduceIte, not_true, not_false, and_true, true_and, and_false, false_and, or_true, true_or, or_false, false_or, eq_self, h.2.2.1, tr_C h.r, c_hasPipe h, bI_0, ite_n, show (nC D ≤ k) = False from eq_false (by omega)]
    cases hx : stD D k with
    | none =>
      rw [if_pos hx] at e1
      rw [if_neg (fun z => (laidQ_n h.r.t hk').mp z hx), ← e1]
      exact ih (k + 1) fu τ (by omega) (by omega) hfr h
    | some s =>
      rw [if_neg (by rw [hx]; intro q; cases q)] at e1
      rw [if_pos ((laidQ_n h.r.t hk').mpr (by rw [hx]; intro q; cases q))]
      obtain ⟨⟨r1, r2⟩, k1, k2, k3⟩ := c_pipeCost h.1 hk' hx
      have k2 : r1 = _ := k2
      subst k2
      have h2 : CJ r2 t D := h.xj (k3.mono Xl_j) (h.1.xl k3)
      have hw2 := h2.w
      obtain ⟨⟨r3, r4⟩, j1, j2, j3, j4⟩ := c_pumpCost h2.1 hk' hx
      have j2 : r3 = _ := j2
      subst j2
      simp (disch := first | (with_reducible assumption) | omega | exact ⟨by omega, by omega⟩ | ((with_reducible first | apply Wf.wI | apply Wf.wL | apply Wf.fL | apply Wf.fI | apply Wf.fr); (repeat (with_reducible first | assumption | apply Wf.wI | apply Wf.wL | apply Wf.fL | apply Wf.fI | apply Wf.fr)))) only [k1, ck_0, gI_0, gL_0, pI_0, pZ0_0, pZ1_0, pL_0, gR_0_0, pR_0_2, gR_0_2, pR_0_3, gR_0_3, gR_0_4, gR_0_5, gR_0_6, gR_0_7, gR_0_8, bq_s, bd_s, mp_s, rz_0, rz_1, bI_rz, j1, iadd, zadd, ← e1]
      exact ih (k + 1) fu r4 (by omega) (by omega) (hfr.trans ((k3.mono Xl_j).trans j3)) (h2.xj j3 j4)
theorem c_all (h : CJ σ t D) : Ok (f_X11_all 0 σ) (CQ σ t D (sAll D)) := by
  have b1 := h.r.bd
  unfold f_X11_all f_X11_all_0
  rw [ck_0 h.w, l_0, q_0]
  exact c_all4 h (nC D) 0 5000 σ (by omega) (by omega) Fr.rfl h
theorem c_broken (h : CJ σ t D) (c : Int32) : Ok (f_X11_broken 0 c σ) (CQ σ t D (sBroken D c)) := by
  have hw := h.w
  have b1 := h.r.bd
  unfold f_X11_broken f_X11_broken_0 sBroken
  simp only [to_bq, l_0, l_1, l_2, l_3, l_4, l_5, l_6, l_7, l_8, l_9, l_10, l_11, l_12, l_13, l_14, l_15, l_16, l_17, l_18, l_19, l_20, l_21, l_22, l_23, l_24, l_25, l_26, l_27, l_28, l_29, l_30, l_31, l_32, l_40, l_41, l_42, l_43, l_44, l_45, l_46, l_47, l_48, l_49, l_50, l_51, l_52, l_53, l_54, l_55, l_56, l_57, l_58, l_59, l_60, l_61, l_62, l_63, l_64, l_72, l_97, l_99, l_100, l_104, l_120, l_122, l_128, l_140, l_255, l_256, l_257, l_258, l_260, l_261, l_262, l_364, l_680, l_700, l_701, l_840, l_999, l_1023, l_1024, l_9999, l_10000, l_1000000, lm]
  simp (disch := first | (with_reducible assumption) | omega | exact ⟨by omega, by omega⟩ | ((with_reducible first | apply Wf.wI | apply Wf.wL | apply Wf.fL | apply Wf.fI | apply Wf.fr); (repeat (with_reducible first | assumption | apply Wf.wI | apply Wf.wL | apply Wf.fL | apply Wf.fI | apply Wf.fr)))) only [ck_0, gI_0, gL_0, pI_0, pZ0_0, pZ1_0, pL_0, gR_0_0, pR_0_2, gR_0_2, pR_0_3, gR_0_3, gR_0_4, gR_0_5, gR_0_6, gR_0_7, gR_0_8, bq_s, bd_s, mp_s, rz_0, rz_1, bI_rz, h.2.2.1, c_isCorner' h.r, bI_0, ite_n, lm]
  by_cases q : okC D c
  · rw [if_pos q, if_pos q]
    simp (disch := first | (with_reducible assumption) | omega | exact ⟨by omega, by omega⟩ | ((with_reducible first | apply Wf.wI | apply Wf.wL | apply Wf.fL | apply Wf.fI | apply Wf.fr); (repeat (with_reducible first | assumption | apply Wf.wI | apply Wf.wL | apply Wf.fL | apply Wf.fI | apply Wf.fr)))) only [ck_0, gI_0, gL_0, pI_0, pZ0_0, pZ1_0, pL_0, gR_0_0, pR_0_2, gR_0_2, pR_0_3, gR_0_3, gR_0_4, gR_0_5, gR_0_6, gR_0_7, gR_0_8, bq_s, bd_s, mp_s, rz_0, rz_1, bI_rz, c_hasPipe h, bI_0, ite_n]
    obtain ⟨k, hk, rfl⟩ := okC_of h.r.t q
    simp only [ix_nI (show k < 2147483648 by omega)]
    cases hx : stD D k with
    | none =>
      rw [if_neg (fun z => (laidQ_n h.r.t hk).mp z hx)]
      exact ⟨_, rfl, CQ.z h⟩
    | some s =>
      rw [if_pos ((laidQ_n h.r.t hk).mpr (by rw [hx]; intro q; cases q))]
      obtain ⟨⟨r1, r2⟩, k1, k2⟩ := c_lawBrokenBy h.1 hk hx
      rw [k1, bq_s]
      exact ⟨_, rfl, k2.c h⟩
  · rw [if_neg q, if_neg q]; exact ⟨_, rfl, CQ.z h⟩
theorem lt_H {x : Int32} : (x < nI 30) = ¬ nI 30 ≤ x := propext Int32.not_le.symm
theorem c_flow (h : CJ σ t D) (c r x : Int32) : Ok (f_X11_flow 0 c r x σ) (CQ σ t D (sFlow D c r x)) := by
  have hw := h.w
  have b1 := h.r.bd
  unfold f_X11_flow f_X11_flow_0 sFlow
  simp only [to_bq, l_0, l_1, l_2, l_3, l_4, l_5, l_6, l_7, l_8, l_9, l_10, l_11, l_12, l_13, l_14, l_15, l_16, l_17, l_18, l_19, l_20, l_21, l_22, l_23, l_24, l_25, l_26, l_27, l_28, l_29, l_30, l_31, l_32, l_40, l_41, l_42, l_43, l_44, l_45, l_46, l_47, l_48, l_49, l_50, l_51, l_52, l_53, l_54, l_55, l_56, l_57, l_58, l_59, l_60, l_61, l_62, l_63, l_64, l_72, l_97, l_99, l_100, l_104, l_120, l_122, l_128, l_140, l_255, l_256, l_257, l_258, l_260, l_261, l_262, l_364, l_680, l_700, l_701, l_840, l_999, l_1023, l_1024, l_9999, l_10000, l_1000000, lm]
  simp (disch := first | (with_reducible assumption) | omega | exact ⟨by omega, by omega⟩ | ((with_reducible first | apply Wf.wI | apply Wf.wL | apply Wf.fL | apply Wf.fI | apply Wf.fr); (repeat (with_reducible first | assumption | apply Wf.wI | apply Wf.wL | apply Wf.fL | apply Wf.fI | apply Wf.fr)))) only [ck_0, gI_0, gL_0, pI_0, pZ0_0, pZ1_0, pL_0, gR_0_0, pR_0_2, gR_0_2, pR_0_3, gR_0_3, gR_0_4, gR_0_5, gR_0_6, gR_0_7, gR_0_8, bq_s, bd_s, mp_s, rz_0, rz_1, bI_rz, c_hasPipe h, bI_0, ite_n, lt_H]
  by_cases q : laidQ D c
  · rw [if_pos q, if_pos q]
    simp (disch := first | (with_reducible assumption) | omega | exact ⟨by omega, by omega⟩ | ((with_reducible first | apply Wf.wI | apply Wf.wL | apply Wf.fL | apply Wf.fI | apply Wf.fr); (repeat (with_reducible first | assumption | apply Wf.wI | apply Wf.wL | apply Wf.fL | apply Wf.fI | apply Wf.fr)))) only [ck_0, gI_0, gL_0, pI_0, pZ0_0, pZ1_0, pL_0, gR_0_0, pR_0_2, gR_0_2, pR_0_3, gR_0_3, gR_0_4, gR_0_5, gR_0_6, gR_0_7, gR_0_8, bq_s, bd_s, mp_s, rz_0, rz_1, bI_rz, h.2.2.1, c_isRain' h.r, bI_0, ite_n]
    by_cases q1 : okR D r
    · rw [if_pos q1, if_pos q1]
      by_cases q2 : x < nI 0
      · rw [if_pos q2, if_neg (fun z => z.1 q2)]; exact ⟨_, rfl, CQ.z h⟩
      rw [if_neg q2]
      by_cases q3 : nI 30 ≤ x
      · rw [if_neg (by rw [lt_H]; exact fun z => z q3), if_neg (fun z => z.2 q3)]; exact ⟨_, rfl, CQ.z h⟩
      · rw [if_pos (by rw [lt_H]; exact q3), if_pos ⟨q2, q3⟩]
        obtain ⟨k, s, hk, rfl, e1, hx⟩ := laidQ_of' h.r.t q
        obtain ⟨r, hr, rfl⟩ := okR_of h.r.t q1
        obtain ⟨u, hu, rfl⟩ := nI_rng (n := 30) (by omega) q2 q3
        obtain ⟨ρ, g1, g2, g3, g4, g5⟩ := c_refresh h.1
        have hw3 := g3.w
        have hfl := Fl_118
        have hv := (g4.2.1 k hk).1 (30 * r + u) (by omega)
        rw [wat_fq h.r.t hk (by rw [hx]; intro z; cases z) (by omega)] at hv
        unfold fq at hv
        rw [show (30 * r + u) / 30 = r by omega, show (30 * r + u) % 30 = u by omega, show 30 * r + u = r * 30 + u by omega] at hv
        rw [e1, ix_nI (by omega), ix_nI (by omega)]
        simp (disch := first | (with_reducible assumption) | omega | exact ⟨by omega, by omega⟩ | ((with_reducible first | apply Wf.wI | apply Wf.wL | apply Wf.fL | apply Wf.fI | apply Wf.fr); (repeat (with_reducible first | assumption | apply Wf.wI | apply Wf.wL | apply Wf.fL | apply Wf.fI | apply Wf.fr)))) only [g1, ck_0, gI_0, gL_0, pI_0, pZ0_0, pZ1_0, pL_0, gR_0_0, pR_0_2, gR_0_2, pR_0_3, gR_0_3, gR_0_4, gR_0_5, gR_0_6, gR_0_7, gR_0_8, ck_117, gI_117, gL_117, pI_117, pZ0_117, pZ1_117, pL_117, gR_117_0, gR_117_1, gR_117_5, pR_117_6, gR_117_6, ck_f, gI_f, gL_f, pI_f, pZ0_f, pZ1_f, pL_f, gR_f_0, gR_f_1, gR_f_2, gR_f_3, gR_f_4, gR_f_5, gR_f_7, gR_f_8, pR_f_8, aR_water, aR_spill, aL_water, sL_water, len_water, aL_spill, sL_spill, len_spill, aL_f17, sL_f17, len_f17, aI_f18, sI_f18, len_f18, aI_f19, sI_f19, len_f19, aI_f20, sI_f20, len_f20, aI_fst, sI_fst, len_fst, bq_s, bd_s, mp_s, rz_0, rz_1, bI_rz, zadd, zmul, zsub, le_nI, lt_nI, eq_nI, neg_nI, gen_nI, neg_lt, neg_le, neg_lt', neg_le', nI_lt0, hv]
        exact ⟨_, rfl, rfl, g2, h.xj g2 g3⟩
    · rw [if_neg q1, if_neg q1]; exact ⟨_, rfl, CQ.z h⟩
  · rw [if_neg q, if_neg q]; exact ⟨_, rfl, CQ.z h⟩
theorem c_flooded (h : CJ σ t D) (c r x : Int32) : Ok (f_X11_flooded 0 c r x σ) (CQ σ t D (sFlooded D c r x)) := by
  have hw := h.w
  have b1 := h.r.bd
  unfold f_X11_flooded f_X11_flooded_0 sFlooded
  simp only [to_bq, l_0, l_1, l_2, l_3, l_4, l_5, l_6, l_7, l_8, l_9, l_10, l_11, l_12, l_13, l_14, l_15, l_16, l_17, l_18, l_19, l_20, l_21, l_22, l_23, l_24, l_25, l_26, l_27, l_28, l_29, l_30, l_31, l_32, l_40, l_41, l_42, l_43, l_44, l_45, l_46, l_47, l_48, l_49, l_50, l_51, l_52, l_53, l_54, l_55, l_56, l_57, l_58, l_59, l_60, l_61, l_62, l_63, l_64, l_72, l_97, l_99, l_100, l_104, l_120, l_122, l_128, l_140, l_255, l_256, l_257, l_258, l_260, l_261, l_262, l_364, l_680, l_700, l_701, l_840, l_999, l_1023, l_1024, l_9999, l_10000, l_1000000, lm]
  simp (disch := first | (with_reducible assumption) | omega | exact ⟨by omega, by omega⟩ | ((with_reducible first | apply Wf.wI | apply Wf.wL | apply Wf.fL | apply Wf.fI | apply Wf.fr); (repeat (with_reducible first | assumption | apply Wf.wI | apply Wf.wL | apply Wf.fL | apply Wf.fI | apply Wf.fr)))) only [ck_0, gI_0, gL_0, pI_0, pZ0_0, pZ1_0, pL_0, gR_0_0, pR_0_2, gR_0_2, pR_0_3, gR_0_3, gR_0_4, gR_0_5, gR_0_6, gR_0_7, gR_0_8, bq_s, bd_s, mp_s, rz_0, rz_1, bI_rz, c_hasPipe h, bI_0, ite_n, lt_H]
  by_cases q : laidQ D c
  · rw [if_pos q, if_pos q]
    simp (disch := first | (with_reducible assumption) | omega | exact ⟨by omega, by omega⟩ | ((with_reducible first | apply Wf.wI | apply Wf.wL | apply Wf.fL | apply Wf.fI | apply Wf.fr); (repeat (with_reducible first | assumption | apply Wf.wI | apply Wf.wL | apply Wf.fL | apply Wf.fI | apply Wf.fr)))) only [ck_0, gI_0, gL_0, pI_0, pZ0_0, pZ1_0, pL_0, gR_0_0, pR_0_2, gR_0_2, pR_0_3, gR_0_3, gR_0_4, gR_0_5, gR_0_6, gR_0_7, gR_0_8, bq_s, bd_s, mp_s, rz_0, rz_1, bI_rz, h.2.2.1, c_isRain' h.r, bI_0, ite_n]
    by_cases q1 : okR D r
    · rw [if_pos q1, if_pos q1]
      by_cases q2 : x < nI 0
      · rw [if_pos q2, if_neg (fun z => z.1 q2)]; exact ⟨_, rfl, CQ.z h⟩
      rw [if_neg q2]
      by_cases q3 : nI 30 ≤ x
      · rw [if_neg (by rw [lt_H]; exact fun z => z q3), if_neg (fun z => z.2 q3)]; exact ⟨_, rfl, CQ.z h⟩
      · rw [if_pos (by rw [lt_H]; exact q3), if_pos ⟨q2, q3⟩]
        obtain ⟨k, s, hk, rfl, e1, hx⟩ := laidQ_of' h.r.t q
        obtain ⟨r, hr, rfl⟩ := okR_of h.r.t q1
        obtain ⟨u, hu, rfl⟩ := nI_rng (n := 30) (by omega) q2 q3
        obtain ⟨ρ, g1, g2, g3, g4, g5⟩ := c_refresh h.1
        have hw3 := g3.w
        have hfl := Fl_139
        have hv := (g4.2.2 k hk).2.2 (by rw [hx]; intro z; cases z) r u hr hu
        rw [show 30 * r + u = r * 30 + u by omega] at hv
        rw [e1, ix_nI (by omega), ix_nI (by omega)]
        simp (disch := first | (with_reducible assumption) | omega | exact ⟨by omega, by omega⟩ | ((with_reducible first | apply Wf.wI | apply Wf.wL | apply Wf.fL | apply Wf.fI | apply Wf.fr); (repeat (with_reducible first | assumption | apply Wf.wI | apply Wf.wL | apply Wf.fL | apply Wf.fI | apply Wf.fr)))) only [g1, ck_0, gI_0, gL_0, pI_0, pZ0_0, pZ1_0, pL_0, gR_0_0, pR_0_2, gR_0_2, pR_0_3, gR_0_3, gR_0_4, gR_0_5, gR_0_6, gR_0_7, gR_0_8, ck_117, gI_117, gL_117, pI_117, pZ0_117, pZ1_117, pL_117, gR_117_0, gR_117_1, gR_117_5, pR_117_6, gR_117_6, ck_f, gI_f, gL_f, pI_f, pZ0_f, pZ1_f, pL_f, gR_f_0, gR_f_1, gR_f_2, gR_f_3, gR_f_4, gR_f_5, gR_f_7, gR_f_8, pR_f_8, aR_water, aR_spill, aL_water, sL_water, len_water, aL_spill, sL_spill, len_spill, aL_f17, sL_f17, len_f17, aI_f18, sI_f18, len_f18, aI_f19, sI_f19, len_f19, aI_f20, sI_f20, len_f20, aI_fst, sI_fst, len_fst, bq_s, bd_s, mp_s, rz_0, rz_1, bI_rz, zadd, zmul, zsub, le_nI, lt_nI, eq_nI, neg_nI, gen_nI, neg_lt, neg_le, neg_lt', neg_le', nI_lt0, hv]
        exact ⟨_, rfl, rfl, g2, h.xj g2 g3⟩
    · rw [if_neg q1, if_neg q1]; exact ⟨_, rfl, CQ.z h⟩
  · rw [if_neg q, if_neg q]; exact ⟨_, rfl, CQ.z h⟩
theorem c_burstOf (h : JE σ t D) {c s : Nat} (hc : c < nC D) (hx : stD D c = some s) : Ok (f_X3_burstOf 117 (nI c) σ) (JQ σ t D (nI (brs D c))) := by
  have hw := h.w
  have b1 := h.1.bd
  obtain ⟨ρ, z1, z2, z3, z4, z5⟩ := c_refresh h
  have hw2 := z3.w
  have hb := gmx_b (st := stD D) (cp := plain) h.1.t hc
  unfold f_X3_burstOf f_X3_burstOf_0 brs
  simp only [to_bq, l_0, l_1, l_2, l_3, l_4, l_5, l_6, l_7, l_8, l_9, l_10, l_11, l_12, l_13, l_14, l_15, l_16, l_17, l_18, l_19, l_20, l_21, l_22, l_23, l_24, l_25, l_26, l_27, l_28, l_29, l_30, l_31, l_32, l_40, l_41, l_42, l_43, l_44, l_45, l_46, l_47, l_48, l_49, l_50, l_51, l_52, l_53, l_54, l_55, l_56, l_57, l_58, l_59, l_60, l_61, l_62, l_63, l_64, l_72, l_97, l_99, l_100, l_104, l_120, l_122, l_128, l_140, l_255, l_256, l_257, l_258, l_260, l_261, l_262, l_364, l_680, l_700, l_701, l_840, l_999, l_1023, l_1024, l_9999, l_10000, l_1000000, lm]
  rw [ck_117 hw, z1, bq_s, gR_117_0 hw2, bq_s, c_greatest z3.1 Fl_118 z4.1 hc (z4.2.1 c hc), bq_s, gwt_gm h.1.t hc (by rw [hx]; intro z; cases z), q_0, q_100, q_1, q_9999]
  simp (disch := first | (with_reducible assumption) | omega | exact ⟨by omega, by omega⟩ | ((with_reducible first | apply Wf.wI | apply Wf.wL | apply Wf.fL | apply Wf.fI | apply Wf.fr); (repeat (with_reducible first | assumption | apply Wf.wI | apply Wf.wL | apply Wf.fL | apply Wf.fI | apply Wf.fr)))) only [cmp_gt]
  by_cases q : gmx D (stD D) plain c = 0
  · rw [if_neg (by omega), if_pos q]
    exact ⟨_, rfl, rfl, z2, z3⟩
  · rw [if_pos (by omega), if_neg q]
    obtain ⟨⟨r5, r6⟩, i1, i2, i3⟩ := c_carriedBy z3 hc hx
    have i2 : r5 = _ := i2
    subst i2
    have hcb := carD_b h.1.t h.2.1 (show c < 7 by omega)
    obtain ⟨y1, y2⟩ := brs_z q hb hcb.1 hcb.2
    rw [i1, bq_s, y1, bq_s, y2]
    exact ⟨_, rfl, rfl, z2.trans (i3.mono Xl_j), z3.xl i3⟩
theorem c_burst (h : CJ σ t D) (c : Int32) : Ok (f_X11_burst 0 c σ) (CQ σ t D (sBurst D c)) := by
  have hw := h.w
  unfold f_X11_burst f_X11_burst_0 sBurst
  simp only [to_bq, l_0, l_1, l_2, l_3, l_4, l_5, l_6, l_7, l_8, l_9, l_10, l_11, l_12, l_13, l_14, l_15, l_16, l_17, l_18, l_19, l_20, l_21, l_22, l_23, l_24, l_25, l_26, l_27, l_28, l_29, l_30, l_31, l_32, l_40, l_41, l_42, l_43, l_44, l_45, l_46, l_47, l_48, l_49, l_50, l_51, l_52, l_53, l_54, l_55, l_56, l_57, l_58, l_59, l_60, l_61, l_62, l_63, l_64, l_72, l_97, l_99, l_100, l_104, l_120, l_122, l_128, l_140, l_255, l_256, l_257, l_258, l_260, l_261, l_262, l_364, l_680, l_700, l_701, l_840, l_999, l_1023, l_1024, l_9999, l_10000, l_1000000, lm]
  simp (disch := first | (with_reducible assumption) | omega | exact ⟨by omega, by omega⟩ | ((with_reducible first | apply Wf.wI | apply Wf.wL | apply Wf.fL | apply Wf.fI | apply Wf.fr); (repeat (with_reducible first | assumption | apply Wf.wI | apply Wf.wL | apply Wf.fL | apply Wf.fI | apply Wf.fr)))) only [ck_0, gI_0, gL_0, pI_0, pZ0_0, pZ1_0, pL_0, gR_0_0, pR_0_2, gR_0_2, pR_0_3, gR_0_3, gR_0_4, gR_0_5, gR_0_6, gR_0_7, gR_0_8, bq_s, bd_s, mp_s, rz_0, rz_1, bI_rz, c_hasPipe h, bI_0, ite_n, lm]
  by_cases q : laidQ D c
  · rw [if_pos q, if_pos q]
    obtain ⟨k, s, hk, rfl, e1, hx⟩ := laidQ_of' h.r.t q
    obtain ⟨⟨r1, r2⟩, k1, k2⟩ := c_burstOf h.1 hk hx
    rw [k1, bq_s, e1]
    exact ⟨_, rfl, k2.c h⟩
  · rw [if_neg q, if_neg q]; exact ⟨_, rfl, CQ.z h⟩
end
