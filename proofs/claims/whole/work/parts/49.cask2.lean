/-! THE CLASS: floods, worst, bursts -/
section
variable {σ : ah_H} {t : Nat} {D : DD}
theorem c_fl42 (h : CJ σ t D) (hF : JF σ t D) {r c s : Nat} (hr0 : r < nR D) (hc : c < nC D) (hx : stD D c = some s) (K27 : Nat → Int32 → Int64 → Int32 → ah_H → Option (Int64 × ah_H)) (v : Nat) : ∀ m k fu, k + m = 30 → m < fu → f_X11_floods_42 K27 fu 0 (nI r) (iL ((v + flc D r c k : Nat) : Int)) (nI c) (nI k) σ = K27 0 (nI r) (iL ((v + flc D r c 30 : Nat) : Int)) (nI (c + 1)) σ := by
  have hw := h.w
  have b1 := h.r.bd
  have hfl := Fl_139
  have hlq := (laidQ_n h.r.t hc).mpr (by rw [hx]; intro q; cases q)
  intro m
  induction m with
  | zero =>
    intro k fu hk hf
    obtain ⟨fu, rfl⟩ : ∃ q, fu = q + 1 := ⟨fu - 1, by omega⟩
    obtain rfl : k = 30 := by omega
    show f_X11_floods_42_b _ _ _ _ _ _ _ _ = _
    unfold f_X11_floods_42_b f_X11_floods_88
    simp only [to_bq, l_0, l_1, l_2, l_3, l_4, l_5, l_6, l_7, l_8, l_9, l_10, l_11, l_12, l_13, l_14, l_15, l_16, l_17, l_18, l_19, l_20, l_21, l_22, l_23, l_24, l_25, l_26, l_27, l_28, l_29, l_30, l_31, l_32, l_40, l_41, l_42, l_43, l_44, l_45, l_46, l_47, l_48, l_49, l_50, l_51, l_52, l_53, l_54, l_55, l_56, l_57, l_58, l_59, l_60, l_61, l_62, l_63, l_64, l_72, l_97, l_99, l_100, l_104, l_120, l_122, l_128, l_140, l_255, l_256, l_257, l_258, l_260, l_261, l_262, l_364, l_680, l_700, l_701, l_840, l_999, l_1023, l_1024, l_9999, l_10000, l_1000000, lm]
    simp (disch := first | (with_reducible assumption) | omega | exact ⟨by omega, by omega⟩ | ((with_reducible first | apply Wf.wI | apply Wf.wL | apply Wf.fL | apply Wf.fI | apply Wf.fr); (repeat (with_reducible first | assumption | apply Wf.wI | apply Wf.wL | apply Wf.fL | apply Wf.fI | apply Wf.fr)))) only [ck_0, gI_0, gL_0, pI_0, pZ0_0, pZ1_0, pL_0, gR_0_0, pR_0_2, gR_0_2, pR_0_3, gR_0_3, gR_0_4, gR_0_5, gR_0_6, gR_0_7, gR_0_8, bq_s, bd_s, mp_s, rz_0, rz_1, bI_rz, zadd, zmul, zsub, le_nI, lt_nI, eq_nI, neg_nI, gen_nI, neg_lt, neg_le, neg_lt', neg_le', nI_lt0, if_true, if_false, ite_true, ite_false, reduceIte, not_true, not_false, and_true, true_and, and_false, false_and, or_true, true_or, or_false, false_or, eq_self, c_hasPipe h, bI_0, ite_n, Nat.le_refl]
    rw [if_pos hlq]
  | succ m ih =>
    intro k fu hk hf
    obtain ⟨fu, rfl⟩ : ∃ q, fu = q + 1 := ⟨fu - 1, by omega⟩
    have hv := (hF.2.2 c hc).2.2 (by rw [hx]; intro z; cases z) r k hr0 (by omega)
    rw [show 30 * r + k = r * 30 + k by omega] at hv
    show f_X11_floods_42_b _ _ _ _ _ _ _ _ = _
    unfold f_X11_floods_42_b
    simp only [to_bq, l_0, l_1, l_2, l_3, l_4, l_5, l_6, l_7, l_8, l_9, l_10, l_11, l_12, l_13, l_14, l_15, l_16, l_17, l_18, l_19, l_20, l_21, l_22, l_23, l_24, l_25, l_26, l_27, l_28, l_29, l_30, l_31, l_32, l_40, l_41, l_42, l_43, l_44, l_45, l_46, l_47, l_48, l_49, l_50, l_51, l_52, l_53, l_54, l_55, l_56, l_57, l_58, l_59, l_60, l_61, l_62, l_63, l_64, l_72, l_97, l_99, l_100, l_104, l_120, l_122, l_128, l_140, l_255, l_256, l_257, l_258, l_260, l_261, l_262, l_364, l_680, l_700, l_701, l_840, l_999, l_1023, l_1024, l_9999, l_10000, l_1000000, lm]
    simp (disch := first | (with_reducible assumption) | omega | exact ⟨by omega, by omega⟩ | ((with_reducible first | apply Wf.wI | apply Wf.wL | apply Wf.fL | apply Wf.fI | apply Wf.fr); (repeat (with_reducible first | assumption | apply Wf.wI | apply Wf.wL | apply Wf.fL | apply Wf.fI | apply Wf.fr)))) only [ck_0, gI_0, gL_0, pI_0, pZ0_0, pZ1_0, pL_0, gR_0_0, pR_0_2, gR_0_2, pR_0_3, gR_0_3, gR_0_4, gR_0_5, gR_0_6, gR_0_7, gR_0_8, bq_s, bd_s, mp_s, rz_0, rz_1, bI_rz, zadd, zmul, zsub, le_nI, lt_nI, eq_nI, neg_nI, gen_nI, neg_lt, neg_le, neg_lt', neg_le', nI_lt0, if_true, if_false, ite_true, ite_false, reduceIte, not_true, not_false, and_true, true_and, and_false, false_and, or_true, true_or, or_false, false_or, eq_self, c_hasPipe h, bI_0, ite_n, show (30 ≤ k) = False from eq_false (by omega)]
    rw [if_pos hlq]
    simp (disch := first | (with_reducible assumption) | omega | exact ⟨by omega, by omega⟩ | ((with_reducible first | apply Wf.wI | apply Wf.wL | apply Wf.fL | apply Wf.fI | apply Wf.fr); (repeat (with_reducible first | assumption | apply Wf.wI | apply Wf.wL | apply Wf.fL | apply Wf.fI | apply Wf.fr)))) only [ck_0, gI_0, gL_0, pI_0, pZ0_0, pZ1_0, pL_0, gR_0_0, pR_0_2, gR_0_2, pR_0_3, gR_0_3, gR_0_4, gR_0_5, gR_0_6, gR_0_7, gR_0_8, ck_117, gI_117, gL_117, pI_117, pZ0_117, pZ1_117, pL_117, gR_117_0, gR_117_1, gR_117_5, pR_117_6, gR_117_6, ck_f, gI_f, gL_f, pI_f, pZ0_f, pZ1_f, pL_f, gR_f_0, gR_f_1, gR_f_2, gR_f_3, gR_f_4, gR_f_5, gR_f_7, gR_f_8, pR_f_8, aR_water, aR_spill, aL_water, sL_water, len_water, aL_spill, sL_spill, len_spill, aL_f17, sL_f17, len_f17, aI_f18, sI_f18, len_f18, aI_f19, sI_f19, len_f19, aI_f20, sI_f20, len_f20, aI_fst, sI_fst, len_fst, bq_s, bd_s, mp_s, rz_0, rz_1, bI_rz, zadd, zmul, zsub, le_nI, lt_nI, eq_nI, neg_nI, gen_nI, neg_lt, neg_le, neg_lt', neg_le', nI_lt0, hv, iadd]
    rw [← ih (k + 1) fu (by omega) (by omega)]
    congr 2
    show _ = ((v + (flc D r c k + fld D (stD D) (capD D) r c k) : Nat) : Int)
    omega
theorem fld_0 {r c u : Nat} (hx : stD D c = none) : fld D (stD D) (capD D) r c u = 0 := by
  unfold fld; rw [cif_t (Or.inl hx)]
theorem c_fl27 (h : CJ σ t D) (hF : JF σ t D) {r : Nat} (hr0 : r < nR D) : ∀ m k fu, k + m = nC D → m < fu → f_X11_floods_27 fu 0 (nI r) (iL ((fla D r k : Nat) : Int)) (nI k) σ = some (iL ((fla D r (nC D) : Nat) : Int), σ) := by
  have hw := h.w
  have b1 := h.r.bd
  have ht := h.r.tn
  intro m
  induction m with
  | zero =>
    intro k fu hk hf
    obtain ⟨fu, rfl⟩ : ∃ q, fu = q + 1 := ⟨fu - 1, by omega⟩
    obtain rfl : k = nC D := by omega
    show f_X11_floods_27_b _ _ _ _ _ _ = _
    unfold f_X11_floods_27_b
    simp only [to_bq, l_0, l_1, l_2, l_3, l_4, l_5, l_6, l_7, l_8, l_9, l_10, l_11, l_12, l_13, l_14, l_15, l_16, l_17, l_18, l_19, l_20, l_21, l_22, l_23, l_24, l_25, l_26, l_27, l_28, l_29, l_30, l_31, l_32, l_40, l_41, l_42, l_43, l_44, l_45, l_46, l_47, l_48, l_49, l_50, l_51, l_52, l_53, l_54, l_55, l_56, l_57, l_58, l_59, l_60, l_61, l_62, l_63, l_64, l_72, l_97, l_99, l_100, l_104, l_120, l_122, l_128, l_140, l_255, l_256, l_257, l_258, l_260, l_261, l_262, l_364, l_680, l_700, l_701, l_840, l_999, l_1023, l_1024, l_9999, l_10000, l_1000000, lm]
    simp (disch := first | (with_reducible assumption) | omega | exact ⟨by omega, by omega⟩ | ((with_reducible first | apply Wf.wI | apply Wf.wL | apply Wf.fL | apply Wf.fI | apply Wf.fr); (repeat (with_reducible first | assumption | apply Wf.wI | apply Wf.wL | apply Wf.fL | apply Wf.fI | apply Wf.fr)))) only [ck_0, gI_0, gL_0, pI_0, pZ0_0, pZ1_0, pL_0, gR_0_0, pR_0_2, gR_0_2, pR_0_3, gR_0_3, gR_0_4, gR_0_5, gR_0_6, gR_0_7, gR_0_8, ck_t, gI_t, gL_t, pI_t, pZ0_t, pZ1_t, pL_t, ck_w, gI_w, gL_w, pI_w, pZ0_w, pZ1_w, pL_w, gR_t_1, gR_t_5, gR_t_7, gR_t_9, gR_t_10, gR_t_11, gR_t_12, gR_t_15, gR_w_2, gR_w_3, gR_w_4, gR_w_5, gR_w_6, gR_w_7, aR_crow, aR_srow, aR_prow, aR_rrow, aI_crow, sI_crow, len_crow, aI_srow, sI_srow, len_srow, aI_prow, sI_prow, len_prow, aI_rrow, sI_rrow, len_rrow, aI_t25, sI_t25, len_t25, aI_t31, sI_t31, len_t31, aI_t32, sI_t32, len_t32, aI_t34, sI_t34, len_t34, aI_t35, sI_t35, len_t35, aI_t36, sI_t36, len_t36, aI_t37, sI_t37, len_t37, aL_t38, sL_t38, len_t38, aL_t39, sL_t39, len_t39, bq_s, bd_s, mp_s, rz_0, rz_1, bI_rz, zadd, zmul, zsub, le_nI, lt_nI, eq_nI, neg_nI, gen_nI, neg_lt, neg_le, neg_lt', neg_le', nI_lt0, if_true, if_false, ite_true, ite_false, reduceIte, not_true, not_false, and_true, true_and, and_false, false_and, or_true, true_or, or_false, false_or, eq_self, h.2.2.1, tr_C h.r, Nat.le_refl]
  | succ m ih =>
    intro k fu hk hf
    obtain ⟨fu, rfl⟩ : ∃ q, fu = q + 1 := ⟨fu - 1, by omega⟩
    have hk' : k < nC D := by omega
    show f_X11_floods_27_b _ _ _ _ _ _ = _
    unfold f_X11_floods_27_b
    simp only [to_bq, l_0, l_1, l_2, l_3, l_4, l_5, l_6, l_7, l_8, l_9, l_10, l_11, l_12, l_13, l_14, l_15, l_16, l_17, l_18, l_19, l_20, l_21, l_22, l_23, l_24, l_25, l_26, l_27, l_28, l_29, l_30, l_31, l_32, l_40, l_41, l_42, l_43, l_44, l_45, l_46, l_47, l_48, l_49, l_50, l_51, l_52, l_53, l_54, l_55, l_56, l_57, l_58, l_59, l_60, l_61, l_62, l_63, l_64, l_72, l_97, l_99, l_100, l_104, l_120, l_122, l_128, l_140, l_255, l_256, l_257, l_258, l_260, l_261, l_262, l_364, l_680, l_700, l_701, l_840, l_999, l_1023, l_1024, l_9999, l_10000, l_1000000, lm]
    simp (disch := first | (with_reducible assumption) | omega | exact ⟨by omega, by omega⟩ | ((with_reducible first | apply Wf.wI | apply Wf.wL | apply Wf.fL | apply Wf.fI | apply Wf.fr); (repeat (with_reducible first | assumption | apply Wf.wI | apply Wf.wL | apply Wf.fL | apply Wf.fI | apply Wf.fr)))) only [ck_0, gI_0, gL_0, pI_0, pZ0_0, pZ1_0, pL_0, gR_0_0, pR_0_2, gR_0_2, pR_0_3, gR_0_3, gR_0_4, gR_0_5, gR_0_6, gR_0_7, gR_0_8, ck_t, gI_t, gL_t, pI_t, pZ0_t, pZ1_t, pL_t, ck_w, gI_w, gL_w, pI_w, pZ0_w, pZ1_w, pL_w, gR_t_1, gR_t_5, gR_t_7, gR_t_9, gR_t_10, gR_t_11, gR_t_12, gR_t_15, gR_w_2, gR_w_3, gR_w_4, gR_w_5, gR_w_6, gR_w_7, aR_crow, aR_srow, aR_prow, aR_rrow, aI_crow, sI_crow, len_crow, aI_srow, sI_srow, len_srow, aI_prow, sI_prow, len_prow, aI_rrow, sI_rrow, len_rrow, aI_t25, sI_t25, len_t25, aI_t31, sI_t31, len_t31, aI_t32, sI_t32, len_t32, aI_t34, sI_t34, len_t34, aI_t35, sI_t35, len_t35, aI_t36, sI_t36, len_t36, aI_t37, sI_t37, len_t37, aL_t38, sL_t38, len_t38, aL_t39, sL_t39, len_t39, bq_s, bd_s, mp_s, rz_0, rz_1, bI_rz, zadd, zmul, zsub, le_nI, lt_nI, eq_nI, neg_nI, gen_nI, neg_lt, neg_le, neg_lt', neg_le', nI_lt0, if_true, if_false, ite_true, ite_false, reduceIte, not_true, not_false, and_true, true_and, and_false, false_and, or_true, true_or, or_false, false_or, eq_self, h.2.2.1, tr_C h.r, show (nC D ≤ k) = False from eq_false (by omega)]
    cases hx : stD D k with
    | none =>
      have e0 : fla D r (k + 1) = fla D r k := by
        show fla D r k + flc D r k 30 = fla D r k
        rw [show flc D r k 30 = 0 from sm_0 (fun u _ => fld_0 hx)]
        rfl
      show f_X11_floods_42_b _ _ _ _ _ _ _ _ = _
      unfold f_X11_floods_42_b f_X11_floods_88
      simp only [to_bq, l_0, l_1, l_2, l_3, l_4, l_5, l_6, l_7, l_8, l_9, l_10, l_11, l_12, l_13, l_14, l_15, l_16, l_17, l_18, l_19, l_20, l_21, l_22, l_23, l_24, l_25, l_26, l_27, l_28, l_29, l_30, l_31, l_32, l_40, l_41, l_42, l_43, l_44, l_45, l_46, l_47, l_48, l_49, l_50, l_51, l_52, l_53, l_54, l_55, l_56, l_57, l_58, l_59, l_60, l_61, l_62, l_63, l_64, l_72, l_97, l_99, l_100, l_104, l_120, l_122, l_128, l_140, l_255, l_256, l_257, l_258, l_260, l_261, l_262, l_364, l_680, l_700, l_701, l_840, l_999, l_1023, l_1024, l_9999, l_10000, l_1000000, lm]
      simp (disch := first | (with_reducible assumption) | omega | exact ⟨by omega, by omega⟩ | ((with_reducible first | apply Wf.wI | apply Wf.wL | apply Wf.fL | apply Wf.fI | apply Wf.fr); (repeat (with_reducible first | assumption | apply Wf.wI | apply Wf.wL | apply Wf.fL | apply Wf.fI | apply Wf.fr)))) only [ck_0, gI_0, gL_0, pI_0, pZ0_0, pZ1_0, pL_0, gR_0_0, pR_0_2, gR_0_2, pR_0_3, gR_0_3, gR_0_4, gR_0_5, gR_0_6, gR_0_7, gR_0_8, bq_s, bd_s, mp_s, rz_0, rz_1, bI_rz, zadd, zmul, zsub, le_nI, lt_nI, eq_nI, neg_nI, gen_nI, neg_lt, neg_le, neg_lt', neg_le', nI_lt0, if_true, if_false, ite_true, ite_false, reduceIte, not_true, not_false, and_true, true_and, and_false, false_and, or_true, true_or, or_false, false_or, eq_self, c_hasPipe h, bI_0, ite_n]
      rw [if_neg (fun z => (laidQ_n h.r.t hk').mp z hx), ← e0]
      exact ih (k + 1) fu (by omega) (by omega)
    | some s =>
      have := c_fl42 h hF hr0 hk' hx (f_X11_floods_27 fu) (fla D r k) 30 0 5000 (by omega) (by omega)
      have this : f_X11_floods_42 (f_X11_floods_27 fu) 5000 0 (nI r) (iL ((fla D r k : Nat) : Int)) (nI k) (nI 0) σ = _ := this
      rw [this]
      exact ih (k + 1) fu (by omega) (by omega)
theorem c_floods (h : CJ σ t D) (r : Int32) : Ok (f_X11_floods 0 r σ) (CQ σ t D (sFloods D r)) := by
  have hw := h.w
  have b1 := h.r.bd
  unfold f_X11_floods f_X11_floods_0 sFloods
  simp only [to_bq, l_0, l_1, l_2, l_3, l_4, l_5, l_6, l_7, l_8, l_9, l_10, l_11, l_12, l_13, l_14, l_15, l_16, l_17, l_18, l_19, l_20, l_21, l_22, l_23, l_24, l_25, l_26, l_27, l_28, l_29, l_30, l_31, l_32, l_40, l_41, l_42, l_43, l_44, l_45, l_46, l_47, l_48, l_49, l_50, l_51, l_52, l_53, l_54, l_55, l_56, l_57, l_58, l_59, l_60, l_61, l_62, l_63, l_64, l_72, l_97, l_99, l_100, l_104, l_120, l_122, l_128, l_140, l_255, l_256, l_257, l_258, l_260, l_261, l_262, l_364, l_680, l_700, l_701, l_840, l_999, l_1023, l_1024, l_9999, l_10000, l_1000000, lm]
  simp (disch := first | (with_reducible assumption) | omega | exact ⟨by omega, by omega⟩ | ((with_reducible first | apply Wf.wI | apply Wf.wL | apply Wf.fL | apply Wf.fI | apply Wf.fr); (repeat (with_reducible first | assumption | apply Wf.wI | apply Wf.wL | apply Wf.fL | apply Wf.fI | apply Wf.fr)))) only [ck_0, gI_0, gL_0, pI_0, pZ0_0, pZ1_0, pL_0, gR_0_0, pR_0_2, gR_0_2, pR_0_3, gR_0_3, gR_0_4, gR_0_5, gR_0_6, gR_0_7, gR_0_8, bq_s, bd_s, mp_s, rz_0, rz_1, bI_rz, h.2.2.1, c_isRain' h.r, bI_0, ite_n]
  by_cases q1 : okR D r
  · rw [if_pos q1, if_pos q1]
    obtain ⟨r, hr, rfl⟩ := okR_of h.r.t q1
    obtain ⟨ρ, g1, g2, g3, g4, g5⟩ := c_refresh h.1
    have h3 := h.xj g2 g3
    simp (disch := first | (with_reducible assumption) | omega | exact ⟨by omega, by omega⟩ | ((with_reducible first | apply Wf.wI | apply Wf.wL | apply Wf.fL | apply Wf.fI | apply Wf.fr); (repeat (with_reducible first | assumption | apply Wf.wI | apply Wf.wL | apply Wf.fL | apply Wf.fI | apply Wf.fr)))) only [g1, bq_s, bd_s, mp_s, rz_0, rz_1, bI_rz]
    rw [ix_nI (by omega), q_0]
    exact ⟨_, c_fl27 h3 g4 hr (nC D) 0 5000 (by omega) (by omega), rfl, g2, h3⟩
  · rw [if_neg q1, if_neg q1]; exact ⟨_, rfl, CQ.z h⟩
theorem c_worst (h : CJ σ t D) (c w : Int32) : Ok (f_X11_worst 0 c w σ) (CQ σ t D (sWorst D c w)) := by
  have hw := h.w
  have b1 := h.r.bd
  have ht := h.r.tn
  unfold f_X11_worst f_X11_worst_0 sWorst
  simp only [to_bq, l_0, l_1, l_2, l_3, l_4, l_5, l_6, l_7, l_8, l_9, l_10, l_11, l_12, l_13, l_14, l_15, l_16, l_17, l_18, l_19, l_20, l_21, l_22, l_23, l_24, l_25, l_26, l_27, l_28, l_29, l_30, l_31, l_32, l_40, l_41, l_42, l_43, l_44, l_45, l_46, l_47, l_48, l_49, l_50, l_51, l_52, l_53, l_54, l_55, l_56, l_57, l_58, l_59, l_60, l_61, l_62, l_63, l_64, l_72, l_97, l_99, l_100, l_104, l_120, l_122, l_128, l_140, l_255, l_256, l_257, l_258, l_260, l_261, l_262, l_364, l_680, l_700, l_701, l_840, l_999, l_1023, l_1024, l_9999, l_10000, l_1000000, lm]
  simp (disch := first | (with_reducible assumption) | omega | exact ⟨by omega, by omega⟩ | ((with_reducible first | apply Wf.wI | apply Wf.wL | apply Wf.fL | apply Wf.fI | apply Wf.fr); (repeat (with_reducible first | assumption | apply Wf.wI | apply Wf.wL | apply Wf.fL | apply Wf.fI | apply Wf.fr)))) only [ck_0, gI_0, gL_0, pI_0, pZ0_0, pZ1_0, pL_0, gR_0_0, pR_0_2, gR_0_2, pR_0_3, gR_0_3, gR_0_4, gR_0_5, gR_0_6, gR_0_7, gR_0_8, bq_n, bd_s, mp_s, rz_0, rz_1, bI_rz, c_hasPipe h, bI_0, ite_n]
  by_cases q : laidQ D c
  · rw [if_pos q, if_pos q]
    simp (disch := first | (with_reducible assumption) | omega | exact ⟨by omega, by omega⟩ | ((with_reducible first | apply Wf.wI | apply Wf.wL | apply Wf.fL | apply Wf.fI | apply Wf.fr); (repeat (with_reducible first | assumption | apply Wf.wI | apply Wf.wL | apply Wf.fL | apply Wf.fI | apply Wf.fr)))) only [ck_0, gI_0, gL_0, pI_0, pZ0_0, pZ1_0, pL_0, gR_0_0, pR_0_2, gR_0_2, pR_0_3, gR_0_3, gR_0_4, gR_0_5, gR_0_6, gR_0_7, gR_0_8, ck_t, gI_t, gL_t, pI_t, pZ0_t, pZ1_t, pL_t, ck_w, gI_w, gL_w, pI_w, pZ0_w, pZ1_w, pL_w, gR_t_1, gR_t_5, gR_t_7, gR_t_9, gR_t_10, gR_t_11, gR_t_12, gR_t_15, gR_w_2, gR_w_3, gR_w_4, gR_w_5, gR_w_6, gR_w_7, aR_crow, aR_srow, aR_prow, aR_rrow, aI_crow, sI_crow, len_crow, aI_srow, sI_srow, len_srow, aI_prow, sI_prow, len_prow, aI_rrow, sI_rrow, len_rrow, aI_t25, sI_t25, len_t25, aI_t31, sI_t31, len_t31, aI_t32, sI_t32, len_t32, aI_t34, sI_t34, len_t34, aI_t35, sI_t35, len_t35, aI_t36, sI_t36, len_t36, aI_t37, sI_t37, len_t37, aL_t38, sL_t38, len_t38, aL_t39, sL_t39, len_t39, bq_n, bd_s, mp_s, rz_0, rz_1, bI_rz, zadd, zmul, zsub, le_nI, lt_nI, eq_nI, neg_nI, gen_nI, neg_lt, neg_le, neg_lt', neg_le', nI_lt0, h.2.2.1, tr_N h.r]
    by_cases q0 : nR D = 0
    · rw [if_pos q0, if_pos q0]; exact ⟨_, rfl, CQ.z h⟩
    rw [if_neg q0, if_neg q0]
    by_cases q1 : w < nI 0
    · rw [if_pos q1, if_pos q1]; exact ⟨_, rfl, CQ.z h⟩
    rw [if_neg q1, if_neg q1]
    by_cases q2 : w ≤ nI 2
    · rw [if_pos q2, if_pos q2]
      obtain ⟨k, s, hk, rfl, e1, hx⟩ := laidQ_of' h.r.t q
      have hxn : stD D k ≠ none := by rw [hx]; intro z; cases z
      obtain ⟨ρ, g1, g2, g3, g4, g5⟩ := c_refresh h.1
      have hw3 := g3.w
      have hfl := Fl_118
      have hpl := pkx_lt (fq D (stD D) plain k) (m := 30 * nR D) (by omega)
      have hpl : pkD D (stD D) plain k < 30 * nR D := hpl
      have hpk := (g4.2.1 k hk).2.1
      rw [pkx_wf h.r.t hk hxn] at hpk
      have hpk : ah_I ρ 136 k = nI (pkD D (stD D) plain k) := hpk
      have fin := h.xj g2 g3
      rw [g1, bq_s, e1]
      by_cases q3 : w = nI 0
      · rw [if_pos q3, if_pos q3, gR_0_6 hw3, bq_s, gR_117_0 hw3, bq_s, c_greatest g3.1 hfl g4.1 hk (g4.2.1 k hk), bq_s, gwt_gm h.r.t hk hxn]
        exact ⟨_, rfl, rfl, g2, fin⟩
      rw [if_neg q3, if_neg q3, gR_0_6 hw3, bq_s, gR_117_0 hw3, bq_s, gR_f_3 hw3 hfl, bq_s]
      have ea : op_aI ρ (118 + 18) (nI k) = some (ah_I ρ 136 k) := aI_f18 hw3 hfl (by omega)
      rw [ea, bq_s, hpk]
      by_cases q4 : w = nI 1
      · rw [if_pos q4, if_pos q4, div_nI (by omega) (by omega) (by omega), bq_s, toL_n (by omega)]; exact ⟨_, rfl, rfl, g2, fin⟩
      · rw [if_neg q4, if_neg q4, rem_nI (by omega) (by omega) (by omega), bq_s, toL_n (by omega)]; exact ⟨_, rfl, rfl, g2, fin⟩
    · rw [if_neg q2, if_neg q2]; exact ⟨_, rfl, CQ.z h⟩
  · rw [if_neg q, if_neg q]; exact ⟨_, rfl, CQ.z h⟩
/-- the least so far, for the class -/
noncomputable def bll (D : DD) (k : Nat) : Nat := match bsl (stD D) (brs D) k with
  | none => 10000
  | some b => brs D b
theorem c_bu8 (h0 : CJ σ t D) : ∀ m k fu τ, k + m = nC D → m < fu → Fr (Xj t) σ τ → CJ τ t D → Ok (f_X11_bursts_8 fu 0 (sv (bsl (stD D) (brs D) k)) (nI (bll D k)) (nI k) τ) (CQ σ t D (sBursts D)) := by
  have b1 := h0.r.bd
  intro m
  induction m with
  | zero =>
    intro k fu τ hk hf hfr h
    obtain ⟨fu, rfl⟩ : ∃ q, fu = q + 1 := ⟨fu - 1, by omega⟩
    obtain rfl : k = nC D := by omega
    have hw := h.w
    have ht := h.r.tn
    show Ok (f_X11_bursts_8_b _ _ _ _ _ _) _
    unfold f_X11_bursts_8_b
    simp only [to_bq, l_0, l_1, l_2, l_3, l_4, l_5, l_6, l_7, l_8, l_9, l_10, l_11, l_12, l_13, l_14, l_15, l_16, l_17, l_18, l_19, l_20, l_21, l_22, l_23, l_24, l_25, l_26, l_27, l_28, l_29, l_30, l_31, l_32, l_40, l_41, l_42, l_43, l_44, l_45, l_46, l_47, l_48, l_49, l_50, l_51, l_52, l_53, l_54, l_55, l_56, l_57, l_58, l_59, l_60, l_61, l_62, l_63, l_64, l_72, l_97, l_99, l_100, l_104, l_120, l_122, l_128, l_140, l_255, l_256, l_257, l_258, l_260, l_261, l_262, l_364, l_680, l_700, l_701, l_840, l_999, l_1023, l_1024, l_9999, l_10000, l_1000000, lm]
    simp (disch := first | (with_reducible assumption) | omega | exact ⟨by omega, by omega⟩ | ((with_reducible first | apply Wf.wI | apply Wf.wL | apply Wf.fL | apply Wf.fI | apply Wf.fr); (repeat (with_reducible first | assumption | apply Wf.wI | apply Wf.wL | apply Wf.fL | apply Wf.fI | apply Wf.fr)))) only [ck_0, gI_0, gL_0, pI_0, pZ0_0, pZ1_0, pL_0, gR_0_0, pR_0_2, gR_0_2, pR_0_3, gR_0_3, gR_0_4, gR_0_5, gR_0_6, gR_0_7, gR_0_8, ck_t, gI_t, gL_t, pI_t, pZ0_t, pZ1_t, pL_t, ck_w, gI_w, gL_w, pI_w, pZ0_w, pZ1_w, pL_w, gR_t_1, gR_t_5, gR_t_7, gR_t_9, gR_t_10, gR_t_11, gR_t_12, gR_t_15, gR_w_2, gR_w_3, gR_w_4, gR_w_5, gR_w_6, gR_w_7, aR_crow, aR_srow, aR_prow, aR_rrow, aI_crow, sI_crow, len_crow, aI_srow, sI_srow, len_srow, aI_prow, sI_prow, len_prow, aI_rrow, sI_rrow, len_rrow, aI_t25, sI_t25, len_t25, aI_t31, sI_t31, len_t31, aI_t32, sI_t32, len_t32, aI_t34, sI_t34, len_t34, aI_t35, sI_t35, len_t35, aI_t36, sI_t36, len_t36, aI_t37, sI_t37, len_t37, aL_t38, sL_t38, len_t38, aL_t39, sL_t39, len_t39, bq_s, bd_s, mp_s, rz_0, rz_1, bI_rz, zadd, zmul, zsub, le_nI, lt_nI, eq_nI, neg_nI, gen_nI, neg_lt, neg_le, neg_lt', neg_le', nI_lt0, if_true, if_false, ite_true, ite_false, reduceIte, not_true, not_false, and_true, true_and, and_false, false_and, or_true, true_or, or_false, false_or, eq_self, h.2.2.1, tr_C h.r, Nat.le_refl]
    exact ⟨_, rfl, rfl, hfr, h⟩
  | succ m ih =>
    intro k fu τ hk hf hfr h
    obtain ⟨fu, rfl⟩ : ∃ q, fu = q + 1 := ⟨fu - 1, by omega⟩
    have hw := h.w
    have ht := h.r.tn
    have hk' : k < nC D := by omega
    have e0 : bsl (stD D) (brs D) (k + 1) = if stD D k = none then bsl (stD D) (brs D) k else match bsl (stD D) (brs D) k with
      | none => some k
      | some b => if brs D k < brs D b then some k else some b := rfl
    have hlb : bll D k ≤ 10000 := by
      unfold bll
      split
      · omega
      · next b hb => have := brs_b (D := D) b; omega
    have w1 := brs_b (D := D) k
    show Ok (f_X11_bursts_8_b _ _ _ _ _ _) _
    unfold f_X11_bursts_8_b f_X11_bursts_39 f_X11_bursts_52
    simp only [to_bq, l_0, l_1, l_2, l_3, l_4, l_5, l_6, l_7, l_8, l_9, l_10, l_11, l_12, l_13, l_14, l_15, l_16, l_17, l_18, l_19, l_20, l_21, l_22, l_23, l_24, l_25, l_26, l_27, l_28, l_29, l_30, l_31, l_32, l_40, l_41, l_42, l_43, l_44, l_45, l_46, l_47, l_48, l_49, l_50, l_51, l_52, l_53, l_54, l_55, l_56, l_57, l_58, l_59, l_60, l_61, l_62, l_63, l_64, l_72, l_97, l_99, l_100, l_104, l_120, l_122, l_128, l_140, l_255, l_256, l_257, l_258, l_260, l_261, l_262, l_364, l_680, l_700, l_701, l_840, l_999, l_1023, l_1024, l_9999, l_10000, l_1000000, lm]
    simp (disch := first | (with_reducible assumption) | omega | exact ⟨by omega, by omega⟩ | ((with_reducible first | apply Wf.wI | apply Wf.wL | apply Wf.fL | apply Wf.fI | apply Wf.fr); (repeat (with_reducible first | assumption | apply Wf.wI | apply Wf.wL | apply Wf.fL | apply Wf.fI | apply Wf.fr)))) only [ck_0, gI_0, gL_0, pI_0, pZ0_0, pZ1_0, pL_0, gR_0_0, pR_0_2, gR_0_2, pR_0_3, gR_0_3, gR_0_4, gR_0_5, gR_0_6, gR_0_7, gR_0_8, ck_t, gI_t, gL_t, pI_t, pZ0_t, pZ1_t, pL_t, ck_w, gI_w, gL_w, pI_w, pZ0_w, pZ1_w, pL_w, gR_t_1, gR_t_5, gR_t_7, gR_t_9, gR_t_10, gR_t_11, gR_t_12, gR_t_15, gR_w_2, gR_w_3, gR_w_4, gR_w_5, gR_w_6, gR_w_7, aR_crow, aR_srow, aR_prow, aR_rrow, aI_crow, sI_crow, len_crow, aI_srow, sI_srow, len_srow, aI_prow, sI_prow, len_prow, aI_rrow, sI_rrow, len_rrow, aI_t25, sI_t25, len_t25, aI_t31, sI_t31, len_t31, aI_t32, sI_t32, len_t32, aI_t34, sI_t34, len_t34, aI_t35, sI_t35, len_t35, aI_t36, sI_t36, len_t36, aI_t37, sI_t37, len_t37, aL_t38, sL_t38, len_t38, aL_t39, sL_t39, len_t39, bq_s, bd_s, mp_s, rz_0, rz_1, bI_rz, zadd, zmul, zsub, le_nI, lt_nI, eq_nI, neg_nI, gen_nI, neg_lt, neg_le, neg_lt', neg_le', nI_lt0, if_true, if_false, ite_true, ite_false, reduceIte, not_true, not_false, and_true, true_and, and_false, false_and, or_true, true_or, or_false, false_or, eq_self, h.2.2.1, tr_C h.r, c_hasPipe h, bI_0, ite_n, show (nC D ≤ k) = False from eq_false (by omega)]
    cases hx : stD D k with
    | none =>
      rw [if_pos hx] at e0
      rw [if_neg (fun z => (laidQ_n h.r.t hk').mp z hx), if_pos (Nat.le_refl _)]
      have hi := ih (k + 1) fu τ (by omega) (by omega) hfr h
      unfold bll at hi
      rw [e0] at hi
      exact hi
    | some s =>
      rw [if_neg (by rw [hx]; intro q; cases q)] at e0
      rw [if_pos ((laidQ_n h.r.t hk').mpr (by rw [hx]; intro q; cases q))]
      obtain ⟨⟨r1, r2⟩, k1, k2, k3, k4⟩ := c_burstOf h.1 hk' hx
      have k2 : r1 = _ := k2
      subst k2
      have h2 := h.xj k3 k4
      rw [k1, bq_s]
      simp (disch := first | (with_reducible assumption) | omega | exact ⟨by omega, by omega⟩ | ((with_reducible first | apply Wf.wI | apply Wf.wL | apply Wf.fL | apply Wf.fI | apply Wf.fr); (repeat (with_reducible first | assumption | apply Wf.wI | apply Wf.wL | apply Wf.fL | apply Wf.fI | apply Wf.fr)))) only [zadd, zmul, zsub, le_nI, lt_nI, eq_nI, neg_nI, gen_nI, neg_lt, neg_le, neg_lt', neg_le', nI_lt0]
      have hi := ih (k + 1) fu r2 (by omega) (by omega) (hfr.trans k3) h2
      unfold bll at hi hlb ⊢
      rw [e0] at hi
      cases hb : bsl (stD D) (brs D) k with
      | none =>
        rw [hb] at hi
        rw [if_neg (by show ¬ 10000 ≤ _; omega)]
        exact hi
      | some b =>
        rw [hb] at hi
        simp only at hi ⊢
        by_cases q : brs D k < brs D b
        · rw [if_pos q] at hi
          rw [if_neg (by omega)]
          exact hi
        · rw [if_neg q] at hi
          rw [if_pos (by omega)]
          exact hi
theorem c_bursts (h : CJ σ t D) : Ok (f_X11_bursts 0 σ) (CQ σ t D (sBursts D)) := by
  have b1 := h.r.bd
  unfold f_X11_bursts f_X11_bursts_0
  rw [ck_0 h.w]
  simp only [l_0, l_1, l_2, l_3, l_4, l_5, l_6, l_7, l_8, l_9, l_10, l_11, l_12, l_13, l_14, l_15, l_16, l_17, l_18, l_19, l_20, l_21, l_22, l_23, l_24, l_25, l_26, l_27, l_28, l_29, l_30, l_31, l_32, l_40, l_41, l_42, l_43, l_44, l_45, l_46, l_47, l_48, l_49, l_50, l_51, l_52, l_53, l_54, l_55, l_56, l_57, l_58, l_59, l_60, l_61, l_62, l_63, l_64, l_72, l_97, l_99, l_100, l_104, l_120, l_122, l_128, l_140, l_255, l_256, l_257, l_258, l_260, l_261, l_262, l_364, l_680, l_700, l_701, l_840, l_999, l_1023, l_1024, l_9999, l_10000, l_1000000, lm]
  exact c_bu8 h (nC D) 0 5000 σ (by omega) (by omega) Fr.rfl h
end
