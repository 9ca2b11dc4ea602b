/-! The reference's answers: flows, floods, worst, bursts -/
abbrev okH (h : Int32) : Prop := ¬ h < nI 0 ∧ ¬ nI 30 ≤ h
section
variable {σ : ah_H} {D : DD}
theorem m_isHour (x : Int32) : f_X12_isHour x σ = some (bI (okH x), σ) := by
  unfold f_X12_isHour f_X12_isHour_0
  simp only [to_bq, l_0, l_1, l_2, l_3, l_4, l_5, l_6, l_7, l_8, l_9, l_10, l_11, l_12, l_13, l_14, l_15, l_16, l_17, l_18, l_19, l_20, l_21, l_22, l_23, l_24, l_25, l_26, l_27, l_28, l_29, l_30, l_31, l_32, l_40, l_41, l_42, l_43, l_44, l_45, l_46, l_47, l_48, l_49, l_50, l_51, l_52, l_53, l_54, l_55, l_56, l_57, l_58, l_59, l_60, l_61, l_62, l_63, l_64, l_72, l_97, l_99, l_100, l_104, l_120, l_122, l_128, l_140, l_255, l_256, l_257, l_258, l_260, l_261, l_262, l_364, l_680, l_700, l_701, l_840, l_999, l_1023, l_1024, l_9999, l_10000, l_1000000, lm]
  simp only [bq_s, bd_s, mp_s, rz_0, rz_1, bI_rz]
  exact bI_two _ _ _
noncomputable def sFlow (D : DD) (c r h : Int32) : Int64 := if laidQ D c then (if okR D r then (if okH h then iL ((flw D (stD D) plain (ix r) (ix c) (ix h) : Nat) : Int) else iL (-1)) else iL (-1)) else iL (-1)
noncomputable def sFlooded (D : DD) (c r h : Int32) : Int64 := if laidQ D c then (if okR D r then (if okH h then iL ((fld D (stD D) (capD D) (ix r) (ix c) (ix h) : Nat) : Int) else iL (-1)) else iL (-1)) else iL (-1)
theorem m_flow (h : MInv σ D) (c r x : Int32) : Ok (f_X12_flow 225 c r x σ) (fun q => q.1 = sFlow D c r x ∧ Fr Xq σ q.2) := by
  have hw := h.w
  have b1 := h.bd
  have h1 : MInv (ah_wI σ 225 0 (nI 0)) D := h.q (Fr.q0 (by omega))
  have f2 : Fr Xq σ (ah_wI (ah_wI σ 225 0 (nI 0)) 225 42 (nI 0)) := (Fr.q0 (by omega)).trans (Fr.q0 (by omega))
  have h2 := h.q f2
  unfold f_X12_flow f_X12_flow_0 sFlow
  simp only [to_bq, l_0, l_1, l_2, l_3, l_4, l_5, l_6, l_7, l_8, l_9, l_10, l_11, l_12, l_13, l_14, l_15, l_16, l_17, l_18, l_19, l_20, l_21, l_22, l_23, l_24, l_25, l_26, l_27, l_28, l_29, l_30, l_31, l_32, l_40, l_41, l_42, l_43, l_44, l_45, l_46, l_47, l_48, l_49, l_50, l_51, l_52, l_53, l_54, l_55, l_56, l_57, l_58, l_59, l_60, l_61, l_62, l_63, l_64, l_72, l_97, l_99, l_100, l_104, l_120, l_122, l_128, l_140, l_255, l_256, l_257, l_258, l_260, l_261, l_262, l_364, l_680, l_700, l_701, l_840, l_999, l_1023, l_1024, l_9999, l_10000, l_1000000, lm]
  simp (disch := first | (with_reducible assumption) | omega | exact ⟨by omega, by omega⟩ | ((with_reducible first | apply Wf.wI | apply Wf.wL | apply Wf.fL | apply Wf.fI | apply Wf.fr); (repeat (with_reducible first | assumption | apply Wf.wI | apply Wf.wL | apply Wf.fL | apply Wf.fI | apply Wf.fr)))) only [ck_225, gI_225, gL_225, pI_225, pZ0_225, pZ1_225, pL_225, gR_225_1, gR_225_3, gR_225_4, gR_225_5, gR_225_6, gR_225_7, gR_225_8, gR_225_9, gR_225_10, gR_225_11, gR_225_12, gR_225_13, gR_225_14, gR_225_15, gR_225_16, gR_225_17, gR_225_18, gR_225_19, gR_225_20, gR_225_21, gR_225_35, gR_225_36, gR_225_38, gR_225_39, gR_225_40, gR_225_41, gR_225_43, gR_225_44, gR_225_45, gR_225_48, gR_225_49, gR_225_50, gR_225_51, gR_225_53, gR_225_54, gR_225_55, gR_225_56, gR_225_58, gR_225_59, gR_225_60, gR_225_61, gR_225_62, gR_225_63, gR_225_66, gR_225_67, bq_s, bd_s, mp_s, rz_0, rz_1, bI_rz, m_isThere h1, bI_0, ite_n]
  by_cases q : laidQ D c
  · rw [if_pos q, if_pos q]
    simp (disch := first | (with_reducible assumption) | omega | exact ⟨by omega, by omega⟩ | ((with_reducible first | apply Wf.wI | apply Wf.wL | apply Wf.fL | apply Wf.fI | apply Wf.fr); (repeat (with_reducible first | assumption | apply Wf.wI | apply Wf.wL | apply Wf.fL | apply Wf.fI | apply Wf.fr)))) only [bq_s, bd_s, mp_s, rz_0, rz_1, bI_rz, m_isRain h2, bI_0, ite_n]
    by_cases q1 : okR D r
    · rw [if_pos q1, if_pos q1]
      simp (disch := first | (with_reducible assumption) | omega | exact ⟨by omega, by omega⟩ | ((with_reducible first | apply Wf.wI | apply Wf.wL | apply Wf.fL | apply Wf.fI | apply Wf.fr); (repeat (with_reducible first | assumption | apply Wf.wI | apply Wf.wL | apply Wf.fL | apply Wf.fI | apply Wf.fr)))) only [bq_s, bd_s, mp_s, rz_0, rz_1, bI_rz, m_isHour, bI_0, ite_n]
      by_cases q2 : okH x
      · rw [if_pos q2, if_pos q2]
        obtain ⟨k, s, hk, rfl, e1, hx⟩ := laidQ_of h q
        obtain ⟨r, hr, rfl⟩ := okR_of h.t q1
        obtain ⟨u, hu, rfl⟩ := nI_rng (n := 30) (by omega) q2.1 q2.2
        obtain ⟨ρ, g1, g2, g3⟩ := m_run0 h2 (h2.st0 rI_eq)
        have hw3 : Wf ρ := h2.w.fr g2
        have ha := atf_lt (c := k) (r := r) (t := u) (by omega) (by omega) hu
        rw [g1, e1, ix_nI (by omega), ix_nI (by omega)]
        simp (disch := first | (with_reducible assumption) | omega | exact ⟨by omega, by omega⟩ | ((with_reducible first | apply Wf.wI | apply Wf.wL | apply Wf.fL | apply Wf.fI | apply Wf.fr); (repeat (with_reducible first | assumption | apply Wf.wI | apply Wf.wL | apply Wf.fL | apply Wf.fI | apply Wf.fr)))) only [ck_225, gI_225, gL_225, pI_225, pZ0_225, pZ1_225, pL_225, gR_225_1, gR_225_3, gR_225_4, gR_225_5, gR_225_6, gR_225_7, gR_225_8, gR_225_9, gR_225_10, gR_225_11, gR_225_12, gR_225_13, gR_225_14, gR_225_15, gR_225_16, gR_225_17, gR_225_18, gR_225_19, gR_225_20, gR_225_21, gR_225_35, gR_225_36, gR_225_38, gR_225_39, gR_225_40, gR_225_41, gR_225_43, gR_225_44, gR_225_45, gR_225_48, gR_225_49, gR_225_50, gR_225_51, gR_225_53, gR_225_54, gR_225_55, gR_225_56, gR_225_58, gR_225_59, gR_225_60, gR_225_61, gR_225_62, gR_225_63, gR_225_66, gR_225_67, bq_s, bd_s, mp_s, rz_0, rz_1, bI_rz, m_atFlow, aL_252, (g3 k hk r hr u hu).1]
        exact ⟨_, rfl, rfl, f2.trans (g2.mono Xr_q)⟩
      · rw [if_neg q2, if_neg q2]; exact ⟨_, rfl, rfl, f2⟩
    · rw [if_neg q1, if_neg q1]; exact ⟨_, rfl, rfl, f2⟩
  · rw [if_neg q, if_neg q]; exact ⟨_, rfl, rfl, f2⟩
theorem m_flooded (h : MInv σ D) (c r x : Int32) : Ok (f_X12_flooded 225 c r x σ) (fun q => q.1 = sFlooded D c r x ∧ Fr Xq σ q.2) := by
  have hw := h.w
  have b1 := h.bd
  have h1 : MInv (ah_wI σ 225 0 (nI 0)) D := h.q (Fr.q0 (by omega))
  have f2 : Fr Xq σ (ah_wI (ah_wI σ 225 0 (nI 0)) 225 42 (nI 0)) := (Fr.q0 (by omega)).trans (Fr.q0 (by omega))
  have h2 := h.q f2
  unfold f_X12_flooded f_X12_flooded_0 sFlooded
  simp only [to_bq, l_0, l_1, l_2, l_3, l_4, l_5, l_6, l_7, l_8, l_9, l_10, l_11, l_12, l_13, l_14, l_15, l_16, l_17, l_18, l_19, l_20, l_21, l_22, l_23, l_24, l_25, l_26, l_27, l_28, l_29, l_30, l_31, l_32, l_40, l_41, l_42, l_43, l_44, l_45, l_46, l_47, l_48, l_49, l_50, l_51, l_52, l_53, l_54, l_55, l_56, l_57, l_58, l_59, l_60, l_61, l_62, l_63, l_64, l_72, l_97, l_99, l_100, l_104, l_120, l_122, l_128, l_140, l_255, l_256, l_257, l_258, l_260, l_261, l_262, l_364, l_680, l_700, l_701, l_840, l_999, l_1023, l_1024, l_9999, l_10000, l_1000000, lm]
  simp (disch := first | (with_reducible assumption) | omega | exact ⟨by omega, by omega⟩ | ((with_reducible first | apply Wf.wI | apply Wf.wL | apply Wf.fL | apply Wf.fI | apply Wf.fr); (repeat (with_reducible first | assumption | apply Wf.wI | apply Wf.wL | apply Wf.fL | apply Wf.fI | apply Wf.fr)))) only [ck_225, gI_225, gL_225, pI_225, pZ0_225, pZ1_225, pL_225, gR_225_1, gR_225_3, gR_225_4, gR_225_5, gR_225_6, gR_225_7, gR_225_8, gR_225_9, gR_225_10, gR_225_11, gR_225_12, gR_225_13, gR_225_14, gR_225_15, gR_225_16, gR_225_17, gR_225_18, gR_225_19, gR_225_20, gR_225_21, gR_225_35, gR_225_36, gR_225_38, gR_225_39, gR_225_40, gR_225_41, gR_225_43, gR_225_44, gR_225_45, gR_225_48, gR_225_49, gR_225_50, gR_225_51, gR_225_53, gR_225_54, gR_225_55, gR_225_56, gR_225_58, gR_225_59, gR_225_60, gR_225_61, gR_225_62, gR_225_63, gR_225_66, gR_225_67, bq_s, bd_s, mp_s, rz_0, rz_1, bI_rz, m_isThere h1, bI_0, ite_n]
  by_cases q : laidQ D c
  · rw [if_pos q, if_pos q]
    simp (disch := first | (with_reducible assumption) | omega | exact ⟨by omega, by omega⟩ | ((with_reducible first | apply Wf.wI | apply Wf.wL | apply Wf.fL | apply Wf.fI | apply Wf.fr); (repeat (with_reducible first | assumption | apply Wf.wI | apply Wf.wL | apply Wf.fL | apply Wf.fI | apply Wf.fr)))) only [bq_s, bd_s, mp_s, rz_0, rz_1, bI_rz, m_isRain h2, bI_0, ite_n]
    by_cases q1 : okR D r
    · rw [if_pos q1, if_pos q1]
      simp (disch := first | (with_reducible assumption) | omega | exact ⟨by omega, by omega⟩ | ((with_reducible first | apply Wf.wI | apply Wf.wL | apply Wf.fL | apply Wf.fI | apply Wf.fr); (repeat (with_reducible first | assumption | apply Wf.wI | apply Wf.wL | apply Wf.fL | apply Wf.fI | apply Wf.fr)))) only [bq_s, bd_s, mp_s, rz_0, rz_1, bI_rz, m_isHour, bI_0, ite_n]
      by_cases q2 : okH x
      · rw [if_pos q2, if_pos q2]
        obtain ⟨k, s, hk, rfl, e1, hx⟩ := laidQ_of h q
        obtain ⟨r, hr, rfl⟩ := okR_of h.t q1
        obtain ⟨u, hu, rfl⟩ := nI_rng (n := 30) (by omega) q2.1 q2.2
        obtain ⟨ρ, g1, g2, g3⟩ := m_run1 h2 rI_eq
        have hw3 : Wf ρ := h2.w.fr g2
        have ha := atf_lt (c := k) (r := r) (t := u) (by omega) (by omega) hu
        rw [g1, e1, ix_nI (by omega), ix_nI (by omega)]
        simp (disch := first | (with_reducible assumption) | omega | exact ⟨by omega, by omega⟩ | ((with_reducible first | apply Wf.wI | apply Wf.wL | apply Wf.fL | apply Wf.fI | apply Wf.fr); (repeat (with_reducible first | assumption | apply Wf.wI | apply Wf.wL | apply Wf.fL | apply Wf.fI | apply Wf.fr)))) only [ck_225, gI_225, gL_225, pI_225, pZ0_225, pZ1_225, pL_225, gR_225_1, gR_225_3, gR_225_4, gR_225_5, gR_225_6, gR_225_7, gR_225_8, gR_225_9, gR_225_10, gR_225_11, gR_225_12, gR_225_13, gR_225_14, gR_225_15, gR_225_16, gR_225_17, gR_225_18, gR_225_19, gR_225_20, gR_225_21, gR_225_35, gR_225_36, gR_225_38, gR_225_39, gR_225_40, gR_225_41, gR_225_43, gR_225_44, gR_225_45, gR_225_48, gR_225_49, gR_225_50, gR_225_51, gR_225_53, gR_225_54, gR_225_55, gR_225_56, gR_225_58, gR_225_59, gR_225_60, gR_225_61, gR_225_62, gR_225_63, gR_225_66, gR_225_67, bq_s, bd_s, mp_s, rz_0, rz_1, bI_rz, m_atFlow, aL_253, (g3 k hk r hr u hu).2]
        exact ⟨_, rfl, rfl, f2.trans (g2.mono Xr_q)⟩
      · rw [if_neg q2, if_neg q2]; exact ⟨_, rfl, rfl, f2⟩
    · rw [if_neg q1, if_neg q1]; exact ⟨_, rfl, rfl, f2⟩
  · rw [if_neg q, if_neg q]; exact ⟨_, rfl, rfl, f2⟩
/-- all that is flooded -/
noncomputable def flc (D : DD) (r c : Nat) : Nat → Nat := sm (fun u => fld D (stD D) (capD D) r c u)
noncomputable def fla (D : DD) (r : Nat) : Nat → Nat := sm (fun c => flc D r c 30)
noncomputable def sFloods (D : DD) (r : Int32) : Int64 := if okR D r then iL ((fla D (ix r) (nC D) : Nat) : Int) else iL (-1)
theorem m_fl46 (h : MInv σ D) (hF : FlR σ D (stD D) (capD D)) {r c : Nat} (hr0 : r < nR D) (hc : c < nC D) (K32 : Nat → Int32 → Int64 → Int32 → ah_H → Option (Int64 × ah_H)) (v : Nat) : ∀ m k fu, k + m = 30 → m < fu → f_X12_floods_46 K32 fu 225 (nI r) (iL ((v + flc D r c k : Nat) : Int)) (nI c) (nI k) σ = K32 225 (nI r) (iL ((v + flc D r c 30 : Nat) : Int)) (nI (c + 1)) σ := by
  have hw := h.w
  have b1 := h.bd
  intro m
  induction m with
  | zero =>
    intro k fu hk hf
    obtain ⟨fu, rfl⟩ : ∃ q, fu = q + 1 := ⟨fu - 1, by omega⟩
    obtain rfl : k = 30 := by omega
    show f_X12_floods_46_b _ _ _ _ _ _ _ _ = _
    unfold f_X12_floods_46_b f_X12_floods_75
    simp only [to_bq, l_0, l_1, l_2, l_3, l_4, l_5, l_6, l_7, l_8, l_9, l_10, l_11, l_12, l_13, l_14, l_15, l_16, l_17, l_18, l_19, l_20, l_21, l_22, l_23, l_24, l_25, l_26, l_27, l_28, l_29, l_30, l_31, l_32, l_40, l_41, l_42, l_43, l_44, l_45, l_46, l_47, l_48, l_49, l_50, l_51, l_52, l_53, l_54, l_55, l_56, l_57, l_58, l_59, l_60, l_61, l_62, l_63, l_64, l_72, l_97, l_99, l_100, l_104, l_120, l_122, l_128, l_140, l_255, l_256, l_257, l_258, l_260, l_261, l_262, l_364, l_680, l_700, l_701, l_840, l_999, l_1023, l_1024, l_9999, l_10000, l_1000000, lm]
    simp (disch := first | (with_reducible assumption) | omega | exact ⟨by omega, by omega⟩ | ((with_reducible first | apply Wf.wI | apply Wf.wL | apply Wf.fL | apply Wf.fI | apply Wf.fr); (repeat (with_reducible first | assumption | apply Wf.wI | apply Wf.wL | apply Wf.fL | apply Wf.fI | apply Wf.fr)))) only [zadd, zmul, zsub, le_nI, lt_nI, eq_nI, neg_nI, gen_nI, neg_lt, neg_le, neg_lt', neg_le', nI_lt0, if_true, if_false, ite_true, ite_false, reduceIte, not_true, not_false, and_true, true_and, and_false, false_and, or_true, true_or, or_false, false_or, eq_self, Nat.le_refl]
  | succ m ih =>
    intro k fu hk hf
    obtain ⟨fu, rfl⟩ : ∃ q, fu = q + 1 := ⟨fu - 1, by omega⟩
    have ha := atf_lt (c := c) (r := r) (t := k) (by omega) (by omega) (by omega)
    show f_X12_floods_46_b _ _ _ _ _ _ _ _ = _
    unfold f_X12_floods_46_b
    simp only [to_bq, l_0, l_1, l_2, l_3, l_4, l_5, l_6, l_7, l_8, l_9, l_10, l_11, l_12, l_13, l_14, l_15, l_16, l_17, l_18, l_19, l_20, l_21, l_22, l_23, l_24, l_25, l_26, l_27, l_28, l_29, l_30, l_31, l_32, l_40, l_41, l_42, l_43, l_44, l_45, l_46, l_47, l_48, l_49, l_50, l_51, l_52, l_53, l_54, l_55, l_56, l_57, l_58, l_59, l_60, l_61, l_62, l_63, l_64, l_72, l_97, l_99, l_100, l_104, l_120, l_122, l_128, l_140, l_255, l_256, l_257, l_258, l_260, l_261, l_262, l_364, l_680, l_700, l_701, l_840, l_999, l_1023, l_1024, l_9999, l_10000, l_1000000, lm]
    simp (disch := first | (with_reducible assumption) | omega | exact ⟨by omega, by omega⟩ | ((with_reducible first | apply Wf.wI | apply Wf.wL | apply Wf.fL | apply Wf.fI | apply Wf.fr); (repeat (with_reducible first | assumption | apply Wf.wI | apply Wf.wL | apply Wf.fL | apply Wf.fI | apply Wf.fr)))) only [ck_225, gI_225, gL_225, pI_225, pZ0_225, pZ1_225, pL_225, gR_225_1, gR_225_3, gR_225_4, gR_225_5, gR_225_6, gR_225_7, gR_225_8, gR_225_9, gR_225_10, gR_225_11, gR_225_12, gR_225_13, gR_225_14, gR_225_15, gR_225_16, gR_225_17, gR_225_18, gR_225_19, gR_225_20, gR_225_21, gR_225_35, gR_225_36, gR_225_38, gR_225_39, gR_225_40, gR_225_41, gR_225_43, gR_225_44, gR_225_45, gR_225_48, gR_225_49, gR_225_50, gR_225_51, gR_225_53, gR_225_54, gR_225_55, gR_225_56, gR_225_58, gR_225_59, gR_225_60, gR_225_61, gR_225_62, gR_225_63, gR_225_66, gR_225_67, bq_s, bd_s, mp_s, rz_0, rz_1, bI_rz, zadd, zmul, zsub, le_nI, lt_nI, eq_nI, neg_nI, gen_nI, neg_lt, neg_le, neg_lt', neg_le', nI_lt0, if_true, if_false, ite_true, ite_false, reduceIte, not_true, not_false, and_true, true_and, and_false, false_and, or_true, true_or, or_false, false_or, eq_self, m_atFlow, aL_253, (hF c hc r hr0 k (by omega)).2, iadd, show (30 ≤ k) = False from eq_false (by omega)]
    rw [← ih (k + 1) fu (by omega) (by omega)]
    congr 2
    show _ = ((v + (flc D r c k + fld D (stD D) (capD D) r c k) : Nat) : Int)
    omega
theorem m_fl32 (h : MInv σ D) (hF : FlR σ D (stD D) (capD D)) {r : Nat} (hr0 : r < nR D) : ∀ m k fu, k + m = nC D → m < fu → f_X12_floods_32 fu 225 (nI r) (iL ((fla D r k : Nat) : Int)) (nI k) σ = some (iL ((fla D r (nC D) : Nat) : Int), σ) := by
  have hw := h.w
  have b1 := h.bd
  intro m
  induction m with
  | zero =>
    intro k fu hk hf
    obtain ⟨fu, rfl⟩ : ∃ q, fu = q + 1 := ⟨fu - 1, by omega⟩
    obtain rfl : k = nC D := by omega
    show f_X12_floods_32_b _ _ _ _ _ _ = _
    unfold f_X12_floods_32_b
    simp only [to_bq, l_0, l_1, l_2, l_3, l_4, l_5, l_6, l_7, l_8, l_9, l_10, l_11, l_12, l_13, l_14, l_15, l_16, l_17, l_18, l_19, l_20, l_21, l_22, l_23, l_24, l_25, l_26, l_27, l_28, l_29, l_30, l_31, l_32, l_40, l_41, l_42, l_43, l_44, l_45, l_46, l_47, l_48, l_49, l_50, l_51, l_52, l_53, l_54, l_55, l_56, l_57, l_58, l_59, l_60, l_61, l_62, l_63, l_64, l_72, l_97, l_99, l_100, l_104, l_120, l_122, l_128, l_140, l_255, l_256, l_257, l_258, l_260, l_261, l_262, l_364, l_680, l_700, l_701, l_840, l_999, l_1023, l_1024, l_9999, l_10000, l_1000000, lm]
    simp (disch := first | (with_reducible assumption) | omega | exact ⟨by omega, by omega⟩ | ((with_reducible first | apply Wf.wI | apply Wf.wL | apply Wf.fL | apply Wf.fI | apply Wf.fr); (repeat (with_reducible first | assumption | apply Wf.wI | apply Wf.wL | apply Wf.fL | apply Wf.fI | apply Wf.fr)))) only [ck_225, gI_225, gL_225, pI_225, pZ0_225, pZ1_225, pL_225, gR_225_1, gR_225_3, gR_225_4, gR_225_5, gR_225_6, gR_225_7, gR_225_8, gR_225_9, gR_225_10, gR_225_11, gR_225_12, gR_225_13, gR_225_14, gR_225_15, gR_225_16, gR_225_17, gR_225_18, gR_225_19, gR_225_20, gR_225_21, gR_225_35, gR_225_36, gR_225_38, gR_225_39, gR_225_40, gR_225_41, gR_225_43, gR_225_44, gR_225_45, gR_225_48, gR_225_49, gR_225_50, gR_225_51, gR_225_53, gR_225_54, gR_225_55, gR_225_56, gR_225_58, gR_225_59, gR_225_60, gR_225_61, gR_225_62, gR_225_63, gR_225_66, gR_225_67, bq_s, bd_s, mp_s, rz_0, rz_1, bI_rz, zadd, zmul, zsub, le_nI, lt_nI, eq_nI, neg_nI, gen_nI, neg_lt, neg_le, neg_lt', neg_le', nI_lt0, if_true, if_false, ite_true, ite_false, reduceIte, not_true, not_false, and_true, true_and, and_false, false_and, or_true, true_or, or_false, false_or, eq_self, aI_227, rd_C h, Nat.le_refl]
  | succ m ih =>
    intro k fu hk hf
    obtain ⟨fu, rfl⟩ : ∃ q, fu = q + 1 := ⟨fu - 1, by omega⟩
    show f_X12_floods_32_b _ _ _ _ _ _ = _
    unfold f_X12_floods_32_b
    simp only [to_bq, l_0, l_1, l_2, l_3, l_4, l_5, l_6, l_7, l_8, l_9, l_10, l_11, l_12, l_13, l_14, l_15, l_16, l_17, l_18, l_19, l_20, l_21, l_22, l_23, l_24, l_25, l_26, l_27, l_28, l_29, l_30, l_31, l_32, l_40, l_41, l_42, l_43, l_44, l_45, l_46, l_47, l_48, l_49, l_50, l_51, l_52, l_53, l_54, l_55, l_56, l_57, l_58, l_59, l_60, l_61, l_62, l_63, l_64, l_72, l_97, l_99, l_100, l_104, l_120, l_122, l_128, l_140, l_255, l_256, l_257, l_258, l_260, l_261, l_262, l_364, l_680, l_700, l_701, l_840, l_999, l_1023, l_1024, l_9999, l_10000, l_1000000, lm]
    simp (disch := first | (with_reducible assumption) | omega | exact ⟨by omega, by omega⟩ | ((with_reducible first | apply Wf.wI | apply Wf.wL | apply Wf.fL | apply Wf.fI | apply Wf.fr); (repeat (with_reducible first | assumption | apply Wf.wI | apply Wf.wL | apply Wf.fL | apply Wf.fI | apply Wf.fr)))) only [ck_225, gI_225, gL_225, pI_225, pZ0_225, pZ1_225, pL_225, gR_225_1, gR_225_3, gR_225_4, gR_225_5, gR_225_6, gR_225_7, gR_225_8, gR_225_9, gR_225_10, gR_225_11, gR_225_12, gR_225_13, gR_225_14, gR_225_15, gR_225_16, gR_225_17, gR_225_18, gR_225_19, gR_225_20, gR_225_21, gR_225_35, gR_225_36, gR_225_38, gR_225_39, gR_225_40, gR_225_41, gR_225_43, gR_225_44, gR_225_45, gR_225_48, gR_225_49, gR_225_50, gR_225_51, gR_225_53, gR_225_54, gR_225_55, gR_225_56, gR_225_58, gR_225_59, gR_225_60, gR_225_61, gR_225_62, gR_225_63, gR_225_66, gR_225_67, bq_s, bd_s, mp_s, rz_0, rz_1, bI_rz, zadd, zmul, zsub, le_nI, lt_nI, eq_nI, neg_nI, gen_nI, neg_lt, neg_le, neg_lt', neg_le', nI_lt0, if_true, if_false, ite_true, ite_false, reduceIte, not_true, not_false, and_true, true_and, and_false, false_and, or_true, true_or, or_false, false_or, eq_self, aI_227, rd_C h, show (nC D ≤ k) = False from eq_false (by omega)]
    have := m_fl46 h hF hr0 (show k < nC D by omega) (f_X12_floods_32 fu) (fla D r k) 30 0 5000 (by omega) (by omega)
    have this : f_X12_floods_46 (f_X12_floods_32 fu) 5000 225 (nI r) (iL ((fla D r k : Nat) : Int)) (nI k) (nI 0) σ = _ := this
    rw [this]
    exact ih (k + 1) fu (by omega) (by omega)
theorem m_floods (h : MInv σ D) (r : Int32) : Ok (f_X12_floods 225 r σ) (fun q => q.1 = sFloods D r ∧ Fr Xq σ q.2) := by
  have hw := h.w
  have b1 := h.bd
  have h1 : MInv (ah_wI σ 225 0 (nI 0)) D := h.q (Fr.q0 (by omega))
  have f1 : Fr Xq σ (ah_wI σ 225 0 (nI 0)) := Fr.q0 (by omega)
  have f2 : Fr Xq σ (ah_wI (ah_wI σ 225 0 (nI 0)) 225 42 (nI 0)) := (Fr.q0 (by omega)).trans (Fr.q0 (by omega))
  have h2 := h.q f2
  unfold f_X12_floods f_X12_floods_0 sFloods
  simp only [to_bq, l_0, l_1, l_2, l_3, l_4, l_5, l_6, l_7, l_8, l_9, l_10, l_11, l_12, l_13, l_14, l_15, l_16, l_17, l_18, l_19, l_20, l_21, l_22, l_23, l_24, l_25, l_26, l_27, l_28, l_29, l_30, l_31, l_32, l_40, l_41, l_42, l_43, l_44, l_45, l_46, l_47, l_48, l_49, l_50, l_51, l_52, l_53, l_54, l_55, l_56, l_57, l_58, l_59, l_60, l_61, l_62, l_63, l_64, l_72, l_97, l_99, l_100, l_104, l_120, l_122, l_128, l_140, l_255, l_256, l_257, l_258, l_260, l_261, l_262, l_364, l_680, l_700, l_701, l_840, l_999, l_1023, l_1024, l_9999, l_10000, l_1000000, lm]
  simp (disch := first | (with_reducible assumption) | omega | exact ⟨by omega, by omega⟩ | ((with_reducible first | apply Wf.wI | apply Wf.wL | apply Wf.fL | apply Wf.fI | apply Wf.fr); (repeat (with_reducible first | assumption | apply Wf.wI | apply Wf.wL | apply Wf.fL | apply Wf.fI | apply Wf.fr)))) only [ck_225, gI_225, gL_225, pI_225, pZ0_225, pZ1_225, pL_225, gR_225_1, gR_225_3, gR_225_4, gR_225_5, gR_225_6, gR_225_7, gR_225_8, gR_225_9, gR_225_10, gR_225_11, gR_225_12, gR_225_13, gR_225_14, gR_225_15, gR_225_16, gR_225_17, gR_225_18, gR_225_19, gR_225_20, gR_225_21, gR_225_35, gR_225_36, gR_225_38, gR_225_39, gR_225_40, gR_225_41, gR_225_43, gR_225_44, gR_225_45, gR_225_48, gR_225_49, gR_225_50, gR_225_51, gR_225_53, gR_225_54, gR_225_55, gR_225_56, gR_225_58, gR_225_59, gR_225_60, gR_225_61, gR_225_62, gR_225_63, gR_225_66, gR_225_67, bq_s, bd_s, mp_s, rz_0, rz_1, bI_rz, m_isRain h1, bI_0, ite_n]
  by_cases q1 : okR D r
  · rw [if_pos q1, if_pos q1]
    obtain ⟨r, hr, rfl⟩ := okR_of h.t q1
    obtain ⟨ρ, g1, g2, g3⟩ := m_run1 h2 rI_eq
    have h3 := h2.q (g2.mono Xr_q)
    simp (disch := first | (with_reducible assumption) | omega | exact ⟨by omega, by omega⟩ | ((with_reducible first | apply Wf.wI | apply Wf.wL | apply Wf.fL | apply Wf.fI | apply Wf.fr); (repeat (with_reducible first | assumption | apply Wf.wI | apply Wf.wL | apply Wf.fL | apply Wf.fI | apply Wf.fr)))) only [ck_225, gI_225, gL_225, pI_225, pZ0_225, pZ1_225, pL_225, gR_225_1, gR_225_3, gR_225_4, gR_225_5, gR_225_6, gR_225_7, gR_225_8, gR_225_9, gR_225_10, gR_225_11, gR_225_12, gR_225_13, gR_225_14, gR_225_15, gR_225_16, gR_225_17, gR_225_18, gR_225_19, gR_225_20, gR_225_21, gR_225_35, gR_225_36, gR_225_38, gR_225_39, gR_225_40, gR_225_41, gR_225_43, gR_225_44, gR_225_45, gR_225_48, gR_225_49, gR_225_50, gR_225_51, gR_225_53, gR_225_54, gR_225_55, gR_225_56, gR_225_58, gR_225_59, gR_225_60, gR_225_61, gR_225_62, gR_225_63, gR_225_66, gR_225_67, bq_s, bd_s, mp_s, rz_0, rz_1, bI_rz, g1]
    rw [ix_nI (by omega), q_0]
    have := m_fl32 h3 g3 hr (nC D) 0 5000 (by omega) (by omega)
    exact ⟨_, this, rfl, f2.trans (g2.mono Xr_q)⟩
  · rw [if_neg q1, if_neg q1]; exact ⟨_, rfl, rfl, f1⟩
noncomputable def sWorst (D : DD) (c w : Int32) : Int64 := if laidQ D c then (if nR D = 0 then iL (-1) else if w < nI 0 then iL (-1) else if w ≤ nI 2 then (if w = nI 0 then iL ((gmx D (stD D) plain (ix c) : Nat) : Int) else if w = nI 1 then iL ((pkD D (stD D) plain (ix c) / 30 : Nat) : Int) else iL ((pkD D (stD D) plain (ix c) % 30 : Nat) : Int)) else iL (-1)) else iL (-1)
theorem m_worst (h : MInv σ D) (c w : Int32) : Ok (f_X12_worst 225 c w σ) (fun q => q.1 = sWorst D c w ∧ Fr Xq σ q.2) := by
  have hw := h.w
  have b1 := h.bd
  have h1 : MInv (ah_wI σ 225 0 (nI 0)) D := h.q (Fr.q0 (by omega))
  have f2 : Fr Xq σ (ah_wI (ah_wI σ 225 0 (nI 0)) 225 42 (nI 0)) := (Fr.q0 (by omega)).trans (Fr.q0 (by omega))
  have h2 := h.q f2
  have hw2 := h2.w
  unfold f_X12_worst f_X12_worst_0 sWorst
  simp only [to_bq, l_0, l_1, l_2, l_3, l_4, l_5, l_6, l_7, l_8, l_9, l_10, l_11, l_12, l_13, l_14, l_15, l_16, l_17, l_18, l_19, l_20, l_21, l_22, l_23, l_24, l_25, l_26, l_27, l_28, l_29, l_30, l_31, l_32, l_40, l_41, l_42, l_43, l_44, l_45, l_46, l_47, l_48, l_49, l_50, l_51, l_52, l_53, l_54, l_55, l_56, l_57, l_58, l_59, l_60, l_61, l_62, l_63, l_64, l_72, l_97, l_99, l_100, l_104, l_120, l_122, l_128, l_140, l_255, l_256, l_257, l_258, l_260, l_261, l_262, l_364, l_680, l_700, l_701, l_840, l_999, l_1023, l_1024, l_9999, l_10000, l_1000000, lm]
  simp (disch := first | (with_reducible assumption) | omega | exact ⟨by omega, by omega⟩ | ((with_reducible first | apply Wf.wI | apply Wf.wL | apply Wf.fL | apply Wf.fI | apply Wf.fr); (repeat (with_reducible first | assumption | apply Wf.wI | apply Wf.wL | apply Wf.fL | apply Wf.fI | apply Wf.fr)))) only [ck_225, gI_225, gL_225, pI_225, pZ0_225, pZ1_225, pL_225, gR_225_1, gR_225_3, gR_225_4, gR_225_5, gR_225_6, gR_225_7, gR_225_8, gR_225_9, gR_225_10, gR_225_11, gR_225_12, gR_225_13, gR_225_14, gR_225_15, gR_225_16, gR_225_17, gR_225_18, gR_225_19, gR_225_20, gR_225_21, gR_225_35, gR_225_36, gR_225_38, gR_225_39, gR_225_40, gR_225_41, gR_225_43, gR_225_44, gR_225_45, gR_225_48, gR_225_49, gR_225_50, gR_225_51, gR_225_53, gR_225_54, gR_225_55, gR_225_56, gR_225_58, gR_225_59, gR_225_60, gR_225_61, gR_225_62, gR_225_63, gR_225_66, gR_225_67, bq_s, bd_s, mp_s, rz_0, rz_1, bI_rz, m_isThere h1, bI_0, ite_n]
  by_cases q : laidQ D c
  · rw [if_pos q, if_pos q]
    simp (disch := first | (with_reducible assumption) | omega | exact ⟨by omega, by omega⟩ | ((with_reducible first | apply Wf.wI | apply Wf.wL | apply Wf.fL | apply Wf.fI | apply Wf.fr); (repeat (with_reducible first | assumption | apply Wf.wI | apply Wf.wL | apply Wf.fL | apply Wf.fI | apply Wf.fr)))) only [ck_225, gI_225, gL_225, pI_225, pZ0_225, pZ1_225, pL_225, gR_225_1, gR_225_3, gR_225_4, gR_225_5, gR_225_6, gR_225_7, gR_225_8, gR_225_9, gR_225_10, gR_225_11, gR_225_12, gR_225_13, gR_225_14, gR_225_15, gR_225_16, gR_225_17, gR_225_18, gR_225_19, gR_225_20, gR_225_21, gR_225_35, gR_225_36, gR_225_38, gR_225_39, gR_225_40, gR_225_41, gR_225_43, gR_225_44, gR_225_45, gR_225_48, gR_225_49, gR_225_50, gR_225_51, gR_225_53, gR_225_54, gR_225_55, gR_225_56, gR_225_58, gR_225_59, gR_225_60, gR_225_61, gR_225_62, gR_225_63, gR_225_66, gR_225_67, bq_s, bd_s, mp_s, rz_0, rz_1, bI_rz, zadd, zmul, zsub, le_nI, lt_nI, eq_nI, neg_nI, gen_nI, neg_lt, neg_le, neg_lt', neg_le', nI_lt0, aI_227, rd_N h2]
    by_cases q0 : nR D = 0
    · rw [if_pos q0, if_pos q0]; exact ⟨_, rfl, rfl, f2⟩
    rw [if_neg q0, if_neg q0]
    by_cases q1 : w < nI 0
    · rw [if_pos q1, if_pos q1]; exact ⟨_, rfl, rfl, f2⟩
    rw [if_neg q1, if_neg q1]
    by_cases q2 : w ≤ nI 2
    · rw [if_pos q2, if_pos q2]
      obtain ⟨k, s, hk, rfl, e1, hx⟩ := laidQ_of h q
      obtain ⟨ρ, g1, g2, g3⟩ := m_run0 h2 (h2.st0 rI_eq)
      have h3 := h2.q (g2.mono Xr_q)
      obtain ⟨⟨r1, r2⟩, k1, k2, k3, k4⟩ := m_greatest h3 g3 hk
      obtain ⟨k5, k6⟩ := k4 q0
      have k2 : r1 = _ := k2
      subst k2
      have hw4 : Wf r2 := h3.w.fr k3
      have fin : Fr Xq σ r2 := f2.trans ((g2.mono Xr_q).trans (k3.mono Xg_q))
      have hpl := pkx_lt (fq D (stD D) plain k) (m := 30 * nR D) (by omega)
      have hpl : pkD D (stD D) plain k < 30 * nR D := hpl
      rw [g1, bq_s, k1, bq_s, e1]
      by_cases q3 : w = nI 0
      · rw [if_pos q3, if_pos q3]; exact ⟨_, rfl, rfl, fin⟩
      rw [if_neg q3, if_neg q3]
      by_cases q4 : w = nI 1
      · rw [if_pos q4, if_pos q4, gI_225 (j := 46) hw4, bq_s, k5, toL_n (by omega)]; exact ⟨_, rfl, rfl, fin⟩
      · rw [if_neg q4, if_neg q4, gI_225 (j := 47) hw4, bq_s, k6, toL_n (by omega)]; exact ⟨_, rfl, rfl, fin⟩
    · rw [if_neg q2, if_neg q2]; exact ⟨_, rfl, rfl, f2⟩
  · rw [if_neg q, if_neg q]; exact ⟨_, rfl, rfl, f2⟩
/-- bursts -/
noncomputable def brs (D : DD) (c : Nat) : Nat := if gmx D (stD D) plain c = 0 then 9999 else min 9999 (capD D c * 100 / gmx D (stD D) plain c + 1)
theorem brs_b (c : Nat) : brs D c ≤ 9999 := by unfold brs; split <;> omega
theorem brs_z {g : Nat} {cd : Int} (hg : g ≠ 0) (hgb : g ≤ 1400000000) (h0 : 0 ≤ cd) (h1 : cd ≤ 1000000000000) : op_ldiv (iL cd * iL 100) (iL ((g : Nat) : Int)) = some (iL ((cd.toNat * 100 / g : Nat) : Int)) ∧ Int64.toInt32 (op_minl (iL 9999) (iL ((cd.toNat * 100 / g : Nat) : Int) + iL 1)) = nI (min 9999 (cd.toNat * 100 / g + 1)) := by
  have hdl : cd.toNat * 100 / g ≤ cd.toNat * 100 := Nat.div_le_self _ _
  have e1 : (cd * 100).tdiv (g : Int) = ((cd.toNat * 100 / g : Nat) : Int) := by
    obtain ⟨n, rfl⟩ : ∃ n : Nat, cd = (n : Int) := ⟨cd.toNat, by omega⟩
    rw [Int.tdiv_eq_ediv_of_nonneg (by omega)]
    rfl
  refine ⟨?_, ?_⟩
  · rw [imul, ldiv_i (by omega) (by omega) ⟨by omega, by omega⟩ (by omega), e1]
  · clear e1
    generalize cd.toNat * 100 / g = q at *
    rw [iadd, minl_i ⟨by omega, by omega⟩ ⟨by omega, by omega⟩, toI_i ⟨by omega, by omega⟩, jI_n]
    congr 1
    omega
theorem m_burstOf (h : MInv σ D) (hn : ah_I σ 225 42 = nI 0) (hF : FlR σ D (stD D) plain) {c s : Nat} (hc : c < nC D) (hx : stD D c = some s) : Ok (f_X12_burstOf 225 (nI c) σ) (fun r => r.1 = nI (brs D c) ∧ Fr Xa σ r.2) := by
  have hw := h.w
  have b1 := h.bd
  obtain ⟨⟨r1, r2⟩, k1, k2, k3, -⟩ := m_greatest h hF hc
  have k2 : r1 = _ := k2
  subst k2
  have hb := gmx_b (st := stD D) (cp := plain) h.t hc
  unfold f_X12_burstOf f_X12_burstOf_0 brs
  simp only [to_bq, l_0, l_1, l_2, l_3, l_4, l_5, l_6, l_7, l_8, l_9, l_10, l_11, l_12, l_13, l_14, l_15, l_16, l_17, l_18, l_19, l_20, l_21, l_22, l_23, l_24, l_25, l_26, l_27, l_28, l_29, l_30, l_31, l_32, l_40, l_41, l_42, l_43, l_44, l_45, l_46, l_47, l_48, l_49, l_50, l_51, l_52, l_53, l_54, l_55, l_56, l_57, l_58, l_59, l_60, l_61, l_62, l_63, l_64, l_72, l_97, l_99, l_100, l_104, l_120, l_122, l_128, l_140, l_255, l_256, l_257, l_258, l_260, l_261, l_262, l_364, l_680, l_700, l_701, l_840, l_999, l_1023, l_1024, l_9999, l_10000, l_1000000, lm]
  rw [ck_225 hw, k1, bq_s, q_0, q_100, q_1, q_9999]
  simp (disch := first | (with_reducible assumption) | omega | exact ⟨by omega, by omega⟩ | ((with_reducible first | apply Wf.wI | apply Wf.wL | apply Wf.fL | apply Wf.fI | apply Wf.fr); (repeat (with_reducible first | assumption | apply Wf.wI | apply Wf.wL | apply Wf.fL | apply Wf.fI | apply Wf.fr)))) only [cmp_e]
  by_cases q : gmx D (stD D) plain c = 0
  · rw [if_pos (by omega), if_pos q]
    exact ⟨_, rfl, rfl, k3.mono Xg_a⟩
  · rw [if_neg (by omega), if_neg q]
    obtain ⟨⟨r5, r6⟩, i1, i2, i3⟩ := m_carriesOf (h.q (k3.mono Xg_q)) ((k3.I (by unfold Xg; omega)).trans hn) hc hx
    have i2 : r5 = _ := i2
    subst i2
    have hcb := carD_b h.t h.n (show c < 7 by omega)
    obtain ⟨z1, z2⟩ := brs_z q hb hcb.1 hcb.2
    rw [i1, bq_s, z1, bq_s, z2]
    exact ⟨_, rfl, rfl, (k3.mono Xg_a).trans (i3.mono Xv_a)⟩
noncomputable def sBurst (D : DD) (c : Int32) : Int32 := if laidQ D c then nI (brs D (ix c)) else mI 1
theorem m_burst (h : MInv σ D) (c : Int32) : Ok (f_X12_burst 225 c σ) (fun q => q.1 = sBurst D c ∧ Fr Xq σ q.2) := by
  have hw := h.w
  have b1 := h.bd
  have h1 : MInv (ah_wI σ 225 0 (nI 0)) D := h.q (Fr.q0 (by omega))
  have f2 : Fr Xq σ (ah_wI (ah_wI σ 225 0 (nI 0)) 225 42 (nI 0)) := (Fr.q0 (by omega)).trans (Fr.q0 (by omega))
  have h2 := h.q f2
  unfold f_X12_burst f_X12_burst_0 sBurst
  simp only [to_bq, l_0, l_1, l_2, l_3, l_4, l_5, l_6, l_7, l_8, l_9, l_10, l_11, l_12, l_13, l_14, l_15, l_16, l_17, l_18, l_19, l_20, l_21, l_22, l_23, l_24, l_25, l_26, l_27, l_28, l_29, l_30, l_31, l_32, l_40, l_41, l_42, l_43, l_44, l_45, l_46, l_47, l_48, l_49, l_50, l_51, l_52, l_53, l_54, l_55, l_56, l_57, l_58, l_59, l_60, l_61, l_62, l_63, l_64, l_72, l_97, l_99, l_100, l_104, l_120, l_122, l_128, l_140, l_255, l_256, l_257, l_258, l_260, l_261, l_262, l_364, l_680, l_700, l_701, l_840, l_999, l_1023, l_1024, l_9999, l_10000, l_1000000, lm]
  simp (disch := first | (with_reducible assumption) | omega | exact ⟨by omega, by omega⟩ | ((with_reducible first | apply Wf.wI | apply Wf.wL | apply Wf.fL | apply Wf.fI | apply Wf.fr); (repeat (with_reducible first | assumption | apply Wf.wI | apply Wf.wL | apply Wf.fL | apply Wf.fI | apply Wf.fr)))) only [ck_225, gI_225, gL_225, pI_225, pZ0_225, pZ1_225, pL_225, gR_225_1, gR_225_3, gR_225_4, gR_225_5, gR_225_6, gR_225_7, gR_225_8, gR_225_9, gR_225_10, gR_225_11, gR_225_12, gR_225_13, gR_225_14, gR_225_15, gR_225_16, gR_225_17, gR_225_18, gR_225_19, gR_225_20, gR_225_21, gR_225_35, gR_225_36, gR_225_38, gR_225_39, gR_225_40, gR_225_41, gR_225_43, gR_225_44, gR_225_45, gR_225_48, gR_225_49, gR_225_50, gR_225_51, gR_225_53, gR_225_54, gR_225_55, gR_225_56, gR_225_58, gR_225_59, gR_225_60, gR_225_61, gR_225_62, gR_225_63, gR_225_66, gR_225_67, bq_s, bd_s, mp_s, rz_0, rz_1, bI_rz, l_0, l_1, l_2, l_3, l_4, l_5, l_6, l_7, l_8, l_9, l_10, l_11, l_12, l_13, l_14, l_15, l_16, l_17, l_18, l_19, l_20, l_21, l_22, l_23, l_24, l_25, l_26, l_27, l_28, l_29, l_30, l_31, l_32, l_40, l_41, l_42, l_43, l_44, l_45, l_46, l_47, l_48, l_49, l_50, l_51, l_52, l_53, l_54, l_55, l_56, l_57, l_58, l_59, l_60, l_61, l_62, l_63, l_64, l_72, l_97, l_99, l_100, l_104, l_120, l_122, l_128, l_140, l_255, l_256, l_257, l_258, l_260, l_261, l_262, l_364, l_680, l_700, l_701, l_840, l_999, l_1023, l_1024, l_9999, l_10000, l_1000000, lm, m_isThere h1, bI_0, ite_n]
  by_cases q : laidQ D c
  · rw [if_pos q, if_pos q]
    obtain ⟨k, s, hk, rfl, e1, hx⟩ := laidQ_of h q
    obtain ⟨ρ, g1, g2, g3⟩ := m_run0 h2 (h2.st0 rI_eq)
    have h3 := h2.q (g2.mono Xr_q)
    obtain ⟨⟨r1, r2⟩, k1, k2, k3⟩ := m_burstOf h3 ((g2.I (by unfold Xr; omega)).trans rI_eq) g3 hk hx
    rw [g1, bq_s, k1, bq_s, e1]
    exact ⟨_, rfl, k2, f2.trans ((g2.mono Xr_q).trans (k3.mono Xa_q))⟩
  · rw [if_neg q, if_neg q]; exact ⟨_, rfl, rfl, f2⟩
/-- the first with the least, with the greatest -/
def bsl (st : Nat → Option Nat) (f : Nat → Nat) : Nat → Option Nat
  | 0 => none
  | k + 1 => if st k = none then bsl st f k else match bsl st f k with
    | none => some k
    | some b => if f k < f b then some k else some b
def bsg (st : Nat → Option Nat) (f : Nat → Nat) : Nat → Option Nat
  | 0 => none
  | k + 1 => if st k = none then bsg st f k else match bsg st f k with
    | none => some k
    | some b => if f b < f k then some k else some b
theorem bsl_in {st : Nat → Option Nat} {f : Nat → Nat} {k b : Nat} (h : bsl st f k = some b) : b < k ∧ st b ≠ none := by
  induction k with
  | zero => cases h
  | succ k ih =>
    unfold bsl at h
    by_cases q : st k = none
    · rw [if_pos q] at h
      exact ⟨by have := (ih h).1; omega, (ih h).2⟩
    · rw [if_neg q] at h
      cases e : bsl st f k with
      | none => rw [e] at h; cases h; exact ⟨by omega, q⟩
      | some c =>
        rw [e] at h
        simp only at h
        split at h
        · cases h; exact ⟨by omega, q⟩
        · cases h; exact ⟨by have := (ih e).1; omega, (ih e).2⟩
theorem bsg_in {st : Nat → Option Nat} {f : Nat → Nat} {k b : Nat} (h : bsg st f k = some b) : b < k ∧ st b ≠ none := by
  induction k with
  | zero => cases h
  | succ k ih =>
    unfold bsg at h
    by_cases q : st k = none
    · rw [if_pos q] at h
      exact ⟨by have := (ih h).1; omega, (ih h).2⟩
    · rw [if_neg q] at h
      cases e : bsg st f k with
      | none => rw [e] at h; cases h; exact ⟨by omega, q⟩
      | some c =>
        rw [e] at h
        simp only at h
        split at h
        · cases h; exact ⟨by omega, q⟩
        · cases h; exact ⟨by have := (ih e).1; omega, (ih e).2⟩
theorem m_bu19 (h0 : MInv σ D) (hn0 : ah_I σ 225 42 = nI 0) (hF0 : FlR σ D (stD D) plain) : ∀ m k fu τ, k + m = nC D → m < fu → Fr Xa σ τ → Ok (f_X12_bursts_19 fu 225 (sv (bsl (stD D) (brs D) k)) (nI k) τ) (fun r => r.1 = sv (bsl (stD D) (brs D) (nC D)) ∧ Fr Xa σ r.2) := by
  have b1 := h0.bd
  intro m
  induction m with
  | zero =>
    intro k fu τ hk hf hfr
    obtain ⟨fu, rfl⟩ : ∃ q, fu = q + 1 := ⟨fu - 1, by omega⟩
    obtain rfl : k = nC D := by omega
    have h := h0.q (hfr.mono Xa_q)
    have hw := h.w
    show Ok (f_X12_bursts_19_b _ _ _ _ _) _
    unfold f_X12_bursts_19_b
    simp only [to_bq, l_0, l_1, l_2, l_3, l_4, l_5, l_6, l_7, l_8, l_9, l_10, l_11, l_12, l_13, l_14, l_15, l_16, l_17, l_18, l_19, l_20, l_21, l_22, l_23, l_24, l_25, l_26, l_27, l_28, l_29, l_30, l_31, l_32, l_40, l_41, l_42, l_43, l_44, l_45, l_46, l_47, l_48, l_49, l_50, l_51, l_52, l_53, l_54, l_55, l_56, l_57, l_58, l_59, l_60, l_61, l_62, l_63, l_64, l_72, l_97, l_99, l_100, l_104, l_120, l_122, l_128, l_140, l_255, l_256, l_257, l_258, l_260, l_261, l_262, l_364, l_680, l_700, l_701, l_840, l_999, l_1023, l_1024, l_9999, l_10000, l_1000000, lm]
    simp (disch := first | (with_reducible assumption) | omega | exact ⟨by omega, by omega⟩ | ((with_reducible first | apply Wf.wI | apply Wf.wL | apply Wf.fL | apply Wf.fI | apply Wf.fr); (repeat (with_reducible first | assumption | apply Wf.wI | apply Wf.wL | apply Wf.fL | apply Wf.fI | apply Wf.fr)))) only [ck_225, gI_225, gL_225, pI_225, pZ0_225, pZ1_225, pL_225, gR_225_1, gR_225_3, gR_225_4, gR_225_5, gR_225_6, gR_225_7, gR_225_8, gR_225_9, gR_225_10, gR_225_11, gR_225_12, gR_225_13, gR_225_14, gR_225_15, gR_225_16, gR_225_17, gR_225_18, gR_225_19, gR_225_20, gR_225_21, gR_225_35, gR_225_36, gR_225_38, gR_225_39, gR_225_40, gR_225_41, gR_225_43, gR_225_44, gR_225_45, gR_225_48, gR_225_49, gR_225_50, gR_225_51, gR_225_53, gR_225_54, gR_225_55, gR_225_56, gR_225_58, gR_225_59, gR_225_60, gR_225_61, gR_225_62, gR_225_63, gR_225_66, gR_225_67, bq_s, bd_s, mp_s, rz_0, rz_1, bI_rz, zadd, zmul, zsub, le_nI, lt_nI, eq_nI, neg_nI, gen_nI, neg_lt, neg_le, neg_lt', neg_le', nI_lt0, if_true, if_false, ite_true, ite_false, reduceIte, not_true, not_false, and_true, true_and, and_false, false_and, or_true, true_or, or_false, false_or, eq_self, aI_227, rd_C h, Nat.le_refl]
    exact ⟨_, rfl, rfl, hfr⟩
  | succ m ih =>
    intro k fu τ hk hf hfr
    obtain ⟨fu, rfl⟩ : ∃ q, fu = q + 1 := ⟨fu - 1, by omega⟩
    have h := h0.q (hfr.mono Xa_q)
    have hw := h.w
    have hk' : k < nC D := by omega
    have hn : ah_I τ 225 42 = nI 0 := (hfr.I (by unfold Xa; omega)).trans hn0
    have hF := hF0.xa hfr
    have e0 : bsl (stD D) (brs D) (k + 1) = if stD D k = none then bsl (stD D) (brs D) k else match bsl (stD D) (brs D) k with
      | none => some k
      | some b => if brs D k < brs D b then some k else some b := rfl
    show Ok (f_X12_bursts_19_b _ _ _ _ _) _
    unfold f_X12_bursts_19_b f_X12_bursts_57 f_X12_bursts_55 f_X12_bursts_57
    simp only [to_bq, l_0, l_1, l_2, l_3, l_4, l_5, l_6, l_7, l_8, l_9, l_10, l_11, l_12, l_13, l_14, l_15, l_16, l_17, l_18, l_19, l_20, l_21, l_22, l_23, l_24, l_25, l_26, l_27, l_28, l_29, l_30, l_31, l_32, l_40, l_41, l_42, l_43, l_44, l_45, l_46, l_47, l_48, l_49, l_50, l_51, l_52, l_53, l_54, l_55, l_56, l_57, l_58, l_59, l_60, l_61, l_62, l_63, l_64, l_72, l_97, l_99, l_100, l_104, l_120, l_122, l_128, l_140, l_255, l_256, l_257, l_258, l_260, l_261, l_262, l_364, l_680, l_700, l_701, l_840, l_999, l_1023, l_1024, l_9999, l_10000, l_1000000, lm]
    simp (disch := first | (with_reducible assumption) | omega | exact ⟨by omega, by omega⟩ | ((with_reducible first | apply Wf.wI | apply Wf.wL | apply Wf.fL | apply Wf.fI | apply Wf.fr); (repeat (with_reducible first | assumption | apply Wf.wI | apply Wf.wL | apply Wf.fL | apply Wf.fI | apply Wf.fr)))) only [ck_225, gI_225, gL_225, pI_225, pZ0_225, pZ1_225, pL_225, gR_225_1, gR_225_3, gR_225_4, gR_225_5, gR_225_6, gR_225_7, gR_225_8, gR_225_9, gR_225_10, gR_225_11, gR_225_12, gR_225_13, gR_225_14, gR_225_15, gR_225_16, gR_225_17, gR_225_18, gR_225_19, gR_225_20, gR_225_21, gR_225_35, gR_225_36, gR_225_38, gR_225_39, gR_225_40, gR_225_41, gR_225_43, gR_225_44, gR_225_45, gR_225_48, gR_225_49, gR_225_50, gR_225_51, gR_225_53, gR_225_54, gR_225_55, gR_225_56, gR_225_58, gR_225_59, gR_225_60, gR_225_61, gR_225_62, gR_225_63, gR_225_66, gR_225_67, bq_s, bd_s, mp_s, rz_0, rz_1, bI_rz, zadd, zmul, zsub, le_nI, lt_nI, eq_nI, neg_nI, gen_nI, neg_lt, neg_le, neg_lt', neg_le', nI_lt0, if_true, if_false, ite_true, ite_false, reduceIte, not_true, not_false, and_true, true_and, and_false, false_and, or_true, true_or, or_false, false_or, eq_self, aI_227, rd_C h, show (nC D ≤ k) = False from eq_false (by omega), m_isLaid h (h.st0 hn) hk', bI_0, ite_n]
    cases hx : stD D k with
    | none =>
      rw [if_pos hx] at e0
      simp only [ne_eq, not_true_eq_false, if_true, if_false, ite_true, ite_false, reduceIte, not_true, not_false, and_true, true_and, and_false, false_and, or_true, true_or, or_false, false_or, eq_self]
      rw [← e0]
      exact ih (k + 1) fu τ (by omega) (by omega) hfr
    | some s =>
      rw [if_neg (by rw [hx]; intro q; cases q)] at e0
      simp only [ne_eq, reduceCtorEq, not_false_eq_true, if_true, if_false, ite_true, ite_false, reduceIte, not_true, not_false, and_true, true_and, and_false, false_and, or_true, true_or, or_false, false_or, eq_self]
      cases hb : bsl (stD D) (brs D) k with
      | none =>
        rw [hb] at e0
        rw [if_pos (show sv none = mI 1 from rfl)]
        have := ih (k + 1) fu τ (by omega) (by omega) hfr
        rw [e0] at this
        exact this
      | some b =>
        rw [hb] at e0
        obtain ⟨c1, c2⟩ := bsl_in hb
        have hbn : b < nC D := by omega
        cases hxb : stD D b with
        | none => exact absurd hxb c2
        | some sb =>
          rw [show sv (some b) = nI b from rfl, if_neg (show ¬ nI b = mI 1 by rw [neg_nI (by omega) (by omega) (by omega)]; exact fun z => z)]
          obtain ⟨⟨r1, r2⟩, k1, k2, k3⟩ := m_burstOf h hn hF hk' hx
          have k2 : r1 = _ := k2
          subst k2
          obtain ⟨⟨r3, r4⟩, j1, j2, j3⟩ := m_burstOf (h.q (k3.mono Xa_q)) ((k3.I (by unfold Xa; omega)).trans hn) (hF.xa k3) hbn hxb
          have j2 : r3 = _ := j2
          subst j2
          have w1 := brs_b (D := D) k
          have w2 := brs_b (D := D) b
          rw [k1, bq_s]
          show Ok (bq _ _ (f_X12_burstOf 225 (nI b) r2)) _
          rw [j1, bq_s]
          have f3 : Fr Xa σ r4 := hfr.trans (k3.trans j3)
          have hi := ih (k + 1) fu r4 (by omega) (by omega) f3
          rw [e0] at hi
          simp (disch := first | (with_reducible assumption) | omega | exact ⟨by omega, by omega⟩ | ((with_reducible first | apply Wf.wI | apply Wf.wL | apply Wf.fL | apply Wf.fI | apply Wf.fr); (repeat (with_reducible first | assumption | apply Wf.wI | apply Wf.wL | apply Wf.fL | apply Wf.fI | apply Wf.fr)))) only [zadd, zmul, zsub, le_nI, lt_nI, eq_nI, neg_nI, gen_nI, neg_lt, neg_le, neg_lt', neg_le', nI_lt0]
          simp only at hi
          by_cases q : brs D b ≤ brs D k
          · rw [if_neg (by omega)] at hi
            rw [if_pos q]
            exact hi
          · rw [if_pos (by omega)] at hi
            rw [if_neg q]
            exact hi
noncomputable def sBursts (D : DD) : Int32 := sv (bsl (stD D) (brs D) (nC D))
theorem m_bursts (h : MInv σ D) : Ok (f_X12_bursts 225 σ) (fun q => q.1 = sBursts D ∧ Fr Xq σ q.2) := by
  have hw := h.w
  have b1 := h.bd
  have f2 : Fr Xq σ (ah_wI (ah_wI σ 225 0 (nI 0)) 225 42 (nI 0)) := (Fr.q0 (by omega)).trans (Fr.q0 (by omega))
  have h2 := h.q f2
  obtain ⟨ρ, g1, g2, g3⟩ := m_run0 h2 (h2.st0 rI_eq)
  have h3 := h2.q (g2.mono Xr_q)
  unfold f_X12_bursts f_X12_bursts_0
  simp only [to_bq, l_0, l_1, l_2, l_3, l_4, l_5, l_6, l_7, l_8, l_9, l_10, l_11, l_12, l_13, l_14, l_15, l_16, l_17, l_18, l_19, l_20, l_21, l_22, l_23, l_24, l_25, l_26, l_27, l_28, l_29, l_30, l_31, l_32, l_40, l_41, l_42, l_43, l_44, l_45, l_46, l_47, l_48, l_49, l_50, l_51, l_52, l_53, l_54, l_55, l_56, l_57, l_58, l_59, l_60, l_61, l_62, l_63, l_64, l_72, l_97, l_99, l_100, l_104, l_120, l_122, l_128, l_140, l_255, l_256, l_257, l_258, l_260, l_261, l_262, l_364, l_680, l_700, l_701, l_840, l_999, l_1023, l_1024, l_9999, l_10000, l_1000000, lm]
  simp (disch := first | (with_reducible assumption) | omega | exact ⟨by omega, by omega⟩ | ((with_reducible first | apply Wf.wI | apply Wf.wL | apply Wf.fL | apply Wf.fI | apply Wf.fr); (repeat (with_reducible first | assumption | apply Wf.wI | apply Wf.wL | apply Wf.fL | apply Wf.fI | apply Wf.fr)))) only [ck_225, gI_225, gL_225, pI_225, pZ0_225, pZ1_225, pL_225, gR_225_1, gR_225_3, gR_225_4, gR_225_5, gR_225_6, gR_225_7, gR_225_8, gR_225_9, gR_225_10, gR_225_11, gR_225_12, gR_225_13, gR_225_14, gR_225_15, gR_225_16, gR_225_17, gR_225_18, gR_225_19, gR_225_20, gR_225_21, gR_225_35, gR_225_36, gR_225_38, gR_225_39, gR_225_40, gR_225_41, gR_225_43, gR_225_44, gR_225_45, gR_225_48, gR_225_49, gR_225_50, gR_225_51, gR_225_53, gR_225_54, gR_225_55, gR_225_56, gR_225_58, gR_225_59, gR_225_60, gR_225_61, gR_225_62, gR_225_63, gR_225_66, gR_225_67, bq_s, bd_s, mp_s, rz_0, rz_1, bI_rz, l_0, l_1, l_2, l_3, l_4, l_5, l_6, l_7, l_8, l_9, l_10, l_11, l_12, l_13, l_14, l_15, l_16, l_17, l_18, l_19, l_20, l_21, l_22, l_23, l_24, l_25, l_26, l_27, l_28, l_29, l_30, l_31, l_32, l_40, l_41, l_42, l_43, l_44, l_45, l_46, l_47, l_48, l_49, l_50, l_51, l_52, l_53, l_54, l_55, l_56, l_57, l_58, l_59, l_60, l_61, l_62, l_63, l_64, l_72, l_97, l_99, l_100, l_104, l_120, l_122, l_128, l_140, l_255, l_256, l_257, l_258, l_260, l_261, l_262, l_364, l_680, l_700, l_701, l_840, l_999, l_1023, l_1024, l_9999, l_10000, l_1000000, lm, g1]
  exact (m_bu19 h3 ((g2.I (by unfold Xr; omega)).trans rI_eq) g3 (nC D) 0 5000 ρ (by omega) (by omega) Fr.rfl).mono (fun r q => ⟨q.1, f2.trans ((g2.mono Xr_q).trans (q.2.mono Xa_q))⟩)
end
