/-! FIRST: where to look first, of both -/
noncomputable def thr (D : DD) (c : Nat) : Nat → Nat := sm (fun o => cif (Rt (nx D (stD D)) c o) (are D o) 0)
noncomputable def wgt (D : DD) (c : Nat) : Nat := match stD D c with
  | none => 0
  | some s => rsk D s * thr D c (nC D)
theorem thr_b {D : DD} (ht : MT D) (c : Nat) : ∀ k, k ≤ nC D → thr D c k ≤ 99 * k := by
  intro k hk
  have := sm_le (f := fun o => cif (Rt (nx D (stD D)) c o) (are D o) 0) (n := k) (B := 99) (fun o ho => cif_le (ht.qare9 (by omega)) (by omega))
  unfold thr
  omega
theorem wgt_b {D : DD} (ht : MT D) (hn : MN D) {c : Nat} (hc : c < nC D) : wgt D c ≤ 68607 := by
  have b := ht.qc7
  have h1 := thr_b ht c (nC D) (Nat.le_refl _)
  unfold wgt
  cases hx : stD D c with
  | none => exact Nat.zero_le _
  | some s =>
    have h2 := ht.qrsk99 (stD_b ht hn (by omega) hx)
    exact Nat.le_trans (Nat.mul_le_mul h2 (show thr D c (nC D) ≤ 693 by omega)) (by decide)
noncomputable def sFirst (D : DD) (w : Int32) : Int32 := if w < nI 0 then mI 1 else if w ≤ nI 1 then (match bsg (stD D) (wgt D) (nC D) with
  | none => mI 1
  | some b => if w = nI 0 then nI b else nI (wgt D b)) else mI 1
section
variable {σ : ah_H} {D : DD}
theorem m_cth5 (h : MInv σ D) (hn : ah_I σ 225 42 = nI 0) {c : Nat} (hc : c < nC D) : ∀ m k fu y, k + m = nC D → m + 1 < fu → y < nC D → f_X12_comesThrough_5 fu 225 (nI c) (nI y) (nI k) σ = some (cI (∃ j, j ≤ m ∧ itn (nx D (stD D)) j y = some c), σ) := by
  have hw := h.w
  have b1 := h.bd
  have hst := h.st0 hn
  intro m
  induction m with
  | zero =>
    intro k fu y hk hf hy
    obtain ⟨fu, rfl⟩ : ∃ q, fu = q + 2 := ⟨fu - 2, by omega⟩
    obtain rfl : k = nC D := by omega
    rw [cI_eq itn_le_0]
    show f_X12_comesThrough_5_b _ _ _ _ _ _ = _
    unfold f_X12_comesThrough_5_b
    simp only [to_bq, l_0, l_1, l_2, l_3, l_4, l_5, l_6, l_7, l_8, l_9, l_10, l_11, l_12, l_13, l_14, l_15, l_16, l_17, l_18, l_19, l_20, l_21, l_22, l_23, l_24, l_25, l_26, l_27, l_28, l_29, l_30, l_31, l_32, l_40, l_41, l_42, l_43, l_44, l_45, l_46, l_47, l_48, l_49, l_50, l_51, l_52, l_53, l_54, l_55, l_56, l_57, l_58, l_59, l_60, l_61, l_62, l_63, l_64, l_72, l_97, l_99, l_100, l_104, l_120, l_122, l_128, l_140, l_255, l_256, l_257, l_258, l_260, l_261, l_262, l_364, l_680, l_700, l_701, l_840, l_999, l_1023, l_1024, l_9999, l_10000, l_1000000, lm]
    simp (disch := first | (with_reducible assumption) | omega | exact ⟨by omega, by omega⟩ | ((with_reducible first | apply Wf.wI | apply Wf.wL | apply Wf.fL | apply Wf.fI | apply Wf.fr); (repeat (with_reducible first | assumption | apply Wf.wI | apply Wf.wL | apply Wf.fL | apply Wf.fI | apply Wf.fr)))) only [ck_225, gI_225, gL_225, pI_225, pZ0_225, pZ1_225, pL_225, gR_225_1, gR_225_3, gR_225_4, gR_225_5, gR_225_6, gR_225_7, gR_225_8, gR_225_9, gR_225_10, gR_225_11, gR_225_12, gR_225_13, gR_225_14, gR_225_15, gR_225_16, gR_225_17, gR_225_18, gR_225_19, gR_225_20, gR_225_21, gR_225_35, gR_225_36, gR_225_38, gR_225_39, gR_225_40, gR_225_41, gR_225_43, gR_225_44, gR_225_45, gR_225_48, gR_225_49, gR_225_50, gR_225_51, gR_225_53, gR_225_54, gR_225_55, gR_225_56, gR_225_58, gR_225_59, gR_225_60, gR_225_61, gR_225_62, gR_225_63, gR_225_66, gR_225_67, bq_s, bd_s, mp_s, rz_0, rz_1, bI_rz, zadd, zmul, zsub, le_nI, lt_nI, eq_nI, neg_nI, gen_nI, neg_lt, neg_le, neg_lt', neg_le', nI_lt0, if_true, if_false, ite_true, ite_false, reduceIte, not_true, not_false, and_true, true_and, and_false, false_and, or_true, true_or, or_false, false_or, eq_self, aI_227, rd_C h, Nat.lt_irrefl, m_isLaid h hst hy, bI_0, ite_n]
    by_cases q : y = c
    · rw [if_pos q, cI_t q]
    rw [if_neg q, cI_f q]
    cases hx : stD D y with
    | none => rw [if_pos rfl]
    | some s =>
      have hs := (hst.2.2 y hy).2 s hx
      have ho := h.t.qoth (c := y) hs
      rw [if_neg (by intro z; cases z), m_to h hst hy hx, bq_s]
      show f_X12_comesThrough_5_b _ _ _ _ _ _ = _
      unfold f_X12_comesThrough_5_b
      simp only [to_bq, l_0, l_1, l_2, l_3, l_4, l_5, l_6, l_7, l_8, l_9, l_10, l_11, l_12, l_13, l_14, l_15, l_16, l_17, l_18, l_19, l_20, l_21, l_22, l_23, l_24, l_25, l_26, l_27, l_28, l_29, l_30, l_31, l_32, l_40, l_41, l_42, l_43, l_44, l_45, l_46, l_47, l_48, l_49, l_50, l_51, l_52, l_53, l_54, l_55, l_56, l_57, l_58, l_59, l_60, l_61, l_62, l_63, l_64, l_72, l_97, l_99, l_100, l_104, l_120, l_122, l_128, l_140, l_255, l_256, l_257, l_258, l_260, l_261, l_262, l_364, l_680, l_700, l_701, l_840, l_999, l_1023, l_1024, l_9999, l_10000, l_1000000, lm]
      simp (disch := first | (with_reducible assumption) | omega | exact ⟨by omega, by omega⟩ | ((with_reducible first | apply Wf.wI | apply Wf.wL | apply Wf.fL | apply Wf.fI | apply Wf.fr); (repeat (with_reducible first | assumption | apply Wf.wI | apply Wf.wL | apply Wf.fL | apply Wf.fI | apply Wf.fr)))) only [ck_225, gI_225, gL_225, pI_225, pZ0_225, pZ1_225, pL_225, gR_225_1, gR_225_3, gR_225_4, gR_225_5, gR_225_6, gR_225_7, gR_225_8, gR_225_9, gR_225_10, gR_225_11, gR_225_12, gR_225_13, gR_225_14, gR_225_15, gR_225_16, gR_225_17, gR_225_18, gR_225_19, gR_225_20, gR_225_21, gR_225_35, gR_225_36, gR_225_38, gR_225_39, gR_225_40, gR_225_41, gR_225_43, gR_225_44, gR_225_45, gR_225_48, gR_225_49, gR_225_50, gR_225_51, gR_225_53, gR_225_54, gR_225_55, gR_225_56, gR_225_58, gR_225_59, gR_225_60, gR_225_61, gR_225_62, gR_225_63, gR_225_66, gR_225_67, bq_s, bd_s, mp_s, rz_0, rz_1, bI_rz, zadd, zmul, zsub, le_nI, lt_nI, eq_nI, neg_nI, gen_nI, neg_lt, neg_le, neg_lt', neg_le', nI_lt0, if_true, if_false, ite_true, ite_false, reduceIte, not_true, not_false, and_true, true_and, and_false, false_and, or_true, true_or, or_false, false_or, eq_self, aI_227, rd_C h, show (nC D < nC D + 1) = True from eq_true (by omega)]
  | succ m ih =>
    intro k fu y hk hf hy
    obtain ⟨fu, rfl⟩ : ∃ q, fu = q + 1 := ⟨fu - 1, by omega⟩
    rw [cI_eq itn_le_s]
    show f_X12_comesThrough_5_b _ _ _ _ _ _ = _
    unfold f_X12_comesThrough_5_b
    simp only [to_bq, l_0, l_1, l_2, l_3, l_4, l_5, l_6, l_7, l_8, l_9, l_10, l_11, l_12, l_13, l_14, l_15, l_16, l_17, l_18, l_19, l_20, l_21, l_22, l_23, l_24, l_25, l_26, l_27, l_28, l_29, l_30, l_31, l_32, l_40, l_41, l_42, l_43, l_44, l_45, l_46, l_47, l_48, l_49, l_50, l_51, l_52, l_53, l_54, l_55, l_56, l_57, l_58, l_59, l_60, l_61, l_62, l_63, l_64, l_72, l_97, l_99, l_100, l_104, l_120, l_122, l_128, l_140, l_255, l_256, l_257, l_258, l_260, l_261, l_262, l_364, l_680, l_700, l_701, l_840, l_999, l_1023, l_1024, l_9999, l_10000, l_1000000, lm]
    simp (disch := first | (with_reducible assumption) | omega | exact ⟨by omega, by omega⟩ | ((with_reducible first | apply Wf.wI | apply Wf.wL | apply Wf.fL | apply Wf.fI | apply Wf.fr); (repeat (with_reducible first | assumption | apply Wf.wI | apply Wf.wL | apply Wf.fL | apply Wf.fI | apply Wf.fr)))) only [ck_225, gI_225, gL_225, pI_225, pZ0_225, pZ1_225, pL_225, gR_225_1, gR_225_3, gR_225_4, gR_225_5, gR_225_6, gR_225_7, gR_225_8, gR_225_9, gR_225_10, gR_225_11, gR_225_12, gR_225_13, gR_225_14, gR_225_15, gR_225_16, gR_225_17, gR_225_18, gR_225_19, gR_225_20, gR_225_21, gR_225_35, gR_225_36, gR_225_38, gR_225_39, gR_225_40, gR_225_41, gR_225_43, gR_225_44, gR_225_45, gR_225_48, gR_225_49, gR_225_50, gR_225_51, gR_225_53, gR_225_54, gR_225_55, gR_225_56, gR_225_58, gR_225_59, gR_225_60, gR_225_61, gR_225_62, gR_225_63, gR_225_66, gR_225_67, bq_s, bd_s, mp_s, rz_0, rz_1, bI_rz, zadd, zmul, zsub, le_nI, lt_nI, eq_nI, neg_nI, gen_nI, neg_lt, neg_le, neg_lt', neg_le', nI_lt0, if_true, if_false, ite_true, ite_false, reduceIte, not_true, not_false, and_true, true_and, and_false, false_and, or_true, true_or, or_false, false_or, eq_self, aI_227, rd_C h, show (nC D < k) = False from eq_false (by omega), m_isLaid h hst hy, bI_0, ite_n]
    by_cases q : y = c
    · rw [if_pos q, cI_t (Or.inl q)]
    rw [if_neg q]
    cases hx : stD D y with
    | none =>
      rw [if_pos rfl, cI_f]
      rintro (z | ⟨z, hz, -⟩)
      · exact q z
      · rw [nx_none.mpr hx] at hz; cases hz
    | some s =>
      have hs := (hst.2.2 y hy).2 s hx
      have hnx : nx D (stD D) y = some (oth D s y) := by unfold nx; rw [hx]; rfl
      rw [if_neg (by intro z; cases z), m_to h hst hy hx, bq_s]
      show f_X12_comesThrough_5 fu 225 (nI c) (nI (oth D s y)) (nI k + nI 1) σ = _
      rw [zadd, ih (k + 1) fu _ (by omega) (by omega) (h.t.qoth hs)]
      congr 2
      refine cI_eq ⟨fun z => Or.inr ⟨_, hnx, z⟩, ?_⟩
      rintro (z | ⟨z, hz, hj⟩)
      · exact absurd z q
      · rw [hnx] at hz; cases hz; exact hj
theorem m_comesThrough (h : MInv σ D) (hn : ah_I σ 225 42 = nI 0) {o c : Nat} (ho : o < nC D) (hc : c < nC D) : f_X12_comesThrough 225 (nI o) (nI c) σ = some (cI (Rt (nx D (stD D)) c o), σ) := by
  have b1 := h.bd
  unfold f_X12_comesThrough f_X12_comesThrough_0
  rw [ck_225 h.w, l_0, m_cth5 h hn hc (nC D) 0 5000 o (by omega) (by omega) ho, cI_eq (Rt_n (stD_nxl h.t h.n) ho).symm]
theorem m_wgt4 (h : MInv σ D) (hn : ah_I σ 225 42 = nI 0) {c s : Nat} (hc : c < nC D) (hx : stD D c = some s) : ∀ m k fu, k + m = nC D → m < fu → f_X12_weightOf_4 fu 225 (nI c) (nI (thr D c k)) (nI k) σ = some (nI (wgt D c), σ) := by
  have hw := h.w
  have b1 := h.bd
  have hst := h.st0 hn
  have hs := (hst.2.2 c hc).2 s hx
  intro m
  induction m with
  | zero =>
    intro k fu hk hf
    obtain ⟨fu, rfl⟩ : ∃ q, fu = q + 1 := ⟨fu - 1, by omega⟩
    obtain rfl : k = nC D := by omega
    show f_X12_weightOf_4_b _ _ _ _ _ _ = _
    unfold f_X12_weightOf_4_b f_X12_weightOf_42
    simp only [to_bq, l_0, l_1, l_2, l_3, l_4, l_5, l_6, l_7, l_8, l_9, l_10, l_11, l_12, l_13, l_14, l_15, l_16, l_17, l_18, l_19, l_20, l_21, l_22, l_23, l_24, l_25, l_26, l_27, l_28, l_29, l_30, l_31, l_32, l_40, l_41, l_42, l_43, l_44, l_45, l_46, l_47, l_48, l_49, l_50, l_51, l_52, l_53, l_54, l_55, l_56, l_57, l_58, l_59, l_60, l_61, l_62, l_63, l_64, l_72, l_97, l_99, l_100, l_104, l_120, l_122, l_128, l_140, l_255, l_256, l_257, l_258, l_260, l_261, l_262, l_364, l_680, l_700, l_701, l_840, l_999, l_1023, l_1024, l_9999, l_10000, l_1000000, lm]
    simp (disch := first | (with_reducible assumption) | omega | exact ⟨by omega, by omega⟩ | ((with_reducible first | apply Wf.wI | apply Wf.wL | apply Wf.fL | apply Wf.fI | apply Wf.fr); (repeat (with_reducible first | assumption | apply Wf.wI | apply Wf.wL | apply Wf.fL | apply Wf.fI | apply Wf.fr)))) only [ck_225, gI_225, gL_225, pI_225, pZ0_225, pZ1_225, pL_225, gR_225_1, gR_225_3, gR_225_4, gR_225_5, gR_225_6, gR_225_7, gR_225_8, gR_225_9, gR_225_10, gR_225_11, gR_225_12, gR_225_13, gR_225_14, gR_225_15, gR_225_16, gR_225_17, gR_225_18, gR_225_19, gR_225_20, gR_225_21, gR_225_35, gR_225_36, gR_225_38, gR_225_39, gR_225_40, gR_225_41, gR_225_43, gR_225_44, gR_225_45, gR_225_48, gR_225_49, gR_225_50, gR_225_51, gR_225_53, gR_225_54, gR_225_55, gR_225_56, gR_225_58, gR_225_59, gR_225_60, gR_225_61, gR_225_62, gR_225_63, gR_225_66, gR_225_67, bq_s, bd_s, mp_s, rz_0, rz_1, bI_rz, zadd, zmul, zsub, le_nI, lt_nI, eq_nI, neg_nI, gen_nI, neg_lt, neg_le, neg_lt', neg_le', nI_lt0, if_true, if_false, ite_true, ite_false, reduceIte, not_true, not_false, and_true, true_and, and_false, false_and, or_true, true_or, or_false, false_or, eq_self, aI_227, aI_236, rd_C h, Nat.le_refl, m_sO h hn hc hx, rd_rsk h]
    unfold wgt
    rw [hx]
  | succ m ih =>
    intro k fu hk hf
    obtain ⟨fu, rfl⟩ : ∃ q, fu = q + 1 := ⟨fu - 1, by omega⟩
    have hk' : k < nC D := by omega
    have hi := ih (k + 1) fu (by omega) (by omega)
    have e : thr D c (k + 1) = thr D c k + cif (Rt (nx D (stD D)) c k) (are D k) 0 := rfl
    show f_X12_weightOf_4_b _ _ _ _ _ _ = _
    unfold f_X12_weightOf_4_b f_X12_weightOf_34
    simp only [to_bq, l_0, l_1, l_2, l_3, l_4, l_5, l_6, l_7, l_8, l_9, l_10, l_11, l_12, l_13, l_14, l_15, l_16, l_17, l_18, l_19, l_20, l_21, l_22, l_23, l_24, l_25, l_26, l_27, l_28, l_29, l_30, l_31, l_32, l_40, l_41, l_42, l_43, l_44, l_45, l_46, l_47, l_48, l_49, l_50, l_51, l_52, l_53, l_54, l_55, l_56, l_57, l_58, l_59, l_60, l_61, l_62, l_63, l_64, l_72, l_97, l_99, l_100, l_104, l_120, l_122, l_128, l_140, l_255, l_256, l_257, l_258, l_260, l_261, l_262, l_364, l_680, l_700, l_701, l_840, l_999, l_1023, l_1024, l_9999, l_10000, l_1000000, lm]
    simp (disch := first | (with_reducible assumption) | omega | exact ⟨by omega, by omega⟩ | ((with_reducible first | apply Wf.wI | apply Wf.wL | apply Wf.fL | apply Wf.fI | apply Wf.fr); (repeat (with_reducible first | assumption | apply Wf.wI | apply Wf.wL | apply Wf.fL | apply Wf.fI | apply Wf.fr)))) only [ck_225, gI_225, gL_225, pI_225, pZ0_225, pZ1_225, pL_225, gR_225_1, gR_225_3, gR_225_4, gR_225_5, gR_225_6, gR_225_7, gR_225_8, gR_225_9, gR_225_10, gR_225_11, gR_225_12, gR_225_13, gR_225_14, gR_225_15, gR_225_16, gR_225_17, gR_225_18, gR_225_19, gR_225_20, gR_225_21, gR_225_35, gR_225_36, gR_225_38, gR_225_39, gR_225_40, gR_225_41, gR_225_43, gR_225_44, gR_225_45, gR_225_48, gR_225_49, gR_225_50, gR_225_51, gR_225_53, gR_225_54, gR_225_55, gR_225_56, gR_225_58, gR_225_59, gR_225_60, gR_225_61, gR_225_62, gR_225_63, gR_225_66, gR_225_67, bq_s, bd_s, mp_s, rz_0, rz_1, bI_rz, zadd, zmul, zsub, le_nI, lt_nI, eq_nI, neg_nI, gen_nI, neg_lt, neg_le, neg_lt', neg_le', nI_lt0, if_true, if_false, ite_true, ite_false, reduceIte, not_true, not_false, and_true, true_and, and_false, false_and, or_true, true_or, or_false, false_or, eq_self, aI_227, rd_C h, show (nC D ≤ k) = False from eq_false (by omega), m_comesThrough h hn hk' hc]
    by_cases q : Rt (nx D (stD D)) c k
    · rw [if_neg (by rw [cI_0]; exact fun z => z q)]
      rw [cif_t q] at e
      simp (disch := first | (with_reducible assumption) | omega | exact ⟨by omega, by omega⟩ | ((with_reducible first | apply Wf.wI | apply Wf.wL | apply Wf.fL | apply Wf.fI | apply Wf.fr); (repeat (with_reducible first | assumption | apply Wf.wI | apply Wf.wL | apply Wf.fL | apply Wf.fI | apply Wf.fr)))) only [ck_225, gI_225, gL_225, pI_225, pZ0_225, pZ1_225, pL_225, gR_225_1, gR_225_3, gR_225_4, gR_225_5, gR_225_6, gR_225_7, gR_225_8, gR_225_9, gR_225_10, gR_225_11, gR_225_12, gR_225_13, gR_225_14, gR_225_15, gR_225_16, gR_225_17, gR_225_18, gR_225_19, gR_225_20, gR_225_21, gR_225_35, gR_225_36, gR_225_38, gR_225_39, gR_225_40, gR_225_41, gR_225_43, gR_225_44, gR_225_45, gR_225_48, gR_225_49, gR_225_50, gR_225_51, gR_225_53, gR_225_54, gR_225_55, gR_225_56, gR_225_58, gR_225_59, gR_225_60, gR_225_61, gR_225_62, gR_225_63, gR_225_66, gR_225_67, bq_s, bd_s, mp_s, rz_0, rz_1, bI_rz, zadd, zmul, zsub, le_nI, lt_nI, eq_nI, neg_nI, gen_nI, neg_lt, neg_le, neg_lt', neg_le', nI_lt0, aI_230, rd_are h]
      rw [← e]
      exact hi
    · rw [if_pos (by rw [cI_0]; exact q)]
      rw [cif_f q] at e
      rw [← e]
      exact hi
theorem m_weightOf (h : MInv σ D) (hn : ah_I σ 225 42 = nI 0) {c s : Nat} (hc : c < nC D) (hx : stD D c = some s) : f_X12_weightOf 225 (nI c) σ = some (nI (wgt D c), σ) := by
  have b1 := h.bd
  unfold f_X12_weightOf f_X12_weightOf_0
  rw [ck_225 h.w, l_0]
  exact m_wgt4 h hn hc hx (nC D) 0 5000 (by omega) (by omega)
theorem m_first25 (h : MInv σ D) (hn : ah_I σ 225 42 = nI 0) (w : Int32) : ∀ m k fu, k + m = nC D → m < fu → f_X12_first_25 fu 225 w (sv (bsg (stD D) (wgt D) k)) (nI k) σ = some ((match bsg (stD D) (wgt D) (nC D) with
    | none => mI 1
    | some b => if w = nI 0 then nI b else nI (wgt D b)), σ) := by
  have hw := h.w
  have b1 := h.bd
  have hst := h.st0 hn
  intro m
  induction m with
  | zero =>
    intro k fu hk hf
    obtain ⟨fu, rfl⟩ : ∃ q, fu = q + 1 := ⟨fu - 1, by omega⟩
    obtain rfl : k = nC D := by omega
    show f_X12_first_25_b _ _ _ _ _ _ = _
    unfold f_X12_first_25_b f_X12_first_69
    simp only [to_bq, l_0, l_1, l_2, l_3, l_4, l_5, l_6, l_7, l_8, l_9, l_10, l_11, l_12, l_13, l_14, l_15, l_16, l_17, l_18, l_19, l_20, l_21, l_22, l_23, l_24, l_25, l_26, l_27, l_28, l_29, l_30, l_31, l_32, l_40, l_41, l_42, l_43, l_44, l_45, l_46, l_47, l_48, l_49, l_50, l_51, l_52, l_53, l_54, l_55, l_56, l_57, l_58, l_59, l_60, l_61, l_62, l_63, l_64, l_72, l_97, l_99, l_100, l_104, l_120, l_122, l_128, l_140, l_255, l_256, l_257, l_258, l_260, l_261, l_262, l_364, l_680, l_700, l_701, l_840, l_999, l_1023, l_1024, l_9999, l_10000, l_1000000, lm]
    simp (disch := first | (with_reducible assumption) | omega | exact ⟨by omega, by omega⟩ | ((with_reducible first | apply Wf.wI | apply Wf.wL | apply Wf.fL | apply Wf.fI | apply Wf.fr); (repeat (with_reducible first | assumption | apply Wf.wI | apply Wf.wL | apply Wf.fL | apply Wf.fI | apply Wf.fr)))) only [ck_225, gI_225, gL_225, pI_225, pZ0_225, pZ1_225, pL_225, gR_225_1, gR_225_3, gR_225_4, gR_225_5, gR_225_6, gR_225_7, gR_225_8, gR_225_9, gR_225_10, gR_225_11, gR_225_12, gR_225_13, gR_225_14, gR_225_15, gR_225_16, gR_225_17, gR_225_18, gR_225_19, gR_225_20, gR_225_21, gR_225_35, gR_225_36, gR_225_38, gR_225_39, gR_225_40, gR_225_41, gR_225_43, gR_225_44, gR_225_45, gR_225_48, gR_225_49, gR_225_50, gR_225_51, gR_225_53, gR_225_54, gR_225_55, gR_225_56, gR_225_58, gR_225_59, gR_225_60, gR_225_61, gR_225_62, gR_225_63, gR_225_66, gR_225_67, bq_s, bd_s, mp_s, rz_0, rz_1, bI_rz, zadd, zmul, zsub, le_nI, lt_nI, eq_nI, neg_nI, gen_nI, neg_lt, neg_le, neg_lt', neg_le', nI_lt0, if_true, if_false, ite_true, ite_false, reduceIte, not_true, not_false, and_true, true_and, and_false, false_and, or_true, true_or, or_false, false_or, eq_self, aI_227, rd_C h, Nat.le_refl]
    cases hb : bsg (stD D) (wgt D) (nC D) with
    | none => rw [if_pos (show sv none = mI 1 from rfl)]
    | some b =>
      obtain ⟨c1, c2⟩ := bsg_in hb
      rw [show sv (some b) = nI b from rfl, if_neg (show ¬ nI b = mI 1 by rw [neg_nI (by omega) (by omega) (by omega)]; exact fun z => z)]
      cases hxb : stD D b with
      | none => exact absurd hxb c2
      | some sb =>
        rw [m_weightOf h hn c1 hxb, bq_s, iteS]
  | succ m ih =>
    intro k fu hk hf
    obtain ⟨fu, rfl⟩ : ∃ q, fu = q + 1 := ⟨fu - 1, by omega⟩
    have hk' : k < nC D := by omega
    have hi := ih (k + 1) fu (by omega) (by omega)
    have e0 : bsg (stD D) (wgt D) (k + 1) = if stD D k = none then bsg (stD D) (wgt D) k else match bsg (stD D) (wgt D) k with
      | none => some k
      | some b => if wgt D b < wgt D k then some k else some b := rfl
    show f_X12_first_25_b _ _ _ _ _ _ = _
    unfold f_X12_first_25_b f_X12_first_63 f_X12_first_61 f_X12_first_63
    simp only [to_bq, l_0, l_1, l_2, l_3, l_4, l_5, l_6, l_7, l_8, l_9, l_10, l_11, l_12, l_13, l_14, l_15, l_16, l_17, l_18, l_19, l_20, l_21, l_22, l_23, l_24, l_25, l_26, l_27, l_28, l_29, l_30, l_31, l_32, l_40, l_41, l_42, l_43, l_44, l_45, l_46, l_47, l_48, l_49, l_50, l_51, l_52, l_53, l_54, l_55, l_56, l_57, l_58, l_59, l_60, l_61, l_62, l_63, l_64, l_72, l_97, l_99, l_100, l_104, l_120, l_122, l_128, l_140, l_255, l_256, l_257, l_258, l_260, l_261, l_262, l_364, l_680, l_700, l_701, l_840, l_999, l_1023, l_1024, l_9999, l_10000, l_1000000, lm]
    simp (disch := first | (with_reducible assumption) | omega | exact ⟨by omega, by omega⟩ | ((with_reducible first | apply Wf.wI | apply Wf.wL | apply Wf.fL | apply Wf.fI | apply Wf.fr); (repeat (with_reducible first | assumption | apply Wf.wI | apply Wf.wL | apply Wf.fL | apply Wf.fI | apply Wf.fr)))) only [ck_225, gI_225, gL_225, pI_225, pZ0_225, pZ1_225, pL_225, gR_225_1, gR_225_3, gR_225_4, gR_225_5, gR_225_6, gR_225_7, gR_225_8, gR_225_9, gR_225_10, gR_225_11, gR_225_12, gR_225_13, gR_225_14, gR_225_15, gR_225_16, gR_225_17, gR_225_18, gR_225_19, gR_225_20, gR_225_21, gR_225_35, gR_225_36, gR_225_38, gR_225_39, gR_225_40, gR_225_41, gR_225_43, gR_225_44, gR_225_45, gR_225_48, gR_225_49, gR_225_50, gR_225_51, gR_225_53, gR_225_54, gR_225_55, gR_225_56, gR_225_58, gR_225_59, gR_225_60, gR_225_61, gR_225_62, gR_225_63, gR_225_66, gR_225_67, bq_s, bd_s, mp_s, rz_0, rz_1, bI_rz, zadd, zmul, zsub, le_nI, lt_nI, eq_nI, neg_nI, gen_nI, neg_lt, neg_le, neg_lt', neg_le', nI_lt0, if_true, if_false, ite_true, ite_false, reduceIte, not_true, not_false, and_true, true_and, and_false, false_and, or_true, true_or, or_false, false_or, eq_self, aI_227, rd_C h, show (nC D ≤ k) = False from eq_false (by omega), m_isLaid h hst hk', bI_0, ite_n]
    cases hx : stD D k with
    | none =>
      rw [if_pos hx] at e0
      rw [if_pos rfl, ← e0]
      exact hi
    | some s =>
      rw [if_neg (by rw [hx]; intro q; cases q)] at e0
      rw [if_neg (by intro z; cases z)]
      cases hb : bsg (stD D) (wgt D) k with
      | none =>
        rw [hb] at e0
        rw [if_pos (show sv none = mI 1 from rfl)]
        rw [e0] at hi
        exact hi
      | some b =>
        rw [hb] at e0
        obtain ⟨c1, c2⟩ := bsg_in hb
        have hbn : b < nC D := by omega
        cases hxb : stD D b with
        | none => exact absurd hxb c2
        | some sb =>
          have w1 := wgt_b h.t h.n hk'
          have w2 := wgt_b h.t h.n hbn
          rw [show sv (some b) = nI b from rfl, if_neg (show ¬ nI b = mI 1 by rw [neg_nI (by omega) (by omega) (by omega)]; exact fun z => z), m_weightOf h hn hk' hx, bq_s, m_weightOf h hn hbn hxb, bq_s]
          simp (disch := first | (with_reducible assumption) | omega | exact ⟨by omega, by omega⟩ | ((with_reducible first | apply Wf.wI | apply Wf.wL | apply Wf.fL | apply Wf.fI | apply Wf.fr); (repeat (with_reducible first | assumption | apply Wf.wI | apply Wf.wL | apply Wf.fL | apply Wf.fI | apply Wf.fr)))) only [zadd, zmul, zsub, le_nI, lt_nI, eq_nI, neg_nI, gen_nI, neg_lt, neg_le, neg_lt', neg_le', nI_lt0]
          rw [e0] at hi
          simp only at hi
          by_cases q : wgt D k ≤ wgt D b
          · rw [if_neg (by omega)] at hi
            rw [if_pos q]
            exact hi
          · rw [if_pos (by omega)] at hi
            rw [if_neg q]
            exact hi
theorem m_first (h : MInv σ D) (w : Int32) : Ok (f_X12_first 225 w σ) (fun q => q.1 = sFirst D w ∧ Fr Xq σ q.2) := by
  have hw := h.w
  have b1 := h.bd
  have f2 : Fr Xq σ (ah_wI (ah_wI σ 225 0 (nI 0)) 225 42 (nI 0)) := (Fr.q0 (by omega)).trans (Fr.q0 (by omega))
  have h2 := h.q f2
  unfold f_X12_first f_X12_first_0 sFirst
  simp only [to_bq, l_0, l_1, l_2, l_3, l_4, l_5, l_6, l_7, l_8, l_9, l_10, l_11, l_12, l_13, l_14, l_15, l_16, l_17, l_18, l_19, l_20, l_21, l_22, l_23, l_24, l_25, l_26, l_27, l_28, l_29, l_30, l_31, l_32, l_40, l_41, l_42, l_43, l_44, l_45, l_46, l_47, l_48, l_49, l_50, l_51, l_52, l_53, l_54, l_55, l_56, l_57, l_58, l_59, l_60, l_61, l_62, l_63, l_64, l_72, l_97, l_99, l_100, l_104, l_120, l_122, l_128, l_140, l_255, l_256, l_257, l_258, l_260, l_261, l_262, l_364, l_680, l_700, l_701, l_840, l_999, l_1023, l_1024, l_9999, l_10000, l_1000000, lm]
  simp (disch := first | (with_reducible assumption) | omega | exact ⟨by omega, by omega⟩ | ((with_reducible first | apply Wf.wI | apply Wf.wL | apply Wf.fL | apply Wf.fI | apply Wf.fr); (repeat (with_reducible first | assumption | apply Wf.wI | apply Wf.wL | apply Wf.fL | apply Wf.fI | apply Wf.fr)))) only [ck_225, gI_225, gL_225, pI_225, pZ0_225, pZ1_225, pL_225, gR_225_1, gR_225_3, gR_225_4, gR_225_5, gR_225_6, gR_225_7, gR_225_8, gR_225_9, gR_225_10, gR_225_11, gR_225_12, gR_225_13, gR_225_14, gR_225_15, gR_225_16, gR_225_17, gR_225_18, gR_225_19, gR_225_20, gR_225_21, gR_225_35, gR_225_36, gR_225_38, gR_225_39, gR_225_40, gR_225_41, gR_225_43, gR_225_44, gR_225_45, gR_225_48, gR_225_49, gR_225_50, gR_225_51, gR_225_53, gR_225_54, gR_225_55, gR_225_56, gR_225_58, gR_225_59, gR_225_60, gR_225_61, gR_225_62, gR_225_63, gR_225_66, gR_225_67, bq_s, bd_s, mp_s, rz_0, rz_1, bI_rz, l_0, l_1, l_2, l_3, l_4, l_5, l_6, l_7, l_8, l_9, l_10, l_11, l_12, l_13, l_14, l_15, l_16, l_17, l_18, l_19, l_20, l_21, l_22, l_23, l_24, l_25, l_26, l_27, l_28, l_29, l_30, l_31, l_32, l_40, l_41, l_42, l_43, l_44, l_45, l_46, l_47, l_48, l_49, l_50, l_51, l_52, l_53, l_54, l_55, l_56, l_57, l_58, l_59, l_60, l_61, l_62, l_63, l_64, l_72, l_97, l_99, l_100, l_104, l_120, l_122, l_128, l_140, l_255, l_256, l_257, l_258, l_260, l_261, l_262, l_364, l_680, l_700, l_701, l_840, l_999, l_1023, l_1024, l_9999, l_10000, l_1000000, lm]
  by_cases q1 : w < nI 0
  · rw [if_pos q1, if_pos q1]; exact ⟨_, rfl, rfl, f2⟩
  rw [if_neg q1, if_neg q1]
  by_cases q2 : w ≤ nI 1
  · rw [if_pos q2, if_pos q2]
    exact ⟨_, m_first25 h2 rI_eq w (nC D) 0 5000 (by omega) (by omega), rfl, f2⟩
  · rw [if_neg q2, if_neg q2]; exact ⟨_, rfl, rfl, f2⟩
end
section
variable {σ : ah_H} {t : Nat} {D : DD}
theorem c_dg20 (h : JE σ t D) {s0 x1 : Int32} {x s : Nat} (K6 : Nat → Int32 → Int32 → Int32 → ah_H → Option (Int32 × ah_H)) : ∀ m k fu M, k + m = nC D → m < fu → Cl (nx D (stD D)) (nC D) x s k M → ∃ M', f_X3_dangerOf_20 K6 fu 117 x1 (nI M) s0 (nI k) σ = K6 117 x1 (nI M') (s0 + nI 1) σ ∧ Cl (nx D (stD D)) (nC D) x s (nC D) M' := by
  have hw := h.w
  have htn := h.1.tn
  have b1 := h.1.bd
  have hp := h.2.2.1
  have hnl := stD_nxl h.1.t h.2.1
  have p7 : 2 ^ nC D ≤ 128 := Nat.pow_le_pow_right (n := 2) (by omega) b1.1
  intro m
  induction m with
  | zero =>
    intro k fu M hk hf hC
    obtain ⟨fu, rfl⟩ : ∃ q, fu = q + 1 := ⟨fu - 1, by omega⟩
    obtain rfl : k = nC D := by omega
    refine ⟨M, ?_, hC⟩
    show f_X3_dangerOf_20_b _ _ _ _ _ _ _ _ = _
    unfold f_X3_dangerOf_20_b f_X3_dangerOf_81
    simp only [to_bq, l_0, l_1, l_2, l_3, l_4, l_5, l_6, l_7, l_8, l_9, l_10, l_11, l_12, l_13, l_14, l_15, l_16, l_17, l_18, l_19, l_20, l_21, l_22, l_23, l_24, l_25, l_26, l_27, l_28, l_29, l_30, l_31, l_32, l_40, l_41, l_42, l_43, l_44, l_45, l_46, l_47, l_48, l_49, l_50, l_51, l_52, l_53, l_54, l_55, l_56, l_57, l_58, l_59, l_60, l_61, l_62, l_63, l_64, l_72, l_97, l_99, l_100, l_104, l_120, l_122, l_128, l_140, l_255, l_256, l_257, l_258, l_260, l_261, l_262, l_364, l_680, l_700, l_701, l_840, l_999, l_1023, l_1024, l_9999, l_10000, l_1000000, lm]
    simp (disch := first | (with_reducible assumption) | omega | exact ⟨by omega, by omega⟩ | ((with_reducible first | apply Wf.wI | apply Wf.wL | apply Wf.fL | apply Wf.fI | apply Wf.fr); (repeat (with_reducible first | assumption | apply Wf.wI | apply Wf.wL | apply Wf.fL | apply Wf.fI | apply Wf.fr)))) only [ck_117, gI_117, gL_117, pI_117, pZ0_117, pZ1_117, pL_117, gR_117_0, gR_117_1, gR_117_5, pR_117_6, gR_117_6, ck_t, gI_t, gL_t, pI_t, pZ0_t, pZ1_t, pL_t, ck_w, gI_w, gL_w, pI_w, pZ0_w, pZ1_w, pL_w, gR_t_1, gR_t_5, gR_t_7, gR_t_9, gR_t_10, gR_t_11, gR_t_12, gR_t_15, gR_w_2, gR_w_3, gR_w_4, gR_w_5, gR_w_6, gR_w_7, aR_crow, aR_srow, aR_prow, aR_rrow, aI_crow, sI_crow, len_crow, aI_srow, sI_srow, len_srow, aI_prow, sI_prow, len_prow, aI_rrow, sI_rrow, len_rrow, aI_t25, sI_t25, len_t25, aI_t31, sI_t31, len_t31, aI_t32, sI_t32, len_t32, aI_t34, sI_t34, len_t34, aI_t35, sI_t35, len_t35, aI_t36, sI_t36, len_t36, aI_t37, sI_t37, len_t37, aL_t38, sL_t38, len_t38, aL_t39, sL_t39, len_t39, bq_s, bd_s, mp_s, rz_0, rz_1, bI_rz, zadd, zmul, zsub, le_nI, lt_nI, eq_nI, neg_nI, gen_nI, neg_lt, neg_le, neg_lt', neg_le', nI_lt0, if_true, if_false, ite_true, ite_false, reduceIte, not_true, not_false, and_true, true_and, and_false, false_and, or_true, true_or, or_false, false_or, eq_self, hp, tr_C h.1, Nat.le_refl]
  | succ m ih =>
    intro k fu M hk hf hC
    obtain ⟨fu, rfl⟩ : ∃ q, fu = q + 1 := ⟨fu - 1, by omega⟩
    have hk' : k < nC D := by omega
    have hM := hC.1
    show ∃ M', f_X3_dangerOf_20_b _ _ _ _ _ _ _ _ = _ ∧ _
    unfold f_X3_dangerOf_20_b f_X3_dangerOf_75
    simp only [to_bq, l_0, l_1, l_2, l_3, l_4, l_5, l_6, l_7, l_8, l_9, l_10, l_11, l_12, l_13, l_14, l_15, l_16, l_17, l_18, l_19, l_20, l_21, l_22, l_23, l_24, l_25, l_26, l_27, l_28, l_29, l_30, l_31, l_32, l_40, l_41, l_42, l_43, l_44, l_45, l_46, l_47, l_48, l_49, l_50, l_51, l_52, l_53, l_54, l_55, l_56, l_57, l_58, l_59, l_60, l_61, l_62, l_63, l_64, l_72, l_97, l_99, l_100, l_104, l_120, l_122, l_128, l_140, l_255, l_256, l_257, l_258, l_260, l_261, l_262, l_364, l_680, l_700, l_701, l_840, l_999, l_1023, l_1024, l_9999, l_10000, l_1000000, lm]
    simp (disch := first | (with_reducible assumption) | omega | exact ⟨by omega, by omega⟩ | ((with_reducible first | apply Wf.wI | apply Wf.wL | apply Wf.fL | apply Wf.fI | apply Wf.fr); (repeat (with_reducible first | assumption | apply Wf.wI | apply Wf.wL | apply Wf.fL | apply Wf.fI | apply Wf.fr)))) only [ck_117, gI_117, gL_117, pI_117, pZ0_117, pZ1_117, pL_117, gR_117_0, gR_117_1, gR_117_5, pR_117_6, gR_117_6, ck_90, gI_90, gL_90, pI_90, pZ0_90, pZ1_90, pL_90, gR_90_0, gR_90_1, gR_90_2, gR_90_3, gR_90_6, gR_90_8, ck_t, gI_t, gL_t, pI_t, pZ0_t, pZ1_t, pL_t, ck_w, gI_w, gL_w, pI_w, pZ0_w, pZ1_w, pL_w, gR_t_1, gR_t_5, gR_t_7, gR_t_9, gR_t_10, gR_t_11, gR_t_12, gR_t_15, gR_w_2, gR_w_3, gR_w_4, gR_w_5, gR_w_6, gR_w_7, aR_crow, aR_srow, aR_prow, aR_rrow, aI_crow, sI_crow, len_crow, aI_srow, sI_srow, len_srow, aI_prow, sI_prow, len_prow, aI_rrow, sI_rrow, len_rrow, aI_t25, sI_t25, len_t25, aI_t31, sI_t31, len_t31, aI_t32, sI_t32, len_t32, aI_t34, sI_t34, len_t34, aI_t35, sI_t35, len_t35, aI_t36, sI_t36, len_t36, aI_t37, sI_t37, len_t37, aL_t38, sL_t38, len_t38, aL_t39, sL_t39, len_t39, bq_s, bd_s, mp_s, rz_0, rz_1, bI_rz, zadd, zmul, zsub, le_nI, lt_nI, eq_nI, neg_nI, gen_nI, neg_lt, neg_le, neg_lt', neg_le', nI_lt0, if_true, if_false, ite_true, ite_false, reduceIte, not_true, not_false, and_true, true_and, and_false, false_and, or_true, true_or, or_false, false_or, eq_self, hp, tr_C h.1, aI_91, lm, h.sn hk', show (nC D ≤ k) = False from eq_false (by omega)]
    cases hx : stD D k with
    | none =>
      rw [if_pos rfl]
      exact ih (k + 1) fu M (by omega) (by omega) (Cl_stay hnl hC hk' (fun y hy => by rw [nx_none.mpr hx] at hy; cases hy))
    | some st =>
      obtain ⟨l1, -⟩ := lb h.1.t h.2.1 hk' hx
      obtain ⟨n1, -⟩ := h.net hk' hx
      have hnx : nx D (stD D) k = some (oth D st k) := by unfold nx; rw [hx]; rfl
      have ho := h.1.t.qoth (c := k) l1
      rw [if_neg (by intro z; cases z), n1, c_otherEnd h.1 l1 (by omega), bq_s]
      simp only [z_bit (show M < 2147483648 by omega) (show oth D st k < 31 by omega), ite_n, z_set (show k < 31 by omega), zadd]
      by_cases q : M.testBit (oth D st k) = true
      · rw [if_pos q]
        exact ih (k + 1) fu _ (by omega) (by omega) (Cl_add hC hk' hnx q)
      · rw [if_neg q]
        exact ih (k + 1) fu M (by omega) (by omega) (Cl_stay hnl hC hk' (fun y hy => by rw [hnx] at hy; cases hy; exact q))
theorem c_dg6 (h : JE σ t D) {x1 : Int32} {x : Nat} : ∀ m k fu M, k + m = nC D → m < fu → 1 ≤ k → Cl (nx D (stD D)) (nC D) x (k - 1) 0 M → ∃ M', f_X3_dangerOf_6 fu 117 x1 (nI M) (nI k) σ = f_X3_dangerOf_87 117 x1 (nI M') σ ∧ Cl (nx D (stD D)) (nC D) x (nC D - 1) 0 M' := by
  have hw := h.w
  have htn := h.1.tn
  have b1 := h.1.bd
  have hp := h.2.2.1
  intro m
  induction m with
  | zero =>
    intro k fu M hk hf h1 hC
    obtain ⟨fu, rfl⟩ : ∃ q, fu = q + 1 := ⟨fu - 1, by omega⟩
    obtain rfl : k = nC D := by omega
    refine ⟨M, ?_, hC⟩
    show f_X3_dangerOf_6_b _ _ _ _ _ _ = _
    unfold f_X3_dangerOf_6_b
    simp only [to_bq, l_0, l_1, l_2, l_3, l_4, l_5, l_6, l_7, l_8, l_9, l_10, l_11, l_12, l_13, l_14, l_15, l_16, l_17, l_18, l_19, l_20, l_21, l_22, l_23, l_24, l_25, l_26, l_27, l_28, l_29, l_30, l_31, l_32, l_40, l_41, l_42, l_43, l_44, l_45, l_46, l_47, l_48, l_49, l_50, l_51, l_52, l_53, l_54, l_55, l_56, l_57, l_58, l_59, l_60, l_61, l_62, l_63, l_64, l_72, l_97, l_99, l_100, l_104, l_120, l_122, l_128, l_140, l_255, l_256, l_257, l_258, l_260, l_261, l_262, l_364, l_680, l_700, l_701, l_840, l_999, l_1023, l_1024, l_9999, l_10000, l_1000000, lm]
    simp (disch := first | (with_reducible assumption) | omega | exact ⟨by omega, by omega⟩ | ((with_reducible first | apply Wf.wI | apply Wf.wL | apply Wf.fL | apply Wf.fI | apply Wf.fr); (repeat (with_reducible first | assumption | apply Wf.wI | apply Wf.wL | apply Wf.fL | apply Wf.fI | apply Wf.fr)))) only [ck_117, gI_117, gL_117, pI_117, pZ0_117, pZ1_117, pL_117, gR_117_0, gR_117_1, gR_117_5, pR_117_6, gR_117_6, ck_t, gI_t, gL_t, pI_t, pZ0_t, pZ1_t, pL_t, ck_w, gI_w, gL_w, pI_w, pZ0_w, pZ1_w, pL_w, gR_t_1, gR_t_5, gR_t_7, gR_t_9, gR_t_10, gR_t_11, gR_t_12, gR_t_15, gR_w_2, gR_w_3, gR_w_4, gR_w_5, gR_w_6, gR_w_7, aR_crow, aR_srow, aR_prow, aR_rrow, aI_crow, sI_crow, len_crow, aI_srow, sI_srow, len_srow, aI_prow, sI_prow, len_prow, aI_rrow, sI_rrow, len_rrow, aI_t25, sI_t25, len_t25, aI_t31, sI_t31, len_t31, aI_t32, sI_t32, len_t32, aI_t34, sI_t34, len_t34, aI_t35, sI_t35, len_t35, aI_t36, sI_t36, len_t36, aI_t37, sI_t37, len_t37, aL_t38, sL_t38, len_t38, aL_t39, sL_t39, len_t39, bq_s, bd_s, mp_s, rz_0, rz_1, bI_rz, zadd, zmul, zsub, le_nI, lt_nI, eq_nI, neg_nI, gen_nI, neg_lt, neg_le, neg_lt', neg_le', nI_lt0, if_true, if_false, ite_true, ite_false, reduceIte, not_true, not_false, and_true, true_and, and_false, false_and, or_true, true_or, or_false, false_or, eq_self, hp, tr_C h.1, Nat.le_refl]
  | succ m ih =>
    intro k fu M hk hf h1 hC
    obtain ⟨fu, rfl⟩ : ∃ q, fu = q + 1 := ⟨fu - 1, by omega⟩
    show ∃ M', f_X3_dangerOf_6_b _ _ _ _ _ _ = _ ∧ _
    unfold f_X3_dangerOf_6_b
    simp only [to_bq, l_0, l_1, l_2, l_3, l_4, l_5, l_6, l_7, l_8, l_9, l_10, l_11, l_12, l_13, l_14, l_15, l_16, l_17, l_18, l_19, l_20, l_21, l_22, l_23, l_24, l_25, l_26, l_27, l_28, l_29, l_30, l_31, l_32, l_40, l_41, l_42, l_43, l_44, l_45, l_46, l_47, l_48, l_49, l_50, l_51, l_52, l_53, l_54, l_55, l_56, l_57, l_58, l_59, l_60, l_61, l_62, l_63, l_64, l_72, l_97, l_99, l_100, l_104, l_120, l_122, l_128, l_140, l_255, l_256, l_257, l_258, l_260, l_261, l_262, l_364, l_680, l_700, l_701, l_840, l_999, l_1023, l_1024, l_9999, l_10000, l_1000000, lm]
    simp (disch := first | (with_reducible assumption) | omega | exact ⟨by omega, by omega⟩ | ((with_reducible first | apply Wf.wI | apply Wf.wL | apply Wf.fL | apply Wf.fI | apply Wf.fr); (repeat (with_reducible first | assumption | apply Wf.wI | apply Wf.wL | apply Wf.fL | apply Wf.fI | apply Wf.fr)))) only [ck_117, gI_117, gL_117, pI_117, pZ0_117, pZ1_117, pL_117, gR_117_0, gR_117_1, gR_117_5, pR_117_6, gR_117_6, ck_t, gI_t, gL_t, pI_t, pZ0_t, pZ1_t, pL_t, ck_w, gI_w, gL_w, pI_w, pZ0_w, pZ1_w, pL_w, gR_t_1, gR_t_5, gR_t_7, gR_t_9, gR_t_10, gR_t_11, gR_t_12, gR_t_15, gR_w_2, gR_w_3, gR_w_4, gR_w_5, gR_w_6, gR_w_7, aR_crow, aR_srow, aR_prow, aR_rrow, aI_crow, sI_crow, len_crow, aI_srow, sI_srow, len_srow, aI_prow, sI_prow, len_prow, aI_rrow, sI_rrow, len_rrow, aI_t25, sI_t25, len_t25, aI_t31, sI_t31, len_t31, aI_t32, sI_t32, len_t32, aI_t34, sI_t34, len_t34, aI_t35, sI_t35, len_t35, aI_t36, sI_t36, len_t36, aI_t37, sI_t37, len_t37, aL_t38, sL_t38, len_t38, aL_t39, sL_t39, len_t39, bq_s, bd_s, mp_s, rz_0, rz_1, bI_rz, zadd, zmul, zsub, le_nI, lt_nI, eq_nI, neg_nI, gen_nI, neg_lt, neg_le, neg_lt', neg_le', nI_lt0, if_true, if_false, ite_true, ite_false, reduceIte, not_true, not_false, and_true, true_and, and_false, false_and, or_true, true_or, or_false, false_or, eq_self, hp, tr_C h.1, show (nC D ≤ k) = False from eq_false (by omega)]
    obtain ⟨M1, g1, g2⟩ := c_dg20 h (s0 := nI k) (x1 := x1) (f_X3_dangerOf_6 fu) (nC D) 0 5000 M (by omega) (by omega) hC
    rw [g1, zadd]
    have := Cl_round g2
    rw [show k - 1 + 1 = k + 1 - 1 by omega] at this
    exact ih (k + 1) fu M1 (by omega) (by omega) (by omega) this
theorem c_dg92 (h : JE σ t D) {c s M : Nat} (hc : c < nC D) (hx : stD D c = some s) (hM : M < 2 ^ nC D) (hend : ∀ o, M.testBit o = true ↔ o < nC D ∧ Rt (nx D (stD D)) c o) : ∀ m k fu, k + m = nC D → m < fu → f_X3_dangerOf_92 fu 117 (nI c) (nI M) (nI (thr D c k)) (nI k) σ = some (nI (wgt D c), σ) := by
  have hw := h.w
  have htn := h.1.tn
  have b1 := h.1.bd
  have hp := h.2.2.1
  have p7 : 2 ^ nC D ≤ 128 := Nat.pow_le_pow_right (n := 2) (by omega) b1.1
  obtain ⟨l1, -⟩ := lb h.1.t h.2.1 hc hx
  obtain ⟨n1, -⟩ := h.net hc hx
  intro m
  induction m with
  | zero =>
    intro k fu hk hf
    obtain ⟨fu, rfl⟩ : ∃ q, fu = q + 1 := ⟨fu - 1, by omega⟩
    obtain rfl : k = nC D := by omega
    show f_X3_dangerOf_92_b _ _ _ _ _ _ _ = _
    unfold f_X3_dangerOf_92_b f_X3_dangerOf_132
    simp only [to_bq, l_0, l_1, l_2, l_3, l_4, l_5, l_6, l_7, l_8, l_9, l_10, l_11, l_12, l_13, l_14, l_15, l_16, l_17, l_18, l_19, l_20, l_21, l_22, l_23, l_24, l_25, l_26, l_27, l_28, l_29, l_30, l_31, l_32, l_40, l_41, l_42, l_43, l_44, l_45, l_46, l_47, l_48, l_49, l_50, l_51, l_52, l_53, l_54, l_55, l_56, l_57, l_58, l_59, l_60, l_61, l_62, l_63, l_64, l_72, l_97, l_99, l_100, l_104, l_120, l_122, l_128, l_140, l_255, l_256, l_257, l_258, l_260, l_261, l_262, l_364, l_680, l_700, l_701, l_840, l_999, l_1023, l_1024, l_9999, l_10000, l_1000000, lm]
    simp (disch := first | (with_reducible assumption) | omega | exact ⟨by omega, by omega⟩ | ((with_reducible first | apply Wf.wI | apply Wf.wL | apply Wf.fL | apply Wf.fI | apply Wf.fr); (repeat (with_reducible first | assumption | apply Wf.wI | apply Wf.wL | apply Wf.fL | apply Wf.fI | apply Wf.fr)))) only [ck_117, gI_117, gL_117, pI_117, pZ0_117, pZ1_117, pL_117, gR_117_0, gR_117_1, gR_117_5, pR_117_6, gR_117_6, ck_90, gI_90, gL_90, pI_90, pZ0_90, pZ1_90, pL_90, gR_90_0, gR_90_1, gR_90_2, gR_90_3, gR_90_6, gR_90_8, ck_t, gI_t, gL_t, pI_t, pZ0_t, pZ1_t, pL_t, ck_w, gI_w, gL_w, pI_w, pZ0_w, pZ1_w, pL_w, gR_t_1, gR_t_5, gR_t_7, gR_t_9, gR_t_10, gR_t_11, gR_t_12, gR_t_15, gR_w_2, gR_w_3, gR_w_4, gR_w_5, gR_w_6, gR_w_7, aR_crow, aR_srow, aR_prow, aR_rrow, aI_crow, sI_crow, len_crow, aI_srow, sI_srow, len_srow, aI_prow, sI_prow, len_prow, aI_rrow, sI_rrow, len_rrow, aI_t25, sI_t25, len_t25, aI_t31, sI_t31, len_t31, aI_t32, sI_t32, len_t32, aI_t34, sI_t34, len_t34, aI_t35, sI_t35, len_t35, aI_t36, sI_t36, len_t36, aI_t37, sI_t37, len_t37, aL_t38, sL_t38, len_t38, aL_t39, sL_t39, len_t39, bq_s, bd_s, mp_s, rz_0, rz_1, bI_rz, zadd, zmul, zsub, le_nI, lt_nI, eq_nI, neg_nI, gen_nI, neg_lt, neg_le, neg_lt', neg_le', nI_lt0, if_true, if_false, ite_true, ite_false, reduceIte, not_true, not_false, and_true, true_and, and_false, false_and, or_true, true_or, or_false, false_or, eq_self, hp, tr_C h.1, aI_91, n1, tr_rsk h.1, Nat.le_refl]
    unfold wgt
    rw [hx, Nat.mul_comm]
  | succ m ih =>
    intro k fu hk hf
    obtain ⟨fu, rfl⟩ : ∃ q, fu = q + 1 := ⟨fu - 1, by omega⟩
    have hk' : k < nC D := by omega
    have hi := ih (k + 1) fu (by omega) (by omega)
    have e : thr D c (k + 1) = thr D c k + cif (Rt (nx D (stD D)) c k) (are D k) 0 := rfl
    have eb : (nI M >>> (nI k &&& nI 31)) &&& nI 1 = nI (if M.testBit k then 1 else 0) := by
      rw [sh31 (by omega), z_shr (by omega) (by omega), z_and1, z_tb]
    show f_X3_dangerOf_92_b _ _ _ _ _ _ _ = _
    unfold f_X3_dangerOf_92_b
    simp only [to_bq, l_0, l_1, l_2, l_3, l_4, l_5, l_6, l_7, l_8, l_9, l_10, l_11, l_12, l_13, l_14, l_15, l_16, l_17, l_18, l_19, l_20, l_21, l_22, l_23, l_24, l_25, l_26, l_27, l_28, l_29, l_30, l_31, l_32, l_40, l_41, l_42, l_43, l_44, l_45, l_46, l_47, l_48, l_49, l_50, l_51, l_52, l_53, l_54, l_55, l_56, l_57, l_58, l_59, l_60, l_61, l_62, l_63, l_64, l_72, l_97, l_99, l_100, l_104, l_120, l_122, l_128, l_140, l_255, l_256, l_257, l_258, l_260, l_261, l_262, l_364, l_680, l_700, l_701, l_840, l_999, l_1023, l_1024, l_9999, l_10000, l_1000000, lm]
    simp (disch := first | (with_reducible assumption) | omega | exact ⟨by omega, by omega⟩ | ((with_reducible first | apply Wf.wI | apply Wf.wL | apply Wf.fL | apply Wf.fI | apply Wf.fr); (repeat (with_reducible first | assumption | apply Wf.wI | apply Wf.wL | apply Wf.fL | apply Wf.fI | apply Wf.fr)))) only [ck_117, gI_117, gL_117, pI_117, pZ0_117, pZ1_117, pL_117, gR_117_0, gR_117_1, gR_117_5, pR_117_6, gR_117_6, ck_t, gI_t, gL_t, pI_t, pZ0_t, pZ1_t, pL_t, ck_w, gI_w, gL_w, pI_w, pZ0_w, pZ1_w, pL_w, gR_t_1, gR_t_5, gR_t_7, gR_t_9, gR_t_10, gR_t_11, gR_t_12, gR_t_15, gR_w_2, gR_w_3, gR_w_4, gR_w_5, gR_w_6, gR_w_7, aR_crow, aR_srow, aR_prow, aR_rrow, aI_crow, sI_crow, len_crow, aI_srow, sI_srow, len_srow, aI_prow, sI_prow, len_prow, aI_rrow, sI_rrow, len_rrow, aI_t25, sI_t25, len_t25, aI_t31, sI_t31, len_t31, aI_t32, sI_t32, len_t32, aI_t34, sI_t34, len_t34, aI_t35, sI_t35, len_t35, aI_t36, sI_t36, len_t36, aI_t37, sI_t37, len_t37, aL_t38, sL_t38, len_t38, aL_t39, sL_t39, len_t39, bq_s, bd_s, mp_s, rz_0, rz_1, bI_rz, zadd, zmul, zsub, le_nI, lt_nI, eq_nI, neg_nI, gen_nI, neg_lt, neg_le, neg_lt', neg_le', nI_lt0, if_true, if_false, ite_true, ite_false, reduceIte, not_true, not_false, and_true, true_and, and_false, false_and, or_true, true_or, or_false, false_or, eq_self, hp, tr_C h.1, tr_are h.1, eb, show (nC D ≤ k) = False from eq_false (by omega)]
    rw [← hi, e]
    by_cases q : Rt (nx D (stD D)) c k
    · rw [cif_t q, if_pos ((hend k).mpr ⟨hk', q⟩), Nat.one_mul]
    · rw [cif_f q, if_neg (fun z => q ((hend k).mp z).2), Nat.zero_mul]
theorem c_dangerOf (h : JE σ t D) {c s : Nat} (hc : c < nC D) (hx : stD D c = some s) : f_X3_dangerOf 117 (nI c) σ = some (nI (wgt D c), σ) := by
  have b1 := h.1.bd
  unfold f_X3_dangerOf f_X3_dangerOf_0
  rw [ck_117 h.w, l_1, show (31 : Int32) = nI 31 from l_31, z_one (by omega)]
  obtain ⟨M, g1, g2⟩ := c_dg6 h (x1 := nI c) (x := c) (nC D - 1) 1 5000 (2 ^ c) (by omega) (by omega) (by omega) (Cl_init hc)
  rw [g1]
  unfold f_X3_dangerOf_87
  rw [l_0]
  exact c_dg92 h hc hx g2.1 (Cl_end (stD_nxl h.1.t h.2.1) g2 (by omega)) (nC D) 0 5000 (by omega) (by omega)
noncomputable def bgg (D : DD) (k : Nat) : Int32 := match bsg (stD D) (wgt D) k with
  | none => mI 1
  | some b => nI (wgt D b)
theorem c_first18 (h : CJ σ t D) (w : Int32) : ∀ m k fu, k + m = nC D → m < fu → f_X11_first_18 fu 0 w (bgg D k) (sv (bsg (stD D) (wgt D) k)) (nI k) σ = some ((match bsg (stD D) (wgt D) (nC D) with
    | none => mI 1
    | some b => if w = nI 0 then nI b else nI (wgt D b)), σ) := by
  have hw := h.w
  have b1 := h.r.bd
  have htn := h.r.tn
  intro m
  induction m with
  | zero =>
    intro k fu hk hf
    obtain ⟨fu, rfl⟩ : ∃ q, fu = q + 1 := ⟨fu - 1, by omega⟩
    obtain rfl : k = nC D := by omega
    show f_X11_first_18_b _ _ _ _ _ _ _ = _
    unfold f_X11_first_18_b f_X11_first_72 bgg
    simp only [to_bq, l_0, l_1, l_2, l_3, l_4, l_5, l_6, l_7, l_8, l_9, l_10, l_11, l_12, l_13, l_14, l_15, l_16, l_17, l_18, l_19, l_20, l_21, l_22, l_23, l_24, l_25, l_26, l_27, l_28, l_29, l_30, l_31, l_32, l_40, l_41, l_42, l_43, l_44, l_45, l_46, l_47, l_48, l_49, l_50, l_51, l_52, l_53, l_54, l_55, l_56, l_57, l_58, l_59, l_60, l_61, l_62, l_63, l_64, l_72, l_97, l_99, l_100, l_104, l_120, l_122, l_128, l_140, l_255, l_256, l_257, l_258, l_260, l_261, l_262, l_364, l_680, l_700, l_701, l_840, l_999, l_1023, l_1024, l_9999, l_10000, l_1000000, lm]
    simp (disch := first | (with_reducible assumption) | omega | exact ⟨by omega, by omega⟩ | ((with_reducible first | apply Wf.wI | apply Wf.wL | apply Wf.fL | apply Wf.fI | apply Wf.fr); (repeat (with_reducible first | assumption | apply Wf.wI | apply Wf.wL | apply Wf.fL | apply Wf.fI | apply Wf.fr)))) only [ck_0, gI_0, gL_0, pI_0, pZ0_0, pZ1_0, pL_0, gR_0_0, pR_0_2, gR_0_2, pR_0_3, gR_0_3, gR_0_4, gR_0_5, gR_0_6, gR_0_7, gR_0_8, ck_t, gI_t, gL_t, pI_t, pZ0_t, pZ1_t, pL_t, ck_w, gI_w, gL_w, pI_w, pZ0_w, pZ1_w, pL_w, gR_t_1, gR_t_5, gR_t_7, gR_t_9, gR_t_10, gR_t_11, gR_t_12, gR_t_15, gR_w_2, gR_w_3, gR_w_4, gR_w_5, gR_w_6, gR_w_7, aR_crow, aR_srow, aR_prow, aR_rrow, aI_crow, sI_crow, len_crow, aI_srow, sI_srow, len_srow, aI_prow, sI_prow, len_prow, aI_rrow, sI_rrow, len_rrow, aI_t25, sI_t25, len_t25, aI_t31, sI_t31, len_t31, aI_t32, sI_t32, len_t32, aI_t34, sI_t34, len_t34, aI_t35, sI_t35, len_t35, aI_t36, sI_t36, len_t36, aI_t37, sI_t37, len_t37, aL_t38, sL_t38, len_t38, aL_t39, sL_t39, len_t39, bq_s, bd_s, mp_s, rz_0, rz_1, bI_rz, zadd, zmul, zsub, le_nI, lt_nI, eq_nI, neg_nI, gen_nI, neg_lt, neg_le, neg_lt', neg_le', nI_lt0, if_true, if_false, ite_true, ite_false, reduceIte, not_true, not_false, and_true, true_and, and_false, false_and, or_true, true_or, or_false, false_or, eq_self, h.2.2.1, tr_C h.r, Nat.le_refl]
    cases hb : bsg (stD D) (wgt D) (nC D) with
    | none => rw [iteS]; congr 2; show (if w = nI 0 then mI 1 else mI 1) = mI 1; split <;> rfl
    | some b => rw [iteS]; rfl
  | succ m ih =>
    intro k fu hk hf
    obtain ⟨fu, rfl⟩ : ∃ q, fu = q + 1 := ⟨fu - 1, by omega⟩
    have hk' : k < nC D := by omega
    have hi := ih (k + 1) fu (by omega) (by omega)
    have e0 : bsg (stD D) (wgt D) (k + 1) = if stD D k = none then bsg (stD D) (wgt D) k else match bsg (stD D) (wgt D) k with
      | none => some k
      | some b => if wgt D b < wgt D k then some k else some b := rfl
    have w1 := wgt_b h.r.t h.n hk'
    unfold bgg at hi ⊢
    show f_X11_first_18_b _ _ _ _ _ _ _ = _
    unfold f_X11_first_18_b f_X11_first_52 f_X11_first_66
    simp only [to_bq, l_0, l_1, l_2, l_3, l_4, l_5, l_6, l_7, l_8, l_9, l_10, l_11, l_12, l_13, l_14, l_15, l_16, l_17, l_18, l_19, l_20, l_21, l_22, l_23, l_24, l_25, l_26, l_27, l_28, l_29, l_30, l_31, l_32, l_40, l_41, l_42, l_43, l_44, l_45, l_46, l_47, l_48, l_49, l_50, l_51, l_52, l_53, l_54, l_55, l_56, l_57, l_58, l_59, l_60, l_61, l_62, l_63, l_64, l_72, l_97, l_99, l_100, l_104, l_120, l_122, l_128, l_140, l_255, l_256, l_257, l_258, l_260, l_261, l_262, l_364, l_680, l_700, l_701, l_840, l_999, l_1023, l_1024, l_9999, l_10000, l_1000000, lm]
    simp (disch := first | (with_reducible assumption) | omega | exact ⟨by omega, by omega⟩ | ((with_reducible first | apply Wf.wI | apply Wf.wL | apply Wf.fL | apply Wf.fI | apply Wf.fr); (repeat (with_reducible first | assumption | apply Wf.wI | apply Wf.wL | apply Wf.fL | apply Wf.fI | apply Wf.fr)))) only [ck_0, gI_0, gL_0, pI_0, pZ0_0, pZ1_0, pL_0, gR_0_0, pR_0_2, gR_0_2, pR_0_3, gR_0_3, gR_0_4, gR_0_5, gR_0_6, gR_0_7, gR_0_8, ck_t, gI_t, gL_t, pI_t, pZ0_t, pZ1_t, pL_t, ck_w, gI_w, gL_w, pI_w, pZ0_w, pZ1_w, pL_w, gR_t_1, gR_t_5, gR_t_7, gR_t_9, gR_t_10, gR_t_11, gR_t_12, gR_t_15, gR_w_2, gR_w_3, gR_w_4, gR_w_5, gR_w_6, gR_w_7, aR_crow, aR_srow, aR_prow, aR_rrow, aI_crow, sI_crow, len_crow, aI_srow, sI_srow, len_srow, aI_prow, sI_prow, len_prow, aI_rrow, sI_rrow, len_rrow, aI_t25, sI_t25, len_t25, aI_t31, sI_t31, len_t31, aI_t32, sI_t32, len_t32, aI_t34, sI_t34, len_t34, aI_t35, sI_t35, len_t35, aI_t36, sI_t36, len_t36, aI_t37, sI_t37, len_t37, aL_t38, sL_t38, len_t38, aL_t39, sL_t39, len_t39, bq_s, bd_s, mp_s, rz_0, rz_1, bI_rz, zadd, zmul, zsub, le_nI, lt_nI, eq_nI, neg_nI, gen_nI, neg_lt, neg_le, neg_lt', neg_le', nI_lt0, if_true, if_false, ite_true, ite_false, reduceIte, not_true, not_false, and_true, true_and, and_false, false_and, or_true, true_or, or_false, false_or, eq_self, h.2.2.1, tr_C h.r, c_hasPipe h, bI_0, ite_n, lm, show (nC D ≤ k) = False from eq_false (by omega)]
    cases hx : stD D k with
    | none =>
      rw [if_pos hx] at e0
      rw [e0] at hi
      rw [if_neg (fun z => (laidQ_n h.r.t hk').mp z hx), if_pos]
      · exact hi
      · cases hb : bsg (stD D) (wgt D) k with
        | none => exact Int32.le_refl _
        | some b =>
          obtain ⟨c1, c2⟩ := bsg_in hb
          have w2 := wgt_b h.r.t h.n (show b < nC D by omega)
          show mI 1 ≤ nI (wgt D b)
          rw [neg_le' (by omega) (by omega) (by omega)]
          trivial
    | some s =>
      rw [if_neg (by rw [hx]; intro q; cases q)] at e0
      rw [if_pos ((laidQ_n h.r.t hk').mpr (by rw [hx]; intro q; cases q)), c_dangerOf h.1 hk' hx, bq_s]
      rw [e0] at hi
      cases hb : bsg (stD D) (wgt D) k with
      | none =>
        rw [hb] at hi
        rw [if_neg (show ¬ nI (wgt D k) ≤ mI 1 by rw [neg_le (by omega) (by omega) (by omega)]; exact fun z => z), zadd]
        exact hi
      | some b =>
        obtain ⟨c1, c2⟩ := bsg_in hb
        have w2 := wgt_b h.r.t h.n (show b < nC D by omega)
        rw [hb] at hi
        simp only at hi ⊢
        simp (disch := first | (with_reducible assumption) | omega | exact ⟨by omega, by omega⟩ | ((with_reducible first | apply Wf.wI | apply Wf.wL | apply Wf.fL | apply Wf.fI | apply Wf.fr); (repeat (with_reducible first | assumption | apply Wf.wI | apply Wf.wL | apply Wf.fL | apply Wf.fI | apply Wf.fr)))) only [zadd, zmul, zsub, le_nI, lt_nI, eq_nI, neg_nI, gen_nI, neg_lt, neg_le, neg_lt', neg_le', nI_lt0]
        by_cases q : wgt D b < wgt D k
        · rw [if_pos q] at hi
          rw [if_neg (by omega)]
          exact hi
        · rw [if_neg q] at hi
          rw [if_pos (by omega)]
          exact hi
theorem c_first (h : CJ σ t D) (w : Int32) : f_X11_first 0 w σ = some (sFirst D w, σ) := by
  have b1 := h.r.bd
  unfold f_X11_first f_X11_first_0 sFirst
  simp only [to_bq, l_0, l_1, l_2, l_3, l_4, l_5, l_6, l_7, l_8, l_9, l_10, l_11, l_12, l_13, l_14, l_15, l_16, l_17, l_18, l_19, l_20, l_21, l_22, l_23, l_24, l_25, l_26, l_27, l_28, l_29, l_30, l_31, l_32, l_40, l_41, l_42, l_43, l_44, l_45, l_46, l_47, l_48, l_49, l_50, l_51, l_52, l_53, l_54, l_55, l_56, l_57, l_58, l_59, l_60, l_61, l_62, l_63, l_64, l_72, l_97, l_99, l_100, l_104, l_120, l_122, l_128, l_140, l_255, l_256, l_257, l_258, l_260, l_261, l_262, l_364, l_680, l_700, l_701, l_840, l_999, l_1023, l_1024, l_9999, l_10000, l_1000000, lm]
  rw [ck_0 h.w]
  by_cases q1 : w < nI 0
  · rw [if_pos q1, if_pos q1]
  rw [if_neg q1, if_neg q1]
  by_cases q2 : w ≤ nI 1
  · rw [if_pos q2, if_pos q2]
    exact c_first18 h w (nC D) 0 5000 (by omega) (by omega)
  · rw [if_neg q2, if_neg q2]
end
