/-! The reference's answers about flows -/
/-- the place of the first greatest of m -/
def pkx (f : Nat → Nat) : Nat → Nat
  | 0 => 0
  | m + 1 => if f (pkx f m) < f m then m else pkx f m
theorem pkx_lt (f : Nat → Nat) {m : Nat} (h : 0 < m) : pkx f m < m := by
  induction m with
  | zero => omega
  | succ m ih =>
    unfold pkx
    split
    · omega
    · by_cases q : m = 0
      · subst q; exact Nat.zero_lt_one
      · have := ih (by omega); omega
theorem pkx_eq {f g : Nat → Nat} {m : Nat} (h : ∀ j, j < m → f j = g j) : pkx f m = pkx g m := by
  induction m with
  | zero => rfl
  | succ m ih =>
    have e := ih (fun j hj => h j (by omega))
    show (if f (pkx f m) < f m then m else pkx f m) = (if g (pkx g m) < g m then m else pkx g m)
    rw [e, h m (by omega)]
    by_cases q : m = 0
    · subst q
      show (if f 0 < g 0 then 0 else 0) = (if g 0 < g 0 then 0 else 0)
      rw [h 0 (by omega)]
    · have := pkx_lt g (m := m) (by omega)
      rw [h (pkx g m) (by omega)]
noncomputable def fq (D : DD) (st : Nat → Option Nat) (cp : Nat → Nat) (c j : Nat) : Nat := flw D st cp (j / 30) c (j % 30)
/-- its place, its greatest flow -/
noncomputable def pkD (D : DD) (st : Nat → Option Nat) (cp : Nat → Nat) (c : Nat) : Nat := pkx (fq D st cp c) (30 * nR D)
noncomputable def gmx (D : DD) (st : Nat → Option Nat) (cp : Nat → Nat) (c : Nat) : Nat := if nR D = 0 then 0 else fq D st cp c (pkD D st cp c)
theorem flw_b {D : DD} {st : Nat → Option Nat} {cp : Nat → Nat} (ht : MT D) {r c t : Nat} (hr0 : r < nR D) (hc : c < nC D) : flw D st cp r c t ≤ 1400000000 := by
  unfold flw
  by_cases q : st c = none ∨ Rg (nx D st) (nC D) c
  · rw [cif_t q]; omega
  · rw [cif_f q]; exact Nat.le_trans (lim_le _ _) (FF_b ht hr0 hc)
theorem gmx_b {D : DD} {st : Nat → Option Nat} {cp : Nat → Nat} (ht : MT D) {c : Nat} (hc : c < nC D) : gmx D st cp c ≤ 1400000000 := by
  unfold gmx
  split
  · omega
  · have := pkx_lt (fq D st cp c) (m := 30 * nR D) (by omega)
    exact flw_b ht (by unfold pkD; omega) hc
def ms (f : Nat → Nat) (j : Nat) : Int := if j = 0 then -1 else (f (pkx f j) : Int)
def mw (f : Nat → Nat) (j d : Nat) : Int32 := if j = 0 then mI 1 else nI (if d = 0 then pkx f j / 30 else pkx f j % 30)
def Xg (a j : Nat) : Prop := a = 225 ∧ (j = 46 ∨ j = 47)
theorem Xg_q : ∀ a j, Xg a j → Xq a j := by
  intro a j h; unfold Xg at h; unfold Xq; omega
section
variable {σ : ah_H} {D : DD} {e : Nat} {st : Nat → Option Nat} {cp : Nat → Nat}
def GI (σ : ah_H) (f : Nat → Nat) (j : Nat) (τ : ah_H) : Prop := Fr Xg σ τ ∧ ah_I τ 225 46 = mw f j 0 ∧ ah_I τ 225 47 = mw f j 1
theorem m_gr31 (h0 : MInv σ D) (hF : FlR σ D st cp) {c r : Nat} (hc : c < nC D) (hr0 : r < nR D) (K17 : Nat → Int32 → Int64 → Int32 → ah_H → Option (Int64 × ah_H)) : ∀ m k fu τ, k + m = 30 → m < fu → GI σ (fq D st cp c) (30 * r + k) τ → ∃ ρ, f_X12_greatest_31 K17 fu 225 (nI c) (iL (ms (fq D st cp c) (30 * r + k))) (nI r) (nI k) τ = K17 225 (nI c) (iL (ms (fq D st cp c) (30 * (r + 1)))) (nI (r + 1)) ρ ∧ GI σ (fq D st cp c) (30 * (r + 1)) ρ := by
  have b1 := h0.bd
  intro m
  induction m with
  | zero =>
    intro k fu τ hk hf hI
    obtain ⟨fu, rfl⟩ : ∃ q, fu = q + 1 := ⟨fu - 1, by omega⟩
    obtain rfl : k = 30 := by omega
    refine ⟨τ, ?_, hI⟩
    show f_X12_greatest_31_b _ _ _ _ _ _ _ _ = _
    unfold f_X12_greatest_31_b f_X12_greatest_91
    simp only [to_bq, l_0, l_1, l_2, l_3, l_4, l_5, l_6, l_7, l_8, l_9, l_10, l_11, l_12, l_13, l_14, l_15, l_16, l_17, l_18, l_19, l_20, l_21, l_22, l_23, l_24, l_25, l_26, l_27, l_28, l_29, l_30, l_31, l_32, l_40, l_41, l_42, l_43, l_44, l_45, l_46, l_47, l_48, l_49, l_50, l_51, l_52, l_53, l_54, l_55, l_56, l_57, l_58, l_59, l_60, l_61, l_62, l_63, l_64, l_72, l_97, l_99, l_100, l_104, l_120, l_122, l_128, l_140, l_255, l_256, l_257, l_258, l_260, l_261, l_262, l_364, l_680, l_700, l_701, l_840, l_999, l_1023, l_1024, l_9999, l_10000, l_1000000, lm]
    simp (disch := first | (with_reducible assumption) | omega | exact ⟨by omega, by omega⟩ | ((with_reducible first | apply Wf.wI | apply Wf.wL | apply Wf.fL | apply Wf.fI | apply Wf.fr); (repeat (with_reducible first | assumption | apply Wf.wI | apply Wf.wL | apply Wf.fL | apply Wf.fI | apply Wf.fr)))) only [zadd, zmul, zsub, le_nI, lt_nI, eq_nI, neg_nI, gen_nI, neg_lt, neg_le, neg_lt', neg_le', nI_lt0, Nat.reduceEqDiff, Nat.reduceAdd, Nat.reduceMul, Nat.reduceSub, Nat.reduceLT, Nat.reduceLeDiff, Nat.add_sub_cancel, Nat.zero_add, Nat.add_zero, Nat.mul_zero, Nat.zero_mul, if_true, if_false, ite_true, ite_false, reduceIte, not_true, not_false, and_true, true_and, and_false, false_and, or_true, true_or, or_false, false_or, eq_self]
    rfl
  | succ m ih =>
    intro k fu τ hk hf hI
    obtain ⟨fu, rfl⟩ : ∃ q, fu = q + 1 := ⟨fu - 1, by omega⟩
    have h : MInv τ D := h0.q (hI.1.mono Xg_q)
    have hw := h.w
    have hat : atf c r k < 840 := atf_lt (by omega) (by omega) (by omega)
    have e1 : ah_L τ 252 (atf c r k) = iL ((fq D st cp c (30 * r + k) : Nat) : Int) := by
      rw [hI.1.L (by unfold Xg; omega), (hF c hc r hr0 k (by omega)).1]
      unfold fq
      rw [show (30 * r + k) / 30 = r by omega, show (30 * r + k) % 30 = k by omega]
    have hb1 : fq D st cp c (30 * r + k) ≤ 1400000000 := by
      unfold fq
      exact flw_b h.t (by omega) hc
    have hb2 : -1 ≤ ms (fq D st cp c) (30 * r + k) ∧ ms (fq D st cp c) (30 * r + k) ≤ 1400000000 := by
      unfold ms
      split
      · omega
      · have := pkx_lt (fq D st cp c) (m := 30 * r + k) (by omega)
        have : fq D st cp c (pkx (fq D st cp c) (30 * r + k)) ≤ 1400000000 := flw_b h.t (by omega) hc
        omega
    show ∃ ρ, f_X12_greatest_31_b _ _ _ _ _ _ _ _ = _ ∧ _
    unfold f_X12_greatest_31_b f_X12_greatest_85
    simp only [to_bq, l_0, l_1, l_2, l_3, l_4, l_5, l_6, l_7, l_8, l_9, l_10, l_11, l_12, l_13, l_14, l_15, l_16, l_17, l_18, l_19, l_20, l_21, l_22, l_23, l_24, l_25, l_26, l_27, l_28, l_29, l_30, l_31, l_32, l_40, l_41, l_42, l_43, l_44, l_45, l_46, l_47, l_48, l_49, l_50, l_51, l_52, l_53, l_54, l_55, l_56, l_57, l_58, l_59, l_60, l_61, l_62, l_63, l_64, l_72, l_97, l_99, l_100, l_104, l_120, l_122, l_128, l_140, l_255, l_256, l_257, l_258, l_260, l_261, l_262, l_364, l_680, l_700, l_701, l_840, l_999, l_1023, l_1024, l_9999, l_10000, l_1000000, lm]
    have e2 : ∀ τ', ah_L τ' 252 (atf c r k) = ah_L τ 252 (atf c r k) → ah_L τ' 252 (atf c r k) = iL ((fq D st cp c (30 * r + k) : Nat) : Int) := fun τ' q => q.trans e1
    simp (disch := first | (with_reducible assumption) | omega | exact ⟨by omega, by omega⟩ | ((with_reducible first | apply Wf.wI | apply Wf.wL | apply Wf.fL | apply Wf.fI | apply Wf.fr); (repeat (with_reducible first | assumption | apply Wf.wI | apply Wf.wL | apply Wf.fL | apply Wf.fI | apply Wf.fr)))) only [ck_225, gI_225, gL_225, pI_225, pZ0_225, pZ1_225, pL_225, gR_225_1, gR_225_3, gR_225_4, gR_225_5, gR_225_6, gR_225_7, gR_225_8, gR_225_9, gR_225_10, gR_225_11, gR_225_12, gR_225_13, gR_225_14, gR_225_15, gR_225_16, gR_225_17, gR_225_18, gR_225_19, gR_225_20, gR_225_21, gR_225_35, gR_225_36, gR_225_38, gR_225_39, gR_225_40, gR_225_41, gR_225_43, gR_225_44, gR_225_45, gR_225_48, gR_225_49, gR_225_50, gR_225_51, gR_225_53, gR_225_54, gR_225_55, gR_225_56, gR_225_58, gR_225_59, gR_225_60, gR_225_61, gR_225_62, gR_225_63, gR_225_66, gR_225_67, bq_s, bd_s, mp_s, rz_0, rz_1, bI_rz, zadd, zmul, zsub, le_nI, lt_nI, eq_nI, neg_nI, gen_nI, neg_lt, neg_le, neg_lt', neg_le', nI_lt0, if_true, if_false, ite_true, ite_false, reduceIte, not_true, not_false, and_true, true_and, and_false, false_and, or_true, true_or, or_false, false_or, eq_self, m_atFlow, aL_252, e1, cmp_gt, show (30 ≤ k) = False from eq_false (by omega)]
    by_cases q : ms (fq D st cp c) (30 * r + k) < ((fq D st cp c (30 * r + k) : Nat) : Int)
    · rw [if_pos q]
      have e3 : pkx (fq D st cp c) (30 * r + (k + 1)) = 30 * r + k := by
        rw [show 30 * r + (k + 1) = (30 * r + k) + 1 by omega]
        unfold pkx
        by_cases q2 : 30 * r + k = 0
        · rw [q2]; split <;> rfl
        · unfold ms at q; rw [if_neg q2] at q; rw [if_pos (by omega)]
      have e4 : ((fq D st cp c (30 * r + k) : Nat) : Int) = ms (fq D st cp c) (30 * r + (k + 1)) := by
        unfold ms; rw [if_neg (by omega), e3]
      rw [e4]
      refine ih (k + 1) fu _ (by omega) (by omega) ⟨(hI.1.wI (by unfold Xg; omega)).wI (by unfold Xg; omega), ?_, ?_⟩
      · rw [rI_ne (Or.inr (by omega)), rI_eq]; unfold mw; rw [if_neg (by omega), e3, if_pos rfl, show (30 * r + k) / 30 = r by omega]
      · rw [rI_eq]; unfold mw; rw [if_neg (by omega), e3, if_neg (by omega), show (30 * r + k) % 30 = k by omega]
    · rw [if_neg q]
      have q2 : 30 * r + k ≠ 0 := by
        intro q2; unfold ms at q; rw [if_pos q2] at q; omega
      have e3 : pkx (fq D st cp c) (30 * r + (k + 1)) = pkx (fq D st cp c) (30 * r + k) := by
        rw [show 30 * r + (k + 1) = (30 * r + k) + 1 by omega]
        show (if _ then _ else _) = _
        unfold ms at q; rw [if_neg q2] at q; rw [if_neg (by omega)]
      have e4 : ms (fq D st cp c) (30 * r + k) = ms (fq D st cp c) (30 * r + (k + 1)) := by
        unfold ms; rw [if_neg q2, if_neg (by omega), e3]
      rw [e4]
      refine ih (k + 1) fu _ (by omega) (by omega) ⟨hI.1, ?_, ?_⟩
      · rw [hI.2.1]; unfold mw; rw [if_neg q2, if_neg (show ¬ (30 * r + (k + 1) = 0) by omega), e3]
      · rw [hI.2.2]; unfold mw; rw [if_neg q2, if_neg (show ¬ (30 * r + (k + 1) = 0) by omega), e3]
theorem m_gr17 (h0 : MInv σ D) (hF : FlR σ D st cp) {c : Nat} (hc : c < nC D) : ∀ m k fu τ, k + m = nR D → m < fu → GI σ (fq D st cp c) (30 * k) τ → ∃ ρ, f_X12_greatest_17 fu 225 (nI c) (iL (ms (fq D st cp c) (30 * k))) (nI k) τ = some (iL ((gmx D st cp c : Nat) : Int), ρ) ∧ GI σ (fq D st cp c) (30 * nR D) ρ := by
  have b1 := h0.bd
  intro m
  induction m with
  | zero =>
    intro k fu τ hk hf hI
    obtain ⟨fu, rfl⟩ : ∃ q, fu = q + 1 := ⟨fu - 1, by omega⟩
    obtain rfl : k = nR D := by omega
    have h : MInv τ D := h0.q (hI.1.mono Xg_q)
    have hw := h.w
    have hb := gmx_b (st := st) (cp := cp) h.t hc
    have e1 : max 0 (ms (fq D st cp c) (30 * nR D)) = ((gmx D st cp c : Nat) : Int) := by
      unfold ms gmx
      by_cases q : nR D = 0
      · rw [if_pos (by omega), if_pos q]; rfl
      · rw [if_neg (by omega), if_neg q]; unfold pkD; omega
    have e2 : LB (ms (fq D st cp c) (30 * nR D)) := by
      have : ms (fq D st cp c) (30 * nR D) ≤ max 0 (ms (fq D st cp c) (30 * nR D)) := by omega
      have : -1 ≤ ms (fq D st cp c) (30 * nR D) := by unfold ms; split <;> omega
      exact ⟨by omega, by omega⟩
    refine ⟨τ, ?_, hI⟩
    show f_X12_greatest_17_b _ _ _ _ _ _ = _
    unfold f_X12_greatest_17_b f_X12_greatest_97
    simp only [to_bq, l_0, l_1, l_2, l_3, l_4, l_5, l_6, l_7, l_8, l_9, l_10, l_11, l_12, l_13, l_14, l_15, l_16, l_17, l_18, l_19, l_20, l_21, l_22, l_23, l_24, l_25, l_26, l_27, l_28, l_29, l_30, l_31, l_32, l_40, l_41, l_42, l_43, l_44, l_45, l_46, l_47, l_48, l_49, l_50, l_51, l_52, l_53, l_54, l_55, l_56, l_57, l_58, l_59, l_60, l_61, l_62, l_63, l_64, l_72, l_97, l_99, l_100, l_104, l_120, l_122, l_128, l_140, l_255, l_256, l_257, l_258, l_260, l_261, l_262, l_364, l_680, l_700, l_701, l_840, l_999, l_1023, l_1024, l_9999, l_10000, l_1000000, lm]
    simp (disch := first | (with_reducible assumption) | omega | exact ⟨by omega, by omega⟩ | ((with_reducible first | apply Wf.wI | apply Wf.wL | apply Wf.fL | apply Wf.fI | apply Wf.fr); (repeat (with_reducible first | assumption | apply Wf.wI | apply Wf.wL | apply Wf.fL | apply Wf.fI | apply Wf.fr)))) only [ck_225, gI_225, gL_225, pI_225, pZ0_225, pZ1_225, pL_225, gR_225_1, gR_225_3, gR_225_4, gR_225_5, gR_225_6, gR_225_7, gR_225_8, gR_225_9, gR_225_10, gR_225_11, gR_225_12, gR_225_13, gR_225_14, gR_225_15, gR_225_16, gR_225_17, gR_225_18, gR_225_19, gR_225_20, gR_225_21, gR_225_35, gR_225_36, gR_225_38, gR_225_39, gR_225_40, gR_225_41, gR_225_43, gR_225_44, gR_225_45, gR_225_48, gR_225_49, gR_225_50, gR_225_51, gR_225_53, gR_225_54, gR_225_55, gR_225_56, gR_225_58, gR_225_59, gR_225_60, gR_225_61, gR_225_62, gR_225_63, gR_225_66, gR_225_67, bq_s, bd_s, mp_s, rz_0, rz_1, bI_rz, zadd, zmul, zsub, le_nI, lt_nI, eq_nI, neg_nI, gen_nI, neg_lt, neg_le, neg_lt', neg_le', nI_lt0, if_true, if_false, ite_true, ite_false, reduceIte, not_true, not_false, and_true, true_and, and_false, false_and, or_true, true_or, or_false, false_or, eq_self, aI_227, rd_N h, Nat.le_refl, q_0, maxl_i, e1]
  | succ m ih =>
    intro k fu τ hk hf hI
    obtain ⟨fu, rfl⟩ : ∃ q, fu = q + 1 := ⟨fu - 1, by omega⟩
    have h : MInv τ D := h0.q (hI.1.mono Xg_q)
    have hw := h.w
    show ∃ ρ, f_X12_greatest_17_b _ _ _ _ _ _ = _ ∧ _
    unfold f_X12_greatest_17_b
    simp only [to_bq, l_0, l_1, l_2, l_3, l_4, l_5, l_6, l_7, l_8, l_9, l_10, l_11, l_12, l_13, l_14, l_15, l_16, l_17, l_18, l_19, l_20, l_21, l_22, l_23, l_24, l_25, l_26, l_27, l_28, l_29, l_30, l_31, l_32, l_40, l_41, l_42, l_43, l_44, l_45, l_46, l_47, l_48, l_49, l_50, l_51, l_52, l_53, l_54, l_55, l_56, l_57, l_58, l_59, l_60, l_61, l_62, l_63, l_64, l_72, l_97, l_99, l_100, l_104, l_120, l_122, l_128, l_140, l_255, l_256, l_257, l_258, l_260, l_261, l_262, l_364, l_680, l_700, l_701, l_840, l_999, l_1023, l_1024, l_9999, l_10000, l_1000000, lm]
    simp (disch := first | (with_reducible assumption) | omega | exact ⟨by omega, by omega⟩ | ((with_reducible first | apply Wf.wI | apply Wf.wL | apply Wf.fL | apply Wf.fI | apply Wf.fr); (repeat (with_reducible first | assumption | apply Wf.wI | apply Wf.wL | apply Wf.fL | apply Wf.fI | apply Wf.fr)))) only [ck_225, gI_225, gL_225, pI_225, pZ0_225, pZ1_225, pL_225, gR_225_1, gR_225_3, gR_225_4, gR_225_5, gR_225_6, gR_225_7, gR_225_8, gR_225_9, gR_225_10, gR_225_11, gR_225_12, gR_225_13, gR_225_14, gR_225_15, gR_225_16, gR_225_17, gR_225_18, gR_225_19, gR_225_20, gR_225_21, gR_225_35, gR_225_36, gR_225_38, gR_225_39, gR_225_40, gR_225_41, gR_225_43, gR_225_44, gR_225_45, gR_225_48, gR_225_49, gR_225_50, gR_225_51, gR_225_53, gR_225_54, gR_225_55, gR_225_56, gR_225_58, gR_225_59, gR_225_60, gR_225_61, gR_225_62, gR_225_63, gR_225_66, gR_225_67, bq_s, bd_s, mp_s, rz_0, rz_1, bI_rz, zadd, zmul, zsub, le_nI, lt_nI, eq_nI, neg_nI, gen_nI, neg_lt, neg_le, neg_lt', neg_le', nI_lt0, if_true, if_false, ite_true, ite_false, reduceIte, not_true, not_false, and_true, true_and, and_false, false_and, or_true, true_or, or_false, false_or, eq_self, aI_227, rd_N h, show (nR D ≤ k) = False from eq_false (by omega)]
    obtain ⟨ρ, g1, g2⟩ := m_gr31 h0 hF hc (show k < nR D by omega) (f_X12_greatest_17 fu) 30 0 5000 τ (by omega) (by omega) hI
    have g1 : f_X12_greatest_31 (f_X12_greatest_17 fu) 5000 225 (nI c) (iL (ms (fq D st cp c) (30 * k))) (nI k) (nI 0) τ = _ := g1
    rw [g1]
    exact ih (k + 1) fu ρ (by omega) (by omega) g2
theorem m_greatest (h : MInv σ D) (hF : FlR σ D st cp) {c : Nat} (hc : c < nC D) : Ok (f_X12_greatest 225 (nI c) σ) (fun r => r.1 = iL ((gmx D st cp c : Nat) : Int) ∧ Fr Xg σ r.2 ∧ (nR D ≠ 0 → ah_I r.2 225 46 = nI (pkD D st cp c / 30) ∧ ah_I r.2 225 47 = nI (pkD D st cp c % 30))) := by
  have hw := h.w
  have b1 := h.bd
  unfold f_X12_greatest f_X12_greatest_0
  simp only [to_bq, l_0, l_1, l_2, l_3, l_4, l_5, l_6, l_7, l_8, l_9, l_10, l_11, l_12, l_13, l_14, l_15, l_16, l_17, l_18, l_19, l_20, l_21, l_22, l_23, l_24, l_25, l_26, l_27, l_28, l_29, l_30, l_31, l_32, l_40, l_41, l_42, l_43, l_44, l_45, l_46, l_47, l_48, l_49, l_50, l_51, l_52, l_53, l_54, l_55, l_56, l_57, l_58, l_59, l_60, l_61, l_62, l_63, l_64, l_72, l_97, l_99, l_100, l_104, l_120, l_122, l_128, l_140, l_255, l_256, l_257, l_258, l_260, l_261, l_262, l_364, l_680, l_700, l_701, l_840, l_999, l_1023, l_1024, l_9999, l_10000, l_1000000, lm]
  simp (disch := first | (with_reducible assumption) | omega | exact ⟨by omega, by omega⟩ | ((with_reducible first | apply Wf.wI | apply Wf.wL | apply Wf.fL | apply Wf.fI | apply Wf.fr); (repeat (with_reducible first | assumption | apply Wf.wI | apply Wf.wL | apply Wf.fL | apply Wf.fI | apply Wf.fr)))) only [ck_225, gI_225, gL_225, pI_225, pZ0_225, pZ1_225, pL_225, gR_225_1, gR_225_3, gR_225_4, gR_225_5, gR_225_6, gR_225_7, gR_225_8, gR_225_9, gR_225_10, gR_225_11, gR_225_12, gR_225_13, gR_225_14, gR_225_15, gR_225_16, gR_225_17, gR_225_18, gR_225_19, gR_225_20, gR_225_21, gR_225_35, gR_225_36, gR_225_38, gR_225_39, gR_225_40, gR_225_41, gR_225_43, gR_225_44, gR_225_45, gR_225_48, gR_225_49, gR_225_50, gR_225_51, gR_225_53, gR_225_54, gR_225_55, gR_225_56, gR_225_58, gR_225_59, gR_225_60, gR_225_61, gR_225_62, gR_225_63, gR_225_66, gR_225_67, bq_s, bd_s, mp_s, rz_0, rz_1, bI_rz, zadd, zmul, zsub, le_nI, lt_nI, eq_nI, neg_nI, gen_nI, neg_lt, neg_le, neg_lt', neg_le', nI_lt0, l_0, l_1, l_2, l_3, l_4, l_5, l_6, l_7, l_8, l_9, l_10, l_11, l_12, l_13, l_14, l_15, l_16, l_17, l_18, l_19, l_20, l_21, l_22, l_23, l_24, l_25, l_26, l_27, l_28, l_29, l_30, l_31, l_32, l_40, l_41, l_42, l_43, l_44, l_45, l_46, l_47, l_48, l_49, l_50, l_51, l_52, l_53, l_54, l_55, l_56, l_57, l_58, l_59, l_60, l_61, l_62, l_63, l_64, l_72, l_97, l_99, l_100, l_104, l_120, l_122, l_128, l_140, l_255, l_256, l_257, l_258, l_260, l_261, l_262, l_364, l_680, l_700, l_701, l_840, l_999, l_1023, l_1024, l_9999, l_10000, l_1000000, lm]
  have f1 : Fr Xg σ (ah_wI (ah_wI σ 225 46 (mI 1)) 225 47 (mI 1)) := (Fr.rfl.wI (by unfold Xg; omega)).wI (by unfold Xg; omega)
  obtain ⟨ρ, g1, g2⟩ := m_gr17 h hF hc (nR D) 0 5000 (ah_wI (ah_wI σ 225 46 (mI 1)) 225 47 (mI 1)) (by omega) (by omega) ⟨f1, by rw [rI_ne (Or.inr (by omega)), rI_eq]; rfl, by rw [rI_eq]; rfl⟩
  have g1 : f_X12_greatest_17 5000 225 (nI c) (-1) (nI 0) _ = _ := g1
  rw [g1]
  refine ⟨_, rfl, rfl, g2.1, fun q => ?_⟩
  have e1 := g2.2.1
  have e2 := g2.2.2
  unfold mw at e1 e2
  rw [if_neg (by omega), if_pos rfl] at e1
  rw [if_neg (by omega), if_neg (by omega)] at e2
  exact ⟨e1, e2⟩
theorem FlR.fr {τ : ah_H} {X : Nat → Nat → Prop} (h : FlR σ D st cp) (g : Fr X σ τ) (hX : ∀ a j, 252 ≤ a → a ≤ 253 → ¬ X a j) : FlR τ D st cp := fun c hc r hr t ht => ⟨(g.L (hX _ _ (by omega) (by omega))).trans (h c hc r hr t ht).1, (g.L (hX _ _ (by omega) (by omega))).trans (h c hc r hr t ht).2⟩
end
