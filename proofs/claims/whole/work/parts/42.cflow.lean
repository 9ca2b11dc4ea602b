/-! THE CLASS: flows -/
def XR (a b _j : Nat) : Prop := b = a
def Xf (f a j : Nat) : Prop := f < a ∧ a ≤ f + 16 ∨ f + 18 ≤ a ∧ a ≤ f + 20 ∨ a = f ∧ j = 6
def FE (σ : ah_H) (f t : Nat) (D : DD) (st : Nat → Option Nat) (cp : Nat → Nat) : Prop := TR σ t D ∧ Fl f ∧ ah_R σ f 8 = some t ∧ (∀ c, c < nC D → ah_I σ (fst_ f) c = sv (st c) ∧ ∀ s, st c = some s → s < nS D) ∧ (∀ c, c < nC D → ah_L σ (f+17) c = iL ((cp c : Nat) : Int)) ∧ ∀ c, cp c ≤ 9223372036854775807
section
variable {σ : ah_H} {f t : Nat} {D : DD} {st : Nat → Option Nat} {cp : Nat → Nat}
theorem FE.fr {τ : ah_H} (h : FE σ f t D st cp) (g : Fr (Xf f) σ τ) : FE τ f t D st cp := by
  obtain ⟨h1, h2, h3, h4, h5, h6⟩ := h
  have hT : t = 2 ∨ t = 42 := h1.tn
  have hF : f = 118 ∨ f = 139 ∨ f = 201 := h2
  refine ⟨h1.fr g (fun a j _ _ => by unfold Xf; omega), h2, (g.R (Or.inr (by unfold Xf; omega))).trans h3, fun c hc => ⟨(g.I ?_).trans (h4 c hc).1, (h4 c hc).2⟩, fun c hc => (g.L (by unfold Xf; omega)).trans (h5 c hc), h6⟩
  unfold Xf fst_
  split <;> omega
theorem FE.w (h : FE σ f t D st cp) : Wf σ := h.1.w
theorem FE.nxl (h : FE σ f t D st cp) : ∀ c k, c < nC D → nx D st c = some k → k < nC D := fun c _ hc hx => nx_lt h.1.t (h.2.2.2.1 c hc).2 hx
theorem FE.nxn (h : FE σ f t D st cp) {c : Nat} (hc : c < nC D) : nx D st c ≠ some c := by
  unfold nx
  cases hx : st c with
  | none => intro q; cases q
  | some s =>
    intro q
    have q : oth D s c = c := Option.some.inj q
    exact oth_ne s c (h.1.t.qsAB ((h.2.2.2.1 c hc).2 s hx)) q
theorem FE.sv (h : FE σ f t D st cp) {c : Nat} (hc : c < nC D) : (ah_I σ (fst_ f) c = mI 1) = (st c = none) := by
  have b := h.1.bd
  rw [(h.2.2.2.1 c hc).1]
  exact sv_none _ (fun k hk => Nat.lt_trans ((h.2.2.2.1 c hc).2 k hk) (by omega))
theorem XRf {c : Nat} (hc : c < 7) : ∀ a j, XR (f + 2 + c) a j → Xf f a j := by
  intro a j h; unfold XR at h; unfold Xf; omega
theorem c_rain38 (h0 : FE σ f t D st cp) {c r : Nat} (hc : c < nC D) (hr0 : r < nR D) (K24 : Nat → Int32 → Int32 → Int32 → ah_H → Option ah_H) : ∀ m k fu τ, k + m = 6 → m < fu → Fr (Xf f) σ τ → ∃ ρ, f_X1_rainOn_38 K24 fu f (nI c) (nI (are D c)) (nI r) (nI k) τ = K24 f (nI c) (nI (are D c)) (nI (r + 1)) ρ ∧ Fr (XR (f + 2 + c)) τ ρ ∧ ∀ j, ah_L ρ (f + 2 + c) j = if 30 * r + k ≤ j ∧ j < 30 * r + 6 then iL ((ra D r c (j - 30 * r) : Nat) : Int) else ah_L τ (f + 2 + c) j := by
  have b1 := h0.1.bd
  have b3 := h0.1.t.qare9 hc
  intro m
  induction m with
  | zero =>
    intro k fu τ hk hf hfr
    obtain ⟨fu, rfl⟩ : ∃ q, fu = q + 1 := ⟨fu - 1, by omega⟩
    obtain rfl : k = 6 := by omega
    refine ⟨τ, ?_, Fr.rfl, fun j => by rw [if_neg (by omega)]⟩
    show f_X1_rainOn_38_b _ _ _ _ _ _ _ _ = _
    unfold f_X1_rainOn_38_b f_X1_rainOn_81
    simp only [to_bq, l_0, l_1, l_2, l_3, l_4, l_5, l_6, l_7, l_8, l_9, l_10, l_11, l_12, l_13, l_14, l_15, l_16, l_17, l_18, l_19, l_20, l_21, l_22, l_23, l_24, l_25, l_26, l_27, l_28, l_29, l_30, l_31, l_32, l_40, l_41, l_42, l_43, l_44, l_45, l_46, l_47, l_48, l_49, l_50, l_51, l_52, l_53, l_54, l_55, l_56, l_57, l_58, l_59, l_60, l_61, l_62, l_63, l_64, l_72, l_97, l_99, l_100, l_104, l_120, l_122, l_128, l_140, l_255, l_256, l_257, l_258, l_260, l_261, l_262, l_364, l_680, l_700, l_701, l_840, l_999, l_1023, l_1024, l_9999, l_10000, l_1000000, lm]
    simp (disch := first | (with_reducible assumption) | omega | exact ⟨by omega, by omega⟩ | ((with_reducible first | apply Wf.wI | apply Wf.wL | apply Wf.fL | apply Wf.fI | apply Wf.fr); (repeat (with_reducible first | assumption | apply Wf.wI | apply Wf.wL | apply Wf.fL | apply Wf.fI | apply Wf.fr)))) only [zadd, zmul, zsub, le_nI, lt_nI, eq_nI, neg_nI, gen_nI, neg_lt, neg_le, neg_lt', neg_le', nI_lt0, Nat.reduceEqDiff, Nat.reduceAdd, Nat.reduceMul, Nat.reduceSub, Nat.reduceLT, Nat.reduceLeDiff, Nat.add_sub_cancel, Nat.zero_add, Nat.add_zero, Nat.mul_zero, Nat.zero_mul, if_true, if_false, ite_true, ite_false, reduceIte, not_true, not_false, and_true, true_and, and_false, false_and, or_true, true_or, or_false, false_or, eq_self, Nat.le_refl]
  | succ m ih =>
    intro k fu τ hk hf hfr
    obtain ⟨fu, rfl⟩ : ∃ q, fu = q + 1 := ⟨fu - 1, by omega⟩
    have h := h0.fr hfr
    have hw := h.w
    have ht := h.1.tn
    have hfl := h.2.1
    have hp := h.2.2.1
    have hrv : (if k < rnh D r then rnv D r k else 0) ≤ 99 := by
      split
      · next q => exact h.1.t.qrnv99 hr0 q
      · omega
    have e1 : (are D c : Int) * ((if k < rnh D r then rnv D r k else 0 : Nat) : Int) = ((ra D r c k : Nat) : Int) := by
      unfold ra
      split
      · rw [Int.natCast_mul]
      · rw [Int.natCast_zero, Int.mul_zero]
    show ∃ ρ, f_X1_rainOn_38_b _ _ _ _ _ _ _ _ = _ ∧ _
    unfold f_X1_rainOn_38_b
    simp only [to_bq, l_0, l_1, l_2, l_3, l_4, l_5, l_6, l_7, l_8, l_9, l_10, l_11, l_12, l_13, l_14, l_15, l_16, l_17, l_18, l_19, l_20, l_21, l_22, l_23, l_24, l_25, l_26, l_27, l_28, l_29, l_30, l_31, l_32, l_40, l_41, l_42, l_43, l_44, l_45, l_46, l_47, l_48, l_49, l_50, l_51, l_52, l_53, l_54, l_55, l_56, l_57, l_58, l_59, l_60, l_61, l_62, l_63, l_64, l_72, l_97, l_99, l_100, l_104, l_120, l_122, l_128, l_140, l_255, l_256, l_257, l_258, l_260, l_261, l_262, l_364, l_680, l_700, l_701, l_840, l_999, l_1023, l_1024, l_9999, l_10000, l_1000000, lm]
    simp (disch := first | (with_reducible assumption) | omega | exact ⟨by omega, by omega⟩ | ((with_reducible first | apply Wf.wI | apply Wf.wL | apply Wf.fL | apply Wf.fI | apply Wf.fr); (repeat (with_reducible first | assumption | apply Wf.wI | apply Wf.wL | apply Wf.fL | apply Wf.fI | apply Wf.fr)))) only [ck_f, gI_f, gL_f, pI_f, pZ0_f, pZ1_f, pL_f, gR_f_0, gR_f_1, gR_f_2, gR_f_3, gR_f_4, gR_f_5, gR_f_7, gR_f_8, pR_f_8, aR_water, aR_spill, aL_water, sL_water, len_water, aL_spill, sL_spill, len_spill, aL_f17, sL_f17, len_f17, aI_f18, sI_f18, len_f18, aI_f19, sI_f19, len_f19, aI_f20, sI_f20, len_f20, aI_fst, sI_fst, len_fst, ck_t, gI_t, gL_t, pI_t, pZ0_t, pZ1_t, pL_t, ck_w, gI_w, gL_w, pI_w, pZ0_w, pZ1_w, pL_w, gR_t_1, gR_t_5, gR_t_7, gR_t_9, gR_t_10, gR_t_11, gR_t_12, gR_t_15, gR_w_2, gR_w_3, gR_w_4, gR_w_5, gR_w_6, gR_w_7, aR_crow, aR_srow, aR_prow, aR_rrow, aI_crow, sI_crow, len_crow, aI_srow, sI_srow, len_srow, aI_prow, sI_prow, len_prow, aI_rrow, sI_rrow, len_rrow, aI_t25, sI_t25, len_t25, aI_t31, sI_t31, len_t31, aI_t32, sI_t32, len_t32, aI_t34, sI_t34, len_t34, aI_t35, sI_t35, len_t35, aI_t36, sI_t36, len_t36, aI_t37, sI_t37, len_t37, aL_t38, sL_t38, len_t38, aL_t39, sL_t39, len_t39, bq_s, bd_s, mp_s, rz_0, rz_1, bI_rz, zadd, zmul, zsub, le_nI, lt_nI, eq_nI, neg_nI, gen_nI, neg_lt, neg_le, neg_lt', neg_le', nI_lt0, if_true, if_false, ite_true, ite_false, reduceIte, not_true, not_false, and_true, true_and, and_false, false_and, or_true, true_or, or_false, false_or, eq_self, hp, tr_rnv h.1, show (6 ≤ k) = False from eq_false (by omega), toL_n, imul, e1]
    have f1 : Fr (XR (f + 2 + c)) τ (ah_wL τ (f + 2 + c) (r * 30 + k) (iL ((ra D r c k : Nat) : Int))) := Fr.rfl.wL (by unfold XR; rfl)
    obtain ⟨ρ, g1, g2, g3⟩ := ih (k + 1) fu _ (by omega) (by omega) (hfr.trans (f1.mono (XRf (by omega))))
    refine ⟨ρ, g1, f1.trans g2, fun j => ?_⟩
    rw [g3, ah_L_wL]
    by_cases q : j = r * 30 + k
    · rw [if_neg (by omega), if_pos ⟨rfl, q⟩, if_pos (by omega), show j - 30 * r = k by omega]
    · rw [if_neg (show ¬ (f + 2 + c = f + 2 + c ∧ j = r * 30 + k) from fun z => q z.2)]
      by_cases q2 : 30 * r + (k + 1) ≤ j ∧ j < 30 * r + 6
      · rw [if_pos q2, if_pos (by omega)]
      · rw [if_neg q2, if_neg (by omega)]
theorem c_rain24 (h0 : FE σ f t D st cp) {c : Nat} (hc : c < nC D) : ∀ m k fu τ, k + m = nR D → m < fu → Fr (Xf f) σ τ → ∃ ρ, f_X1_rainOn_24 fu f (nI c) (nI (are D c)) (nI k) τ = some ρ ∧ Fr (XR (f + 2 + c)) τ ρ ∧ ∀ j, ah_L ρ (f + 2 + c) j = if 30 * k ≤ j ∧ j < 30 * nR D ∧ j % 30 < 6 then iL ((ra D (j / 30) c (j % 30) : Nat) : Int) else ah_L τ (f + 2 + c) j := by
  have b1 := h0.1.bd
  intro m
  induction m with
  | zero =>
    intro k fu τ hk hf hfr
    obtain ⟨fu, rfl⟩ : ∃ q, fu = q + 1 := ⟨fu - 1, by omega⟩
    have h := h0.fr hfr
    have hw := h.w
    have ht := h.1.tn
    have hfl := h.2.1
    have hp := h.2.2.1
    refine ⟨τ, ?_, Fr.rfl, fun j => by rw [if_neg (by omega)]⟩
    show f_X1_rainOn_24_b _ _ _ _ _ _ = _
    unfold f_X1_rainOn_24_b
    simp only [to_bq, l_0, l_1, l_2, l_3, l_4, l_5, l_6, l_7, l_8, l_9, l_10, l_11, l_12, l_13, l_14, l_15, l_16, l_17, l_18, l_19, l_20, l_21, l_22, l_23, l_24, l_25, l_26, l_27, l_28, l_29, l_30, l_31, l_32, l_40, l_41, l_42, l_43, l_44, l_45, l_46, l_47, l_48, l_49, l_50, l_51, l_52, l_53, l_54, l_55, l_56, l_57, l_58, l_59, l_60, l_61, l_62, l_63, l_64, l_72, l_97, l_99, l_100, l_104, l_120, l_122, l_128, l_140, l_255, l_256, l_257, l_258, l_260, l_261, l_262, l_364, l_680, l_700, l_701, l_840, l_999, l_1023, l_1024, l_9999, l_10000, l_1000000, lm]
    simp (disch := first | (with_reducible assumption) | omega | exact ⟨by omega, by omega⟩ | ((with_reducible first | apply Wf.wI | apply Wf.wL | apply Wf.fL | apply Wf.fI | apply Wf.fr); (repeat (with_reducible first | assumption | apply Wf.wI | apply Wf.wL | apply Wf.fL | apply Wf.fI | apply Wf.fr)))) only [ck_f, gI_f, gL_f, pI_f, pZ0_f, pZ1_f, pL_f, gR_f_0, gR_f_1, gR_f_2, gR_f_3, gR_f_4, gR_f_5, gR_f_7, gR_f_8, pR_f_8, aR_water, aR_spill, aL_water, sL_water, len_water, aL_spill, sL_spill, len_spill, aL_f17, sL_f17, len_f17, aI_f18, sI_f18, len_f18, aI_f19, sI_f19, len_f19, aI_f20, sI_f20, len_f20, aI_fst, sI_fst, len_fst, ck_t, gI_t, gL_t, pI_t, pZ0_t, pZ1_t, pL_t, ck_w, gI_w, gL_w, pI_w, pZ0_w, pZ1_w, pL_w, gR_t_1, gR_t_5, gR_t_7, gR_t_9, gR_t_10, gR_t_11, gR_t_12, gR_t_15, gR_w_2, gR_w_3, gR_w_4, gR_w_5, gR_w_6, gR_w_7, aR_crow, aR_srow, aR_prow, aR_rrow, aI_crow, sI_crow, len_crow, aI_srow, sI_srow, len_srow, aI_prow, sI_prow, len_prow, aI_rrow, sI_rrow, len_rrow, aI_t25, sI_t25, len_t25, aI_t31, sI_t31, len_t31, aI_t32, sI_t32, len_t32, aI_t34, sI_t34, len_t34, aI_t35, sI_t35, len_t35, aI_t36, sI_t36, len_t36, aI_t37, sI_t37, len_t37, aL_t38, sL_t38, len_t38, aL_t39, sL_t39, len_t39, bq_s, bd_s, mp_s, rz_0, rz_1, bI_rz, zadd, zmul, zsub, le_nI, lt_nI, eq_nI, neg_nI, gen_nI, neg_lt, neg_le, neg_lt', neg_le', nI_lt0, if_true, if_false, ite_true, ite_false, reduceIte, not_true, not_false, and_true, true_and, and_false, false_and, or_true, true_or, or_false, false_or, eq_self, hp, tr_N h.1, show (nR D ≤ k) = True from eq_true (by omega)]
  | succ m ih =>
    intro k fu τ hk hf hfr
    obtain ⟨fu, rfl⟩ : ∃ q, fu = q + 1 := ⟨fu - 1, by omega⟩
    have h := h0.fr hfr
    have hw := h.w
    have ht := h.1.tn
    have hfl := h.2.1
    have hp := h.2.2.1
    show ∃ ρ, f_X1_rainOn_24_b _ _ _ _ _ _ = _ ∧ _
    unfold f_X1_rainOn_24_b
    simp only [to_bq, l_0, l_1, l_2, l_3, l_4, l_5, l_6, l_7, l_8, l_9, l_10, l_11, l_12, l_13, l_14, l_15, l_16, l_17, l_18, l_19, l_20, l_21, l_22, l_23, l_24, l_25, l_26, l_27, l_28, l_29, l_30, l_31, l_32, l_40, l_41, l_42, l_43, l_44, l_45, l_46, l_47, l_48, l_49, l_50, l_51, l_52, l_53, l_54, l_55, l_56, l_57, l_58, l_59, l_60, l_61, l_62, l_63, l_64, l_72, l_97, l_99, l_100, l_104, l_120, l_122, l_128, l_140, l_255, l_256, l_257, l_258, l_260, l_261, l_262, l_364, l_680, l_700, l_701, l_840, l_999, l_1023, l_1024, l_9999, l_10000, l_1000000, lm]
    simp (disch := first | (with_reducible assumption) | omega | exact ⟨by omega, by omega⟩ | ((with_reducible first | apply Wf.wI | apply Wf.wL | apply Wf.fL | apply Wf.fI | apply Wf.fr); (repeat (with_reducible first | assumption | apply Wf.wI | apply Wf.wL | apply Wf.fL | apply Wf.fI | apply Wf.fr)))) only [ck_f, gI_f, gL_f, pI_f, pZ0_f, pZ1_f, pL_f, gR_f_0, gR_f_1, gR_f_2, gR_f_3, gR_f_4, gR_f_5, gR_f_7, gR_f_8, pR_f_8, aR_water, aR_spill, aL_water, sL_water, len_water, aL_spill, sL_spill, len_spill, aL_f17, sL_f17, len_f17, aI_f18, sI_f18, len_f18, aI_f19, sI_f19, len_f19, aI_f20, sI_f20, len_f20, aI_fst, sI_fst, len_fst, ck_t, gI_t, gL_t, pI_t, pZ0_t, pZ1_t, pL_t, ck_w, gI_w, gL_w, pI_w, pZ0_w, pZ1_w, pL_w, gR_t_1, gR_t_5, gR_t_7, gR_t_9, gR_t_10, gR_t_11, gR_t_12, gR_t_15, gR_w_2, gR_w_3, gR_w_4, gR_w_5, gR_w_6, gR_w_7, aR_crow, aR_srow, aR_prow, aR_rrow, aI_crow, sI_crow, len_crow, aI_srow, sI_srow, len_srow, aI_prow, sI_prow, len_prow, aI_rrow, sI_rrow, len_rrow, aI_t25, sI_t25, len_t25, aI_t31, sI_t31, len_t31, aI_t32, sI_t32, len_t32, aI_t34, sI_t34, len_t34, aI_t35, sI_t35, len_t35, aI_t36, sI_t36, len_t36, aI_t37, sI_t37, len_t37, aL_t38, sL_t38, len_t38, aL_t39, sL_t39, len_t39, bq_s, bd_s, mp_s, rz_0, rz_1, bI_rz, zadd, zmul, zsub, le_nI, lt_nI, eq_nI, neg_nI, gen_nI, neg_lt, neg_le, neg_lt', neg_le', nI_lt0, if_true, if_false, ite_true, ite_false, reduceIte, not_true, not_false, and_true, true_and, and_false, false_and, or_true, true_or, or_false, false_or, eq_self, hp, tr_N h.1, show (nR D ≤ k) = False from eq_false (by omega)]
    obtain ⟨ρ, g1, g2, g3⟩ := c_rain38 h0 hc (show k < nR D by omega) (f_X1_rainOn_24 fu) 6 0 5000 τ (by omega) (by omega) hfr
    rw [g1]
    obtain ⟨ρ2, k1, k2, k3⟩ := ih (k + 1) fu ρ (by omega) (by omega) (hfr.trans (g2.mono (XRf (by omega))))
    refine ⟨ρ2, k1, g2.trans k2, fun j => ?_⟩
    rw [k3, g3]
    by_cases q : 30 * k + 0 ≤ j ∧ j < 30 * k + 6
    · rw [if_neg (by omega), if_pos q, if_pos (by omega), show j / 30 = k by omega, show j % 30 = j - 30 * k by omega]
    · rw [if_neg q]
      by_cases q2 : 30 * (k + 1) ≤ j ∧ j < 30 * nR D ∧ j % 30 < 6
      · rw [if_pos q2, if_pos (by omega)]
      · rw [if_neg q2, if_neg (by omega)]
theorem ra_6 (ht : MT D) {r c q : Nat} (hr0 : r < nR D) (hq : ¬ q < 6) : ra D r c q = 0 := by
  unfold ra
  have := ht.qrnh6 hr0
  rw [if_neg (by omega)]
theorem c_rainOn (h : FE σ f t D st cp) {c : Nat} (hc : c < nC D) : ∃ ρ, f_X1_rainOn f (nI c) σ = some ρ ∧ Fr (XR (f + 2 + c)) σ ρ ∧ ∀ r q, r < nR D → q < 30 → ah_L ρ (f + 2 + c) (30 * r + q) = iL ((ra D r c q : Nat) : Int) := by
  have b1 := h.1.bd
  have hw := h.w
  have ht := h.1.tn
  have hfl := h.2.1
  have hp := h.2.2.1
  have hT : t = 2 ∨ t = 42 := ht
  have hF : f = 118 ∨ f = 139 ∨ f = 201 := hfl
  have f1 : Fr (XR (f + 2 + c)) σ (ah_fL σ (f + 2 + c) 0 120 0) := Fr.rfl.fL (fun j _ _ => by unfold XR; rfl)
  have h1 := h.fr (f1.mono (XRf (by omega)))
  have hw1 := h1.w
  have hp1 := h1.2.2.1
  unfold f_X1_rainOn f_X1_rainOn_0
  simp only [to_bq, l_0, l_1, l_2, l_3, l_4, l_5, l_6, l_7, l_8, l_9, l_10, l_11, l_12, l_13, l_14, l_15, l_16, l_17, l_18, l_19, l_20, l_21, l_22, l_23, l_24, l_25, l_26, l_27, l_28, l_29, l_30, l_31, l_32, l_40, l_41, l_42, l_43, l_44, l_45, l_46, l_47, l_48, l_49, l_50, l_51, l_52, l_53, l_54, l_55, l_56, l_57, l_58, l_59, l_60, l_61, l_62, l_63, l_64, l_72, l_97, l_99, l_100, l_104, l_120, l_122, l_128, l_140, l_255, l_256, l_257, l_258, l_260, l_261, l_262, l_364, l_680, l_700, l_701, l_840, l_999, l_1023, l_1024, l_9999, l_10000, l_1000000, lm]
  simp (disch := first | (with_reducible assumption) | omega | exact ⟨by omega, by omega⟩ | ((with_reducible first | apply Wf.wI | apply Wf.wL | apply Wf.fL | apply Wf.fI | apply Wf.fr); (repeat (with_reducible first | assumption | apply Wf.wI | apply Wf.wL | apply Wf.fL | apply Wf.fI | apply Wf.fr)))) only [ck_f, gI_f, gL_f, pI_f, pZ0_f, pZ1_f, pL_f, gR_f_0, gR_f_1, gR_f_2, gR_f_3, gR_f_4, gR_f_5, gR_f_7, gR_f_8, pR_f_8, aR_water, aR_spill, aL_water, sL_water, len_water, aL_spill, sL_spill, len_spill, aL_f17, sL_f17, len_f17, aI_f18, sI_f18, len_f18, aI_f19, sI_f19, len_f19, aI_f20, sI_f20, len_f20, aI_fst, sI_fst, len_fst, ck_t, gI_t, gL_t, pI_t, pZ0_t, pZ1_t, pL_t, ck_w, gI_w, gL_w, pI_w, pZ0_w, pZ1_w, pL_w, gR_t_1, gR_t_5, gR_t_7, gR_t_9, gR_t_10, gR_t_11, gR_t_12, gR_t_15, gR_w_2, gR_w_3, gR_w_4, gR_w_5, gR_w_6, gR_w_7, aR_crow, aR_srow, aR_prow, aR_rrow, aI_crow, sI_crow, len_crow, aI_srow, sI_srow, len_srow, aI_prow, sI_prow, len_prow, aI_rrow, sI_rrow, len_rrow, aI_t25, sI_t25, len_t25, aI_t31, sI_t31, len_t31, aI_t32, sI_t32, len_t32, aI_t34, sI_t34, len_t34, aI_t35, sI_t35, len_t35, aI_t36, sI_t36, len_t36, aI_t37, sI_t37, len_t37, aL_t38, sL_t38, len_t38, aL_t39, sL_t39, len_t39, bq_s, bd_s, mp_s, rz_0, rz_1, bI_rz, zadd, zmul, zsub, le_nI, lt_nI, eq_nI, neg_nI, gen_nI, neg_lt, neg_le, neg_lt', neg_le', nI_lt0, hp, c_fillL (0 : Int64) hw (S0_water hfl (show c < 7 by omega)) (by omega), hp1, tr_are h1.1]
  obtain ⟨ρ, g1, g2, g3⟩ := c_rain24 h1 hc (nR D) 0 5000 _ (by omega) (by omega) Fr.rfl
  refine ⟨ρ, g1, f1.trans g2, fun r q hr hq => ?_⟩
  rw [g3, L_fL]
  by_cases q6 : q < 6
  · rw [if_pos (by omega), show (30 * r + q) / 30 = r by omega, show (30 * r + q) % 30 = q by omega]
  · rw [if_neg (by omega), if_pos (by omega), ra_6 h.1.t hr q6]
    rfl
/-- how many of the first k run to c -/
def pcn (D : DD) (st : Nat → Option Nat) (k c : Nat) : Nat := sm (fun o => if nx D st o = some c then 1 else 0) k
theorem sm_1 {f : Nat → Nat} {n : Nat} (h : ∀ o, o < n → f o ≤ 1) : sm f n ≤ n := by
  have := sm_le (f := f) (n := n) (B := 1) h
  omega
theorem pcn_b (k c : Nat) : pcn D st k c ≤ k := sm_1 (fun o _ => by show (if _ then _ else _) ≤ 1; split <;> omega)
theorem c_sort10 (h0 : FE σ f t D st cp) : ∀ m k fu τ, k + m = nC D → m < fu → Fr (Xf f) σ τ → (∀ c, c < nC D → ah_I τ (f + 20) c = nI (pcn D st k c)) → ∃ ρ, f_X1_sortDownwards_10 fu f (nI k) τ = f_X1_sortDownwards_60 f ρ ∧ Fr (XR (f + 20)) τ ρ ∧ (∀ c, c < nC D → ah_I ρ (f + 20) c = nI (pcn D st (nC D) c)) := by
  have b1 := h0.1.bd
  have ht := h0.1.tn
  have hfl := h0.2.1
  have hT : t = 2 ∨ t = 42 := ht
  have hF : f = 118 ∨ f = 139 ∨ f = 201 := hfl
  intro m
  induction m with
  | zero =>
    intro k fu τ hk hf hfr hI
    obtain ⟨fu, rfl⟩ : ∃ q, fu = q + 1 := ⟨fu - 1, by omega⟩
    have h := h0.fr hfr
    have hw := h.w
    have hp := h.2.2.1
    obtain rfl : k = nC D := by omega
    refine ⟨τ, ?_, Fr.rfl, hI⟩
    show f_X1_sortDownwards_10_b _ _ _ _ = _
    unfold f_X1_sortDownwards_10_b
    simp only [to_bq, l_0, l_1, l_2, l_3, l_4, l_5, l_6, l_7, l_8, l_9, l_10, l_11, l_12, l_13, l_14, l_15, l_16, l_17, l_18, l_19, l_20, l_21, l_22, l_23, l_24, l_25, l_26, l_27, l_28, l_29, l_30, l_31, l_32, l_40, l_41, l_42, l_43, l_44, l_45, l_46, l_47, l_48, l_49, l_50, l_51, l_52, l_53, l_54, l_55, l_56, l_57, l_58, l_59, l_60, l_61, l_62, l_63, l_64, l_72, l_97, l_99, l_100, l_104, l_120, l_122, l_128, l_140, l_255, l_256, l_257, l_258, l_260, l_261, l_262, l_364, l_680, l_700, l_701, l_840, l_999, l_1023, l_1024, l_9999, l_10000, l_1000000, lm]
    simp (disch := first | (with_reducible assumption) | omega | exact ⟨by omega, by omega⟩ | ((with_reducible first | apply Wf.wI | apply Wf.wL | apply Wf.fL | apply Wf.fI | apply Wf.fr); (repeat (with_reducible first | assumption | apply Wf.wI | apply Wf.wL | apply Wf.fL | apply Wf.fI | apply Wf.fr)))) only [ck_f, gI_f, gL_f, pI_f, pZ0_f, pZ1_f, pL_f, gR_f_0, gR_f_1, gR_f_2, gR_f_3, gR_f_4, gR_f_5, gR_f_7, gR_f_8, pR_f_8, aR_water, aR_spill, aL_water, sL_water, len_water, aL_spill, sL_spill, len_spill, aL_f17, sL_f17, len_f17, aI_f18, sI_f18, len_f18, aI_f19, sI_f19, len_f19, aI_f20, sI_f20, len_f20, aI_fst, sI_fst, len_fst, ck_t, gI_t, gL_t, pI_t, pZ0_t, pZ1_t, pL_t, ck_w, gI_w, gL_w, pI_w, pZ0_w, pZ1_w, pL_w, gR_t_1, gR_t_5, gR_t_7, gR_t_9, gR_t_10, gR_t_11, gR_t_12, gR_t_15, gR_w_2, gR_w_3, gR_w_4, gR_w_5, gR_w_6, gR_w_7, aR_crow, aR_srow, aR_prow, aR_rrow, aI_crow, sI_crow, len_crow, aI_srow, sI_srow, len_srow, aI_prow, sI_prow, len_prow, aI_rrow, sI_rrow, len_rrow, aI_t25, sI_t25, len_t25, aI_t31, sI_t31, len_t31, aI_t32, sI_t32, len_t32, aI_t34, sI_t34, len_t34, aI_t35, sI_t35, len_t35, aI_t36, sI_t36, len_t36, aI_t37, sI_t37, len_t37, aL_t38, sL_t38, len_t38, aL_t39, sL_t39, len_t39, bq_s, bd_s, mp_s, rz_0, rz_1, bI_rz, zadd, zmul, zsub, le_nI, lt_nI, eq_nI, neg_nI, gen_nI, neg_lt, neg_le, neg_lt', neg_le', nI_lt0, if_true, if_false, ite_true, ite_false, reduceIte, not_true, not_false, and_true, true_and, and_false, false_and, or_true, true_or, or_false, false_or, eq_self, hp, tr_C h.1, Nat.le_refl]
  | succ m ih =>
    intro k fu τ hk hf hfr hI
    obtain ⟨fu, rfl⟩ : ∃ q, fu = q + 1 := ⟨fu - 1, by omega⟩
    have h := h0.fr hfr
    have hw := h.w
    have hp := h.2.2.1
    have hk' : k < nC D := by omega
    have hsv := h.sv hk'
    have hsx := (h.2.2.2.1 k hk').1
    show ∃ ρ, f_X1_sortDownwards_10_b _ _ _ _ = _ ∧ _
    unfold f_X1_sortDownwards_10_b f_X1_sortDownwards_54
    simp only [to_bq, l_0, l_1, l_2, l_3, l_4, l_5, l_6, l_7, l_8, l_9, l_10, l_11, l_12, l_13, l_14, l_15, l_16, l_17, l_18, l_19, l_20, l_21, l_22, l_23, l_24, l_25, l_26, l_27, l_28, l_29, l_30, l_31, l_32, l_40, l_41, l_42, l_43, l_44, l_45, l_46, l_47, l_48, l_49, l_50, l_51, l_52, l_53, l_54, l_55, l_56, l_57, l_58, l_59, l_60, l_61, l_62, l_63, l_64, l_72, l_97, l_99, l_100, l_104, l_120, l_122, l_128, l_140, l_255, l_256, l_257, l_258, l_260, l_261, l_262, l_364, l_680, l_700, l_701, l_840, l_999, l_1023, l_1024, l_9999, l_10000, l_1000000, lm]
    simp (disch := first | (with_reducible assumption) | omega | exact ⟨by omega, by omega⟩ | ((with_reducible first | apply Wf.wI | apply Wf.wL | apply Wf.fL | apply Wf.fI | apply Wf.fr); (repeat (with_reducible first | assumption | apply Wf.wI | apply Wf.wL | apply Wf.fL | apply Wf.fI | apply Wf.fr)))) only [ck_f, gI_f, gL_f, pI_f, pZ0_f, pZ1_f, pL_f, gR_f_0, gR_f_1, gR_f_2, gR_f_3, gR_f_4, gR_f_5, gR_f_7, gR_f_8, pR_f_8, aR_water, aR_spill, aL_water, sL_water, len_water, aL_spill, sL_spill, len_spill, aL_f17, sL_f17, len_f17, aI_f18, sI_f18, len_f18, aI_f19, sI_f19, len_f19, aI_f20, sI_f20, len_f20, aI_fst, sI_fst, len_fst, ck_t, gI_t, gL_t, pI_t, pZ0_t, pZ1_t, pL_t, ck_w, gI_w, gL_w, pI_w, pZ0_w, pZ1_w, pL_w, gR_t_1, gR_t_5, gR_t_7, gR_t_9, gR_t_10, gR_t_11, gR_t_12, gR_t_15, gR_w_2, gR_w_3, gR_w_4, gR_w_5, gR_w_6, gR_w_7, aR_crow, aR_srow, aR_prow, aR_rrow, aI_crow, sI_crow, len_crow, aI_srow, sI_srow, len_srow, aI_prow, sI_prow, len_prow, aI_rrow, sI_rrow, len_rrow, aI_t25, sI_t25, len_t25, aI_t31, sI_t31, len_t31, aI_t32, sI_t32, len_t32, aI_t34, sI_t34, len_t34, aI_t35, sI_t35, len_t35, aI_t36, sI_t36, len_t36, aI_t37, sI_t37, len_t37, aL_t38, sL_t38, len_t38, aL_t39, sL_t39, len_t39, bq_s, bd_s, mp_s, rz_0, rz_1, bI_rz, zadd, zmul, zsub, le_nI, lt_nI, eq_nI, neg_nI, gen_nI, neg_lt, neg_le, neg_lt', neg_le', nI_lt0, if_true, if_false, ite_true, ite_false, reduceIte, not_true, not_false, and_true, true_and, and_false, false_and, or_true, true_or, or_false, false_or, eq_self, hp, lm, tr_C h.1, hsv, show (nC D ≤ k) = False from eq_false (by omega)]
    cases hx : st k with
    | none =>
      simp only [if_true, if_false, ite_true, ite_false, reduceIte, not_true, not_false, and_true, true_and, and_false, false_and, or_true, true_or, or_false, false_or, eq_self]
      refine ih (k + 1) fu τ (by omega) (by omega) hfr (fun c hc => ?_)
      rw [hI c hc]
      show _ = nI (pcn D st k c + (if nx D st k = some c then 1 else 0))
      rw [if_neg (by unfold nx; rw [hx]; intro q; cases q)]
      rfl
    | some s =>
      have hs := (h.2.2.2.1 k hk').2 s hx
      have hn : nx D st k = some (oth D s k) := by unfold nx; rw [hx]; rfl
      have ho := h.1.t.qoth (c := k) hs
      rw [hx] at hsx
      have hsx : ah_I τ (fst_ f) k = nI s := hsx
      simp (disch := first | (with_reducible assumption) | omega | exact ⟨by omega, by omega⟩ | ((with_reducible first | apply Wf.wI | apply Wf.wL | apply Wf.fL | apply Wf.fI | apply Wf.fr); (repeat (with_reducible first | assumption | apply Wf.wI | apply Wf.wL | apply Wf.fL | apply Wf.fI | apply Wf.fr)))) only [ck_f, gI_f, gL_f, pI_f, pZ0_f, pZ1_f, pL_f, gR_f_0, gR_f_1, gR_f_2, gR_f_3, gR_f_4, gR_f_5, gR_f_7, gR_f_8, pR_f_8, aR_water, aR_spill, aL_water, sL_water, len_water, aL_spill, sL_spill, len_spill, aL_f17, sL_f17, len_f17, aI_f18, sI_f18, len_f18, aI_f19, sI_f19, len_f19, aI_f20, sI_f20, len_f20, aI_fst, sI_fst, len_fst, bq_s, bd_s, mp_s, rz_0, rz_1, bI_rz, zadd, zmul, zsub, le_nI, lt_nI, eq_nI, neg_nI, gen_nI, neg_lt, neg_le, neg_lt', neg_le', nI_lt0, if_true, if_false, ite_true, ite_false, reduceIte, not_true, not_false, and_true, true_and, and_false, false_and, or_true, true_or, or_false, false_or, eq_self, reduceCtorEq, hsx, hp, c_otherEnd h.1 hs (show k < 7 by omega), hI _ ho]
      have f1 : Fr (XR (f + 20)) τ (ah_wI τ (f + 20) (oth D s k) (nI (pcn D st k (oth D s k) + 1))) := Fr.rfl.wI (by unfold XR; rfl)
      obtain ⟨ρ, g1, g2, g3⟩ := ih (k + 1) fu _ (by omega) (by omega) (hfr.trans (f1.mono (fun a j q => by unfold XR at q; unfold Xf; omega))) (fun c hc => by
        show _ = nI (pcn D st k c + (if nx D st k = some c then 1 else 0))
        rw [ah_I_wI]
        by_cases q : c = oth D s k
        · rw [if_pos ⟨rfl, q⟩, if_pos (by rw [hn, q]), q]
        · rw [if_neg (fun z => q z.2), if_neg (by rw [hn]; intro z; exact q (Option.some.inj z).symm), hI c hc]
          rfl)
      exact ⟨ρ, g1, f1.trans g2, g3⟩
/-- those that wait: not yet among the first i of the order -/
noncomputable def wtn (D : DD) (st : Nat → Option Nat) (q : Nat → Nat) (i c : Nat) : Nat := sm (fun o => cif (nx D st o = some c ∧ ¬ ∃ j, j < i ∧ q j = o) 1 0) (nC D)
theorem cif_le {p : Prop} {a b n : Nat} (ha : a ≤ n) (hb : b ≤ n) : cif p a b ≤ n := by
  by_cases h : p
  · rw [cif_t h]; exact ha
  · rw [cif_f h]; exact hb
theorem wtn_b (q : Nat → Nat) (i c : Nat) : wtn D st q i c ≤ nC D := sm_1 (fun o _ => cif_le (by omega) (by omega))
theorem sm_z {f : Nat → Nat} {n : Nat} (h : sm f n = 0) : ∀ o, o < n → f o = 0 := by
  induction n with
  | zero => intro o ho; omega
  | succ n ih =>
    intro o ho
    have h : sm f n + f n = 0 := h
    by_cases q : o = n
    · rw [q]; omega
    · exact ih (by omega) o (by omega)
theorem wtn_z {q : Nat → Nat} {i c : Nat} : wtn D st q i c = 0 ↔ ∀ o, o < nC D → nx D st o = some c → ∃ j, j < i ∧ q j = o := by
  constructor
  · intro h o ho hx
    have := sm_z h o ho
    apply Classical.byContradiction
    intro r
    rw [cif_t ⟨hx, r⟩] at this
    omega
  · intro h
    refine sm_0 (fun o ho => cif_f ?_ _ _)
    rintro ⟨h1, h2⟩
    exact h2 (h o ho h1)
theorem wtn_0 (q : Nat → Nat) (c : Nat) : wtn D st q 0 c = pcn D st (nC D) c := by
  refine sm_eq (fun o _ => ?_)
  show cif _ _ _ = (if _ then _ else _)
  by_cases h : nx D st o = some c
  · rw [cif_t ⟨h, fun ⟨j, hj, _⟩ => by omega⟩, if_pos h]
  · rw [cif_f (fun z => h z.1), if_neg h]
/-- the order as it grows -/
def KI (σ : ah_H) (f : Nat) (D : DD) (st : Nat → Option Nat) (i L : Nat) (q : Nat → Nat) : Prop := ah_I σ f 6 = nI L ∧ (∀ j, j < L → ah_I σ (f + 19) j = nI (q j) ∧ q j < nC D) ∧ i ≤ L ∧ (∀ j j', j < L → j' < L → q j = q j' → j = j') ∧ (∀ c, c < nC D → ah_I σ (f + 20) c = nI (wtn D st q i c)) ∧ (∀ c, c < nC D → ((∃ j, j < L ∧ q j = c) ↔ wtn D st q i c = 0)) ∧ (∀ j, j < L → ∀ o, o < nC D → nx D st o = some (q j) → ∃ j', j' < i ∧ j' < j ∧ q j' = o)
theorem KI_L {i L : Nat} {q : Nat → Nat} (h : KI σ f D st i L q) : L ≤ nC D := by
  apply Classical.byContradiction
  intro r
  obtain ⟨a, b, h1, h2, h3⟩ := php (nC D) q (fun j hj => (h.2.1 j (by omega)).2)
  have := h.2.2.2.1 a b (by omega) (by omega) h3
  omega
/-- what the order writes -/
def Xs (f a j : Nat) : Prop := a = f + 19 ∨ a = f + 20 ∨ a = f ∧ j = 6
theorem Xs_f : ∀ a j, Xs f a j → Xf f a j := by
  intro a j h; unfold Xs at h; unfold Xf; omega
theorem c_sort67 (h0 : FE σ f t D st cp) : ∀ m k fu τ L (q : Nat → Nat), k + m = nC D → m < fu → Fr (Xf f) σ τ → ah_I τ f 6 = nI L → L ≤ k → (∀ j, j < L → ah_I τ (f + 19) j = nI (q j) ∧ q j < k) → (∀ j j', j < L → j' < L → q j = q j' → j = j') → (∀ c, c < nC D → ah_I τ (f + 20) c = nI (pcn D st (nC D) c)) → (∀ c, c < k → ((∃ j, j < L ∧ q j = c) ↔ pcn D st (nC D) c = 0)) → ∃ ρ L' q', f_X1_sortDownwards_67 fu f (nI k) τ = f_X1_sortDownwards_113 f ρ ∧ Fr (Xs f) τ ρ ∧ KI ρ f D st 0 L' q' := by
  have b1 := h0.1.bd
  have ht := h0.1.tn
  have hfl := h0.2.1
  have hT : t = 2 ∨ t = 42 := ht
  have hF : f = 118 ∨ f = 139 ∨ f = 201 := hfl
  intro m
  induction m with
  | zero =>
    intro k fu τ L q hk hf hfr hL hLk hq hij hW hz
    obtain ⟨fu, rfl⟩ : ∃ q, fu = q + 1 := ⟨fu - 1, by omega⟩
    have h := h0.fr hfr
    have hw := h.w
    have hp := h.2.2.1
    obtain rfl : k = nC D := by omega
    refine ⟨τ, L, q, ?_, Fr.rfl, hL, hq, Nat.zero_le _, hij, ?_, ?_, ?_⟩
    · show f_X1_sortDownwards_67_b _ _ _ _ = _
      unfold f_X1_sortDownwards_67_b
      simp only [to_bq, l_0, l_1, l_2, l_3, l_4, l_5, l_6, l_7, l_8, l_9, l_10, l_11, l_12, l_13, l_14, l_15, l_16, l_17, l_18, l_19, l_20, l_21, l_22, l_23, l_24, l_25, l_26, l_27, l_28, l_29, l_30, l_31, l_32, l_40, l_41, l_42, l_43, l_44, l_45, l_46, l_47, l_48, l_49, l_50, l_51, l_52, l_53, l_54, l_55, l_56, l_57, l_58, l_59, l_60, l_61, l_62, l_63, l_64, l_72, l_97, l_99, l_100, l_104, l_120, l_122, l_128, l_140, l_255, l_256, l_257, l_258, l_260, l_261, l_262, l_364, l_680, l_700, l_701, l_840, l_999, l_1023, l_1024, l_9999, l_10000, l_1000000, lm]
      simp (disch := first | (with_reducible assumption) | omega | exact ⟨by omega, by omega⟩ | ((with_reducible first | apply Wf.wI | apply Wf.wL | apply Wf.fL | apply Wf.fI | apply Wf.fr); (repeat (with_reducible first | assumption | apply Wf.wI | apply Wf.wL | apply Wf.fL | apply Wf.fI | apply Wf.fr)))) only [ck_f, gI_f, gL_f, pI_f, pZ0_f, pZ1_f, pL_f, gR_f_0, gR_f_1, gR_f_2, gR_f_3, gR_f_4, gR_f_5, gR_f_7, gR_f_8, pR_f_8, aR_water, aR_spill, aL_water, sL_water, len_water, aL_spill, sL_spill, len_spill, aL_f17, sL_f17, len_f17, aI_f18, sI_f18, len_f18, aI_f19, sI_f19, len_f19, aI_f20, sI_f20, len_f20, aI_fst, sI_fst, len_fst, ck_t, gI_t, gL_t, pI_t, pZ0_t, pZ1_t, pL_t, ck_w, gI_w, gL_w, pI_w, pZ0_w, pZ1_w, pL_w, gR_t_1, gR_t_5, gR_t_7, gR_t_9, gR_t_10, gR_t_11, gR_t_12, gR_t_15, gR_w_2, gR_w_3, gR_w_4, gR_w_5, gR_w_6, gR_w_7, aR_crow, aR_srow, aR_prow, aR_rrow, aI_crow, sI_crow, len_crow, aI_srow, sI_srow, len_srow, aI_prow, sI_prow, len_prow, aI_rrow, sI_rrow, len_rrow, aI_t25, sI_t25, len_t25, aI_t31, sI_t31, len_t31, aI_t32, sI_t32, len_t32, aI_t34, sI_t34, len_t34, aI_t35, sI_t35, len_t35, aI_t36, sI_t36, len_t36, aI_t37, sI_t37, len_t37, aL_t38, sL_t38, len_t38, aL_t39, sL_t39, len_t39, bq_s, bd_s, mp_s, rz_0, rz_1, bI_rz, zadd, zmul, zsub, le_nI, lt_nI, eq_nI, neg_nI, gen_nI, neg_lt, neg_le, neg_lt', neg_le', nI_lt0, if_true, if_false, ite_true, ite_false, reduceIte, not_true, not_false, and_true, true_and, and_false, false_and, or_true, true_or, or_false, false_or, eq_self, hp, tr_C h.1, Nat.le_refl]
    · intro c hc; rw [wtn_0]; exact hW c hc
    · intro c hc; rw [wtn_0]; exact hz c hc
    · intro j hj o ho hx
      have := (hz (q j) (hq j hj).2).mp ⟨j, hj, rfl⟩
      rw [← wtn_0 q] at this
      obtain ⟨j', hj', -⟩ := wtn_z.mp this o ho hx
      omega
  | succ m ih =>
    intro k fu τ L q hk hf hfr hL hLk hq hij hW hz
    obtain ⟨fu, rfl⟩ : ∃ q, fu = q + 1 := ⟨fu - 1, by omega⟩
    have h := h0.fr hfr
    have hw := h.w
    have hp := h.2.2.1
    have hk' : k < nC D := by omega
    have hpb := pcn_b (D := D) (st := st) (nC D) k
    show ∃ ρ L' q', f_X1_sortDownwards_67_b _ _ _ _ = _ ∧ _
    unfold f_X1_sortDownwards_67_b f_X1_sortDownwards_107
    simp only [to_bq, l_0, l_1, l_2, l_3, l_4, l_5, l_6, l_7, l_8, l_9, l_10, l_11, l_12, l_13, l_14, l_15, l_16, l_17, l_18, l_19, l_20, l_21, l_22, l_23, l_24, l_25, l_26, l_27, l_28, l_29, l_30, l_31, l_32, l_40, l_41, l_42, l_43, l_44, l_45, l_46, l_47, l_48, l_49, l_50, l_51, l_52, l_53, l_54, l_55, l_56, l_57, l_58, l_59, l_60, l_61, l_62, l_63, l_64, l_72, l_97, l_99, l_100, l_104, l_120, l_122, l_128, l_140, l_255, l_256, l_257, l_258, l_260, l_261, l_262, l_364, l_680, l_700, l_701, l_840, l_999, l_1023, l_1024, l_9999, l_10000, l_1000000, lm]
    simp (disch := first | (with_reducible assumption) | omega | exact ⟨by omega, by omega⟩ | ((with_reducible first | apply Wf.wI | apply Wf.wL | apply Wf.fL | apply Wf.fI | apply Wf.fr); (repeat (with_reducible first | assumption | apply Wf.wI | apply Wf.wL | apply Wf.fL | apply Wf.fI | apply Wf.fr)))) only [ck_f, gI_f, gL_f, pI_f, pZ0_f, pZ1_f, pL_f, gR_f_0, gR_f_1, gR_f_2, gR_f_3, gR_f_4, gR_f_5, gR_f_7, gR_f_8, pR_f_8, aR_water, aR_spill, aL_water, sL_water, len_water, aL_spill, sL_spill, len_spill, aL_f17, sL_f17, len_f17, aI_f18, sI_f18, len_f18, aI_f19, sI_f19, len_f19, aI_f20, sI_f20, len_f20, aI_fst, sI_fst, len_fst, ck_t, gI_t, gL_t, pI_t, pZ0_t, pZ1_t, pL_t, ck_w, gI_w, gL_w, pI_w, pZ0_w, pZ1_w, pL_w, gR_t_1, gR_t_5, gR_t_7, gR_t_9, gR_t_10, gR_t_11, gR_t_12, gR_t_15, gR_w_2, gR_w_3, gR_w_4, gR_w_5, gR_w_6, gR_w_7, aR_crow, aR_srow, aR_prow, aR_rrow, aI_crow, sI_crow, len_crow, aI_srow, sI_srow, len_srow, aI_prow, sI_prow, len_prow, aI_rrow, sI_rrow, len_rrow, aI_t25, sI_t25, len_t25, aI_t31, sI_t31, len_t31, aI_t32, sI_t32, len_t32, aI_t34, sI_t34, len_t34, aI_t35, sI_t35, len_t35, aI_t36, sI_t36, len_t36, aI_t37, sI_t37, len_t37, aL_t38, sL_t38, len_t38, aL_t39, sL_t39, len_t39, bq_s, bd_s, mp_s, rz_0, rz_1, bI_rz, zadd, zmul, zsub, le_nI, lt_nI, eq_nI, neg_nI, gen_nI, neg_lt, neg_le, neg_lt', neg_le', nI_lt0, if_true, if_false, ite_true, ite_false, reduceIte, not_true, not_false, and_true, true_and, and_false, false_and, or_true, true_or, or_false, false_or, eq_self, hp, tr_C h.1, hW k hk', hL, show (nC D ≤ k) = False from eq_false (by omega)]
    by_cases qz : pcn D st (nC D) k = 0
    · rw [if_pos qz]
      simp (disch := first | (with_reducible assumption) | omega | exact ⟨by omega, by omega⟩ | ((with_reducible first | apply Wf.wI | apply Wf.wL | apply Wf.fL | apply Wf.fI | apply Wf.fr); (repeat (with_reducible first | assumption | apply Wf.wI | apply Wf.wL | apply Wf.fL | apply Wf.fI | apply Wf.fr)))) only [ck_f, gI_f, gL_f, pI_f, pZ0_f, pZ1_f, pL_f, gR_f_0, gR_f_1, gR_f_2, gR_f_3, gR_f_4, gR_f_5, gR_f_7, gR_f_8, pR_f_8, aR_water, aR_spill, aL_water, sL_water, len_water, aL_spill, sL_spill, len_spill, aL_f17, sL_f17, len_f17, aI_f18, sI_f18, len_f18, aI_f19, sI_f19, len_f19, aI_f20, sI_f20, len_f20, aI_fst, sI_fst, len_fst, ck_t, gI_t, gL_t, pI_t, pZ0_t, pZ1_t, pL_t, ck_w, gI_w, gL_w, pI_w, pZ0_w, pZ1_w, pL_w, gR_t_1, gR_t_5, gR_t_7, gR_t_9, gR_t_10, gR_t_11, gR_t_12, gR_t_15, gR_w_2, gR_w_3, gR_w_4, gR_w_5, gR_w_6, gR_w_7, aR_crow, aR_srow, aR_prow, aR_rrow, aI_crow, sI_crow, len_crow, aI_srow, sI_srow, len_srow, aI_prow, sI_prow, len_prow, aI_rrow, sI_rrow, len_rrow, aI_t25, sI_t25, len_t25, aI_t31, sI_t31, len_t31, aI_t32, sI_t32, len_t32, aI_t34, sI_t34, len_t34, aI_t35, sI_t35, len_t35, aI_t36, sI_t36, len_t36, aI_t37, sI_t37, len_t37, aL_t38, sL_t38, len_t38, aL_t39, sL_t39, len_t39, bq_s, bd_s, mp_s, rz_0, rz_1, bI_rz, zadd, zmul, zsub, le_nI, lt_nI, eq_nI, neg_nI, gen_nI, neg_lt, neg_le, neg_lt', neg_le', nI_lt0, rI_ne, rI_eq, rL_ne, rL_eq, ah_I_wL, ah_L_wI, ah_R_wI, ah_R_wL, ah_I_wR, ah_L_wR, rR_ne, rR_eq, hL]
      have f1 : Fr (Xs f) τ (ah_wI (ah_wI τ (f + 19) L (nI k)) f 6 (nI (L + 1))) := (Fr.rfl.wI (by unfold Xs; omega)).wI (by unfold Xs; omega)
      obtain ⟨ρ, L', q', g1, g2, g3⟩ := ih (k + 1) fu _ (L + 1) (fun j => if j = L then k else q j) (by omega) (by omega) (hfr.trans (f1.mono Xs_f)) rI_eq (by omega) (by
        intro j hj
        show _ = nI (if j = L then k else q j) ∧ (if j = L then k else q j) < k + 1
        rw [rI_ne (Or.inl (by omega)), ah_I_wI]
        by_cases e : j = L
        · rw [if_pos ⟨rfl, e⟩, if_pos e]; exact ⟨rfl, by omega⟩
        · rw [if_neg (fun z => e z.2), if_neg e]
          have := hq j (by omega)
          exact ⟨this.1, by omega⟩) (by
        intro j j' hj hj' e
        have e : (if j = L then k else q j) = (if j' = L then k else q j') := e
        by_cases e1 : j = L
        · by_cases e2 : j' = L
          · omega
          · rw [if_pos e1, if_neg e2] at e
            have := (hq j' (by omega)).2
            omega
        · rw [if_neg e1] at e
          by_cases e2 : j' = L
          · rw [if_pos e2] at e
            have := (hq j (by omega)).2
            omega
          · rw [if_neg e2] at e
            exact hij j j' (by omega) (by omega) e) (by
        intro c hc
        rw [rI_ne (Or.inl (by omega)), rI_ne (Or.inl (by omega))]
        exact hW c hc) (by
        intro c hc
        by_cases e : c = k
        · subst e
          exact ⟨fun _ => qz, fun _ => ⟨L, by omega, if_pos rfl⟩⟩
        · rw [← hz c (by omega)]
          constructor
          · rintro ⟨j, hj, e2⟩
            have e2 : (if j = L then k else q j) = c := e2
            by_cases e3 : j = L
            · rw [if_pos e3] at e2; omega
            · rw [if_neg e3] at e2; exact ⟨j, by omega, e2⟩
          · rintro ⟨j, hj, e2⟩
            exact ⟨j, by omega, (if_neg (by omega)).trans e2⟩)
      exact ⟨ρ, L', q', g1, f1.trans g2, g3⟩
    · rw [if_neg qz]
      refine ih (k + 1) fu τ L q (by omega) (by omega) hfr hL (by omega) (fun j hj => ⟨(hq j hj).1, by have := (hq j hj).2; omega⟩) hij hW (fun c hc => ?_)
      by_cases e : c = k
      · subst e
        exact ⟨fun ⟨j, hj, e2⟩ => by have := (hq j hj).2; omega, fun z => absurd z qz⟩
      · exact hz c (by omega)
theorem c_sort115 (h0 : FE σ f t D st cp) : ∀ m i fu τ L (q : Nat → Nat), i + m = nC D + 1 → m < fu → Fr (Xf f) σ τ → KI τ f D st i L q → ∃ ρ L' q', f_X1_sortDownwards_115 fu f (nI i) τ = some ρ ∧ Fr (Xs f) τ ρ ∧ KI ρ f D st L' L' q' := by
  have b1 := h0.1.bd
  have ht := h0.1.tn
  have hfl := h0.2.1
  have hT : t = 2 ∨ t = 42 := ht
  have hF : f = 118 ∨ f = 139 ∨ f = 201 := hfl
  intro m
  induction m with
  | zero =>
    intro i fu τ L q hk hf hfr hK
    have := KI_L hK
    have := hK.2.2.1
    omega
  | succ m ih =>
    intro i fu τ L q hk hf hfr hK
    obtain ⟨fu, rfl⟩ : ∃ q, fu = q + 1 := ⟨fu - 1, by omega⟩
    have h := h0.fr hfr
    have hw := h.w
    have hp := h.2.2.1
    have hLn := KI_L hK
    have hK0 := hK
    obtain ⟨k1, k2, k3, k4, k5, k6, k7⟩ := hK
    show ∃ ρ L' q', f_X1_sortDownwards_115_b _ _ _ _ = _ ∧ _
    unfold f_X1_sortDownwards_115_b
    simp only [to_bq, l_0, l_1, l_2, l_3, l_4, l_5, l_6, l_7, l_8, l_9, l_10, l_11, l_12, l_13, l_14, l_15, l_16, l_17, l_18, l_19, l_20, l_21, l_22, l_23, l_24, l_25, l_26, l_27, l_28, l_29, l_30, l_31, l_32, l_40, l_41, l_42, l_43, l_44, l_45, l_46, l_47, l_48, l_49, l_50, l_51, l_52, l_53, l_54, l_55, l_56, l_57, l_58, l_59, l_60, l_61, l_62, l_63, l_64, l_72, l_97, l_99, l_100, l_104, l_120, l_122, l_128, l_140, l_255, l_256, l_257, l_258, l_260, l_261, l_262, l_364, l_680, l_700, l_701, l_840, l_999, l_1023, l_1024, l_9999, l_10000, l_1000000, lm]
    by_cases qi : i = L
    · simp (disch := first | (with_reducible assumption) | omega | exact ⟨by omega, by omega⟩ | ((with_reducible first | apply Wf.wI | apply Wf.wL | apply Wf.fL | apply Wf.fI | apply Wf.fr); (repeat (with_reducible first | assumption | apply Wf.wI | apply Wf.wL | apply Wf.fL | apply Wf.fI | apply Wf.fr)))) only [ck_f, gI_f, gL_f, pI_f, pZ0_f, pZ1_f, pL_f, gR_f_0, gR_f_1, gR_f_2, gR_f_3, gR_f_4, gR_f_5, gR_f_7, gR_f_8, pR_f_8, aR_water, aR_spill, aL_water, sL_water, len_water, aL_spill, sL_spill, len_spill, aL_f17, sL_f17, len_f17, aI_f18, sI_f18, len_f18, aI_f19, sI_f19, len_f19, aI_f20, sI_f20, len_f20, aI_fst, sI_fst, len_fst, ck_t, gI_t, gL_t, pI_t, pZ0_t, pZ1_t, pL_t, ck_w, gI_w, gL_w, pI_w, pZ0_w, pZ1_w, pL_w, gR_t_1, gR_t_5, gR_t_7, gR_t_9, gR_t_10, gR_t_11, gR_t_12, gR_t_15, gR_w_2, gR_w_3, gR_w_4, gR_w_5, gR_w_6, gR_w_7, aR_crow, aR_srow, aR_prow, aR_rrow, aI_crow, sI_crow, len_crow, aI_srow, sI_srow, len_srow, aI_prow, sI_prow, len_prow, aI_rrow, sI_rrow, len_rrow, aI_t25, sI_t25, len_t25, aI_t31, sI_t31, len_t31, aI_t32, sI_t32, len_t32, aI_t34, sI_t34, len_t34, aI_t35, sI_t35, len_t35, aI_t36, sI_t36, len_t36, aI_t37, sI_t37, len_t37, aL_t38, sL_t38, len_t38, aL_t39, sL_t39, len_t39, bq_s, bd_s, mp_s, rz_0, rz_1, bI_rz, zadd, zmul, zsub, le_nI, lt_nI, eq_nI, neg_nI, gen_nI, neg_lt, neg_le, neg_lt', neg_le', nI_lt0, if_true, if_false, ite_true, ite_false, reduceIte, not_true, not_false, and_true, true_and, and_false, false_and, or_true, true_or, or_false, false_or, eq_self, k1, show (L ≤ i) = True from eq_true (by omega)]
      exact ⟨τ, L, q, rfl, Fr.rfl, qi ▸ hK0⟩
    have hiL : i < L := by omega
    obtain ⟨o1, o2⟩ := k2 i hiL
    have hsv := h.sv o2
    have hsx := (h.2.2.2.1 _ o2).1
    simp (disch := first | (with_reducible assumption) | omega | exact ⟨by omega, by omega⟩ | ((with_reducible first | apply Wf.wI | apply Wf.wL | apply Wf.fL | apply Wf.fI | apply Wf.fr); (repeat (with_reducible first | assumption | apply Wf.wI | apply Wf.wL | apply Wf.fL | apply Wf.fI | apply Wf.fr)))) only [ck_f, gI_f, gL_f, pI_f, pZ0_f, pZ1_f, pL_f, gR_f_0, gR_f_1, gR_f_2, gR_f_3, gR_f_4, gR_f_5, gR_f_7, gR_f_8, pR_f_8, aR_water, aR_spill, aL_water, sL_water, len_water, aL_spill, sL_spill, len_spill, aL_f17, sL_f17, len_f17, aI_f18, sI_f18, len_f18, aI_f19, sI_f19, len_f19, aI_f20, sI_f20, len_f20, aI_fst, sI_fst, len_fst, ck_t, gI_t, gL_t, pI_t, pZ0_t, pZ1_t, pL_t, ck_w, gI_w, gL_w, pI_w, pZ0_w, pZ1_w, pL_w, gR_t_1, gR_t_5, gR_t_7, gR_t_9, gR_t_10, gR_t_11, gR_t_12, gR_t_15, gR_w_2, gR_w_3, gR_w_4, gR_w_5, gR_w_6, gR_w_7, aR_crow, aR_srow, aR_prow, aR_rrow, aI_crow, sI_crow, len_crow, aI_srow, sI_srow, len_srow, aI_prow, sI_prow, len_prow, aI_rrow, sI_rrow, len_rrow, aI_t25, sI_t25, len_t25, aI_t31, sI_t31, len_t31, aI_t32, sI_t32, len_t32, aI_t34, sI_t34, len_t34, aI_t35, sI_t35, len_t35, aI_t36, sI_t36, len_t36, aI_t37, sI_t37, len_t37, aL_t38, sL_t38, len_t38, aL_t39, sL_t39, len_t39, bq_s, bd_s, mp_s, rz_0, rz_1, bI_rz, zadd, zmul, zsub, le_nI, lt_nI, eq_nI, neg_nI, gen_nI, neg_lt, neg_le, neg_lt', neg_le', nI_lt0, if_true, if_false, ite_true, ite_false, reduceIte, not_true, not_false, and_true, true_and, and_false, false_and, or_true, true_or, or_false, false_or, eq_self, k1, o1, hsv, lm, show (L ≤ i) = False from eq_false (by omega)]
    have hnew : ∀ o, (∃ j, j < i + 1 ∧ q j = o) ↔ (∃ j, j < i ∧ q j = o) ∨ o = q i := by
      intro o
      constructor
      · rintro ⟨j, hj, e⟩
        by_cases e2 : j = i
        · exact Or.inr (by rw [← e, e2])
        · exact Or.inl ⟨j, by omega, e⟩
      · rintro (⟨j, hj, e⟩ | e)
        · exact ⟨j, by omega, e⟩
        · exact ⟨i, by omega, e.symm⟩
    have hfresh : ¬ ∃ j, j < i ∧ q j = q i := by
      rintro ⟨j, hj, e⟩
      have := k4 j i (by omega) hiL e
      omega
    cases hx : st (q i) with
    | none =>
      unfold f_X1_sortDownwards_158 f_X1_sortDownwards_212
      simp only [l_0, l_1, l_2, l_3, l_4, l_5, l_6, l_7, l_8, l_9, l_10, l_11, l_12, l_13, l_14, l_15, l_16, l_17, l_18, l_19, l_20, l_21, l_22, l_23, l_24, l_25, l_26, l_27, l_28, l_29, l_30, l_31, l_32, l_40, l_41, l_42, l_43, l_44, l_45, l_46, l_47, l_48, l_49, l_50, l_51, l_52, l_53, l_54, l_55, l_56, l_57, l_58, l_59, l_60, l_61, l_62, l_63, l_64, l_72, l_97, l_99, l_100, l_104, l_120, l_122, l_128, l_140, l_255, l_256, l_257, l_258, l_260, l_261, l_262, l_364, l_680, l_700, l_701, l_840, l_999, l_1023, l_1024, l_9999, l_10000, l_1000000, lm, if_true, if_false, ite_true, ite_false, reduceIte, not_true, not_false, and_true, true_and, and_false, false_and, or_true, true_or, or_false, false_or, eq_self, zadd]
      have hno : nx D st (q i) = none := by unfold nx; rw [hx]; rfl
      have hww : ∀ c, wtn D st q (i + 1) c = wtn D st q i c := by
        intro c
        refine sm_eq (fun o _ => ?_)
        show cif _ _ _ = cif _ _ _
        congr 1
        refine propext ⟨fun ⟨z1, z2⟩ => ⟨z1, fun z3 => z2 ((hnew o).mpr (Or.inl z3))⟩, fun ⟨z1, z2⟩ => ⟨z1, fun z3 => ?_⟩⟩
        rcases (hnew o).mp z3 with z4 | z4
        · exact z2 z4
        · rw [z4, hno] at z1; cases z1
      refine ih (i + 1) fu τ L q (by omega) (by omega) hfr ⟨k1, k2, by omega, k4, fun c hc => by rw [hww]; exact k5 c hc, fun c hc => by rw [hww]; exact k6 c hc, fun j hj o ho e => ?_⟩
      obtain ⟨j', z1, z2, z3⟩ := k7 j hj o ho e
      exact ⟨j', by omega, z2, z3⟩
    | some s =>
      have hs := (h.2.2.2.1 _ o2).2 s hx
      rw [hx] at hsx
      have hsx : ah_I τ (fst_ f) (q i) = nI s := hsx
      have ho := h.1.t.qoth (c := q i) hs
      have hn : nx D st (q i) = some (oth D s (q i)) := by unfold nx; rw [hx]; rfl
      simp (disch := first | (with_reducible assumption) | omega | exact ⟨by omega, by omega⟩ | ((with_reducible first | apply Wf.wI | apply Wf.wL | apply Wf.fL | apply Wf.fI | apply Wf.fr); (repeat (with_reducible first | assumption | apply Wf.wI | apply Wf.wL | apply Wf.fL | apply Wf.fI | apply Wf.fr)))) only [ck_f, gI_f, gL_f, pI_f, pZ0_f, pZ1_f, pL_f, gR_f_0, gR_f_1, gR_f_2, gR_f_3, gR_f_4, gR_f_5, gR_f_7, gR_f_8, pR_f_8, aR_water, aR_spill, aL_water, sL_water, len_water, aL_spill, sL_spill, len_spill, aL_f17, sL_f17, len_f17, aI_f18, sI_f18, len_f18, aI_f19, sI_f19, len_f19, aI_f20, sI_f20, len_f20, aI_fst, sI_fst, len_fst, bq_s, bd_s, mp_s, rz_0, rz_1, bI_rz, if_true, if_false, ite_true, ite_false, reduceIte, not_true, not_false, and_true, true_and, and_false, false_and, or_true, true_or, or_false, false_or, eq_self, reduceCtorEq, hsx, hp, o1, c_otherEnd h.1 hs (show q i < 7 by omega)]
      generalize hto : oth D s (q i) = to at *
      have hdec : ∀ c, wtn D st q i c = wtn D st q (i + 1) c + if c = to then 1 else 0 := by
        intro c
        by_cases e : c = to
        · rw [if_pos e]
          refine sm_one (x := q i) o2 (fun o _ hne => ?_) ?_
          · show cif _ _ _ = cif _ _ _
            congr 1
            refine propext ⟨fun ⟨z1, z2⟩ => ⟨z1, fun z3 => ?_⟩, fun ⟨z1, z2⟩ => ⟨z1, fun z3 => z2 ((hnew o).mpr (Or.inl z3))⟩⟩
            rcases (hnew o).mp z3 with z4 | z4
            · exact z2 z4
            · exact hne z4
          · show cif _ _ _ = cif _ _ _ + 1
            rw [cif_t ⟨by rw [hn, e], hfresh⟩, cif_f (fun z => z.2 ((hnew _).mpr (Or.inr rfl)))]
        · rw [if_neg e]
          refine sm_eq (fun o _ => ?_)
          show cif _ _ _ = cif _ _ _
          congr 1
          refine propext ⟨fun ⟨z1, z2⟩ => ⟨z1, fun z3 => ?_⟩, fun ⟨z1, z2⟩ => ⟨z1, fun z3 => z2 ((hnew o).mpr (Or.inl z3))⟩⟩
          rcases (hnew o).mp z3 with z4 | z4
          · exact z2 z4
          · rw [z4, hn] at z1; exact e (Option.some.inj z1).symm
      have hdt := hdec to
      rw [if_pos rfl] at hdt
      have hwb := wtn_b (D := D) (st := st) q i to
      unfold f_X1_sortDownwards_158 f_X1_sortDownwards_212
      simp only [to_bq, l_0, l_1, l_2, l_3, l_4, l_5, l_6, l_7, l_8, l_9, l_10, l_11, l_12, l_13, l_14, l_15, l_16, l_17, l_18, l_19, l_20, l_21, l_22, l_23, l_24, l_25, l_26, l_27, l_28, l_29, l_30, l_31, l_32, l_40, l_41, l_42, l_43, l_44, l_45, l_46, l_47, l_48, l_49, l_50, l_51, l_52, l_53, l_54, l_55, l_56, l_57, l_58, l_59, l_60, l_61, l_62, l_63, l_64, l_72, l_97, l_99, l_100, l_104, l_120, l_122, l_128, l_140, l_255, l_256, l_257, l_258, l_260, l_261, l_262, l_364, l_680, l_700, l_701, l_840, l_999, l_1023, l_1024, l_9999, l_10000, l_1000000, lm]
      simp (disch := first | (with_reducible assumption) | omega | exact ⟨by omega, by omega⟩ | ((with_reducible first | apply Wf.wI | apply Wf.wL | apply Wf.fL | apply Wf.fI | apply Wf.fr); (repeat (with_reducible first | assumption | apply Wf.wI | apply Wf.wL | apply Wf.fL | apply Wf.fI | apply Wf.fr)))) only [ck_f, gI_f, gL_f, pI_f, pZ0_f, pZ1_f, pL_f, gR_f_0, gR_f_1, gR_f_2, gR_f_3, gR_f_4, gR_f_5, gR_f_7, gR_f_8, pR_f_8, aR_water, aR_spill, aL_water, sL_water, len_water, aL_spill, sL_spill, len_spill, aL_f17, sL_f17, len_f17, aI_f18, sI_f18, len_f18, aI_f19, sI_f19, len_f19, aI_f20, sI_f20, len_f20, aI_fst, sI_fst, len_fst, ck_t, gI_t, gL_t, pI_t, pZ0_t, pZ1_t, pL_t, ck_w, gI_w, gL_w, pI_w, pZ0_w, pZ1_w, pL_w, gR_t_1, gR_t_5, gR_t_7, gR_t_9, gR_t_10, gR_t_11, gR_t_12, gR_t_15, gR_w_2, gR_w_3, gR_w_4, gR_w_5, gR_w_6, gR_w_7, aR_crow, aR_srow, aR_prow, aR_rrow, aI_crow, sI_crow, len_crow, aI_srow, sI_srow, len_srow, aI_prow, sI_prow, len_prow, aI_rrow, sI_rrow, len_rrow, aI_t25, sI_t25, len_t25, aI_t31, sI_t31, len_t31, aI_t32, sI_t32, len_t32, aI_t34, sI_t34, len_t34, aI_t35, sI_t35, len_t35, aI_t36, sI_t36, len_t36, aI_t37, sI_t37, len_t37, aL_t38, sL_t38, len_t38, aL_t39, sL_t39, len_t39, bq_s, bd_s, mp_s, rz_0, rz_1, bI_rz, zadd, zmul, zsub, le_nI, lt_nI, eq_nI, neg_nI, gen_nI, neg_lt, neg_le, neg_lt', neg_le', nI_lt0, rI_ne, rI_eq, rL_ne, rL_eq, ah_I_wL, ah_L_wI, ah_R_wI, ah_R_wL, ah_I_wR, ah_L_wR, rR_ne, rR_eq, l_0, l_1, l_2, l_3, l_4, l_5, l_6, l_7, l_8, l_9, l_10, l_11, l_12, l_13, l_14, l_15, l_16, l_17, l_18, l_19, l_20, l_21, l_22, l_23, l_24, l_25, l_26, l_27, l_28, l_29, l_30, l_31, l_32, l_40, l_41, l_42, l_43, l_44, l_45, l_46, l_47, l_48, l_49, l_50, l_51, l_52, l_53, l_54, l_55, l_56, l_57, l_58, l_59, l_60, l_61, l_62, l_63, l_64, l_72, l_97, l_99, l_100, l_104, l_120, l_122, l_128, l_140, l_255, l_256, l_257, l_258, l_260, l_261, l_262, l_364, l_680, l_700, l_701, l_840, l_999, l_1023, l_1024, l_9999, l_10000, l_1000000, lm, if_true, if_false, ite_true, ite_false, reduceIte, not_true, not_false, and_true, true_and, and_false, false_and, or_true, true_or, or_false, false_or, eq_self, k5 to ho, show (1 ≤ wtn D st q i to) from by omega, show wtn D st q i to - 1 = wtn D st q (i + 1) to by omega, k1]
      have f1 : Fr (Xs f) τ (ah_wI τ (f + 20) to (nI (wtn D st q (i + 1) to))) := Fr.rfl.wI (by unfold Xs; omega)
      have w1 : ∀ c, c < nC D → ah_I (ah_wI τ (f + 20) to (nI (wtn D st q (i + 1) to))) (f + 20) c = nI (wtn D st q (i + 1) c) := by
        intro c hc
        rw [ah_I_wI]
        by_cases e : c = to
        · rw [if_pos ⟨rfl, e⟩, e]
        · rw [if_neg (fun z => e z.2), k5 c hc, hdec c, if_neg e]; rfl
      have hnotin : ¬ ∃ j, j < L ∧ q j = to := fun z => by have := (k6 to ho).mp z; omega
      by_cases qz : wtn D st q (i + 1) to = 0
      · rw [if_pos qz]
        have hL7 : L + 1 ≤ nC D := by
          apply Classical.byContradiction
          intro r
          obtain ⟨a, b, z1, z2, z3⟩ := php (nC D) (fun j => if j = L then to else q j) (fun j hj => by
            show (if _ then _ else _) < _
            split
            · exact ho
            · exact (k2 j (by omega)).2)
          have z3 : (if a = L then to else q a) = (if b = L then to else q b) := z3
          rw [if_neg (by omega)] at z3
          by_cases e : b = L
          · rw [if_pos e] at z3; exact hnotin ⟨a, by omega, z3⟩
          · rw [if_neg e] at z3
            have := k4 a b (by omega) (by omega) z3
            omega
        simp (disch := first | (with_reducible assumption) | omega | exact ⟨by omega, by omega⟩ | ((with_reducible first | apply Wf.wI | apply Wf.wL | apply Wf.fL | apply Wf.fI | apply Wf.fr); (repeat (with_reducible first | assumption | apply Wf.wI | apply Wf.wL | apply Wf.fL | apply Wf.fI | apply Wf.fr)))) only [ck_f, gI_f, gL_f, pI_f, pZ0_f, pZ1_f, pL_f, gR_f_0, gR_f_1, gR_f_2, gR_f_3, gR_f_4, gR_f_5, gR_f_7, gR_f_8, pR_f_8, aR_water, aR_spill, aL_water, sL_water, len_water, aL_spill, sL_spill, len_spill, aL_f17, sL_f17, len_f17, aI_f18, sI_f18, len_f18, aI_f19, sI_f19, len_f19, aI_f20, sI_f20, len_f20, aI_fst, sI_fst, len_fst, ck_t, gI_t, gL_t, pI_t, pZ0_t, pZ1_t, pL_t, ck_w, gI_w, gL_w, pI_w, pZ0_w, pZ1_w, pL_w, gR_t_1, gR_t_5, gR_t_7, gR_t_9, gR_t_10, gR_t_11, gR_t_12, gR_t_15, gR_w_2, gR_w_3, gR_w_4, gR_w_5, gR_w_6, gR_w_7, aR_crow, aR_srow, aR_prow, aR_rrow, aI_crow, sI_crow, len_crow, aI_srow, sI_srow, len_srow, aI_prow, sI_prow, len_prow, aI_rrow, sI_rrow, len_rrow, aI_t25, sI_t25, len_t25, aI_t31, sI_t31, len_t31, aI_t32, sI_t32, len_t32, aI_t34, sI_t34, len_t34, aI_t35, sI_t35, len_t35, aI_t36, sI_t36, len_t36, aI_t37, sI_t37, len_t37, aL_t38, sL_t38, len_t38, aL_t39, sL_t39, len_t39, bq_s, bd_s, mp_s, rz_0, rz_1, bI_rz, zadd, zmul, zsub, le_nI, lt_nI, eq_nI, neg_nI, gen_nI, neg_lt, neg_le, neg_lt', neg_le', nI_lt0, rI_ne, rI_eq, rL_ne, rL_eq, ah_I_wL, ah_L_wI, ah_R_wI, ah_R_wL, ah_I_wR, ah_L_wR, rR_ne, rR_eq, if_true, if_false, ite_true, ite_false, reduceIte, not_true, not_false, and_true, true_and, and_false, false_and, or_true, true_or, or_false, false_or, eq_self, k1, show (7 ≤ L) = False from eq_false (by omega)]
        have f2 : Fr (Xs f) τ (ah_wI (ah_wI (ah_wI τ (f + 20) to (nI (wtn D st q (i + 1) to))) (f + 19) L (nI to)) f 6 (nI (L + 1))) := (f1.wI (by unfold Xs; omega)).wI (by unfold Xs; omega)
        have hq' : ∀ j, j < i + 1 → (if j = L then to else q j) = q j := fun j hj => if_neg (by omega)
        have hex : ∀ o, (∃ j, j < i + 1 ∧ (if j = L then to else q j) = o) ↔ ∃ j, j < i + 1 ∧ q j = o := fun o => ⟨fun ⟨j, hj, e⟩ => ⟨j, hj, (hq' j hj).symm.trans e⟩, fun ⟨j, hj, e⟩ => ⟨j, hj, (hq' j hj).trans e⟩⟩
        have hww : ∀ c, wtn D st (fun j => if j = L then to else q j) (i + 1) c = wtn D st q (i + 1) c := by
          intro c
          refine sm_eq (fun o _ => ?_)
          show cif _ _ _ = cif _ _ _
          rw [show (∃ j, j < i + 1 ∧ (if j = L then to else q j) = o) = _ from propext (hex o)]
        obtain ⟨ρ, L', q', g1, g2, g3⟩ := ih (i + 1) fu _ (L + 1) (fun j => if j = L then to else q j) (by omega) (by omega) (hfr.trans (f2.mono Xs_f)) ⟨rI_eq, by
          intro j hj
          show _ = nI (if j = L then to else q j) ∧ (if j = L then to else q j) < nC D
          rw [rI_ne (Or.inl (by omega)), ah_I_wI]
          by_cases e : j = L
          · rw [if_pos ⟨rfl, e⟩, if_pos e]; exact ⟨rfl, ho⟩
          · rw [if_neg (fun z => e z.2), if_neg e, rI_ne (Or.inl (by omega))]
            exact k2 j (by omega), by omega, by
          intro j j' hj hj' e
          have e : (if j = L then to else q j) = (if j' = L then to else q j') := e
          by_cases e1 : j = L
          · by_cases e2 : j' = L
            · omega
            · rw [if_pos e1, if_neg e2] at e
              exact absurd ⟨j', by omega, e.symm⟩ hnotin
          · rw [if_neg e1] at e
            by_cases e2 : j' = L
            · rw [if_pos e2] at e
              exact absurd ⟨j, by omega, e⟩ hnotin
            · rw [if_neg e2] at e
              exact k4 j j' (by omega) (by omega) e, by
          intro c hc
          rw [rI_ne (Or.inl (by omega)), rI_ne (Or.inl (by omega)), hww]
          exact w1 c hc, by
          intro c hc
          rw [hww]
          by_cases e : c = to
          · subst e
            exact ⟨fun _ => qz, fun _ => ⟨L, by omega, if_pos rfl⟩⟩
          · have hd := hdec c
            rw [if_neg e] at hd
            rw [show wtn D st q (i + 1) c = wtn D st q i c by omega, ← k6 c hc]
            constructor
            · rintro ⟨j, hj, e2⟩
              have e2 : (if j = L then to else q j) = c := e2
              by_cases e3 : j = L
              · rw [if_pos e3] at e2; exact absurd e2.symm e
              · rw [if_neg e3] at e2; exact ⟨j, by omega, e2⟩
            · rintro ⟨j, hj, e2⟩
              exact ⟨j, by omega, (if_neg (by omega)).trans e2⟩, by
          intro j hj o ho2 e
          have e : nx D st o = some (if j = L then to else q j) := e
          by_cases e1 : j = L
          · rw [if_pos e1] at e
            obtain ⟨j', z1, z2⟩ := wtn_z.mp qz o ho2 e
            exact ⟨j', z1, by omega, (hq' j' z1).trans z2⟩
          · rw [if_neg e1] at e
            obtain ⟨j', z1, z2, z3⟩ := k7 j (by omega) o ho2 e
            exact ⟨j', by omega, z2, (hq' j' (by omega)).trans z3⟩⟩
        exact ⟨ρ, L', q', g1, f2.trans g2, g3⟩
      · rw [if_neg qz]
        obtain ⟨ρ, L', q', g1, g2, g3⟩ := ih (i + 1) fu _ L q (by omega) (by omega) (hfr.trans (f1.mono Xs_f)) ⟨by rw [rI_ne (Or.inl (by omega))]; exact k1, by
          intro j hj
          rw [rI_ne (Or.inl (by omega))]
          exact k2 j hj, by omega, k4, w1, by
          intro c hc
          by_cases e : c = to
          · subst e
            exact ⟨fun z => absurd z hnotin, fun z => absurd z qz⟩
          · have hd := hdec c
            rw [if_neg e] at hd
            rw [show wtn D st q (i + 1) c = wtn D st q i c by omega]
            exact k6 c hc, by
          intro j hj o ho2 e
          obtain ⟨j', z1, z2, z3⟩ := k7 j hj o ho2 e
          exact ⟨j', by omega, z2, z3⟩⟩
        exact ⟨ρ, L', q', g1, f1.trans g2, g3⟩
/-- in the order, or in a ring -/
theorem KI_Rg (hn : ∀ c k, c < nC D → nx D st c = some k → k < nC D) {L : Nat} {q : Nat → Nat} (h : KI σ f D st L L q) {c : Nat} (hc : c < nC D) : (∃ j, j < L ∧ q j = c) ↔ ¬ Rg (nx D st) (nC D) c := by
  obtain ⟨k1, k2, k3, k4, k5, k6, k7⟩ := h
  constructor
  · rintro ⟨j, hj, e⟩
    have : ∀ j, j < L → ¬ Rg (nx D st) (nC D) (q j) := by
      intro j
      induction j using Nat.strongRecOn with
      | _ j ih =>
        intro hj hR
        obtain ⟨o, ho, e1, e2⟩ := Rg_pre hn (k2 j hj).2 hR
        obtain ⟨j', z1, z2, z3⟩ := k7 j hj o ho e1
        exact ih j' z2 (by omega) (z3 ▸ e2)
    rw [← e]
    exact this j hj
  · intro hR
    have hH : Hd (nx D st) (nC D) (nC D) c := (Rg_or hn hc).resolve_left hR
    have : ∀ d c, c < nC D → Hd (nx D st) (nC D) d c → ∃ j, j < L ∧ q j = c := by
      intro d
      induction d with
      | zero => intro c _ h; exact h.elim
      | succ d ih =>
        intro c hc hH
        rw [k6 c hc, wtn_z]
        intro o ho hx
        exact ih o ho (hH o ho hx)
    exact this _ c hc hH
theorem c_sort (h : FE σ f t D st cp) : ∃ ρ L q, f_X1_sortDownwards f σ = some ρ ∧ Fr (Xs f) σ ρ ∧ KI ρ f D st L L q := by
  have b1 := h.1.bd
  have hw := h.w
  have hfl := h.2.1
  have hF : f = 118 ∨ f = 139 ∨ f = 201 := hfl
  unfold f_X1_sortDownwards f_X1_sortDownwards_0
  simp only [to_bq, l_0, l_1, l_2, l_3, l_4, l_5, l_6, l_7, l_8, l_9, l_10, l_11, l_12, l_13, l_14, l_15, l_16, l_17, l_18, l_19, l_20, l_21, l_22, l_23, l_24, l_25, l_26, l_27, l_28, l_29, l_30, l_31, l_32, l_40, l_41, l_42, l_43, l_44, l_45, l_46, l_47, l_48, l_49, l_50, l_51, l_52, l_53, l_54, l_55, l_56, l_57, l_58, l_59, l_60, l_61, l_62, l_63, l_64, l_72, l_97, l_99, l_100, l_104, l_120, l_122, l_128, l_140, l_255, l_256, l_257, l_258, l_260, l_261, l_262, l_364, l_680, l_700, l_701, l_840, l_999, l_1023, l_1024, l_9999, l_10000, l_1000000, lm]
  simp (disch := first | (with_reducible assumption) | omega | exact ⟨by omega, by omega⟩ | ((with_reducible first | apply Wf.wI | apply Wf.wL | apply Wf.fL | apply Wf.fI | apply Wf.fr); (repeat (with_reducible first | assumption | apply Wf.wI | apply Wf.wL | apply Wf.fL | apply Wf.fI | apply Wf.fr)))) only [ck_f, gI_f, gL_f, pI_f, pZ0_f, pZ1_f, pL_f, gR_f_0, gR_f_1, gR_f_2, gR_f_3, gR_f_4, gR_f_5, gR_f_7, gR_f_8, pR_f_8, aR_water, aR_spill, aL_water, sL_water, len_water, aL_spill, sL_spill, len_spill, aL_f17, sL_f17, len_f17, aI_f18, sI_f18, len_f18, aI_f19, sI_f19, len_f19, aI_f20, sI_f20, len_f20, aI_fst, sI_fst, len_fst, bq_s, bd_s, mp_s, rz_0, rz_1, bI_rz, zadd, zmul, zsub, le_nI, lt_nI, eq_nI, neg_nI, gen_nI, neg_lt, neg_le, neg_lt', neg_le', nI_lt0, c_fillI (nI 0) hw (S0_f20 hfl) (by omega)]
  have f1 : Fr (Xs f) σ (ah_fI σ (f + 20) 0 7 (nI 0)) := Fr.rfl.fI (fun j _ _ => by unfold Xs; omega)
  obtain ⟨ρ, g1, g2, g3⟩ := c_sort10 h (nC D) 0 5000 _ (by omega) (by omega) (f1.mono Xs_f) (fun c hc => by rw [I_fI, if_pos (by omega)]; rfl)
  rw [g1]
  have f2 : Fr (Xs f) σ ρ := f1.trans (g2.mono (fun a j q => by unfold XR at q; unfold Xs; omega))
  have hw2 := (h.fr (f2.mono Xs_f)).w
  unfold f_X1_sortDownwards_60
  simp only [to_bq, l_0, l_1, l_2, l_3, l_4, l_5, l_6, l_7, l_8, l_9, l_10, l_11, l_12, l_13, l_14, l_15, l_16, l_17, l_18, l_19, l_20, l_21, l_22, l_23, l_24, l_25, l_26, l_27, l_28, l_29, l_30, l_31, l_32, l_40, l_41, l_42, l_43, l_44, l_45, l_46, l_47, l_48, l_49, l_50, l_51, l_52, l_53, l_54, l_55, l_56, l_57, l_58, l_59, l_60, l_61, l_62, l_63, l_64, l_72, l_97, l_99, l_100, l_104, l_120, l_122, l_128, l_140, l_255, l_256, l_257, l_258, l_260, l_261, l_262, l_364, l_680, l_700, l_701, l_840, l_999, l_1023, l_1024, l_9999, l_10000, l_1000000, lm]
  simp (disch := first | (with_reducible assumption) | omega | exact ⟨by omega, by omega⟩ | ((with_reducible first | apply Wf.wI | apply Wf.wL | apply Wf.fL | apply Wf.fI | apply Wf.fr); (repeat (with_reducible first | assumption | apply Wf.wI | apply Wf.wL | apply Wf.fL | apply Wf.fI | apply Wf.fr)))) only [ck_f, gI_f, gL_f, pI_f, pZ0_f, pZ1_f, pL_f, gR_f_0, gR_f_1, gR_f_2, gR_f_3, gR_f_4, gR_f_5, gR_f_7, gR_f_8, pR_f_8, aR_water, aR_spill, aL_water, sL_water, len_water, aL_spill, sL_spill, len_spill, aL_f17, sL_f17, len_f17, aI_f18, sI_f18, len_f18, aI_f19, sI_f19, len_f19, aI_f20, sI_f20, len_f20, aI_fst, sI_fst, len_fst, bq_s, bd_s, mp_s, rz_0, rz_1, bI_rz]
  have f3 : Fr (Xs f) σ (ah_wI ρ f 6 (nI 0)) := f2.wI (by unfold Xs; omega)
  obtain ⟨ρ2, L, q, k1, k2, k3⟩ := c_sort67 h (nC D) 0 5000 _ 0 (fun _ => 0) (by omega) (by omega) (f3.mono Xs_f) rI_eq (by omega) (fun j hj => by omega) (fun j j' hj => by omega) (fun c hc => by rw [rI_ne (Or.inl (by omega))]; exact g3 c hc) (fun c hc => by omega)
  rw [k1]
  unfold f_X1_sortDownwards_113
  rw [l_0]
  obtain ⟨ρ3, L', q', j1, j2, j3⟩ := c_sort115 h (nC D + 1) 0 5000 ρ2 L q (by omega) (by omega) ((f3.trans k2).mono Xs_f) k3
  exact ⟨ρ3, L', q', j1, (f3.trans k2).trans j2, j3⟩
end
