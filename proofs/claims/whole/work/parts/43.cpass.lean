/-! THE CLASS: flows, second part -/
section
variable {σ : ah_H} {f t : Nat} {D : DD} {st : Nat → Option Nat} {cp : Nat → Nat}
/-- what a pipe passes on writes -/
def Xp (f x y a _j : Nat) : Prop := a = f + 10 + x ∨ a = f + 2 + y
theorem Xp_f {x y : Nat} (hx : x < 7) (hy : y < 7) : ∀ a j, Xp f x y a j → Xf f a j := by
  intro a j h; unfold Xp at h; unfold Xf; omega
/-- one rain's hours of a pipe -/
theorem c_pass50 (h0 : FE σ f t D st cp) {x y d r : Nat} (hx : x < nC D) (hy : y < nC D) (hxy : y ≠ x) (hd : d ≤ 3) (hr0 : r < nR D) {V U : Nat → Nat} (hVb : ∀ q, V q ≤ 1400000000) (hUb : ∀ q, U q ≤ 1400000000000) (K35 : Nat → Int32 → Int32 → Int32 → Int32 → ah_H → Option ah_H) : ∀ m k fu τ, k + m = 30 → m < fu → Fr (Xf f) σ τ → (∀ q, q < 30 → ah_L τ (f + 2 + x) (30 * r + q) = iL ((V q : Nat) : Int)) → (∀ q, q < 30 → ah_L τ (f + 2 + y) (30 * r + q) = iL ((U q + (if d ≤ q ∧ q - d < k then lim cp x (V (q - d)) else 0) : Nat) : Int)) → ∃ ρ, f_X1_passOn_50 K35 fu f (nI x) (nI y) (nI d) (nI r) (nI k) τ = K35 f (nI x) (nI y) (nI d) (nI (r + 1)) ρ ∧ Fr (Xp f x y) τ ρ ∧ (∀ q, q < 30 → ah_L ρ (f + 2 + y) (30 * r + q) = iL ((U q + (if d ≤ q then lim cp x (V (q - d)) else 0) : Nat) : Int)) ∧ (∀ q, k ≤ q → q < 30 → ah_L ρ (f + 10 + x) (30 * r + q) = iL ((V q - lim cp x (V q) : Nat) : Int)) ∧ ∀ a j, ¬ (30 * r + k ≤ j ∧ j < 30 * r + 30) → ah_L ρ a j = ah_L τ a j := by
  have b1 := h0.1.bd
  have hfl := h0.2.1
  have hF : f = 118 ∨ f = 139 ∨ f = 201 := hfl
  intro m
  induction m with
  | zero =>
    intro k fu τ hk hf hfr hV hU
    obtain ⟨fu, rfl⟩ : ∃ q, fu = q + 1 := ⟨fu - 1, by omega⟩
    obtain rfl : k = 30 := by omega
    refine ⟨τ, ?_, Fr.rfl, fun q hq => ?_, fun q h1 h2 => by omega, fun a j _ => rfl⟩
    · show f_X1_passOn_50_b _ _ _ _ _ _ _ _ _ = _
      unfold f_X1_passOn_50_b f_X1_passOn_139
      simp only [to_bq, l_0, l_1, l_2, l_3, l_4, l_5, l_6, l_7, l_8, l_9, l_10, l_11, l_12, l_13, l_14, l_15, l_16, l_17, l_18, l_19, l_20, l_21, l_22, l_23, l_24, l_25, l_26, l_27, l_28, l_29, l_30, l_31, l_32, l_40, l_41, l_42, l_43, l_44, l_45, l_46, l_47, l_48, l_49, l_50, l_51, l_52, l_53, l_54, l_55, l_56, l_57, l_58, l_59, l_60, l_61, l_62, l_63, l_64, l_72, l_97, l_99, l_100, l_104, l_120, l_122, l_128, l_140, l_255, l_256, l_257, l_258, l_260, l_261, l_262, l_364, l_680, l_700, l_701, l_840, l_999, l_1023, l_1024, l_9999, l_10000, l_1000000, lm]
      simp (disch := first | (with_reducible assumption) | omega | exact ⟨by omega, by omega⟩ | ((with_reducible first | apply Wf.wI | apply Wf.wL | apply Wf.fL | apply Wf.fI | apply Wf.fr); (repeat (with_reducible first | assumption | apply Wf.wI | apply Wf.wL | apply Wf.fL | apply Wf.fI | apply Wf.fr)))) only [zadd, zmul, zsub, le_nI, lt_nI, eq_nI, neg_nI, gen_nI, neg_lt, neg_le, neg_lt', neg_le', nI_lt0, Nat.reduceEqDiff, Nat.reduceAdd, Nat.reduceMul, Nat.reduceSub, Nat.reduceLT, Nat.reduceLeDiff, Nat.add_sub_cancel, Nat.zero_add, Nat.add_zero, Nat.mul_zero, Nat.zero_mul, if_true, if_false, ite_true, ite_false, reduceIte, not_true, not_false, and_true, true_and, and_false, false_and, or_true, true_or, or_false, false_or, eq_self, Nat.le_refl]
    · rw [hU q hq]
      by_cases z : d ≤ q
      · rw [if_pos ⟨z, by omega⟩, if_pos z]
      · rw [if_neg (fun w => z w.1), if_neg z]
  | succ m ih =>
    intro k fu τ hk hf hfr hV hU
    obtain ⟨fu, rfl⟩ : ∃ q, fu = q + 1 := ⟨fu - 1, by omega⟩
    have h := h0.fr hfr
    have hw := h.w
    have hcp := h.2.2.2.2.1 x hx
    have hcb := h.2.2.2.2.2 x
    have e1 := hV k (by omega)
    rw [show 30 * r + k = r * 30 + k by omega] at e1
    have hVk := hVb k
    have hle := lim_le (cp := cp) x (V k)
    have e2 : op_minl (iL ((V k : Nat) : Int)) (iL ((cp x : Nat) : Int)) = iL ((lim cp x (V k) : Nat) : Int) := by
      rw [minl_i ⟨by omega, by omega⟩ ⟨by omega, by omega⟩]
      congr 1
      unfold lim
      omega
    have e3 : iL ((V k : Nat) : Int) - iL ((lim cp x (V k) : Nat) : Int) = iL ((V k - lim cp x (V k) : Nat) : Int) := by
      rw [isub]; congr 1; omega
    show ∃ ρ, f_X1_passOn_50_b _ _ _ _ _ _ _ _ _ = _ ∧ _
    unfold f_X1_passOn_50_b f_X1_passOn_133
    simp only [to_bq, l_0, l_1, l_2, l_3, l_4, l_5, l_6, l_7, l_8, l_9, l_10, l_11, l_12, l_13, l_14, l_15, l_16, l_17, l_18, l_19, l_20, l_21, l_22, l_23, l_24, l_25, l_26, l_27, l_28, l_29, l_30, l_31, l_32, l_40, l_41, l_42, l_43, l_44, l_45, l_46, l_47, l_48, l_49, l_50, l_51, l_52, l_53, l_54, l_55, l_56, l_57, l_58, l_59, l_60, l_61, l_62, l_63, l_64, l_72, l_97, l_99, l_100, l_104, l_120, l_122, l_128, l_140, l_255, l_256, l_257, l_258, l_260, l_261, l_262, l_364, l_680, l_700, l_701, l_840, l_999, l_1023, l_1024, l_9999, l_10000, l_1000000, lm]
    simp (disch := first | (with_reducible assumption) | omega | exact ⟨by omega, by omega⟩ | ((with_reducible first | apply Wf.wI | apply Wf.wL | apply Wf.fL | apply Wf.fI | apply Wf.fr); (repeat (with_reducible first | assumption | apply Wf.wI | apply Wf.wL | apply Wf.fL | apply Wf.fI | apply Wf.fr)))) only [ck_f, gI_f, gL_f, pI_f, pZ0_f, pZ1_f, pL_f, gR_f_0, gR_f_1, gR_f_2, gR_f_3, gR_f_4, gR_f_5, gR_f_7, gR_f_8, pR_f_8, aR_water, aR_spill, aL_water, sL_water, len_water, aL_spill, sL_spill, len_spill, aL_f17, sL_f17, len_f17, aI_f18, sI_f18, len_f18, aI_f19, sI_f19, len_f19, aI_f20, sI_f20, len_f20, aI_fst, sI_fst, len_fst, bq_s, bd_s, mp_s, rz_0, rz_1, bI_rz, zadd, zmul, zsub, le_nI, lt_nI, eq_nI, neg_nI, gen_nI, neg_lt, neg_le, neg_lt', neg_le', nI_lt0, if_true, if_false, ite_true, ite_false, reduceIte, not_true, not_false, and_true, true_and, and_false, false_and, or_true, true_or, or_false, false_or, eq_self, e1, hcp, e2, e3, show (30 ≤ k) = False from eq_false (by omega)]
    have f1 : Fr (Xp f x y) τ (ah_wL τ (f + 10 + x) (r * 30 + k) (iL ((V k - lim cp x (V k) : Nat) : Int))) := Fr.rfl.wL (by unfold Xp; omega)
    have hw1 : Wf (ah_wL τ (f + 10 + x) (r * 30 + k) (iL ((V k - lim cp x (V k) : Nat) : Int))) := hw.wL _ _ _
    have fin : ∀ ρ0 : ah_H, Fr (Xp f x y) τ ρ0 → ah_L ρ0 (f + 10 + x) (r * 30 + k) = iL ((V k - lim cp x (V k) : Nat) : Int) → (∀ a j, ¬ (30 * r + k ≤ j ∧ j < 30 * r + 30) → ah_L ρ0 a j = ah_L τ a j) → (∀ q, q < 30 → ah_L ρ0 (f + 2 + y) (30 * r + q) = iL ((U q + (if d ≤ q ∧ q - d < k + 1 then lim cp x (V (q - d)) else 0) : Nat) : Int)) → ∃ ρ, f_X1_passOn_50 K35 fu f (nI x) (nI y) (nI d) (nI r) (nI (k + 1)) ρ0 = K35 f (nI x) (nI y) (nI d) (nI (r + 1)) ρ ∧ Fr (Xp f x y) τ ρ ∧ (∀ q, q < 30 → ah_L ρ (f + 2 + y) (30 * r + q) = iL ((U q + (if d ≤ q then lim cp x (V (q - d)) else 0) : Nat) : Int)) ∧ (∀ q, k ≤ q → q < 30 → ah_L ρ (f + 10 + x) (30 * r + q) = iL ((V q - lim cp x (V q) : Nat) : Int)) ∧ ∀ a j, ¬ (30 * r + k ≤ j ∧ j < 30 * r + 30) → ah_L ρ a j = ah_L τ a j := by
      intro ρ0 z1 z2 z3 z4
      obtain ⟨ρ, g1, g2, g3, g4, g5⟩ := ih (k + 1) fu ρ0 (by omega) (by omega) (hfr.trans (z1.mono (Xp_f (by omega) (by omega)))) (fun q hq => by
        rw [z1.L (by unfold Xp; omega)]; exact hV q hq) z4
      refine ⟨ρ, g1, z1.trans g2, g3, fun q h1 h2 => ?_, fun a j hj => ?_⟩
      · by_cases e : q = k
        · subst e
          rw [g5 _ _ (by omega), show 30 * r + q = r * 30 + q by omega]; exact z2
        · exact g4 q (by omega) h2
      · rw [g5 a j (by omega)]; exact z3 a j hj
    by_cases q1 : 30 ≤ k + d
    · rw [if_pos q1]
      refine fin _ f1 rL_eq (fun a j hj => rL_ne (Or.inr (by omega))) (fun q hq => ?_)
      rw [rL_ne (Or.inl (by omega)), hU q hq]
      congr 2
      by_cases z : d ≤ q ∧ q - d < k
      · rw [if_pos z, if_pos (by omega)]
      · rw [if_neg z, if_neg (by omega)]
    · rw [if_neg q1]
      have e4 := hU (k + d) (by omega)
      rw [if_neg (by omega), Nat.add_zero, show 30 * r + (k + d) = r * 30 + k + d by omega] at e4
      have e5 : ah_L (ah_wL τ (f + 10 + x) (r * 30 + k) (iL ((V k - lim cp x (V k) : Nat) : Int))) (f + 2 + y) (r * 30 + k + d) = iL ((U (k + d) : Nat) : Int) := by
        rw [rL_ne (Or.inl (by omega))]; exact e4
      simp (disch := first | (with_reducible assumption) | omega | exact ⟨by omega, by omega⟩ | ((with_reducible first | apply Wf.wI | apply Wf.wL | apply Wf.fL | apply Wf.fI | apply Wf.fr); (repeat (with_reducible first | assumption | apply Wf.wI | apply Wf.wL | apply Wf.fL | apply Wf.fI | apply Wf.fr)))) only [ck_f, gI_f, gL_f, pI_f, pZ0_f, pZ1_f, pL_f, gR_f_0, gR_f_1, gR_f_2, gR_f_3, gR_f_4, gR_f_5, gR_f_7, gR_f_8, pR_f_8, aR_water, aR_spill, aL_water, sL_water, len_water, aL_spill, sL_spill, len_spill, aL_f17, sL_f17, len_f17, aI_f18, sI_f18, len_f18, aI_f19, sI_f19, len_f19, aI_f20, sI_f20, len_f20, aI_fst, sI_fst, len_fst, bq_s, bd_s, mp_s, rz_0, rz_1, bI_rz, zadd, zmul, zsub, le_nI, lt_nI, eq_nI, neg_nI, gen_nI, neg_lt, neg_le, neg_lt', neg_le', nI_lt0, e5, iadd]
      refine fin _ (f1.wL (by unfold Xp; omega)) (by rw [rL_ne (Or.inl (by omega)), rL_eq]) (fun a j hj => by rw [rL_ne (Or.inr (by omega)), rL_ne (Or.inr (by omega))]) (fun q hq => ?_)
      rw [ah_L_wL]
      by_cases z : q = k + d
      · rw [if_pos ⟨rfl, by omega⟩, if_pos (by omega), z, show k + d - d = k by omega]
        congr 1
      · rw [if_neg (by omega), rL_ne (Or.inl (by omega)), hU q hq]
        congr 2
        by_cases z2 : d ≤ q ∧ q - d < k
        · rw [if_pos z2, if_pos (by omega)]
        · rw [if_neg z2, if_neg (by omega)]
theorem c_pass35 (h0 : FE σ f t D st cp) {x y d : Nat} (hx : x < nC D) (hy : y < nC D) (hxy : y ≠ x) (hd : d ≤ 3) {V U : Nat → Nat → Nat} (hVb : ∀ r q, V r q ≤ 1400000000) (hUb : ∀ r q, U r q ≤ 1400000000000) : ∀ m k fu τ, k + m = nR D → m < fu → Fr (Xf f) σ τ → (∀ r q, k ≤ r → r < nR D → q < 30 → ah_L τ (f + 2 + x) (30 * r + q) = iL ((V r q : Nat) : Int) ∧ ah_L τ (f + 2 + y) (30 * r + q) = iL ((U r q : Nat) : Int)) → ∃ ρ, f_X1_passOn_35 fu f (nI x) (nI y) (nI d) (nI k) τ = some ρ ∧ Fr (Xp f x y) τ ρ ∧ (∀ r q, k ≤ r → r < nR D → q < 30 → ah_L ρ (f + 2 + y) (30 * r + q) = iL ((U r q + (if d ≤ q then lim cp x (V r (q - d)) else 0) : Nat) : Int) ∧ ah_L ρ (f + 10 + x) (30 * r + q) = iL ((V r q - lim cp x (V r q) : Nat) : Int)) ∧ ∀ a j, j < 30 * k → ah_L ρ a j = ah_L τ a j := by
  have b1 := h0.1.bd
  have hfl := h0.2.1
  have ht := h0.1.tn
  have hF : f = 118 ∨ f = 139 ∨ f = 201 := hfl
  intro m
  induction m with
  | zero =>
    intro k fu τ hk hf hfr hVU
    obtain ⟨fu, rfl⟩ : ∃ q, fu = q + 1 := ⟨fu - 1, by omega⟩
    have h := h0.fr hfr
    have hw := h.w
    have hp := h.2.2.1
    refine ⟨τ, ?_, Fr.rfl, fun r q h1 h2 => by omega, fun a j _ => rfl⟩
    show f_X1_passOn_35_b _ _ _ _ _ _ _ = _
    unfold f_X1_passOn_35_b
    simp only [to_bq, l_0, l_1, l_2, l_3, l_4, l_5, l_6, l_7, l_8, l_9, l_10, l_11, l_12, l_13, l_14, l_15, l_16, l_17, l_18, l_19, l_20, l_21, l_22, l_23, l_24, l_25, l_26, l_27, l_28, l_29, l_30, l_31, l_32, l_40, l_41, l_42, l_43, l_44, l_45, l_46, l_47, l_48, l_49, l_50, l_51, l_52, l_53, l_54, l_55, l_56, l_57, l_58, l_59, l_60, l_61, l_62, l_63, l_64, l_72, l_97, l_99, l_100, l_104, l_120, l_122, l_128, l_140, l_255, l_256, l_257, l_258, l_260, l_261, l_262, l_364, l_680, l_700, l_701, l_840, l_999, l_1023, l_1024, l_9999, l_10000, l_1000000, lm]
    simp (disch := first | (with_reducible assumption) | omega | exact ⟨by omega, by omega⟩ | ((with_reducible first | apply Wf.wI | apply Wf.wL | apply Wf.fL | apply Wf.fI | apply Wf.fr); (repeat (with_reducible first | assumption | apply Wf.wI | apply Wf.wL | apply Wf.fL | apply Wf.fI | apply Wf.fr)))) only [ck_f, gI_f, gL_f, pI_f, pZ0_f, pZ1_f, pL_f, gR_f_0, gR_f_1, gR_f_2, gR_f_3, gR_f_4, gR_f_5, gR_f_7, gR_f_8, pR_f_8, aR_water, aR_spill, aL_water, sL_water, len_water, aL_spill, sL_spill, len_spill, aL_f17, sL_f17, len_f17, aI_f18, sI_f18, len_f18, aI_f19, sI_f19, len_f19, aI_f20, sI_f20, len_f20, aI_fst, sI_fst, len_fst, ck_t, gI_t, gL_t, pI_t, pZ0_t, pZ1_t, pL_t, ck_w, gI_w, gL_w, pI_w, pZ0_w, pZ1_w, pL_w, gR_t_1, gR_t_5, gR_t_7, gR_t_9, gR_t_10, gR_t_11, gR_t_12, gR_t_15, gR_w_2, gR_w_3, gR_w_4, gR_w_5, gR_w_6, gR_w_7, aR_crow, aR_srow, aR_prow, aR_rrow, aI_crow, sI_crow, len_crow, aI_srow, sI_srow, len_srow, aI_prow, sI_prow, len_prow, aI_rrow, sI_rrow, len_rrow, aI_t25, sI_t25, len_t25, aI_t31, sI_t31, len_t31, aI_t32, sI_t32, len_t32, aI_t34, sI_t34, len_t34, aI_t35, sI_t35, len_t35, aI_t36, sI_t36, len_t36, aI_t37, sI_t37, len_t37, aL_t38, sL_t38, len_t38, aL_t39, sL_t39, len_t39, bq_s, bd_s, mp_s, rz_0, rz_1, bI_rz, zadd, zmul, zsub, le_nI, lt_nI, eq_nI, neg_nI, gen_nI, neg_lt, neg_le, neg_lt', neg_le', nI_lt0, if_true, if_false, ite_true, ite_false, reduceIte, not_true, not_false, and_true, true_and, and_false, false_and, or_true, true_or, or_false, false_or, eq_self, hp, tr_N h.1, show (nR D ≤ k) = True from eq_true (by omega)]
  | succ m ih =>
    intro k fu τ hk hf hfr hVU
    obtain ⟨fu, rfl⟩ : ∃ q, fu = q + 1 := ⟨fu - 1, by omega⟩
    have h := h0.fr hfr
    have hw := h.w
    have hp := h.2.2.1
    show ∃ ρ, f_X1_passOn_35_b _ _ _ _ _ _ _ = _ ∧ _
    unfold f_X1_passOn_35_b
    simp only [to_bq, l_0, l_1, l_2, l_3, l_4, l_5, l_6, l_7, l_8, l_9, l_10, l_11, l_12, l_13, l_14, l_15, l_16, l_17, l_18, l_19, l_20, l_21, l_22, l_23, l_24, l_25, l_26, l_27, l_28, l_29, l_30, l_31, l_32, l_40, l_41, l_42, l_43, l_44, l_45, l_46, l_47, l_48, l_49, l_50, l_51, l_52, l_53, l_54, l_55, l_56, l_57, l_58, l_59, l_60, l_61, l_62, l_63, l_64, l_72, l_97, l_99, l_100, l_104, l_120, l_122, l_128, l_140, l_255, l_256, l_257, l_258, l_260, l_261, l_262, l_364, l_680, l_700, l_701, l_840, l_999, l_1023, l_1024, l_9999, l_10000, l_1000000, lm]
    simp (disch := first | (with_reducible assumption) | omega | exact ⟨by omega, by omega⟩ | ((with_reducible first | apply Wf.wI | apply Wf.wL | apply Wf.fL | apply Wf.fI | apply Wf.fr); (repeat (with_reducible first | assumption | apply Wf.wI | apply Wf.wL | apply Wf.fL | apply Wf.fI | apply Wf.fr)))) only [ck_f, gI_f, gL_f, pI_f, pZ0_f, pZ1_f, pL_f, gR_f_0, gR_f_1, gR_f_2, gR_f_3, gR_f_4, gR_f_5, gR_f_7, gR_f_8, pR_f_8, aR_water, aR_spill, aL_water, sL_water, len_water, aL_spill, sL_spill, len_spill, aL_f17, sL_f17, len_f17, aI_f18, sI_f18, len_f18, aI_f19, sI_f19, len_f19, aI_f20, sI_f20, len_f20, aI_fst, sI_fst, len_fst, ck_t, gI_t, gL_t, pI_t, pZ0_t, pZ1_t, pL_t, ck_w, gI_w, gL_w, pI_w, pZ0_w, pZ1_w, pL_w, gR_t_1, gR_t_5, gR_t_7, gR_t_9, gR_t_10, gR_t_11, gR_t_12, gR_t_15, gR_w_2, gR_w_3, gR_w_4, gR_w_5, gR_w_6, gR_w_7, aR_crow, aR_srow, aR_prow, aR_rrow, aI_crow, sI_crow, len_crow, aI_srow, sI_srow, len_srow, aI_prow, sI_prow, len_prow, aI_rrow, sI_rrow, len_rrow, aI_t25, sI_t25, len_t25, aI_t31, sI_t31, len_t31, aI_t32, sI_t32, len_t32, aI_t34, sI_t34, len_t34, aI_t35, sI_t35, len_t35, aI_t36, sI_t36, len_t36, aI_t37, sI_t37, len_t37, aL_t38, sL_t38, len_t38, aL_t39, sL_t39, len_t39, bq_s, bd_s, mp_s, rz_0, rz_1, bI_rz, zadd, zmul, zsub, le_nI, lt_nI, eq_nI, neg_nI, gen_nI, neg_lt, neg_le, neg_lt', neg_le', nI_lt0, if_true, if_false, ite_true, ite_false, reduceIte, not_true, not_false, and_true, true_and, and_false, false_and, or_true, true_or, or_false, false_or, eq_self, hp, tr_N h.1, show (nR D ≤ k) = False from eq_false (by omega)]
    obtain ⟨ρ, g1, g2, g3, g4, g5⟩ := c_pass50 h0 hx hy hxy hd (show k < nR D by omega) (V := V k) (U := U k) (hVb k) (hUb k) (f_X1_passOn_35 fu) 30 0 5000 τ (by omega) (by omega) hfr (fun q hq => (hVU k q (by omega) (by omega) hq).1) (fun q hq => by
      rw [(hVU k q (by omega) (by omega) hq).2, if_neg (by omega)]; rfl)
    rw [g1]
    obtain ⟨ρ2, k1, k2, k3, k4⟩ := ih (k + 1) fu ρ (by omega) (by omega) (hfr.trans (g2.mono (Xp_f (by omega) (by omega)))) (fun r q h1 h2 h3 => by
      rw [g5 _ _ (by omega), g5 _ _ (by omega)]
      exact hVU r q (by omega) h2 h3)
    refine ⟨ρ2, k1, g2.trans k2, fun r q h1 h2 h3 => ?_, fun a j hj => ?_⟩
    · by_cases e : r = k
      · subst e
        rw [k4 _ _ (by omega), k4 _ _ (by omega)]
        exact ⟨g3 q h3, g4 q (by omega) h3⟩
      · exact k3 r q (by omega) h2 h3
    · rw [k4 a j (by omega), g5 a j (by omega)]
theorem c_passOn (h : FE σ f t D st cp) {x s : Nat} (hx : x < nC D) (hs : st x = some s) {V U : Nat → Nat → Nat} (hVb : ∀ r q, V r q ≤ 1400000000) (hUb : ∀ r q, U r q ≤ 1400000000000) (hVU : ∀ r q, r < nR D → q < 30 → ah_L σ (f + 2 + x) (30 * r + q) = iL ((V r q : Nat) : Int) ∧ ah_L σ (f + 2 + oth D s x) (30 * r + q) = iL ((U r q : Nat) : Int)) : ∃ ρ, f_X1_passOn f (nI x) σ = some ρ ∧ Fr (Xp f x (oth D s x)) σ ρ ∧ ∀ r q, r < nR D → q < 30 → ah_L ρ (f + 2 + oth D s x) (30 * r + q) = iL ((U r q + (if hrs D s ≤ q then lim cp x (V r (q - hrs D s)) else 0) : Nat) : Int) ∧ ah_L ρ (f + 10 + x) (30 * r + q) = iL ((V r q - lim cp x (V r q) : Nat) : Int) := by
  have b1 := h.1.bd
  have hw := h.w
  have ht := h.1.tn
  have hfl := h.2.1
  have hp := h.2.2.1
  have hs' := (h.2.2.2.1 x hx).2 s hs
  have hsx := (h.2.2.2.1 x hx).1
  rw [hs] at hsx
  have hsx : ah_I σ (fst_ f) x = nI s := hsx
  have ho := h.1.t.qoth (c := x) hs'
  have hd := h.1.t.qhrs3 hs'
  unfold f_X1_passOn f_X1_passOn_0
  simp only [to_bq, l_0, l_1, l_2, l_3, l_4, l_5, l_6, l_7, l_8, l_9, l_10, l_11, l_12, l_13, l_14, l_15, l_16, l_17, l_18, l_19, l_20, l_21, l_22, l_23, l_24, l_25, l_26, l_27, l_28, l_29, l_30, l_31, l_32, l_40, l_41, l_42, l_43, l_44, l_45, l_46, l_47, l_48, l_49, l_50, l_51, l_52, l_53, l_54, l_55, l_56, l_57, l_58, l_59, l_60, l_61, l_62, l_63, l_64, l_72, l_97, l_99, l_100, l_104, l_120, l_122, l_128, l_140, l_255, l_256, l_257, l_258, l_260, l_261, l_262, l_364, l_680, l_700, l_701, l_840, l_999, l_1023, l_1024, l_9999, l_10000, l_1000000, lm]
  simp (disch := first | (with_reducible assumption) | omega | exact ⟨by omega, by omega⟩ | ((with_reducible first | apply Wf.wI | apply Wf.wL | apply Wf.fL | apply Wf.fI | apply Wf.fr); (repeat (with_reducible first | assumption | apply Wf.wI | apply Wf.wL | apply Wf.fL | apply Wf.fI | apply Wf.fr)))) only [ck_f, gI_f, gL_f, pI_f, pZ0_f, pZ1_f, pL_f, gR_f_0, gR_f_1, gR_f_2, gR_f_3, gR_f_4, gR_f_5, gR_f_7, gR_f_8, pR_f_8, aR_water, aR_spill, aL_water, sL_water, len_water, aL_spill, sL_spill, len_spill, aL_f17, sL_f17, len_f17, aI_f18, sI_f18, len_f18, aI_f19, sI_f19, len_f19, aI_f20, sI_f20, len_f20, aI_fst, sI_fst, len_fst, ck_t, gI_t, gL_t, pI_t, pZ0_t, pZ1_t, pL_t, ck_w, gI_w, gL_w, pI_w, pZ0_w, pZ1_w, pL_w, gR_t_1, gR_t_5, gR_t_7, gR_t_9, gR_t_10, gR_t_11, gR_t_12, gR_t_15, gR_w_2, gR_w_3, gR_w_4, gR_w_5, gR_w_6, gR_w_7, aR_crow, aR_srow, aR_prow, aR_rrow, aI_crow, sI_crow, len_crow, aI_srow, sI_srow, len_srow, aI_prow, sI_prow, len_prow, aI_rrow, sI_rrow, len_rrow, aI_t25, sI_t25, len_t25, aI_t31, sI_t31, len_t31, aI_t32, sI_t32, len_t32, aI_t34, sI_t34, len_t34, aI_t35, sI_t35, len_t35, aI_t36, sI_t36, len_t36, aI_t37, sI_t37, len_t37, aL_t38, sL_t38, len_t38, aL_t39, sL_t39, len_t39, bq_s, bd_s, mp_s, rz_0, rz_1, bI_rz, zadd, zmul, zsub, le_nI, lt_nI, eq_nI, neg_nI, gen_nI, neg_lt, neg_le, neg_lt', neg_le', nI_lt0, hp, hsx, c_otherEnd h.1 hs' (show x < 7 by omega), tr_hrs h.1]
  obtain ⟨ρ, g1, g2, g3, -⟩ := c_pass35 h hx ho (oth_ne s x (h.1.t.qsAB hs')) hd hVb hUb (nR D) 0 5000 σ (by omega) (by omega) Fr.rfl (fun r q _ h2 h3 => hVU r q h2 h3)
  exact ⟨ρ, g1, g2, fun r q h2 h3 => g3 r q (by omega) h2 h3⟩
/-- what has come to a corner from the first i of the order -/
noncomputable def gin (D : DD) (st : Nat → Option Nat) (cp : Nat → Nat) (q : Nat → Nat) (i r c u : Nat) : Nat := sm (fun o => cif ((∃ j, j < i ∧ q j = o) ∧ nx D st o = some c ∧ hr D st o ≤ u) (lim cp o (FF D st cp r o (u - hr D st o))) 0) (nC D)
theorem gin_b (ht : MT D) {q : Nat → Nat} {i r c u : Nat} (hr0 : r < nR D) : gin D st cp q i r c u ≤ 10000000000 := by
  have h1 := sm_le (f := fun o => cif ((∃ j, j < i ∧ q j = o) ∧ nx D st o = some c ∧ hr D st o ≤ u) (lim cp o (FF D st cp r o (u - hr D st o))) 0) (n := nC D) (B := 1400000000) (fun o ho => cif_le (Nat.le_trans (lim_le _ _) (FF_b ht hr0 ho)) (by omega))
  have h2 : nC D * 1400000000 ≤ 7 * 1400000000 := Nat.mul_le_mul_right _ ht.qc7
  unfold gin
  omega
theorem gin_0 {q : Nat → Nat} {r c u : Nat} : gin D st cp q 0 r c u = 0 := sm_0 (fun o _ => cif_f (fun ⟨⟨j, hj, _⟩, _⟩ => by omega) _ _)
/-- as what comes is passed on -/
def PI (σ : ah_H) (f : Nat) (D : DD) (st : Nat → Option Nat) (cp : Nat → Nat) (q : Nat → Nat) (i : Nat) : Prop := (∀ c, c < nC D → ∀ r u, r < nR D → u < 30 → ah_L σ (f + 2 + c) (30 * r + u) = iL ((ra D r c u + gin D st cp q i r c u : Nat) : Int)) ∧ ∀ j, j < i → st (q j) ≠ none → ∀ r u, r < nR D → u < 30 → ah_L σ (f + 10 + q j) (30 * r + u) = iL ((FF D st cp r (q j) u - lim cp (q j) (FF D st cp r (q j) u) : Nat) : Int)
/-- what the passing on writes -/
def Xd (f a _j : Nat) : Prop := f < a ∧ a ≤ f + 16
theorem Xd_f : ∀ a j, Xd f a j → Xf f a j := by
  intro a j h; unfold Xd at h; unfold Xf; omega
theorem KI.xd {τ : ah_H} {i L : Nat} {q : Nat → Nat} (h : KI σ f D st i L q) (g : Fr (Xd f) σ τ) : KI τ f D st i L q := by
  obtain ⟨k1, k2, k3, k4, k5, k6, k7⟩ := h
  exact ⟨(g.I (by unfold Xd; omega)).trans k1, fun j hj => ⟨(g.I (by unfold Xd; omega)).trans (k2 j hj).1, (k2 j hj).2⟩, k3, k4, fun c hc => (g.I (by unfold Xd; omega)).trans (k5 c hc), k6, k7⟩
/-- a corner all of whose water has come -/
theorem gin_full (hn : ∀ c k, c < nC D → nx D st c = some k → k < nC D) {q : Nat → Nat} {i r c u : Nat} (hc : c < nC D) (hR : ¬ Rg (nx D st) (nC D) c) (hall : ∀ o, o < nC D → nx D st o = some c → ∃ j, j < i ∧ q j = o) : ra D r c u + gin D st cp q i r c u = FF D st cp r c u := by
  rw [FF_fx ((Rg_or hn hc).resolve_left hR)]
  congr 1
  refine sm_eq (fun o ho => ?_)
  show cif _ _ _ = (if _ then _ else _)
  by_cases z : nx D st o = some c ∧ hr D st o ≤ u
  · rw [cif_t ⟨hall o ho z.1, z⟩, if_pos z]
  · rw [cif_f (fun w => z w.2), if_neg z]
theorem c_run35 (h0 : FE σ f t D st cp) {L : Nat} {q : Nat → Nat} (hK0 : KI σ f D st L L q) : ∀ m i fu τ, i + m = L → m < fu → Fr (Xd f) σ τ → PI τ f D st cp q i → ∃ ρ, f_X1_run_35 fu f (nI i) τ = f_X1_run_74 f ρ ∧ Fr (Xd f) σ ρ ∧ PI ρ f D st cp q L := by
  have b1 := h0.1.bd
  have ht := h0.1.tn
  have hfl := h0.2.1
  have hT : t = 2 ∨ t = 42 := ht
  have hF : f = 118 ∨ f = 139 ∨ f = 201 := hfl
  have hLn := KI_L hK0
  have hnl := h0.nxl
  intro m
  induction m with
  | zero =>
    intro i fu τ hk hf hfr hP
    obtain ⟨fu, rfl⟩ : ∃ q, fu = q + 1 := ⟨fu - 1, by omega⟩
    obtain rfl : i = L := by omega
    have hw := (h0.fr (hfr.mono Xd_f)).w
    have hK := hK0.xd hfr
    refine ⟨τ, ?_, hfr, hP⟩
    show f_X1_run_35_b _ _ _ _ = _
    unfold f_X1_run_35_b
    simp only [to_bq, l_0, l_1, l_2, l_3, l_4, l_5, l_6, l_7, l_8, l_9, l_10, l_11, l_12, l_13, l_14, l_15, l_16, l_17, l_18, l_19, l_20, l_21, l_22, l_23, l_24, l_25, l_26, l_27, l_28, l_29, l_30, l_31, l_32, l_40, l_41, l_42, l_43, l_44, l_45, l_46, l_47, l_48, l_49, l_50, l_51, l_52, l_53, l_54, l_55, l_56, l_57, l_58, l_59, l_60, l_61, l_62, l_63, l_64, l_72, l_97, l_99, l_100, l_104, l_120, l_122, l_128, l_140, l_255, l_256, l_257, l_258, l_260, l_261, l_262, l_364, l_680, l_700, l_701, l_840, l_999, l_1023, l_1024, l_9999, l_10000, l_1000000, lm]
    simp (disch := first | (with_reducible assumption) | omega | exact ⟨by omega, by omega⟩ | ((with_reducible first | apply Wf.wI | apply Wf.wL | apply Wf.fL | apply Wf.fI | apply Wf.fr); (repeat (with_reducible first | assumption | apply Wf.wI | apply Wf.wL | apply Wf.fL | apply Wf.fI | apply Wf.fr)))) only [ck_f, gI_f, gL_f, pI_f, pZ0_f, pZ1_f, pL_f, gR_f_0, gR_f_1, gR_f_2, gR_f_3, gR_f_4, gR_f_5, gR_f_7, gR_f_8, pR_f_8, aR_water, aR_spill, aL_water, sL_water, len_water, aL_spill, sL_spill, len_spill, aL_f17, sL_f17, len_f17, aI_f18, sI_f18, len_f18, aI_f19, sI_f19, len_f19, aI_f20, sI_f20, len_f20, aI_fst, sI_fst, len_fst, bq_s, bd_s, mp_s, rz_0, rz_1, bI_rz, zadd, zmul, zsub, le_nI, lt_nI, eq_nI, neg_nI, gen_nI, neg_lt, neg_le, neg_lt', neg_le', nI_lt0, if_true, if_false, ite_true, ite_false, reduceIte, not_true, not_false, and_true, true_and, and_false, false_and, or_true, true_or, or_false, false_or, eq_self, hK.1, Nat.le_refl]
  | succ m ih =>
    intro i fu τ hk hf hfr hP
    obtain ⟨fu, rfl⟩ : ∃ q, fu = q + 1 := ⟨fu - 1, by omega⟩
    have h := h0.fr (hfr.mono Xd_f)
    have hw := h.w
    have hK := hK0.xd hfr
    have hiL : i < L := by omega
    obtain ⟨o1, o2⟩ := hK.2.1 i hiL
    have hsv := h.sv o2
    have hnew : ∀ o, (∃ j, j < i + 1 ∧ q j = o) ↔ (∃ j, j < i ∧ q j = o) ∨ o = q i := by
      intro o
      constructor
      · rintro ⟨j, hj, e⟩
        by_cases e2 : j = i
        · exact Or.inr (by rw [← e, e2])
        · exact Or.inl ⟨j, by omega, e⟩
      · rintro (⟨j, hj, e⟩ | e)
        · exact ⟨j, by omega, e⟩
        · exact ⟨i, by omega, e.symm⟩
    have hfresh : ¬ ∃ j, j < i ∧ q j = q i := by
      rintro ⟨j, hj, e⟩
      have := hK.2.2.2.1 j i (by omega) hiL e
      omega
    have hRi : ¬ Rg (nx D st) (nC D) (q i) := (KI_Rg hnl hK o2).mp ⟨i, hiL, rfl⟩
    have hfull : ∀ r u, ra D r (q i) u + gin D st cp q i r (q i) u = FF D st cp r (q i) u := fun r u => gin_full hnl o2 hRi (fun o ho e => by
      obtain ⟨j', z1, z2, z3⟩ := hK.2.2.2.2.2.2 i hiL o ho e
      exact ⟨j', z2, z3⟩)
    show ∃ ρ, f_X1_run_35_b _ _ _ _ = _ ∧ _
    unfold f_X1_run_35_b f_X1_run_68
    simp only [to_bq, l_0, l_1, l_2, l_3, l_4, l_5, l_6, l_7, l_8, l_9, l_10, l_11, l_12, l_13, l_14, l_15, l_16, l_17, l_18, l_19, l_20, l_21, l_22, l_23, l_24, l_25, l_26, l_27, l_28, l_29, l_30, l_31, l_32, l_40, l_41, l_42, l_43, l_44, l_45, l_46, l_47, l_48, l_49, l_50, l_51, l_52, l_53, l_54, l_55, l_56, l_57, l_58, l_59, l_60, l_61, l_62, l_63, l_64, l_72, l_97, l_99, l_100, l_104, l_120, l_122, l_128, l_140, l_255, l_256, l_257, l_258, l_260, l_261, l_262, l_364, l_680, l_700, l_701, l_840, l_999, l_1023, l_1024, l_9999, l_10000, l_1000000, lm]
    simp (disch := first | (with_reducible assumption) | omega | exact ⟨by omega, by omega⟩ | ((with_reducible first | apply Wf.wI | apply Wf.wL | apply Wf.fL | apply Wf.fI | apply Wf.fr); (repeat (with_reducible first | assumption | apply Wf.wI | apply Wf.wL | apply Wf.fL | apply Wf.fI | apply Wf.fr)))) only [ck_f, gI_f, gL_f, pI_f, pZ0_f, pZ1_f, pL_f, gR_f_0, gR_f_1, gR_f_2, gR_f_3, gR_f_4, gR_f_5, gR_f_7, gR_f_8, pR_f_8, aR_water, aR_spill, aL_water, sL_water, len_water, aL_spill, sL_spill, len_spill, aL_f17, sL_f17, len_f17, aI_f18, sI_f18, len_f18, aI_f19, sI_f19, len_f19, aI_f20, sI_f20, len_f20, aI_fst, sI_fst, len_fst, bq_s, bd_s, mp_s, rz_0, rz_1, bI_rz, zadd, zmul, zsub, le_nI, lt_nI, eq_nI, neg_nI, gen_nI, neg_lt, neg_le, neg_lt', neg_le', nI_lt0, if_true, if_false, ite_true, ite_false, reduceIte, not_true, not_false, and_true, true_and, and_false, false_and, or_true, true_or, or_false, false_or, eq_self, hK.1, o1, hsv, lm, show (L ≤ i) = False from eq_false (by omega)]
    cases hx : st (q i) with
    | none =>
      simp only [if_true, if_false, ite_true, ite_false, reduceIte, not_true, not_false, and_true, true_and, and_false, false_and, or_true, true_or, or_false, false_or, eq_self]
      have hno : nx D st (q i) = none := by unfold nx; rw [hx]; rfl
      refine ih (i + 1) fu τ (by omega) (by omega) hfr ⟨fun c hc r u hr0 hu => ?_, fun j hj hs => ?_⟩
      · rw [hP.1 c hc r u hr0 hu]
        congr 3
        refine sm_eq (fun o _ => ?_)
        show cif _ _ _ = cif _ _ _
        congr 1
        refine propext ⟨fun ⟨z1, z2⟩ => ⟨(hnew o).mpr (Or.inl z1), z2⟩, fun ⟨z1, z2⟩ => ⟨?_, z2⟩⟩
        rcases (hnew o).mp z1 with z4 | z4
        · exact z4
        · rw [z4, hno] at z2; cases z2.1
      · by_cases e : j = i
        · rw [e] at hs; exact absurd hx hs
        · exact hP.2 j (by omega) hs
    | some s =>
      have hs' := (h.2.2.2.1 _ o2).2 s hx
      have ho := h.1.t.qoth (c := q i) hs'
      have hn : nx D st (q i) = some (oth D s (q i)) := by unfold nx; rw [hx]; rfl
      have hhr : hr D st (q i) = hrs D s := by unfold hr; rw [hx]
      have hne := oth_ne s (q i) (h.1.t.qsAB hs')
      obtain ⟨ρ, g1, g2, g3⟩ := c_passOn h o2 hx (V := fun r u => if r < nR D then FF D st cp r (q i) u else 0) (U := fun r u => if r < nR D then ra D r (oth D s (q i)) u + gin D st cp q i r (oth D s (q i)) u else 0) (by
        intro r u
        split
        · next z => exact FF_b h.1.t z o2
        · omega) (by
        intro r u
        split
        · next z =>
          have := ra_b h.1.t z ho (t := u)
          have := gin_b (st := st) (cp := cp) (q := q) (i := i) (c := oth D s (q i)) (u := u) h.1.t z
          omega
        · omega) (by
        intro r u hr0 hu
        show _ = iL (((if _ then _ else _ : Nat)) : Int) ∧ _ = iL (((if _ then _ else _ : Nat)) : Int)
        rw [if_pos hr0, if_pos hr0, hP.1 _ o2 r u hr0 hu, hP.1 _ ho r u hr0 hu, hfull]
        exact ⟨rfl, rfl⟩)
      simp (disch := first | (with_reducible assumption) | omega | exact ⟨by omega, by omega⟩ | ((with_reducible first | apply Wf.wI | apply Wf.wL | apply Wf.fL | apply Wf.fI | apply Wf.fr); (repeat (with_reducible first | assumption | apply Wf.wI | apply Wf.wL | apply Wf.fL | apply Wf.fI | apply Wf.fr)))) only [if_true, if_false, ite_true, ite_false, reduceIte, not_true, not_false, and_true, true_and, and_false, false_and, or_true, true_or, or_false, false_or, eq_self, reduceCtorEq, g1, bq_s, bd_s, mp_s, rz_0, rz_1, bI_rz, zadd]
      have gd : Fr (Xd f) τ ρ := g2.mono (fun a j z => by unfold Xp at z; unfold Xd; omega)
      refine ih (i + 1) fu ρ (by omega) (by omega) (hfr.trans gd) ⟨fun c hc r u hr0 hu => ?_, fun j hj hs r u hr0 hu => ?_⟩
      · by_cases e : c = oth D s (q i)
        · have := (g3 r u hr0 hu).1
          rw [if_pos hr0, if_pos hr0] at this
          rw [e, this]
          congr 1
          rw [Nat.add_assoc]
          congr 2
          refine (sm_one (x := q i) o2 (fun o _ hno => ?_) ?_).symm
          · show cif _ _ _ = cif _ _ _
            congr 1
            refine propext ⟨fun ⟨z1, z2⟩ => ⟨?_, z2⟩, fun ⟨z1, z2⟩ => ⟨(hnew o).mpr (Or.inl z1), z2⟩⟩
            rcases (hnew o).mp z1 with z4 | z4
            · exact z4
            · exact absurd z4 hno
          · show cif _ _ _ = cif _ _ _ + _
            rw [cif_f (show ¬ ((∃ j, j < i ∧ q j = q i) ∧ nx D st (q i) = some (oth D s (q i)) ∧ hr D st (q i) ≤ u) from fun z => hfresh z.1), Nat.zero_add, hhr]
            by_cases z : hrs D s ≤ u
            · rw [cif_t ⟨(hnew _).mpr (Or.inr rfl), hn, z⟩, if_pos z]
            · rw [cif_f (fun w => z w.2.2), if_neg z]
        · rw [g2.L (by unfold Xp; omega), hP.1 c hc r u hr0 hu]
          congr 3
          refine sm_eq (fun o _ => ?_)
          show cif _ _ _ = cif _ _ _
          congr 1
          refine propext ⟨fun ⟨z1, z2⟩ => ⟨(hnew o).mpr (Or.inl z1), z2⟩, fun ⟨z1, z2⟩ => ⟨?_, z2⟩⟩
          rcases (hnew o).mp z1 with z4 | z4
          · exact z4
          · rw [z4, hn] at z2; exact absurd (Option.some.inj z2.1).symm e
      · by_cases e : j = i
        · subst e
          have := (g3 r u hr0 hu).2
          rw [if_pos hr0] at this
          exact this
        · have hji := (hK.2.1 j (by omega)).2
          rw [g2.L (by
            unfold Xp
            have : q j ≠ q i := fun z => e (hK.2.2.2.1 j i (by omega) hiL z)
            omega)]
          exact hP.2 j (by omega) hs r u hr0 hu
/-- the water that comes to a corner -/
noncomputable def wat (D : DD) (st : Nat → Option Nat) (cp : Nat → Nat) (c j : Nat) : Nat := cif (Rg (nx D st) (nC D) c) 0 (FF D st cp (j / 30) c (j % 30))
theorem wat_b (ht : MT D) {c j : Nat} (hc : c < nC D) (hj : j < 30 * nR D) : wat D st cp c j ≤ 1400000000 := cif_le (by omega) (FF_b ht (by omega) hc)
theorem c_peak4 (h : FE σ f t D st cp) {c : Nat} (hc : c < nC D) {w : Nat → Nat} (hwb : ∀ j, j < 30 * nR D → w j ≤ 1400000000) (hW : ∀ j, j < 30 * nR D → ah_L σ (f + 2 + c) j = iL ((w j : Nat) : Int)) (hR : nR D ≠ 0) : ∀ m k fu, k + m = 30 * nR D → 1 ≤ k → m < fu → f_X1_findPeak_4 fu f (nI c) (nI (pkx w k)) (nI k) σ = some (ah_wI σ (f + 18) c (nI (pkx w (30 * nR D)))) := by
  have b1 := h.1.bd
  have hw := h.w
  have ht := h.1.tn
  have hfl := h.2.1
  have hp := h.2.2.1
  intro m
  induction m with
  | zero =>
    intro k fu hk h1 hf
    obtain ⟨fu, rfl⟩ : ∃ q, fu = q + 1 := ⟨fu - 1, by omega⟩
    obtain rfl : k = 30 * nR D := by omega
    show f_X1_findPeak_4_b _ _ _ _ _ _ = _
    unfold f_X1_findPeak_4_b f_X1_findPeak_46
    simp only [to_bq, l_0, l_1, l_2, l_3, l_4, l_5, l_6, l_7, l_8, l_9, l_10, l_11, l_12, l_13, l_14, l_15, l_16, l_17, l_18, l_19, l_20, l_21, l_22, l_23, l_24, l_25, l_26, l_27, l_28, l_29, l_30, l_31, l_32, l_40, l_41, l_42, l_43, l_44, l_45, l_46, l_47, l_48, l_49, l_50, l_51, l_52, l_53, l_54, l_55, l_56, l_57, l_58, l_59, l_60, l_61, l_62, l_63, l_64, l_72, l_97, l_99, l_100, l_104, l_120, l_122, l_128, l_140, l_255, l_256, l_257, l_258, l_260, l_261, l_262, l_364, l_680, l_700, l_701, l_840, l_999, l_1023, l_1024, l_9999, l_10000, l_1000000, lm]
    simp (disch := first | (with_reducible assumption) | omega | exact ⟨by omega, by omega⟩ | ((with_reducible first | apply Wf.wI | apply Wf.wL | apply Wf.fL | apply Wf.fI | apply Wf.fr); (repeat (with_reducible first | assumption | apply Wf.wI | apply Wf.wL | apply Wf.fL | apply Wf.fI | apply Wf.fr)))) only [ck_f, gI_f, gL_f, pI_f, pZ0_f, pZ1_f, pL_f, gR_f_0, gR_f_1, gR_f_2, gR_f_3, gR_f_4, gR_f_5, gR_f_7, gR_f_8, pR_f_8, aR_water, aR_spill, aL_water, sL_water, len_water, aL_spill, sL_spill, len_spill, aL_f17, sL_f17, len_f17, aI_f18, sI_f18, len_f18, aI_f19, sI_f19, len_f19, aI_f20, sI_f20, len_f20, aI_fst, sI_fst, len_fst, ck_t, gI_t, gL_t, pI_t, pZ0_t, pZ1_t, pL_t, ck_w, gI_w, gL_w, pI_w, pZ0_w, pZ1_w, pL_w, gR_t_1, gR_t_5, gR_t_7, gR_t_9, gR_t_10, gR_t_11, gR_t_12, gR_t_15, gR_w_2, gR_w_3, gR_w_4, gR_w_5, gR_w_6, gR_w_7, aR_crow, aR_srow, aR_prow, aR_rrow, aI_crow, sI_crow, len_crow, aI_srow, sI_srow, len_srow, aI_prow, sI_prow, len_prow, aI_rrow, sI_rrow, len_rrow, aI_t25, sI_t25, len_t25, aI_t31, sI_t31, len_t31, aI_t32, sI_t32, len_t32, aI_t34, sI_t34, len_t34, aI_t35, sI_t35, len_t35, aI_t36, sI_t36, len_t36, aI_t37, sI_t37, len_t37, aL_t38, sL_t38, len_t38, aL_t39, sL_t39, len_t39, bq_s, bd_s, mp_s, rz_0, rz_1, bI_rz, zadd, zmul, zsub, le_nI, lt_nI, eq_nI, neg_nI, gen_nI, neg_lt, neg_le, neg_lt', neg_le', nI_lt0, if_true, if_false, ite_true, ite_false, reduceIte, not_true, not_false, and_true, true_and, and_false, false_and, or_true, true_or, or_false, false_or, eq_self, hp, tr_N h.1, show (nR D * 30 ≤ 30 * nR D) = True from eq_true (by omega)]
  | succ m ih =>
    intro k fu hk h1 hf
    obtain ⟨fu, rfl⟩ : ∃ q, fu = q + 1 := ⟨fu - 1, by omega⟩
    have hpk := pkx_lt w (m := k) (by omega)
    have hb1 := hwb k (by omega)
    have hb2 := hwb (pkx w k) (by omega)
    show f_X1_findPeak_4_b _ _ _ _ _ _ = _
    unfold f_X1_findPeak_4_b f_X1_findPeak_40
    simp only [to_bq, l_0, l_1, l_2, l_3, l_4, l_5, l_6, l_7, l_8, l_9, l_10, l_11, l_12, l_13, l_14, l_15, l_16, l_17, l_18, l_19, l_20, l_21, l_22, l_23, l_24, l_25, l_26, l_27, l_28, l_29, l_30, l_31, l_32, l_40, l_41, l_42, l_43, l_44, l_45, l_46, l_47, l_48, l_49, l_50, l_51, l_52, l_53, l_54, l_55, l_56, l_57, l_58, l_59, l_60, l_61, l_62, l_63, l_64, l_72, l_97, l_99, l_100, l_104, l_120, l_122, l_128, l_140, l_255, l_256, l_257, l_258, l_260, l_261, l_262, l_364, l_680, l_700, l_701, l_840, l_999, l_1023, l_1024, l_9999, l_10000, l_1000000, lm]
    simp (disch := first | (with_reducible assumption) | omega | exact ⟨by omega, by omega⟩ | ((with_reducible first | apply Wf.wI | apply Wf.wL | apply Wf.fL | apply Wf.fI | apply Wf.fr); (repeat (with_reducible first | assumption | apply Wf.wI | apply Wf.wL | apply Wf.fL | apply Wf.fI | apply Wf.fr)))) only [ck_f, gI_f, gL_f, pI_f, pZ0_f, pZ1_f, pL_f, gR_f_0, gR_f_1, gR_f_2, gR_f_3, gR_f_4, gR_f_5, gR_f_7, gR_f_8, pR_f_8, aR_water, aR_spill, aL_water, sL_water, len_water, aL_spill, sL_spill, len_spill, aL_f17, sL_f17, len_f17, aI_f18, sI_f18, len_f18, aI_f19, sI_f19, len_f19, aI_f20, sI_f20, len_f20, aI_fst, sI_fst, len_fst, ck_t, gI_t, gL_t, pI_t, pZ0_t, pZ1_t, pL_t, ck_w, gI_w, gL_w, pI_w, pZ0_w, pZ1_w, pL_w, gR_t_1, gR_t_5, gR_t_7, gR_t_9, gR_t_10, gR_t_11, gR_t_12, gR_t_15, gR_w_2, gR_w_3, gR_w_4, gR_w_5, gR_w_6, gR_w_7, aR_crow, aR_srow, aR_prow, aR_rrow, aI_crow, sI_crow, len_crow, aI_srow, sI_srow, len_srow, aI_prow, sI_prow, len_prow, aI_rrow, sI_rrow, len_rrow, aI_t25, sI_t25, len_t25, aI_t31, sI_t31, len_t31, aI_t32, sI_t32, len_t32, aI_t34, sI_t34, len_t34, aI_t35, sI_t35, len_t35, aI_t36, sI_t36, len_t36, aI_t37, sI_t37, len_t37, aL_t38, sL_t38, len_t38, aL_t39, sL_t39, len_t39, bq_s, bd_s, mp_s, rz_0, rz_1, bI_rz, zadd, zmul, zsub, le_nI, lt_nI, eq_nI, neg_nI, gen_nI, neg_lt, neg_le, neg_lt', neg_le', nI_lt0, if_true, if_false, ite_true, ite_false, reduceIte, not_true, not_false, and_true, true_and, and_false, false_and, or_true, true_or, or_false, false_or, eq_self, q_0, q_1, q_100, q_9999, q_1000000000000, q_100000000000000000, q_4000000000000000000, q_4611686018427387903, q_9223372036854775807, iadd, isub, imul, ineg, cmp_e, cmp_le, cmp_lt, cmp_ge, cmp_gt, maxl_i, minl_i, absl_i, toL_n, ldiv_i, hp, tr_N h.1, show (nR D * 30 ≤ k) = False from eq_false (by omega), hW k (by omega), hW (pkx w k) (by omega)]
    have e : pkx w (k + 1) = if w (pkx w k) < w k then k else pkx w k := rfl
    by_cases q : ((w k : Nat) : Int) ≤ ((w (pkx w k) : Nat) : Int)
    · rw [if_pos q]
      rw [if_neg (by omega)] at e
      rw [← e]
      exact ih (k + 1) fu (by omega) (by omega) (by omega)
    · rw [if_neg q]
      rw [if_pos (by omega)] at e
      have := ih (k + 1) fu (by omega) (by omega) (by omega)
      rw [e] at this
      exact this
theorem c_findPeak (h : FE σ f t D st cp) {c : Nat} (hc : c < nC D) {w : Nat → Nat} (hwb : ∀ j, j < 30 * nR D → w j ≤ 1400000000) (hW : ∀ j, j < 30 * nR D → ah_L σ (f + 2 + c) j = iL ((w j : Nat) : Int)) : f_X1_findPeak f (nI c) σ = some (ah_wI σ (f + 18) c (nI (pkx w (30 * nR D)))) := by
  have b1 := h.1.bd
  have hw := h.w
  have ht := h.1.tn
  have hfl := h.2.1
  have hp := h.2.2.1
  unfold f_X1_findPeak f_X1_findPeak_0
  rw [ck_f hw hfl, l_0, l_1]
  by_cases hR : nR D = 0
  · show f_X1_findPeak_4_b _ _ _ _ _ _ = _
    unfold f_X1_findPeak_4_b f_X1_findPeak_46
    simp only [to_bq, l_0, l_1, l_2, l_3, l_4, l_5, l_6, l_7, l_8, l_9, l_10, l_11, l_12, l_13, l_14, l_15, l_16, l_17, l_18, l_19, l_20, l_21, l_22, l_23, l_24, l_25, l_26, l_27, l_28, l_29, l_30, l_31, l_32, l_40, l_41, l_42, l_43, l_44, l_45, l_46, l_47, l_48, l_49, l_50, l_51, l_52, l_53, l_54, l_55, l_56, l_57, l_58, l_59, l_60, l_61, l_62, l_63, l_64, l_72, l_97, l_99, l_100, l_104, l_120, l_122, l_128, l_140, l_255, l_256, l_257, l_258, l_260, l_261, l_262, l_364, l_680, l_700, l_701, l_840, l_999, l_1023, l_1024, l_9999, l_10000, l_1000000, lm]
    simp (disch := first | (with_reducible assumption) | omega | exact ⟨by omega, by omega⟩ | ((with_reducible first | apply Wf.wI | apply Wf.wL | apply Wf.fL | apply Wf.fI | apply Wf.fr); (repeat (with_reducible first | assumption | apply Wf.wI | apply Wf.wL | apply Wf.fL | apply Wf.fI | apply Wf.fr)))) only [ck_f, gI_f, gL_f, pI_f, pZ0_f, pZ1_f, pL_f, gR_f_0, gR_f_1, gR_f_2, gR_f_3, gR_f_4, gR_f_5, gR_f_7, gR_f_8, pR_f_8, aR_water, aR_spill, aL_water, sL_water, len_water, aL_spill, sL_spill, len_spill, aL_f17, sL_f17, len_f17, aI_f18, sI_f18, len_f18, aI_f19, sI_f19, len_f19, aI_f20, sI_f20, len_f20, aI_fst, sI_fst, len_fst, ck_t, gI_t, gL_t, pI_t, pZ0_t, pZ1_t, pL_t, ck_w, gI_w, gL_w, pI_w, pZ0_w, pZ1_w, pL_w, gR_t_1, gR_t_5, gR_t_7, gR_t_9, gR_t_10, gR_t_11, gR_t_12, gR_t_15, gR_w_2, gR_w_3, gR_w_4, gR_w_5, gR_w_6, gR_w_7, aR_crow, aR_srow, aR_prow, aR_rrow, aI_crow, sI_crow, len_crow, aI_srow, sI_srow, len_srow, aI_prow, sI_prow, len_prow, aI_rrow, sI_rrow, len_rrow, aI_t25, sI_t25, len_t25, aI_t31, sI_t31, len_t31, aI_t32, sI_t32, len_t32, aI_t34, sI_t34, len_t34, aI_t35, sI_t35, len_t35, aI_t36, sI_t36, len_t36, aI_t37, sI_t37, len_t37, aL_t38, sL_t38, len_t38, aL_t39, sL_t39, len_t39, bq_s, bd_s, mp_s, rz_0, rz_1, bI_rz, zadd, zmul, zsub, le_nI, lt_nI, eq_nI, neg_nI, gen_nI, neg_lt, neg_le, neg_lt', neg_le', nI_lt0, if_true, if_false, ite_true, ite_false, reduceIte, not_true, not_false, and_true, true_and, and_false, false_and, or_true, true_or, or_false, false_or, eq_self, hp, tr_N h.1, hR, Nat.reduceEqDiff, Nat.reduceAdd, Nat.reduceMul, Nat.reduceSub, Nat.reduceLT, Nat.reduceLeDiff, Nat.add_sub_cancel, Nat.zero_add, Nat.add_zero, Nat.mul_zero, Nat.zero_mul, show (0 ≤ 1) = True from eq_true (by omega)]
    rfl
  · have e : pkx w 1 = 0 := by
      show (if w 0 < w 0 then 0 else 0) = 0
      split <;> rfl
    have := c_peak4 h hc hwb hW hR (30 * nR D - 1) 1 5000 (by omega) (by omega) (by omega)
    rw [e] at this
    exact this
/-- flows as they should be -/
def FD (σ : ah_H) (f : Nat) (D : DD) (st : Nat → Option Nat) (cp : Nat → Nat) (c : Nat) : Prop := (∀ j, j < 30 * nR D → ah_L σ (f + 2 + c) j = iL ((wat D st cp c j : Nat) : Int)) ∧ ah_I σ (f + 18) c = nI (pkx (wat D st cp c) (30 * nR D)) ∧ (st c ≠ none → ∀ r u, r < nR D → u < 30 → ah_L σ (f + 10 + c) (30 * r + u) = iL ((fld D st cp r c u : Nat) : Int))
def Xe (f a _j : Nat) : Prop := f < a ∧ a ≤ f + 16 ∨ a = f + 18
theorem Xe_f : ∀ a j, Xe f a j → Xf f a j := by
  intro a j h; unfold Xe at h; unfold Xf; omega
theorem c_run76 (h0 : FE σ f t D st cp) {L : Nat} {q : Nat → Nat} (hK0 : KI σ f D st L L q) (hP0 : PI σ f D st cp q L) : ∀ m k fu τ, k + m = nC D → m < fu → Fr (Xe f) σ τ → (∀ c, c < k → FD τ f D st cp c) → (∀ c, k ≤ c → c < nC D → ∀ j, ah_L τ (f + 2 + c) j = ah_L σ (f + 2 + c) j ∧ ah_L τ (f + 10 + c) j = ah_L σ (f + 10 + c) j) → ∃ ρ, f_X1_run_76 fu f (nI k) τ = some ρ ∧ Fr (Xe f) σ ρ ∧ ∀ c, c < nC D → FD ρ f D st cp c := by
  have b1 := h0.1.bd
  have ht := h0.1.tn
  have hfl := h0.2.1
  have hT : t = 2 ∨ t = 42 := ht
  have hF : f = 118 ∨ f = 139 ∨ f = 201 := hfl
  have hnl := h0.nxl
  intro m
  induction m with
  | zero =>
    intro k fu τ hk hf hfr hD hO
    obtain ⟨fu, rfl⟩ : ∃ q, fu = q + 1 := ⟨fu - 1, by omega⟩
    obtain rfl : k = nC D := by omega
    have h := h0.fr (hfr.mono Xe_f)
    have hw := h.w
    have hp := h.2.2.1
    refine ⟨τ, ?_, hfr, hD⟩
    show f_X1_run_76_b _ _ _ _ = _
    unfold f_X1_run_76_b
    simp only [to_bq, l_0, l_1, l_2, l_3, l_4, l_5, l_6, l_7, l_8, l_9, l_10, l_11, l_12, l_13, l_14, l_15, l_16, l_17, l_18, l_19, l_20, l_21, l_22, l_23, l_24, l_25, l_26, l_27, l_28, l_29, l_30, l_31, l_32, l_40, l_41, l_42, l_43, l_44, l_45, l_46, l_47, l_48, l_49, l_50, l_51, l_52, l_53, l_54, l_55, l_56, l_57, l_58, l_59, l_60, l_61, l_62, l_63, l_64, l_72, l_97, l_99, l_100, l_104, l_120, l_122, l_128, l_140, l_255, l_256, l_257, l_258, l_260, l_261, l_262, l_364, l_680, l_700, l_701, l_840, l_999, l_1023, l_1024, l_9999, l_10000, l_1000000, lm]
    simp (disch := first | (with_reducible assumption) | omega | exact ⟨by omega, by omega⟩ | ((with_reducible first | apply Wf.wI | apply Wf.wL | apply Wf.fL | apply Wf.fI | apply Wf.fr); (repeat (with_reducible first | assumption | apply Wf.wI | apply Wf.wL | apply Wf.fL | apply Wf.fI | apply Wf.fr)))) only [ck_f, gI_f, gL_f, pI_f, pZ0_f, pZ1_f, pL_f, gR_f_0, gR_f_1, gR_f_2, gR_f_3, gR_f_4, gR_f_5, gR_f_7, gR_f_8, pR_f_8, aR_water, aR_spill, aL_water, sL_water, len_water, aL_spill, sL_spill, len_spill, aL_f17, sL_f17, len_f17, aI_f18, sI_f18, len_f18, aI_f19, sI_f19, len_f19, aI_f20, sI_f20, len_f20, aI_fst, sI_fst, len_fst, ck_t, gI_t, gL_t, pI_t, pZ0_t, pZ1_t, pL_t, ck_w, gI_w, gL_w, pI_w, pZ0_w, pZ1_w, pL_w, gR_t_1, gR_t_5, gR_t_7, gR_t_9, gR_t_10, gR_t_11, gR_t_12, gR_t_15, gR_w_2, gR_w_3, gR_w_4, gR_w_5, gR_w_6, gR_w_7, aR_crow, aR_srow, aR_prow, aR_rrow, aI_crow, sI_crow, len_crow, aI_srow, sI_srow, len_srow, aI_prow, sI_prow, len_prow, aI_rrow, sI_rrow, len_rrow, aI_t25, sI_t25, len_t25, aI_t31, sI_t31, len_t31, aI_t32, sI_t32, len_t32, aI_t34, sI_t34, len_t34, aI_t35, sI_t35, len_t35, aI_t36, sI_t36, len_t36, aI_t37, sI_t37, len_t37, aL_t38, sL_t38, len_t38, aL_t39, sL_t39, len_t39, bq_s, bd_s, mp_s, rz_0, rz_1, bI_rz, zadd, zmul, zsub, le_nI, lt_nI, eq_nI, neg_nI, gen_nI, neg_lt, neg_le, neg_lt', neg_le', nI_lt0, if_true, if_false, ite_true, ite_false, reduceIte, not_true, not_false, and_true, true_and, and_false, false_and, or_true, true_or, or_false, false_or, eq_self, hp, tr_C h.1, Nat.le_refl]
  | succ m ih =>
    intro k fu τ hk hf hfr hD hO
    obtain ⟨fu, rfl⟩ : ∃ q, fu = q + 1 := ⟨fu - 1, by omega⟩
    have h := h0.fr (hfr.mono Xe_f)
    have hw := h.w
    have hp := h.2.2.1
    have hk' : k < nC D := by omega
    have hwt : ah_I τ (f + 20) k = nI (wtn D st q L k) := (hfr.I (by unfold Xe; omega)).trans (hK0.2.2.2.2.1 k hk')
    have hwb := wtn_b (D := D) (st := st) q L k
    have hR : wtn D st q L k = 0 ↔ ¬ Rg (nx D st) (nC D) k := (hK0.2.2.2.2.2.1 k hk').symm.trans (KI_Rg hnl hK0 hk')
    have fin : ∀ ρ0 : ah_H, Fr (fun a j => a = f + 2 + k ∨ a = f + 10 + k) τ ρ0 → (∀ j, j < 30 * nR D → ah_L ρ0 (f + 2 + k) j = iL ((wat D st cp k j : Nat) : Int)) → (st k ≠ none → ∀ r u, r < nR D → u < 30 → ah_L ρ0 (f + 10 + k) (30 * r + u) = iL ((fld D st cp r k u : Nat) : Int)) → ∃ ρ, (bq (fun r1 => f_X1_run_76 fu f (nI k + nI 1) r1) (Unit.unit : Unit) (f_X1_findPeak f (nI k) ρ0)) = some ρ ∧ Fr (Xe f) σ ρ ∧ ∀ c, c < nC D → FD ρ f D st cp c := by
      intro ρ0 z1 z2 z3
      have z0 : Fr (Xe f) τ ρ0 := z1.mono (fun a j z => by unfold Xe; omega)
      have hρ := h.fr (z0.mono Xe_f)
      rw [c_findPeak hρ hk' (fun j hj => wat_b h.1.t hk' hj) z2, bq_s, zadd]
      have z4 : Fr (Xe f) τ (ah_wI ρ0 (f + 18) k (nI (pkx (wat D st cp k) (30 * nR D)))) := z0.wI (by unfold Xe; omega)
      refine ih (k + 1) fu _ (by omega) (by omega) (hfr.trans z4) (fun c hc => ?_) (fun c h1 h2 j => ?_)
      · by_cases e : c = k
        · subst e
          exact ⟨fun j hj => by rw [ah_L_wI]; exact z2 j hj, rI_eq, fun hs r u hr0 hu => by rw [ah_L_wI]; exact z3 hs r u hr0 hu⟩
        · obtain ⟨d1, d2, d3⟩ := hD c (by omega)
          refine ⟨fun j hj => ?_, ?_, fun hs r u hr0 hu => ?_⟩
          · rw [ah_L_wI, z1.L (by omega)]; exact d1 j hj
          · rw [rI_ne (Or.inr e), z1.I (by omega)]; exact d2
          · rw [ah_L_wI, z1.L (by omega)]; exact d3 hs r u hr0 hu
      · rw [ah_L_wI, ah_L_wI, z1.L (by omega), z1.L (by omega)]
        exact hO c (by omega) h2 j
    show ∃ ρ, f_X1_run_76_b _ _ _ _ = _ ∧ _
    unfold f_X1_run_76_b f_X1_run_116
    simp only [to_bq, l_0, l_1, l_2, l_3, l_4, l_5, l_6, l_7, l_8, l_9, l_10, l_11, l_12, l_13, l_14, l_15, l_16, l_17, l_18, l_19, l_20, l_21, l_22, l_23, l_24, l_25, l_26, l_27, l_28, l_29, l_30, l_31, l_32, l_40, l_41, l_42, l_43, l_44, l_45, l_46, l_47, l_48, l_49, l_50, l_51, l_52, l_53, l_54, l_55, l_56, l_57, l_58, l_59, l_60, l_61, l_62, l_63, l_64, l_72, l_97, l_99, l_100, l_104, l_120, l_122, l_128, l_140, l_255, l_256, l_257, l_258, l_260, l_261, l_262, l_364, l_680, l_700, l_701, l_840, l_999, l_1023, l_1024, l_9999, l_10000, l_1000000, lm]
    simp (disch := first | (with_reducible assumption) | omega | exact ⟨by omega, by omega⟩ | ((with_reducible first | apply Wf.wI | apply Wf.wL | apply Wf.fL | apply Wf.fI | apply Wf.fr); (repeat (with_reducible first | assumption | apply Wf.wI | apply Wf.wL | apply Wf.fL | apply Wf.fI | apply Wf.fr)))) only [ck_f, gI_f, gL_f, pI_f, pZ0_f, pZ1_f, pL_f, gR_f_0, gR_f_1, gR_f_2, gR_f_3, gR_f_4, gR_f_5, gR_f_7, gR_f_8, pR_f_8, aR_water, aR_spill, aL_water, sL_water, len_water, aL_spill, sL_spill, len_spill, aL_f17, sL_f17, len_f17, aI_f18, sI_f18, len_f18, aI_f19, sI_f19, len_f19, aI_f20, sI_f20, len_f20, aI_fst, sI_fst, len_fst, ck_t, gI_t, gL_t, pI_t, pZ0_t, pZ1_t, pL_t, ck_w, gI_w, gL_w, pI_w, pZ0_w, pZ1_w, pL_w, gR_t_1, gR_t_5, gR_t_7, gR_t_9, gR_t_10, gR_t_11, gR_t_12, gR_t_15, gR_w_2, gR_w_3, gR_w_4, gR_w_5, gR_w_6, gR_w_7, aR_crow, aR_srow, aR_prow, aR_rrow, aI_crow, sI_crow, len_crow, aI_srow, sI_srow, len_srow, aI_prow, sI_prow, len_prow, aI_rrow, sI_rrow, len_rrow, aI_t25, sI_t25, len_t25, aI_t31, sI_t31, len_t31, aI_t32, sI_t32, len_t32, aI_t34, sI_t34, len_t34, aI_t35, sI_t35, len_t35, aI_t36, sI_t36, len_t36, aI_t37, sI_t37, len_t37, aL_t38, sL_t38, len_t38, aL_t39, sL_t39, len_t39, bq_s, bd_s, mp_s, rz_0, rz_1, bI_rz, zadd, zmul, zsub, le_nI, lt_nI, eq_nI, neg_nI, gen_nI, neg_lt, neg_le, neg_lt', neg_le', nI_lt0, if_true, if_false, ite_true, ite_false, reduceIte, not_true, not_false, and_true, true_and, and_false, false_and, or_true, true_or, or_false, false_or, eq_self, hp, tr_C h.1, hwt, show (nC D ≤ k) = False from eq_false (by omega)]
    by_cases qz : wtn D st q L k ≤ 0
    · rw [if_pos qz]
      have hRk := hR.mp (by omega)
      obtain ⟨j0, hj0, ej0⟩ := (KI_Rg hnl hK0 hk').mpr hRk
      refine fin τ Fr.rfl (fun j hj => ?_) (fun hs r u hr0 hu => ?_)
      · rw [(hO k (by omega) hk' j).1]
        have := hP0.1 k hk' (j / 30) (j % 30) (by omega) (by omega)
        rw [show 30 * (j / 30) + j % 30 = j by omega] at this
        rw [this]
        unfold wat
        rw [cif_f hRk, gin_full hnl hk' hRk]
        intro o ho e
        obtain ⟨j', z1, z2, z3⟩ := hK0.2.2.2.2.2.2 j0 hj0 o ho (ej0 ▸ e)
        exact ⟨j', z1, z3⟩
      · rw [(hO k (by omega) hk' _).2, ← ej0, hP0.2 j0 hj0 (ej0 ▸ hs) r u hr0 hu, ej0]
        unfold fld
        rw [cif_f (fun z => z.elim hs hRk)]
    · rw [if_neg qz]
      have hRk : Rg (nx D st) (nC D) k := Classical.byContradiction (fun z => qz (by have := hR.mpr z; omega))
      have hw1 : Wf (ah_fL τ (f + 2 + k) 0 120 0) := hw.fL _ _ _ _
      simp (disch := first | (with_reducible assumption) | omega | exact ⟨by omega, by omega⟩ | ((with_reducible first | apply Wf.wI | apply Wf.wL | apply Wf.fL | apply Wf.fI | apply Wf.fr); (repeat (with_reducible first | assumption | apply Wf.wI | apply Wf.wL | apply Wf.fL | apply Wf.fI | apply Wf.fr)))) only [ck_f, gI_f, gL_f, pI_f, pZ0_f, pZ1_f, pL_f, gR_f_0, gR_f_1, gR_f_2, gR_f_3, gR_f_4, gR_f_5, gR_f_7, gR_f_8, pR_f_8, aR_water, aR_spill, aL_water, sL_water, len_water, aL_spill, sL_spill, len_spill, aL_f17, sL_f17, len_f17, aI_f18, sI_f18, len_f18, aI_f19, sI_f19, len_f19, aI_f20, sI_f20, len_f20, aI_fst, sI_fst, len_fst, bq_s, bd_s, mp_s, rz_0, rz_1, bI_rz, zadd, zmul, zsub, le_nI, lt_nI, eq_nI, neg_nI, gen_nI, neg_lt, neg_le, neg_lt', neg_le', nI_lt0, c_fillL (0 : Int64) hw (S0_water hfl (show k < 7 by omega)) (by omega), c_fillL (0 : Int64) hw1 (S0_spill hfl (show k < 7 by omega)) (by omega)]
      have ff : Fr (fun a j => a = f + 2 + k ∨ a = f + 10 + k) τ (ah_fL (ah_fL τ (f + 2 + k) 0 120 0) (f + 10 + k) 0 120 0) := (Fr.rfl.fL (fun j _ _ => Or.inl rfl)).fL (fun j _ _ => Or.inr rfl)
      refine fin _ ff (fun j hj => ?_) (fun hs r u hr0 hu => ?_)
      · rw [L_fL, if_neg (by omega), L_fL, if_pos (by omega)]
        unfold wat
        rw [cif_t hRk]
        rfl
      · rw [L_fL, if_pos (by omega)]
        unfold fld
        rw [cif_t (Or.inr hRk)]
        rfl
theorem c_run7 (h0 : FE σ f t D st cp) : ∀ m k fu τ, k + m = nC D → m < fu → Fr (Xd f) σ τ → (∀ c, c < k → ∀ r u, r < nR D → u < 30 → ah_L τ (f + 2 + c) (30 * r + u) = iL ((ra D r c u : Nat) : Int)) → ∃ ρ, f_X1_run_7 fu f (nI k) τ = f_X1_run_29 f ρ ∧ Fr (Xd f) σ ρ ∧ ∀ c, c < nC D → ∀ r u, r < nR D → u < 30 → ah_L ρ (f + 2 + c) (30 * r + u) = iL ((ra D r c u : Nat) : Int) := by
  have b1 := h0.1.bd
  have ht := h0.1.tn
  have hfl := h0.2.1
  intro m
  induction m with
  | zero =>
    intro k fu τ hk hf hfr hI
    obtain ⟨fu, rfl⟩ : ∃ q, fu = q + 1 := ⟨fu - 1, by omega⟩
    obtain rfl : k = nC D := by omega
    have h := h0.fr (hfr.mono Xd_f)
    have hw := h.w
    have hp := h.2.2.1
    refine ⟨τ, ?_, hfr, hI⟩
    show f_X1_run_7_b _ _ _ _ = _
    unfold f_X1_run_7_b
    simp only [to_bq, l_0, l_1, l_2, l_3, l_4, l_5, l_6, l_7, l_8, l_9, l_10, l_11, l_12, l_13, l_14, l_15, l_16, l_17, l_18, l_19, l_20, l_21, l_22, l_23, l_24, l_25, l_26, l_27, l_28, l_29, l_30, l_31, l_32, l_40, l_41, l_42, l_43, l_44, l_45, l_46, l_47, l_48, l_49, l_50, l_51, l_52, l_53, l_54, l_55, l_56, l_57, l_58, l_59, l_60, l_61, l_62, l_63, l_64, l_72, l_97, l_99, l_100, l_104, l_120, l_122, l_128, l_140, l_255, l_256, l_257, l_258, l_260, l_261, l_262, l_364, l_680, l_700, l_701, l_840, l_999, l_1023, l_1024, l_9999, l_10000, l_1000000, lm]
    simp (disch := first | (with_reducible assumption) | omega | exact ⟨by omega, by omega⟩ | ((with_reducible first | apply Wf.wI | apply Wf.wL | apply Wf.fL | apply Wf.fI | apply Wf.fr); (repeat (with_reducible first | assumption | apply Wf.wI | apply Wf.wL | apply Wf.fL | apply Wf.fI | apply Wf.fr)))) only [ck_f, gI_f, gL_f, pI_f, pZ0_f, pZ1_f, pL_f, gR_f_0, gR_f_1, gR_f_2, gR_f_3, gR_f_4, gR_f_5, gR_f_7, gR_f_8, pR_f_8, aR_water, aR_spill, aL_water, sL_water, len_water, aL_spill, sL_spill, len_spill, aL_f17, sL_f17, len_f17, aI_f18, sI_f18, len_f18, aI_f19, sI_f19, len_f19, aI_f20, sI_f20, len_f20, aI_fst, sI_fst, len_fst, ck_t, gI_t, gL_t, pI_t, pZ0_t, pZ1_t, pL_t, ck_w, gI_w, gL_w, pI_w, pZ0_w, pZ1_w, pL_w, gR_t_1, gR_t_5, gR_t_7, gR_t_9, gR_t_10, gR_t_11, gR_t_12, gR_t_15, gR_w_2, gR_w_3, gR_w_4, gR_w_5, gR_w_6, gR_w_7, aR_crow, aR_srow, aR_prow, aR_rrow, aI_crow, sI_crow, len_crow, aI_srow, sI_srow, len_srow, aI_prow, sI_prow, len_prow, aI_rrow, sI_rrow, len_rrow, aI_t25, sI_t25, len_t25, aI_t31, sI_t31, len_t31, aI_t32, sI_t32, len_t32, aI_t34, sI_t34, len_t34, aI_t35, sI_t35, len_t35, aI_t36, sI_t36, len_t36, aI_t37, sI_t37, len_t37, aL_t38, sL_t38, len_t38, aL_t39, sL_t39, len_t39, bq_s, bd_s, mp_s, rz_0, rz_1, bI_rz, zadd, zmul, zsub, le_nI, lt_nI, eq_nI, neg_nI, gen_nI, neg_lt, neg_le, neg_lt', neg_le', nI_lt0, if_true, if_false, ite_true, ite_false, reduceIte, not_true, not_false, and_true, true_and, and_false, false_and, or_true, true_or, or_false, false_or, eq_self, hp, tr_C h.1, Nat.le_refl]
  | succ m ih =>
    intro k fu τ hk hf hfr hI
    obtain ⟨fu, rfl⟩ : ∃ q, fu = q + 1 := ⟨fu - 1, by omega⟩
    have h := h0.fr (hfr.mono Xd_f)
    have hw := h.w
    have hp := h.2.2.1
    have hk' : k < nC D := by omega
    obtain ⟨ρ, g1, g2, g3⟩ := c_rainOn h hk'
    show ∃ ρ, f_X1_run_7_b _ _ _ _ = _ ∧ _
    unfold f_X1_run_7_b
    simp only [to_bq, l_0, l_1, l_2, l_3, l_4, l_5, l_6, l_7, l_8, l_9, l_10, l_11, l_12, l_13, l_14, l_15, l_16, l_17, l_18, l_19, l_20, l_21, l_22, l_23, l_24, l_25, l_26, l_27, l_28, l_29, l_30, l_31, l_32, l_40, l_41, l_42, l_43, l_44, l_45, l_46, l_47, l_48, l_49, l_50, l_51, l_52, l_53, l_54, l_55, l_56, l_57, l_58, l_59, l_60, l_61, l_62, l_63, l_64, l_72, l_97, l_99, l_100, l_104, l_120, l_122, l_128, l_140, l_255, l_256, l_257, l_258, l_260, l_261, l_262, l_364, l_680, l_700, l_701, l_840, l_999, l_1023, l_1024, l_9999, l_10000, l_1000000, lm]
    simp (disch := first | (with_reducible assumption) | omega | exact ⟨by omega, by omega⟩ | ((with_reducible first | apply Wf.wI | apply Wf.wL | apply Wf.fL | apply Wf.fI | apply Wf.fr); (repeat (with_reducible first | assumption | apply Wf.wI | apply Wf.wL | apply Wf.fL | apply Wf.fI | apply Wf.fr)))) only [ck_f, gI_f, gL_f, pI_f, pZ0_f, pZ1_f, pL_f, gR_f_0, gR_f_1, gR_f_2, gR_f_3, gR_f_4, gR_f_5, gR_f_7, gR_f_8, pR_f_8, aR_water, aR_spill, aL_water, sL_water, len_water, aL_spill, sL_spill, len_spill, aL_f17, sL_f17, len_f17, aI_f18, sI_f18, len_f18, aI_f19, sI_f19, len_f19, aI_f20, sI_f20, len_f20, aI_fst, sI_fst, len_fst, ck_t, gI_t, gL_t, pI_t, pZ0_t, pZ1_t, pL_t, ck_w, gI_w, gL_w, pI_w, pZ0_w, pZ1_w, pL_w, gR_t_1, gR_t_5, gR_t_7, gR_t_9, gR_t_10, gR_t_11, gR_t_12, gR_t_15, gR_w_2, gR_w_3, gR_w_4, gR_w_5, gR_w_6, gR_w_7, aR_crow, aR_srow, aR_prow, aR_rrow, aI_crow, sI_crow, len_crow, aI_srow, sI_srow, len_srow, aI_prow, sI_prow, len_prow, aI_rrow, sI_rrow, len_rrow, aI_t25, sI_t25, len_t25, aI_t31, sI_t31, len_t31, aI_t32, sI_t32, len_t32, aI_t34, sI_t34, len_t34, aI_t35, sI_t35, len_t35, aI_t36, sI_t36, len_t36, aI_t37, sI_t37, len_t37, aL_t38, sL_t38, len_t38, aL_t39, sL_t39, len_t39, bq_s, bd_s, mp_s, rz_0, rz_1, bI_rz, zadd, zmul, zsub, le_nI, lt_nI, eq_nI, neg_nI, gen_nI, neg_lt, neg_le, neg_lt', neg_le', nI_lt0, if_true, if_false, ite_true, ite_false, reduceIte, not_true, not_false, and_true, true_and, and_false, false_and, or_true, true_or, or_false, false_or, eq_self, hp, tr_C h.1, g1, show (nC D ≤ k) = False from eq_false (by omega)]
    refine ih (k + 1) fu ρ (by omega) (by omega) (hfr.trans (g2.mono (fun a j z => by unfold XR at z; unfold Xd; omega))) (fun c hc r u hr0 hu => ?_)
    by_cases e : c = k
    · subst e; exact g3 r u hr0 hu
    · rw [g2.L (by unfold XR; omega)]; exact hI c (by omega) r u hr0 hu
/-- what a run writes -/
def Xn (f a j : Nat) : Prop := Xf f a j ∨ a = f ∧ j = 8
theorem c_run (h : TR σ t D) (hfl : Fl f) (h4 : ∀ c, c < nC D → ah_I σ (fst_ f) c = sv (st c) ∧ ∀ s, st c = some s → s < nS D) (h5 : ∀ c, c < nC D → ah_L σ (f+17) c = iL ((cp c : Nat) : Int)) (h6 : ∀ c, cp c ≤ 9223372036854775807) : ∃ ρ, f_X1_run f t σ = some ρ ∧ Fr (Xn f) σ ρ ∧ ah_R ρ f 8 = some t ∧ ∀ c, c < nC D → FD ρ f D st cp c := by
  have b1 := h.bd
  have hw := h.w
  have ht := h.tn
  have hT : t = 2 ∨ t = 42 := ht
  have hF : f = 118 ∨ f = 139 ∨ f = 201 := hfl
  have hm : (f, 8) ∈ mut0 := by rcases hfl with rfl | rfl | rfl <;> decide
  have f1 : Fr (Xn f) σ (ah_wR σ f 8 (some t)) := Fr.rfl.wR hm (by unfold Xn; omega)
  have hE : FE (ah_wR σ f 8 (some t)) f t D st cp := ⟨h.fr f1 (fun a j _ _ => by unfold Xn Xf; omega), hfl, rR_eq, fun c hc => ⟨by rw [ah_I_wR]; exact (h4 c hc).1, (h4 c hc).2⟩, fun c hc => by rw [ah_L_wR]; exact h5 c hc, h6⟩
  unfold f_X1_run f_X1_run_0
  simp only [to_bq, l_0, l_1, l_2, l_3, l_4, l_5, l_6, l_7, l_8, l_9, l_10, l_11, l_12, l_13, l_14, l_15, l_16, l_17, l_18, l_19, l_20, l_21, l_22, l_23, l_24, l_25, l_26, l_27, l_28, l_29, l_30, l_31, l_32, l_40, l_41, l_42, l_43, l_44, l_45, l_46, l_47, l_48, l_49, l_50, l_51, l_52, l_53, l_54, l_55, l_56, l_57, l_58, l_59, l_60, l_61, l_62, l_63, l_64, l_72, l_97, l_99, l_100, l_104, l_120, l_122, l_128, l_140, l_255, l_256, l_257, l_258, l_260, l_261, l_262, l_364, l_680, l_700, l_701, l_840, l_999, l_1023, l_1024, l_9999, l_10000, l_1000000, lm]
  simp (disch := first | (with_reducible assumption) | omega | exact ⟨by omega, by omega⟩ | ((with_reducible first | apply Wf.wI | apply Wf.wL | apply Wf.fL | apply Wf.fI | apply Wf.fr); (repeat (with_reducible first | assumption | apply Wf.wI | apply Wf.wL | apply Wf.fL | apply Wf.fI | apply Wf.fr)))) only [ck_f, gI_f, gL_f, pI_f, pZ0_f, pZ1_f, pL_f, gR_f_0, gR_f_1, gR_f_2, gR_f_3, gR_f_4, gR_f_5, gR_f_7, gR_f_8, pR_f_8, aR_water, aR_spill, aL_water, sL_water, len_water, aL_spill, sL_spill, len_spill, aL_f17, sL_f17, len_f17, aI_f18, sI_f18, len_f18, aI_f19, sI_f19, len_f19, aI_f20, sI_f20, len_f20, aI_fst, sI_fst, len_fst, bq_s, bd_s, mp_s, rz_0, rz_1, bI_rz, zadd, zmul, zsub, le_nI, lt_nI, eq_nI, neg_nI, gen_nI, neg_lt, neg_le, neg_lt', neg_le', nI_lt0]
  obtain ⟨ρ1, g1, g2, g3⟩ := c_run7 hE (nC D) 0 5000 _ (by omega) (by omega) Fr.rfl (fun c hc => by omega)
  rw [g1]
  have hE1 := hE.fr (g2.mono Xd_f)
  unfold f_X1_run_29
  simp only [to_bq, l_0, l_1, l_2, l_3, l_4, l_5, l_6, l_7, l_8, l_9, l_10, l_11, l_12, l_13, l_14, l_15, l_16, l_17, l_18, l_19, l_20, l_21, l_22, l_23, l_24, l_25, l_26, l_27, l_28, l_29, l_30, l_31, l_32, l_40, l_41, l_42, l_43, l_44, l_45, l_46, l_47, l_48, l_49, l_50, l_51, l_52, l_53, l_54, l_55, l_56, l_57, l_58, l_59, l_60, l_61, l_62, l_63, l_64, l_72, l_97, l_99, l_100, l_104, l_120, l_122, l_128, l_140, l_255, l_256, l_257, l_258, l_260, l_261, l_262, l_364, l_680, l_700, l_701, l_840, l_999, l_1023, l_1024, l_9999, l_10000, l_1000000, lm]
  obtain ⟨ρ2, L, q, k1, k2, k3⟩ := c_sort hE1
  rw [k1, bq_s]
  have hE2 := hE1.fr (k2.mono Xs_f)
  have hLn := KI_L k3
  obtain ⟨ρ3, j1, j2, j3⟩ := c_run35 hE2 k3 L 0 5000 ρ2 (by omega) (by omega) Fr.rfl ⟨fun c hc r u hr0 hu => by
    rw [k2.L (by unfold Xs; omega), g3 c hc r u hr0 hu, gin_0]; rfl, fun j hj => by omega⟩
  rw [j1]
  have hE3 := hE2.fr (j2.mono Xd_f)
  unfold f_X1_run_74
  rw [l_0]
  obtain ⟨ρ4, i1, i2, i3⟩ := c_run76 hE3 (k3.xd j2) j3 (nC D) 0 5000 ρ3 (by omega) (by omega) Fr.rfl (fun c hc => by omega) (fun c _ _ j => ⟨rfl, rfl⟩)
  have hall : Fr (Xf f) (ah_wR σ f 8 (some t)) ρ4 := (g2.mono Xd_f).trans ((k2.mono Xs_f).trans ((j2.mono Xd_f).trans (i2.mono Xe_f)))
  exact ⟨ρ4, i1, f1.trans (hall.mono (fun a j z => Or.inl z)), (hall.R (Or.inr (by unfold Xf; omega))).trans rR_eq, i3⟩
/-- the greatest water of a corner -/
noncomputable def gwt (D : DD) (st : Nat → Option Nat) (cp : Nat → Nat) (c : Nat) : Nat := if nR D = 0 then 0 else wat D st cp c (pkx (wat D st cp c) (30 * nR D))
theorem gwt_b (ht : MT D) {c : Nat} (hc : c < nC D) : gwt D st cp c ≤ 1400000000 := by
  unfold gwt
  split
  · omega
  · exact wat_b ht hc (pkx_lt _ (by omega))
theorem c_greatest (h : TR σ t D) (hfl : Fl f) (hp : ah_R σ f 8 = some t) {c : Nat} (hc : c < nC D) (hD : FD σ f D st cp c) : f_X1_greatest f (nI c) σ = some (iL ((gwt D st cp c : Nat) : Int), σ) := by
  have b1 := h.bd
  have hw := h.w
  have ht := h.tn
  unfold f_X1_greatest f_X1_greatest_0 gwt
  simp only [to_bq, l_0, l_1, l_2, l_3, l_4, l_5, l_6, l_7, l_8, l_9, l_10, l_11, l_12, l_13, l_14, l_15, l_16, l_17, l_18, l_19, l_20, l_21, l_22, l_23, l_24, l_25, l_26, l_27, l_28, l_29, l_30, l_31, l_32, l_40, l_41, l_42, l_43, l_44, l_45, l_46, l_47, l_48, l_49, l_50, l_51, l_52, l_53, l_54, l_55, l_56, l_57, l_58, l_59, l_60, l_61, l_62, l_63, l_64, l_72, l_97, l_99, l_100, l_104, l_120, l_122, l_128, l_140, l_255, l_256, l_257, l_258, l_260, l_261, l_262, l_364, l_680, l_700, l_701, l_840, l_999, l_1023, l_1024, l_9999, l_10000, l_1000000, lm]
  simp (disch := first | (with_reducible assumption) | omega | exact ⟨by omega, by omega⟩ | ((with_reducible first | apply Wf.wI | apply Wf.wL | apply Wf.fL | apply Wf.fI | apply Wf.fr); (repeat (with_reducible first | assumption | apply Wf.wI | apply Wf.wL | apply Wf.fL | apply Wf.fI | apply Wf.fr)))) only [ck_f, gI_f, gL_f, pI_f, pZ0_f, pZ1_f, pL_f, gR_f_0, gR_f_1, gR_f_2, gR_f_3, gR_f_4, gR_f_5, gR_f_7, gR_f_8, pR_f_8, aR_water, aR_spill, aL_water, sL_water, len_water, aL_spill, sL_spill, len_spill, aL_f17, sL_f17, len_f17, aI_f18, sI_f18, len_f18, aI_f19, sI_f19, len_f19, aI_f20, sI_f20, len_f20, aI_fst, sI_fst, len_fst, ck_t, gI_t, gL_t, pI_t, pZ0_t, pZ1_t, pL_t, ck_w, gI_w, gL_w, pI_w, pZ0_w, pZ1_w, pL_w, gR_t_1, gR_t_5, gR_t_7, gR_t_9, gR_t_10, gR_t_11, gR_t_12, gR_t_15, gR_w_2, gR_w_3, gR_w_4, gR_w_5, gR_w_6, gR_w_7, aR_crow, aR_srow, aR_prow, aR_rrow, aI_crow, sI_crow, len_crow, aI_srow, sI_srow, len_srow, aI_prow, sI_prow, len_prow, aI_rrow, sI_rrow, len_rrow, aI_t25, sI_t25, len_t25, aI_t31, sI_t31, len_t31, aI_t32, sI_t32, len_t32, aI_t34, sI_t34, len_t34, aI_t35, sI_t35, len_t35, aI_t36, sI_t36, len_t36, aI_t37, sI_t37, len_t37, aL_t38, sL_t38, len_t38, aL_t39, sL_t39, len_t39, bq_s, bd_s, mp_s, rz_0, rz_1, bI_rz, zadd, zmul, zsub, le_nI, lt_nI, eq_nI, neg_nI, gen_nI, neg_lt, neg_le, neg_lt', neg_le', nI_lt0, hp, tr_N h, q_0]
  by_cases q : nR D = 0
  · rw [if_pos q, if_pos q]; rfl
  · rw [if_neg q, if_neg q]
    have hpk := pkx_lt (wat D st cp c) (m := 30 * nR D) (by omega)
    simp (disch := first | (with_reducible assumption) | omega | exact ⟨by omega, by omega⟩ | ((with_reducible first | apply Wf.wI | apply Wf.wL | apply Wf.fL | apply Wf.fI | apply Wf.fr); (repeat (with_reducible first | assumption | apply Wf.wI | apply Wf.wL | apply Wf.fL | apply Wf.fI | apply Wf.fr)))) only [ck_f, gI_f, gL_f, pI_f, pZ0_f, pZ1_f, pL_f, gR_f_0, gR_f_1, gR_f_2, gR_f_3, gR_f_4, gR_f_5, gR_f_7, gR_f_8, pR_f_8, aR_water, aR_spill, aL_water, sL_water, len_water, aL_spill, sL_spill, len_spill, aL_f17, sL_f17, len_f17, aI_f18, sI_f18, len_f18, aI_f19, sI_f19, len_f19, aI_f20, sI_f20, len_f20, aI_fst, sI_fst, len_fst, ck_t, gI_t, gL_t, pI_t, pZ0_t, pZ1_t, pL_t, ck_w, gI_w, gL_w, pI_w, pZ0_w, pZ1_w, pL_w, gR_t_1, gR_t_5, gR_t_7, gR_t_9, gR_t_10, gR_t_11, gR_t_12, gR_t_15, gR_w_2, gR_w_3, gR_w_4, gR_w_5, gR_w_6, gR_w_7, aR_crow, aR_srow, aR_prow, aR_rrow, aI_crow, sI_crow, len_crow, aI_srow, sI_srow, len_srow, aI_prow, sI_prow, len_prow, aI_rrow, sI_rrow, len_rrow, aI_t25, sI_t25, len_t25, aI_t31, sI_t31, len_t31, aI_t32, sI_t32, len_t32, aI_t34, sI_t34, len_t34, aI_t35, sI_t35, len_t35, aI_t36, sI_t36, len_t36, aI_t37, sI_t37, len_t37, aL_t38, sL_t38, len_t38, aL_t39, sL_t39, len_t39, bq_s, bd_s, mp_s, rz_0, rz_1, bI_rz, zadd, zmul, zsub, le_nI, lt_nI, eq_nI, neg_nI, gen_nI, neg_lt, neg_le, neg_lt', neg_le', nI_lt0, hD.2.1, hD.1 _ hpk]
end
