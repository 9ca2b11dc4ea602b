/-! THE CLASS: stages -/
section
variable {σ : ah_H} {t : Nat} {D : DD}
/-- whatever leaves the cells below 160 alone -/
theorem CJ.fr {X : Nat → Nat → Prop} {τ : ah_H} (h : CJ σ t D) (g : Fr X σ τ) (hX : ∀ a j, a < 160 → ¬ X a j) : CJ τ t D := by
  obtain ⟨h1, h2, h3, h4, ⟨h5, h6⟩, ⟨h7, h8⟩, h9⟩ := h
  have hT : t = 2 ∨ t = 42 := h1.1.tn
  exact ⟨h1.fr g (fun a j _ => hX a j (by omega)), h2.fr g (fun a j _ => hX a j (by omega)), (g.R (Or.inr (hX _ _ (by omega)))).trans h3, (g.R (Or.inr (hX _ _ (by omega)))).trans h4, ⟨(g.I (hX _ _ (by omega))).trans h5, fun j hj => (g.I (hX _ _ (by omega))).trans (h6 j hj)⟩, ⟨(g.I (hX _ _ (by omega))).trans h7, (g.I (hX _ _ (by omega))).trans h8⟩, fun k hk => (g.I (hX _ _ (by omega))).trans (h9 k hk)⟩
def SE (σ : ah_H) (t : Nat) (D : DD) : Prop := CJ σ t D ∧ ah_R σ 222 4 = some t
def Xz (a j : Nat) : Prop := a = 222 ∧ j ≠ 4 ∨ a = 223 ∨ a = 224
theorem SE.fr {τ : ah_H} (h : SE σ t D) (g : Fr Xz σ τ) : SE τ t D := ⟨h.1.fr g (fun a j _ => by unfold Xz; omega), (g.R (Or.inr (by unfold Xz; omega))).trans h.2⟩
theorem c_canBuild (h : SE σ t D) {c Q : Nat} (hc : c < nC D) (hQ : Q < 2 ^ nC D) : f_X6_canBuild 222 (nI c) (nI Q) σ = some (cI (blb D Q c), σ) := by
  have hw := h.1.w
  have b1 := h.1.r.bd
  have p7 : 2 ^ nC D ≤ 128 := Nat.pow_le_pow_right (n := 2) (by omega) b1.1
  unfold f_X6_canBuild f_X6_canBuild_0
  simp only [to_bq, l_0, l_1, l_2, l_3, l_4, l_5, l_6, l_7, l_8, l_9, l_10, l_11, l_12, l_13, l_14, l_15, l_16, l_17, l_18, l_19, l_20, l_21, l_22, l_23, l_24, l_25, l_26, l_27, l_28, l_29, l_30, l_31, l_32, l_40, l_41, l_42, l_43, l_44, l_45, l_46, l_47, l_48, l_49, l_50, l_51, l_52, l_53, l_54, l_55, l_56, l_57, l_58, l_59, l_60, l_61, l_62, l_63, l_64, l_72, l_97, l_99, l_100, l_104, l_120, l_122, l_128, l_140, l_255, l_256, l_257, l_258, l_260, l_261, l_262, l_364, l_680, l_700, l_701, l_840, l_999, l_1023, l_1024, l_9999, l_10000, l_1000000, lm]
  simp (disch := first | (with_reducible assumption) | omega | exact ⟨by omega, by omega⟩ | ((with_reducible first | apply Wf.wI | apply Wf.wL | apply Wf.fL | apply Wf.fI | apply Wf.fr); (repeat (with_reducible first | assumption | apply Wf.wI | apply Wf.wL | apply Wf.fL | apply Wf.fI | apply Wf.fr)))) only [ck_222, gI_222, gL_222, pI_222, pZ0_222, pZ1_222, pL_222, gR_222_1, gR_222_2, gR_222_3, pR_222_4, gR_222_4, ck_90, gI_90, gL_90, pI_90, pZ0_90, pZ1_90, pL_90, gR_90_0, gR_90_1, gR_90_2, gR_90_3, gR_90_6, gR_90_8, bq_s, bd_s, mp_s, rz_0, rz_1, bI_rz, aI_91, h.1.1.sn hc]
  cases hx : stD D c with
  | none =>
    rw [if_pos rfl, cI_f]
    rintro ⟨-, y, hy, -⟩
    rw [nx_none.mpr hx] at hy; cases hy
  | some s =>
    obtain ⟨l1, -⟩ := lb h.1.r.t h.1.n hc hx
    obtain ⟨n1, -⟩ := h.1.1.net hc hx
    have ho := h.1.r.t.qoth (c := c) l1
    have hnx : nx D (stD D) c = some (oth D s c) := by unfold nx; rw [hx]; rfl
    rw [if_neg (by intro z; cases z), n1]
    simp only [z_bit (show Q < 2147483648 by omega) (show c < 31 by omega), ite_n]
    by_cases q1 : Q.testBit c = true
    · rw [if_pos q1, cI_f (fun z => z.1 q1)]
    · rw [if_neg q1, h.2, bq_s, c_otherEnd h.1.r l1 (by omega), bq_s]
      simp only [z_bit (show Q < 2147483648 by omega) (show oth D s c < 31 by omega), ite_n]
      by_cases q2 : Q.testBit (oth D s c) = true
      · rw [if_pos q2, cI_t ⟨q1, _, hnx, q2⟩]
      · rw [if_neg q2, cI_f]
        rintro ⟨-, y, hy, hqy⟩
        rw [hnx] at hy; cases hy; exact q2 hqy
theorem c_cart4 (h : SE σ t D) {Q : Nat} (hQ : Q < 2 ^ nC D) : ∀ m k fu, k + m = nC D → m < fu → f_X6_carting_4 fu 222 (nI Q) (nI (aou D Q k)) (nI k) σ = some (iL ((crt D Q : Nat) : Int), σ) := by
  have hw := h.1.w
  have b1 := h.1.r.bd
  have htn := h.1.r.tn
  have p7 : 2 ^ nC D ≤ 128 := Nat.pow_le_pow_right (n := 2) (by omega) b1.1
  intro m
  induction m with
  | zero =>
    intro k fu hk hf
    obtain ⟨fu, rfl⟩ : ∃ q, fu = q + 1 := ⟨fu - 1, by omega⟩
    obtain rfl : k = nC D := by omega
    have ha := aou_b h.1.r.t Q (nC D) (Nat.le_refl _)
    show f_X6_carting_4_b _ _ _ _ _ _ = _
    unfold f_X6_carting_4_b f_X6_carting_47
    simp only [to_bq, l_0, l_1, l_2, l_3, l_4, l_5, l_6, l_7, l_8, l_9, l_10, l_11, l_12, l_13, l_14, l_15, l_16, l_17, l_18, l_19, l_20, l_21, l_22, l_23, l_24, l_25, l_26, l_27, l_28, l_29, l_30, l_31, l_32, l_40, l_41, l_42, l_43, l_44, l_45, l_46, l_47, l_48, l_49, l_50, l_51, l_52, l_53, l_54, l_55, l_56, l_57, l_58, l_59, l_60, l_61, l_62, l_63, l_64, l_72, l_97, l_99, l_100, l_104, l_120, l_122, l_128, l_140, l_255, l_256, l_257, l_258, l_260, l_261, l_262, l_364, l_680, l_700, l_701, l_840, l_999, l_1023, l_1024, l_9999, l_10000, l_1000000, lm]
    simp (disch := first | (with_reducible assumption) | omega | exact ⟨by omega, by omega⟩ | ((with_reducible first | apply Wf.wI | apply Wf.wL | apply Wf.fL | apply Wf.fI | apply Wf.fr); (repeat (with_reducible first | assumption | apply Wf.wI | apply Wf.wL | apply Wf.fL | apply Wf.fI | apply Wf.fr)))) only [ck_222, gI_222, gL_222, pI_222, pZ0_222, pZ1_222, pL_222, gR_222_1, gR_222_2, gR_222_3, pR_222_4, gR_222_4, ck_t, gI_t, gL_t, pI_t, pZ0_t, pZ1_t, pL_t, ck_w, gI_w, gL_w, pI_w, pZ0_w, pZ1_w, pL_w, gR_t_1, gR_t_5, gR_t_7, gR_t_9, gR_t_10, gR_t_11, gR_t_12, gR_t_15, gR_w_2, gR_w_3, gR_w_4, gR_w_5, gR_w_6, gR_w_7, aR_crow, aR_srow, aR_prow, aR_rrow, aI_crow, sI_crow, len_crow, aI_srow, sI_srow, len_srow, aI_prow, sI_prow, len_prow, aI_rrow, sI_rrow, len_rrow, aI_t25, sI_t25, len_t25, aI_t31, sI_t31, len_t31, aI_t32, sI_t32, len_t32, aI_t34, sI_t34, len_t34, aI_t35, sI_t35, len_t35, aI_t36, sI_t36, len_t36, aI_t37, sI_t37, len_t37, aL_t38, sL_t38, len_t38, aL_t39, sL_t39, len_t39, bq_s, bd_s, mp_s, rz_0, rz_1, bI_rz, zadd, zmul, zsub, le_nI, lt_nI, eq_nI, neg_nI, gen_nI, neg_lt, neg_le, neg_lt', neg_le', nI_lt0, if_true, if_false, ite_true, ite_false, reduceIte, not_true, not_false, and_true, true_and, and_false, false_and, or_true, true_or, or_false, false_or, eq_self, h.2, tr_C h.1.r, tr_ct h.1.r, Nat.le_refl, toL_n, imul]
    rfl
  | succ m ih =>
    intro k fu hk hf
    obtain ⟨fu, rfl⟩ : ∃ q, fu = q + 1 := ⟨fu - 1, by omega⟩
    have hk' : k < nC D := by omega
    have hi := ih (k + 1) fu (by omega) (by omega)
    have e : aou D Q (k + 1) = aou D Q k + (if Q.testBit k then 0 else are D k) := rfl
    show f_X6_carting_4_b _ _ _ _ _ _ = _
    unfold f_X6_carting_4_b f_X6_carting_39
    simp only [to_bq, l_0, l_1, l_2, l_3, l_4, l_5, l_6, l_7, l_8, l_9, l_10, l_11, l_12, l_13, l_14, l_15, l_16, l_17, l_18, l_19, l_20, l_21, l_22, l_23, l_24, l_25, l_26, l_27, l_28, l_29, l_30, l_31, l_32, l_40, l_41, l_42, l_43, l_44, l_45, l_46, l_47, l_48, l_49, l_50, l_51, l_52, l_53, l_54, l_55, l_56, l_57, l_58, l_59, l_60, l_61, l_62, l_63, l_64, l_72, l_97, l_99, l_100, l_104, l_120, l_122, l_128, l_140, l_255, l_256, l_257, l_258, l_260, l_261, l_262, l_364, l_680, l_700, l_701, l_840, l_999, l_1023, l_1024, l_9999, l_10000, l_1000000, lm]
    simp (disch := first | (with_reducible assumption) | omega | exact ⟨by omega, by omega⟩ | ((with_reducible first | apply Wf.wI | apply Wf.wL | apply Wf.fL | apply Wf.fI | apply Wf.fr); (repeat (with_reducible first | assumption | apply Wf.wI | apply Wf.wL | apply Wf.fL | apply Wf.fI | apply Wf.fr)))) only [ck_222, gI_222, gL_222, pI_222, pZ0_222, pZ1_222, pL_222, gR_222_1, gR_222_2, gR_222_3, pR_222_4, gR_222_4, ck_t, gI_t, gL_t, pI_t, pZ0_t, pZ1_t, pL_t, ck_w, gI_w, gL_w, pI_w, pZ0_w, pZ1_w, pL_w, gR_t_1, gR_t_5, gR_t_7, gR_t_9, gR_t_10, gR_t_11, gR_t_12, gR_t_15, gR_w_2, gR_w_3, gR_w_4, gR_w_5, gR_w_6, gR_w_7, aR_crow, aR_srow, aR_prow, aR_rrow, aI_crow, sI_crow, len_crow, aI_srow, sI_srow, len_srow, aI_prow, sI_prow, len_prow, aI_rrow, sI_rrow, len_rrow, aI_t25, sI_t25, len_t25, aI_t31, sI_t31, len_t31, aI_t32, sI_t32, len_t32, aI_t34, sI_t34, len_t34, aI_t35, sI_t35, len_t35, aI_t36, sI_t36, len_t36, aI_t37, sI_t37, len_t37, aL_t38, sL_t38, len_t38, aL_t39, sL_t39, len_t39, bq_s, bd_s, mp_s, rz_0, rz_1, bI_rz, zadd, zmul, zsub, le_nI, lt_nI, eq_nI, neg_nI, gen_nI, neg_lt, neg_le, neg_lt', neg_le', nI_lt0, if_true, if_false, ite_true, ite_false, reduceIte, not_true, not_false, and_true, true_and, and_false, false_and, or_true, true_or, or_false, false_or, eq_self, h.2, tr_C h.1.r, tr_are h.1.r, show (nC D ≤ k) = False from eq_false (by omega)]
    simp only [z_bit (show Q < 2147483648 by omega) (show k < 31 by omega), ite_n]
    rw [← hi, e]
    by_cases q : Q.testBit k = true
    · rw [if_pos q, if_pos q]
    · rw [if_neg q, if_neg q]
theorem c_carting (h : SE σ t D) {Q : Nat} (hQ : Q < 2 ^ nC D) : f_X6_carting 222 (nI Q) σ = some (iL ((crt D Q : Nat) : Int), σ) := by
  have b1 := h.1.r.bd
  unfold f_X6_carting f_X6_carting_0
  rw [ck_222 h.1.w, l_0]
  exact c_cart4 h hQ (nC D) 0 5000 (by omega) (by omega)
theorem Rst_N (Q : Nat) (hQ : Q < 2 ^ nC D) : Rst D Q ≤ NEV := by
  rw [Rst_eq hQ]
  split
  · exact Nat.zero_le _
  · cases gst D Q with
    | none => exact Nat.le_refl _
    | some a => exact Nat.min_le_left _ _
noncomputable def rsp (D : DD) (Q x : Nat) : Nat := match bsl (stB D Q) (fvs D Q) x with
  | none => NEV
  | some a => min NEV (fvs D Q a)
theorem or_lt {Q c n : Nat} (hQ : Q < 2 ^ n) (hc : c < n) (hq : ¬ Q.testBit c = true) : Q < Q ||| 2 ^ c := by
  have h1 : Q ≤ Q ||| 2 ^ c := Nat.left_le_or
  have h2 : Q ≠ Q ||| 2 ^ c := by
    intro e
    have := (tb_set Q c c).mpr (Or.inr rfl)
    rw [← e] at this
    exact hq this
  omega
theorem c_st44 (h0 : SE σ t D) {Q : Nat} (hQ : Q < 2 ^ nC D) (hrest : ∀ R, Q < R → R < 2 ^ nC D → ah_L σ 224 R = iL ((Rst D R : Nat) : Int)) (K28 : Nat → Int32 → ah_H → Option ah_H) : ∀ m x fu τ, x + m = nC D → m < fu → Fr (fun a j => a = 224 ∧ j = Q) σ τ → ah_L τ 224 Q = iL ((rsp D Q x : Nat) : Int) → ∃ ρ, f_X6_settle_44 K28 fu 222 (nI Q) (nI x) τ = K28 222 (nI Q + mI 1) ρ ∧ Fr (fun a j => a = 224 ∧ j = Q) σ ρ ∧ ah_L ρ 224 Q = iL ((rsp D Q (nC D) : Nat) : Int) := by
  have b1 := h0.1.r.bd
  have htn := h0.1.r.tn
  have p7 : 2 ^ nC D ≤ 128 := Nat.pow_le_pow_right (n := 2) (by omega) b1.1
  intro m
  induction m with
  | zero =>
    intro x fu τ hx hf hfr hr
    obtain ⟨fu, rfl⟩ : ∃ q, fu = q + 1 := ⟨fu - 1, by omega⟩
    obtain rfl : x = nC D := by omega
    have h := h0.fr (hfr.mono (fun a j z => by unfold Xz; omega))
    have hw := h.1.w
    refine ⟨τ, ?_, hfr, hr⟩
    show f_X6_settle_44_b _ _ _ _ _ _ = _
    unfold f_X6_settle_44_b f_X6_settle_104
    simp only [to_bq, l_0, l_1, l_2, l_3, l_4, l_5, l_6, l_7, l_8, l_9, l_10, l_11, l_12, l_13, l_14, l_15, l_16, l_17, l_18, l_19, l_20, l_21, l_22, l_23, l_24, l_25, l_26, l_27, l_28, l_29, l_30, l_31, l_32, l_40, l_41, l_42, l_43, l_44, l_45, l_46, l_47, l_48, l_49, l_50, l_51, l_52, l_53, l_54, l_55, l_56, l_57, l_58, l_59, l_60, l_61, l_62, l_63, l_64, l_72, l_97, l_99, l_100, l_104, l_120, l_122, l_128, l_140, l_255, l_256, l_257, l_258, l_260, l_261, l_262, l_364, l_680, l_700, l_701, l_840, l_999, l_1023, l_1024, l_9999, l_10000, l_1000000, lm]
    simp (disch := first | (with_reducible assumption) | omega | exact ⟨by omega, by omega⟩ | ((with_reducible first | apply Wf.wI | apply Wf.wL | apply Wf.fL | apply Wf.fI | apply Wf.fr); (repeat (with_reducible first | assumption | apply Wf.wI | apply Wf.wL | apply Wf.fL | apply Wf.fI | apply Wf.fr)))) only [ck_222, gI_222, gL_222, pI_222, pZ0_222, pZ1_222, pL_222, gR_222_1, gR_222_2, gR_222_3, pR_222_4, gR_222_4, ck_t, gI_t, gL_t, pI_t, pZ0_t, pZ1_t, pL_t, ck_w, gI_w, gL_w, pI_w, pZ0_w, pZ1_w, pL_w, gR_t_1, gR_t_5, gR_t_7, gR_t_9, gR_t_10, gR_t_11, gR_t_12, gR_t_15, gR_w_2, gR_w_3, gR_w_4, gR_w_5, gR_w_6, gR_w_7, aR_crow, aR_srow, aR_prow, aR_rrow, aI_crow, sI_crow, len_crow, aI_srow, sI_srow, len_srow, aI_prow, sI_prow, len_prow, aI_rrow, sI_rrow, len_rrow, aI_t25, sI_t25, len_t25, aI_t31, sI_t31, len_t31, aI_t32, sI_t32, len_t32, aI_t34, sI_t34, len_t34, aI_t35, sI_t35, len_t35, aI_t36, sI_t36, len_t36, aI_t37, sI_t37, len_t37, aL_t38, sL_t38, len_t38, aL_t39, sL_t39, len_t39, bq_s, bd_s, mp_s, rz_0, rz_1, bI_rz, zadd, zmul, zsub, le_nI, lt_nI, eq_nI, neg_nI, gen_nI, neg_lt, neg_le, neg_lt', neg_le', nI_lt0, if_true, if_false, ite_true, ite_false, reduceIte, not_true, not_false, and_true, true_and, and_false, false_and, or_true, true_or, or_false, false_or, eq_self, h.2, tr_C h.1.r, Nat.le_refl]
  | succ m ih =>
    intro x fu τ hx hf hfr hr
    obtain ⟨fu, rfl⟩ : ∃ q, fu = q + 1 := ⟨fu - 1, by omega⟩
    have hx' : x < nC D := by omega
    have h := h0.fr (hfr.mono (fun a j z => by unfold Xz; omega))
    have hw := h.1.w
    have e0 : bsl (stB D Q) (fvs D Q) (x + 1) = if stB D Q x = none then bsl (stB D Q) (fvs D Q) x else match bsl (stB D Q) (fvs D Q) x with
      | none => some x
      | some b => if fvs D Q x < fvs D Q b then some x else some b := rfl
    show ∃ ρ, f_X6_settle_44_b _ _ _ _ _ _ = _ ∧ _
    unfold f_X6_settle_44_b f_X6_settle_98
    simp only [to_bq, l_0, l_1, l_2, l_3, l_4, l_5, l_6, l_7, l_8, l_9, l_10, l_11, l_12, l_13, l_14, l_15, l_16, l_17, l_18, l_19, l_20, l_21, l_22, l_23, l_24, l_25, l_26, l_27, l_28, l_29, l_30, l_31, l_32, l_40, l_41, l_42, l_43, l_44, l_45, l_46, l_47, l_48, l_49, l_50, l_51, l_52, l_53, l_54, l_55, l_56, l_57, l_58, l_59, l_60, l_61, l_62, l_63, l_64, l_72, l_97, l_99, l_100, l_104, l_120, l_122, l_128, l_140, l_255, l_256, l_257, l_258, l_260, l_261, l_262, l_364, l_680, l_700, l_701, l_840, l_999, l_1023, l_1024, l_9999, l_10000, l_1000000, lm]
    simp (disch := first | (with_reducible assumption) | omega | exact ⟨by omega, by omega⟩ | ((with_reducible first | apply Wf.wI | apply Wf.wL | apply Wf.fL | apply Wf.fI | apply Wf.fr); (repeat (with_reducible first | assumption | apply Wf.wI | apply Wf.wL | apply Wf.fL | apply Wf.fI | apply Wf.fr)))) only [ck_222, gI_222, gL_222, pI_222, pZ0_222, pZ1_222, pL_222, gR_222_1, gR_222_2, gR_222_3, pR_222_4, gR_222_4, ck_t, gI_t, gL_t, pI_t, pZ0_t, pZ1_t, pL_t, ck_w, gI_w, gL_w, pI_w, pZ0_w, pZ1_w, pL_w, gR_t_1, gR_t_5, gR_t_7, gR_t_9, gR_t_10, gR_t_11, gR_t_12, gR_t_15, gR_w_2, gR_w_3, gR_w_4, gR_w_5, gR_w_6, gR_w_7, aR_crow, aR_srow, aR_prow, aR_rrow, aI_crow, sI_crow, len_crow, aI_srow, sI_srow, len_srow, aI_prow, sI_prow, len_prow, aI_rrow, sI_rrow, len_rrow, aI_t25, sI_t25, len_t25, aI_t31, sI_t31, len_t31, aI_t32, sI_t32, len_t32, aI_t34, sI_t34, len_t34, aI_t35, sI_t35, len_t35, aI_t36, sI_t36, len_t36, aI_t37, sI_t37, len_t37, aL_t38, sL_t38, len_t38, aL_t39, sL_t39, len_t39, bq_s, bd_s, mp_s, rz_0, rz_1, bI_rz, zadd, zmul, zsub, le_nI, lt_nI, eq_nI, neg_nI, gen_nI, neg_lt, neg_le, neg_lt', neg_le', nI_lt0, if_true, if_false, ite_true, ite_false, reduceIte, not_true, not_false, and_true, true_and, and_false, false_and, or_true, true_or, or_false, false_or, eq_self, h.2, tr_C h.1.r, c_canBuild h hx' hQ, show (nC D ≤ x) = False from eq_false (by omega)]
    by_cases q : blb D Q x
    · rw [if_neg (by rw [cI_0]; exact fun z => z q)]
      have hql := or_lt hQ hx' q.1
      have hqb := or_b hQ (pw_b hx')
      have hrq : ah_L τ 224 (Q ||| 2 ^ x) = iL ((Rst D (Q ||| 2 ^ x) : Nat) : Int) := (hfr.L (by omega)).trans (hrest _ hql hqb)
      have hRN := Rst_N (D := D) (Q ||| 2 ^ x) hqb
      have hcb := crt_b h.1.r.t Q
      have hrs : rsp D Q x ≤ NEV := by
        unfold rsp
        cases bsl (stB D Q) (fvs D Q) x with
        | none => exact Nat.le_refl _
        | some a => exact Nat.min_le_left _ _
      have hN : NEV = 4611686018427387903 := rfl
      simp (disch := first | (with_reducible assumption) | omega | exact ⟨by omega, by omega⟩ | ((with_reducible first | apply Wf.wI | apply Wf.wL | apply Wf.fL | apply Wf.fI | apply Wf.fr); (repeat (with_reducible first | assumption | apply Wf.wI | apply Wf.wL | apply Wf.fL | apply Wf.fI | apply Wf.fr)))) only [ck_222, gI_222, gL_222, pI_222, pZ0_222, pZ1_222, pL_222, gR_222_1, gR_222_2, gR_222_3, pR_222_4, gR_222_4, bq_s, bd_s, mp_s, rz_0, rz_1, bI_rz, aL_224, sL_224, hr, c_carting h hQ, z_set (show x < 31 by omega), hrq, iadd, minl_i, zadd]
      refine ih (x + 1) fu _ (by omega) (by omega) (hfr.wL ⟨rfl, rfl⟩) ?_
      rw [rL_eq]
      congr 1
      unfold rsp
      rw [e0, if_neg (stB_n.mpr q)]
      have hfv : fvs D Q x = crt D Q + Rst D (Q ||| 2 ^ x) := rfl
      cases hb : bsl (stB D Q) (fvs D Q) x with
      | none =>
        show min ((NEV : Nat) : Int) _ = ((min NEV (fvs D Q x) : Nat) : Int)
        omega
      | some a =>
        show min ((min NEV (fvs D Q a) : Nat) : Int) _ = (((match (if fvs D Q x < fvs D Q a then some x else some a) with
          | none => NEV
          | some a => min NEV (fvs D Q a)) : Nat) : Int)
        by_cases z : fvs D Q x < fvs D Q a
        · rw [if_pos z]
          show _ = ((min NEV (fvs D Q x) : Nat) : Int)
          omega
        · rw [if_neg z]
          show _ = ((min NEV (fvs D Q a) : Nat) : Int)
          omega
    · rw [if_pos (by rw [cI_0]; exact q)]
      refine ih (x + 1) fu τ (by omega) (by omega) hfr ?_
      rw [hr]
      unfold rsp
      rw [e0, if_pos (Classical.byContradiction (fun z => q (stB_n.mp z)))]
theorem c_st28 (h0 : SE σ t D) : ∀ k fu τ, k < 2 ^ nC D → k < fu → Fr (fun a _ => a = 224) σ τ → (∀ R, k ≤ R → R < 2 ^ nC D → ah_L τ 224 R = iL ((Rst D R : Nat) : Int)) → ∃ ρ, f_X6_settle_28 fu 222 (jI ((k : Int) - 1)) τ = f_X6_settle_110 222 ρ ∧ Fr (fun a _ => a = 224) σ ρ ∧ ∀ R, R < 2 ^ nC D → ah_L ρ 224 R = iL ((Rst D R : Nat) : Int) := by
  have b1 := h0.1.r.bd
  have p7 : 2 ^ nC D ≤ 128 := Nat.pow_le_pow_right (n := 2) (by omega) b1.1
  intro k
  induction k with
  | zero =>
    intro fu τ hk hf hfr hr
    obtain ⟨fu, rfl⟩ : ∃ q, fu = q + 1 := ⟨fu - 1, by omega⟩
    refine ⟨τ, ?_, hfr, fun R hR => hr R (by omega) hR⟩
    show f_X6_settle_28_b _ _ _ _ = _
    unfold f_X6_settle_28_b
    rw [if_pos (by decide)]
  | succ k ih =>
    intro fu τ hk hf hfr hr
    obtain ⟨fu, rfl⟩ : ∃ q, fu = q + 1 := ⟨fu - 1, by omega⟩
    have h := h0.fr (hfr.mono (fun a j z => by unfold Xz; omega))
    have hw := h.1.w
    have ek : jI (((k + 1 : Nat) : Int) - 1) = nI k := by rw [jI_n]; congr 1; omega
    have em : nI k + mI 1 = jI ((k : Int) - 1) := by rw [jI_n, jI_m, jadd]; congr 1
    have hkl : k < 2 ^ nC D := by omega
    rw [ek]
    show ∃ ρ, f_X6_settle_28_b _ _ _ _ = _ ∧ _
    unfold f_X6_settle_28_b
    simp only [to_bq, l_0, l_1, l_2, l_3, l_4, l_5, l_6, l_7, l_8, l_9, l_10, l_11, l_12, l_13, l_14, l_15, l_16, l_17, l_18, l_19, l_20, l_21, l_22, l_23, l_24, l_25, l_26, l_27, l_28, l_29, l_30, l_31, l_32, l_40, l_41, l_42, l_43, l_44, l_45, l_46, l_47, l_48, l_49, l_50, l_51, l_52, l_53, l_54, l_55, l_56, l_57, l_58, l_59, l_60, l_61, l_62, l_63, l_64, l_72, l_97, l_99, l_100, l_104, l_120, l_122, l_128, l_140, l_255, l_256, l_257, l_258, l_260, l_261, l_262, l_364, l_680, l_700, l_701, l_840, l_999, l_1023, l_1024, l_9999, l_10000, l_1000000, lm]
    simp (disch := first | (with_reducible assumption) | omega | exact ⟨by omega, by omega⟩ | ((with_reducible first | apply Wf.wI | apply Wf.wL | apply Wf.fL | apply Wf.fI | apply Wf.fr); (repeat (with_reducible first | assumption | apply Wf.wI | apply Wf.wL | apply Wf.fL | apply Wf.fI | apply Wf.fr)))) only [ck_222, gI_222, gL_222, pI_222, pZ0_222, pZ1_222, pL_222, gR_222_1, gR_222_2, gR_222_3, pR_222_4, gR_222_4, bq_s, bd_s, mp_s, rz_0, rz_1, bI_rz, zadd, zmul, zsub, le_nI, lt_nI, eq_nI, neg_nI, gen_nI, neg_lt, neg_le, neg_lt', neg_le', nI_lt0, if_true, if_false, ite_true, ite_false, reduceIte, not_true, not_false, and_true, true_and, and_false, false_and, or_true, true_or, or_false, false_or, eq_self, sL_224, show (k < 0) = False from eq_false (by omega)]
    have f1 : Fr (fun a _ => a = 224) τ (ah_wL τ 224 k 4611686018427387903) := Fr.rfl.wL rfl
    have h1 := h.fr (f1.mono (fun a j z => by unfold Xz; omega))
    obtain ⟨ρ, g1, g2, g3⟩ := c_st44 h1 hkl (fun R h1 h2 => by rw [rL_ne (Or.inr (by omega))]; exact hr R (by omega) h2) (f_X6_settle_28 fu) (nC D) 0 5000 _ (by omega) (by omega) Fr.rfl (by rw [rL_eq]; rfl)
    rw [g1, em]
    have g2' : Fr (fun a _ => a = 224) σ ρ := hfr.trans (f1.trans (g2.mono (fun a j z => z.1)))
    refine ih fu ρ hkl (by omega) g2' (fun R h1 h2 => ?_)
    by_cases e : R = k
    · subst e
      rw [g3, Rst_eq h2, if_neg (by omega)]
      rfl
    · rw [g2.L (by omega), rL_ne (Or.inr e)]
      exact hr R (by omega) h2
theorem c_na2 (h : SE σ t D) {Q : Nat} (hQ : Q < 2 ^ nC D) (hrest : ∀ R, R < 2 ^ nC D → ah_L σ 224 R = iL ((Rst D R : Nat) : Int)) : ∀ m k fu, k + m = nC D → m < fu → f_X6_nextAfter_2 fu 222 (nI Q) (nI k) σ = some (sv (fp (fun c => stB D Q c ≠ none ∧ Rst D Q = fvs D Q c) k m), σ) := by
  have hw := h.1.w
  have b1 := h.1.r.bd
  have htn := h.1.r.tn
  have p7 : 2 ^ nC D ≤ 128 := Nat.pow_le_pow_right (n := 2) (by omega) b1.1
  intro m
  induction m with
  | zero =>
    intro k fu hk hf
    obtain ⟨fu, rfl⟩ : ∃ q, fu = q + 1 := ⟨fu - 1, by omega⟩
    show f_X6_nextAfter_2_b _ _ _ _ _ = _
    unfold f_X6_nextAfter_2_b
    simp only [to_bq, l_0, l_1, l_2, l_3, l_4, l_5, l_6, l_7, l_8, l_9, l_10, l_11, l_12, l_13, l_14, l_15, l_16, l_17, l_18, l_19, l_20, l_21, l_22, l_23, l_24, l_25, l_26, l_27, l_28, l_29, l_30, l_31, l_32, l_40, l_41, l_42, l_43, l_44, l_45, l_46, l_47, l_48, l_49, l_50, l_51, l_52, l_53, l_54, l_55, l_56, l_57, l_58, l_59, l_60, l_61, l_62, l_63, l_64, l_72, l_97, l_99, l_100, l_104, l_120, l_122, l_128, l_140, l_255, l_256, l_257, l_258, l_260, l_261, l_262, l_364, l_680, l_700, l_701, l_840, l_999, l_1023, l_1024, l_9999, l_10000, l_1000000, lm]
    simp (disch := first | (with_reducible assumption) | omega | exact ⟨by omega, by omega⟩ | ((with_reducible first | apply Wf.wI | apply Wf.wL | apply Wf.fL | apply Wf.fI | apply Wf.fr); (repeat (with_reducible first | assumption | apply Wf.wI | apply Wf.wL | apply Wf.fL | apply Wf.fI | apply Wf.fr)))) only [ck_222, gI_222, gL_222, pI_222, pZ0_222, pZ1_222, pL_222, gR_222_1, gR_222_2, gR_222_3, pR_222_4, gR_222_4, ck_t, gI_t, gL_t, pI_t, pZ0_t, pZ1_t, pL_t, ck_w, gI_w, gL_w, pI_w, pZ0_w, pZ1_w, pL_w, gR_t_1, gR_t_5, gR_t_7, gR_t_9, gR_t_10, gR_t_11, gR_t_12, gR_t_15, gR_w_2, gR_w_3, gR_w_4, gR_w_5, gR_w_6, gR_w_7, aR_crow, aR_srow, aR_prow, aR_rrow, aI_crow, sI_crow, len_crow, aI_srow, sI_srow, len_srow, aI_prow, sI_prow, len_prow, aI_rrow, sI_rrow, len_rrow, aI_t25, sI_t25, len_t25, aI_t31, sI_t31, len_t31, aI_t32, sI_t32, len_t32, aI_t34, sI_t34, len_t34, aI_t35, sI_t35, len_t35, aI_t36, sI_t36, len_t36, aI_t37, sI_t37, len_t37, aL_t38, sL_t38, len_t38, aL_t39, sL_t39, len_t39, bq_s, bd_s, mp_s, rz_0, rz_1, bI_rz, zadd, zmul, zsub, le_nI, lt_nI, eq_nI, neg_nI, gen_nI, neg_lt, neg_le, neg_lt', neg_le', nI_lt0, if_true, if_false, ite_true, ite_false, reduceIte, not_true, not_false, and_true, true_and, and_false, false_and, or_true, true_or, or_false, false_or, eq_self, h.2, tr_C h.1.r, lm, show (nC D ≤ k) = True from eq_true (by omega)]
    rfl
  | succ m ih =>
    intro k fu hk hf
    obtain ⟨fu, rfl⟩ : ∃ q, fu = q + 1 := ⟨fu - 1, by omega⟩
    have hk' : k < nC D := by omega
    have hi := ih (k + 1) fu (by omega) (by omega)
    have ef : fp (fun c => stB D Q c ≠ none ∧ Rst D Q = fvs D Q c) k (m + 1) = cif (stB D Q k ≠ none ∧ Rst D Q = fvs D Q k) (some k) (fp (fun c => stB D Q c ≠ none ∧ Rst D Q = fvs D Q c) (k + 1) m) := rfl
    show f_X6_nextAfter_2_b _ _ _ _ _ = _
    unfold f_X6_nextAfter_2_b f_X6_nextAfter_50
    simp only [to_bq, l_0, l_1, l_2, l_3, l_4, l_5, l_6, l_7, l_8, l_9, l_10, l_11, l_12, l_13, l_14, l_15, l_16, l_17, l_18, l_19, l_20, l_21, l_22, l_23, l_24, l_25, l_26, l_27, l_28, l_29, l_30, l_31, l_32, l_40, l_41, l_42, l_43, l_44, l_45, l_46, l_47, l_48, l_49, l_50, l_51, l_52, l_53, l_54, l_55, l_56, l_57, l_58, l_59, l_60, l_61, l_62, l_63, l_64, l_72, l_97, l_99, l_100, l_104, l_120, l_122, l_128, l_140, l_255, l_256, l_257, l_258, l_260, l_261, l_262, l_364, l_680, l_700, l_701, l_840, l_999, l_1023, l_1024, l_9999, l_10000, l_1000000, lm]
    simp (disch := first | (with_reducible assumption) | omega | exact ⟨by omega, by omega⟩ | ((with_reducible first | apply Wf.wI | apply Wf.wL | apply Wf.fL | apply Wf.fI | apply Wf.fr); (repeat (with_reducible first | assumption | apply Wf.wI | apply Wf.wL | apply Wf.fL | apply Wf.fI | apply Wf.fr)))) only [ck_222, gI_222, gL_222, pI_222, pZ0_222, pZ1_222, pL_222, gR_222_1, gR_222_2, gR_222_3, pR_222_4, gR_222_4, ck_t, gI_t, gL_t, pI_t, pZ0_t, pZ1_t, pL_t, ck_w, gI_w, gL_w, pI_w, pZ0_w, pZ1_w, pL_w, gR_t_1, gR_t_5, gR_t_7, gR_t_9, gR_t_10, gR_t_11, gR_t_12, gR_t_15, gR_w_2, gR_w_3, gR_w_4, gR_w_5, gR_w_6, gR_w_7, aR_crow, aR_srow, aR_prow, aR_rrow, aI_crow, sI_crow, len_crow, aI_srow, sI_srow, len_srow, aI_prow, sI_prow, len_prow, aI_rrow, sI_rrow, len_rrow, aI_t25, sI_t25, len_t25, aI_t31, sI_t31, len_t31, aI_t32, sI_t32, len_t32, aI_t34, sI_t34, len_t34, aI_t35, sI_t35, len_t35, aI_t36, sI_t36, len_t36, aI_t37, sI_t37, len_t37, aL_t38, sL_t38, len_t38, aL_t39, sL_t39, len_t39, bq_s, bd_s, mp_s, rz_0, rz_1, bI_rz, zadd, zmul, zsub, le_nI, lt_nI, eq_nI, neg_nI, gen_nI, neg_lt, neg_le, neg_lt', neg_le', nI_lt0, if_true, if_false, ite_true, ite_false, reduceIte, not_true, not_false, and_true, true_and, and_false, false_and, or_true, true_or, or_false, false_or, eq_self, h.2, tr_C h.1.r, c_canBuild h hk' hQ, show (nC D ≤ k) = False from eq_false (by omega)]
    by_cases q : blb D Q k
    · rw [if_neg (by rw [cI_0]; exact fun z => z q)]
      have hqb := or_b hQ (pw_b hk')
      have hRN := Rst_N (D := D) (Q ||| 2 ^ k) hqb
      have hRQ := Rst_N (D := D) Q hQ
      have hcb := crt_b h.1.r.t Q
      have hN : NEV = 4611686018427387903 := rfl
      simp (disch := first | (with_reducible assumption) | omega | exact ⟨by omega, by omega⟩ | ((with_reducible first | apply Wf.wI | apply Wf.wL | apply Wf.fL | apply Wf.fI | apply Wf.fr); (repeat (with_reducible first | assumption | apply Wf.wI | apply Wf.wL | apply Wf.fL | apply Wf.fI | apply Wf.fr)))) only [ck_222, gI_222, gL_222, pI_222, pZ0_222, pZ1_222, pL_222, gR_222_1, gR_222_2, gR_222_3, pR_222_4, gR_222_4, bq_s, bd_s, mp_s, rz_0, rz_1, bI_rz, aL_224, c_carting h hQ, z_set (show k < 31 by omega), hrest Q hQ, hrest _ hqb, iadd, cmp_e, zadd]
      have hfv : fvs D Q k = crt D Q + Rst D (Q ||| 2 ^ k) := rfl
      by_cases q2 : Rst D Q = fvs D Q k
      · rw [cif_t ⟨stB_n.mpr q, q2⟩] at ef
        rw [if_pos (by omega), ef]
        rfl
      · rw [cif_f (fun z => q2 z.2)] at ef
        rw [if_neg (by omega), ef]
        exact hi
    · rw [cif_f (fun z => q (stB_n.mp z.1))] at ef
      rw [if_pos (by rw [cI_0]; exact q), ef]
      exact hi
theorem c_nextAfter (h : SE σ t D) (hj : jnd D) {Q : Nat} (hQ : Q < 2 ^ nC D) (hr : Q.testBit (riv D) = true) (hne : Q ≠ 2 ^ nC D - 1) (hrest : ∀ R, R < 2 ^ nC D → ah_L σ 224 R = iL ((Rst D R : Nat) : Int)) : f_X6_nextAfter 222 (nI Q) σ = some (nI ((gst D Q).getD 0), σ) := by
  have b1 := h.1.r.bd
  obtain ⟨a, g1, g2, g3, g4, g5⟩ := Rst_riv h.1.r.t h.1.n hj hQ hr hne
  unfold f_X6_nextAfter f_X6_nextAfter_0
  rw [ck_222 h.1.w, l_0, c_na2 h hQ hrest (nC D) 0 5000 (by omega) (by omega), g1]
  have := bsl_fp g1
  rw [← g4] at this
  rw [this]
  rfl
theorem c_wo22 (h0 : SE σ t D) (hj : jnd D) (hrest0 : ∀ R, R < 2 ^ nC D → ah_L σ 224 R = iL ((Rst D R : Nat) : Int)) : ∀ m k fu τ Q, k + m + 1 = nC D → m < fu → Fr (fun a _ => a = 223) σ τ → Q < 2 ^ nC D → Q.testBit (riv D) = true → mis D Q = m → ∃ ρ, f_X6_writeOrder_22 fu 222 (nI Q) (nI k) τ = some ρ ∧ Fr (fun a _ => a = 223) τ ρ ∧ (∀ i, k ≤ i → i + 1 < nC D → ah_I ρ 223 i = nI (grd D Q (i - k))) ∧ ∀ i, i < k → ah_I ρ 223 i = ah_I τ 223 i := by
  have b1 := h0.1.r.bd
  have htn := h0.1.r.tn
  intro m
  induction m with
  | zero =>
    intro k fu τ Q hk hf hfr hQ hr hm
    obtain ⟨fu, rfl⟩ : ∃ q, fu = q + 1 := ⟨fu - 1, by omega⟩
    have h := h0.fr (hfr.mono (fun a j z => by unfold Xz; omega))
    have hw := h.1.w
    refine ⟨τ, ?_, Fr.rfl, fun i h1 h2 => by omega, fun i _ => rfl⟩
    show f_X6_writeOrder_22_b _ _ _ _ _ = _
    unfold f_X6_writeOrder_22_b
    simp only [to_bq, l_0, l_1, l_2, l_3, l_4, l_5, l_6, l_7, l_8, l_9, l_10, l_11, l_12, l_13, l_14, l_15, l_16, l_17, l_18, l_19, l_20, l_21, l_22, l_23, l_24, l_25, l_26, l_27, l_28, l_29, l_30, l_31, l_32, l_40, l_41, l_42, l_43, l_44, l_45, l_46, l_47, l_48, l_49, l_50, l_51, l_52, l_53, l_54, l_55, l_56, l_57, l_58, l_59, l_60, l_61, l_62, l_63, l_64, l_72, l_97, l_99, l_100, l_104, l_120, l_122, l_128, l_140, l_255, l_256, l_257, l_258, l_260, l_261, l_262, l_364, l_680, l_700, l_701, l_840, l_999, l_1023, l_1024, l_9999, l_10000, l_1000000, lm]
    simp (disch := first | (with_reducible assumption) | omega | exact ⟨by omega, by omega⟩ | ((with_reducible first | apply Wf.wI | apply Wf.wL | apply Wf.fL | apply Wf.fI | apply Wf.fr); (repeat (with_reducible first | assumption | apply Wf.wI | apply Wf.wL | apply Wf.fL | apply Wf.fI | apply Wf.fr)))) only [ck_222, gI_222, gL_222, pI_222, pZ0_222, pZ1_222, pL_222, gR_222_1, gR_222_2, gR_222_3, pR_222_4, gR_222_4, ck_t, gI_t, gL_t, pI_t, pZ0_t, pZ1_t, pL_t, ck_w, gI_w, gL_w, pI_w, pZ0_w, pZ1_w, pL_w, gR_t_1, gR_t_5, gR_t_7, gR_t_9, gR_t_10, gR_t_11, gR_t_12, gR_t_15, gR_w_2, gR_w_3, gR_w_4, gR_w_5, gR_w_6, gR_w_7, aR_crow, aR_srow, aR_prow, aR_rrow, aI_crow, sI_crow, len_crow, aI_srow, sI_srow, len_srow, aI_prow, sI_prow, len_prow, aI_rrow, sI_rrow, len_rrow, aI_t25, sI_t25, len_t25, aI_t31, sI_t31, len_t31, aI_t32, sI_t32, len_t32, aI_t34, sI_t34, len_t34, aI_t35, sI_t35, len_t35, aI_t36, sI_t36, len_t36, aI_t37, sI_t37, len_t37, aL_t38, sL_t38, len_t38, aL_t39, sL_t39, len_t39, bq_s, bd_s, mp_s, rz_0, rz_1, bI_rz, zadd, zmul, zsub, le_nI, lt_nI, eq_nI, neg_nI, gen_nI, neg_lt, neg_le, neg_lt', neg_le', nI_lt0, if_true, if_false, ite_true, ite_false, reduceIte, not_true, not_false, and_true, true_and, and_false, false_and, or_true, true_or, or_false, false_or, eq_self, h.2, tr_C h.1.r, show (nC D - 1 ≤ k) = True from eq_true (by omega)]
  | succ m ih =>
    intro k fu τ Q hk hf hfr hQ hr hm
    obtain ⟨fu, rfl⟩ : ∃ q, fu = q + 1 := ⟨fu - 1, by omega⟩
    have h := h0.fr (hfr.mono (fun a j z => by unfold Xz; omega))
    have hw := h.1.w
    have hrest : ∀ R, R < 2 ^ nC D → ah_L τ 224 R = iL ((Rst D R : Nat) : Int) := fun R hR => (hfr.L (by omega)).trans (hrest0 R hR)
    have hne : Q ≠ 2 ^ nC D - 1 := fun e => by have := (mis_0 hQ).mpr e; omega
    obtain ⟨a, g1, g2, g3, g4, g5⟩ := Rst_riv h.1.r.t h.1.n hj hQ hr hne
    have hna := c_nextAfter h hj hQ hr hne hrest
    rw [g1] at hna
    have hna : f_X6_nextAfter 222 (nI Q) τ = some (nI a, τ) := hna
    have hms := mis_set (D := D) g2 g3.1
    show ∃ ρ, f_X6_writeOrder_22_b _ _ _ _ _ = _ ∧ _
    unfold f_X6_writeOrder_22_b f_X6_writeOrder_59
    simp only [to_bq, l_0, l_1, l_2, l_3, l_4, l_5, l_6, l_7, l_8, l_9, l_10, l_11, l_12, l_13, l_14, l_15, l_16, l_17, l_18, l_19, l_20, l_21, l_22, l_23, l_24, l_25, l_26, l_27, l_28, l_29, l_30, l_31, l_32, l_40, l_41, l_42, l_43, l_44, l_45, l_46, l_47, l_48, l_49, l_50, l_51, l_52, l_53, l_54, l_55, l_56, l_57, l_58, l_59, l_60, l_61, l_62, l_63, l_64, l_72, l_97, l_99, l_100, l_104, l_120, l_122, l_128, l_140, l_255, l_256, l_257, l_258, l_260, l_261, l_262, l_364, l_680, l_700, l_701, l_840, l_999, l_1023, l_1024, l_9999, l_10000, l_1000000, lm]
    simp (disch := first | (with_reducible assumption) | omega | exact ⟨by omega, by omega⟩ | ((with_reducible first | apply Wf.wI | apply Wf.wL | apply Wf.fL | apply Wf.fI | apply Wf.fr); (repeat (with_reducible first | assumption | apply Wf.wI | apply Wf.wL | apply Wf.fL | apply Wf.fI | apply Wf.fr)))) only [ck_222, gI_222, gL_222, pI_222, pZ0_222, pZ1_222, pL_222, gR_222_1, gR_222_2, gR_222_3, pR_222_4, gR_222_4, ck_t, gI_t, gL_t, pI_t, pZ0_t, pZ1_t, pL_t, ck_w, gI_w, gL_w, pI_w, pZ0_w, pZ1_w, pL_w, gR_t_1, gR_t_5, gR_t_7, gR_t_9, gR_t_10, gR_t_11, gR_t_12, gR_t_15, gR_w_2, gR_w_3, gR_w_4, gR_w_5, gR_w_6, gR_w_7, aR_crow, aR_srow, aR_prow, aR_rrow, aI_crow, sI_crow, len_crow, aI_srow, sI_srow, len_srow, aI_prow, sI_prow, len_prow, aI_rrow, sI_rrow, len_rrow, aI_t25, sI_t25, len_t25, aI_t31, sI_t31, len_t31, aI_t32, sI_t32, len_t32, aI_t34, sI_t34, len_t34, aI_t35, sI_t35, len_t35, aI_t36, sI_t36, len_t36, aI_t37, sI_t37, len_t37, aL_t38, sL_t38, len_t38, aL_t39, sL_t39, len_t39, bq_s, bd_s, mp_s, rz_0, rz_1, bI_rz, zadd, zmul, zsub, le_nI, lt_nI, eq_nI, neg_nI, gen_nI, neg_lt, neg_le, neg_lt', neg_le', nI_lt0, if_true, if_false, ite_true, ite_false, reduceIte, not_true, not_false, and_true, true_and, and_false, false_and, or_true, true_or, or_false, false_or, eq_self, h.2, tr_C h.1.r, hna, sI_223, lm, show (nC D - 1 ≤ k) = False from eq_false (by omega), z_set (show a < 31 by omega)]
    have f1 : Fr (fun b _ => b = 223) τ (ah_wI τ 223 k (nI a)) := Fr.rfl.wI rfl
    obtain ⟨ρ, k1, k2, k3, k4⟩ := ih (k + 1) fu _ (Q ||| 2 ^ a) (by omega) (by omega) (hfr.trans f1) (or_b hQ (pw_b g2)) ((tb_set Q a _).mpr (Or.inl hr)) (by omega)
    refine ⟨ρ, k1, f1.trans k2, fun i h1 h2 => ?_, fun i hi => ?_⟩
    · by_cases e : i = k
      · subst e
        rw [k4 i (by omega), rI_eq, Nat.sub_self]
        show nI a = nI ((gst D Q).getD 0)
        rw [g1]; rfl
      · rw [k3 i (by omega) h2, show i - k = (i - (k + 1)) + 1 by omega]
        show _ = nI (grd D (Q ||| 2 ^ (gst D Q).getD 0) (i - (k + 1)))
        rw [g1]; rfl
    · rw [k4 i (by omega), rI_ne (Or.inr (by omega))]
theorem c_settle (h : CJ σ t D) (hj : jnd D) : ∃ ρ, f_X6_settle 222 t σ = some ρ ∧ Fr (fun a _ => 222 ≤ a ∧ a ≤ 224) σ ρ ∧ ah_L ρ 222 0 = iL ((Rst D (2 ^ riv D) : Nat) : Int) ∧ ∀ i, i + 1 < nC D → ah_I ρ 223 i = nI (grd D (2 ^ riv D) i) := by
  have hw := h.w
  have b1 := h.r.bd
  have htn := h.r.tn
  obtain ⟨e1, e2, -⟩ := h.r.t.rv hj.1
  have p7 : 2 ^ nC D ≤ 128 := Nat.pow_le_pow_right (n := 2) (by omega) b1.1
  have hpos : 0 < 2 ^ nC D := Nat.pow_pos (by omega)
  have hm : (222, 4) ∈ mut0 := by decide
  have f0 : Fr (fun a _ => 222 ≤ a ∧ a ≤ 224) σ (ah_wR σ 222 4 (some t)) := Fr.rfl.wR hm (by omega)
  have h0 : SE (ah_wR σ 222 4 (some t)) t D := ⟨h.fr f0 (fun a j _ => by omega), rR_eq⟩
  have hw0 := h0.1.w
  have f1 : Fr (fun a _ => a = 224) (ah_wR σ 222 4 (some t)) (ah_wL (ah_wR σ 222 4 (some t)) 224 (2 ^ nC D - 1) (iL 0)) := Fr.rfl.wL rfl
  have h1 := h0.fr (f1.mono (fun a j z => by unfold Xz; omega))
  have hend : ((nI 1 <<< (nI (nC D) &&& nI 31)) - nI 1) = nI (2 ^ nC D - 1) := by rw [z_one (by omega), zsub (by omega)]
  have hend2 : nI (2 ^ nC D - 1) - nI 1 = jI (((2 ^ nC D - 1 : Nat) : Int) - 1) := by rw [jI_n, jI_n, jsub]; rfl
  unfold f_X6_settle f_X6_settle_0
  simp only [to_bq, l_0, l_1, l_2, l_3, l_4, l_5, l_6, l_7, l_8, l_9, l_10, l_11, l_12, l_13, l_14, l_15, l_16, l_17, l_18, l_19, l_20, l_21, l_22, l_23, l_24, l_25, l_26, l_27, l_28, l_29, l_30, l_31, l_32, l_40, l_41, l_42, l_43, l_44, l_45, l_46, l_47, l_48, l_49, l_50, l_51, l_52, l_53, l_54, l_55, l_56, l_57, l_58, l_59, l_60, l_61, l_62, l_63, l_64, l_72, l_97, l_99, l_100, l_104, l_120, l_122, l_128, l_140, l_255, l_256, l_257, l_258, l_260, l_261, l_262, l_364, l_680, l_700, l_701, l_840, l_999, l_1023, l_1024, l_9999, l_10000, l_1000000, lm]
  simp (disch := first | (with_reducible assumption) | omega | exact ⟨by omega, by omega⟩ | ((with_reducible first | apply Wf.wI | apply Wf.wL | apply Wf.fL | apply Wf.fI | apply Wf.fr); (repeat (with_reducible first | assumption | apply Wf.wI | apply Wf.wL | apply Wf.fL | apply Wf.fI | apply Wf.fr)))) only [ck_222, gI_222, gL_222, pI_222, pZ0_222, pZ1_222, pL_222, gR_222_1, gR_222_2, gR_222_3, pR_222_4, gR_222_4, ck_t, gI_t, gL_t, pI_t, pZ0_t, pZ1_t, pL_t, ck_w, gI_w, gL_w, pI_w, pZ0_w, pZ1_w, pL_w, gR_t_1, gR_t_5, gR_t_7, gR_t_9, gR_t_10, gR_t_11, gR_t_12, gR_t_15, gR_w_2, gR_w_3, gR_w_4, gR_w_5, gR_w_6, gR_w_7, aR_crow, aR_srow, aR_prow, aR_rrow, aI_crow, sI_crow, len_crow, aI_srow, sI_srow, len_srow, aI_prow, sI_prow, len_prow, aI_rrow, sI_rrow, len_rrow, aI_t25, sI_t25, len_t25, aI_t31, sI_t31, len_t31, aI_t32, sI_t32, len_t32, aI_t34, sI_t34, len_t34, aI_t35, sI_t35, len_t35, aI_t36, sI_t36, len_t36, aI_t37, sI_t37, len_t37, aL_t38, sL_t38, len_t38, aL_t39, sL_t39, len_t39, bq_s, bd_s, mp_s, rz_0, rz_1, bI_rz, h0.2, tr_C h0.1.r]
  rw [hend, sL_224 hw0 (by omega), bq_s, hend2, q_0]
  obtain ⟨ρ1, g1, g2, g3⟩ := c_st28 h1 (2 ^ nC D - 1) 5000 _ (by omega) (by omega) Fr.rfl (fun R h1 h2 => by
    obtain rfl : R = 2 ^ nC D - 1 := by omega
    rw [rL_eq, Rst_eq h2, if_pos rfl]; rfl)
  rw [g1]
  have h2 := h1.fr (g2.mono (fun a j z => by unfold Xz; omega))
  have hw2 := h2.1.w
  have hrv := tr_riv h2.1.r
  rw [e1] at hrv
  unfold f_X6_settle_110 f_X6_writeOrder f_X6_writeOrder_0
  simp only [to_bq, l_0, l_1, l_2, l_3, l_4, l_5, l_6, l_7, l_8, l_9, l_10, l_11, l_12, l_13, l_14, l_15, l_16, l_17, l_18, l_19, l_20, l_21, l_22, l_23, l_24, l_25, l_26, l_27, l_28, l_29, l_30, l_31, l_32, l_40, l_41, l_42, l_43, l_44, l_45, l_46, l_47, l_48, l_49, l_50, l_51, l_52, l_53, l_54, l_55, l_56, l_57, l_58, l_59, l_60, l_61, l_62, l_63, l_64, l_72, l_97, l_99, l_100, l_104, l_120, l_122, l_128, l_140, l_255, l_256, l_257, l_258, l_260, l_261, l_262, l_364, l_680, l_700, l_701, l_840, l_999, l_1023, l_1024, l_9999, l_10000, l_1000000, lm]
  have p2 := pw_b e2
  simp (disch := first | (with_reducible assumption) | omega | exact ⟨by omega, by omega⟩ | ((with_reducible first | apply Wf.wI | apply Wf.wL | apply Wf.fL | apply Wf.fI | apply Wf.fr); (repeat (with_reducible first | assumption | apply Wf.wI | apply Wf.wL | apply Wf.fL | apply Wf.fI | apply Wf.fr)))) only [ck_222, gI_222, gL_222, pI_222, pZ0_222, pZ1_222, pL_222, gR_222_1, gR_222_2, gR_222_3, pR_222_4, gR_222_4, ck_t, gI_t, gL_t, pI_t, pZ0_t, pZ1_t, pL_t, ck_w, gI_w, gL_w, pI_w, pZ0_w, pZ1_w, pL_w, gR_t_1, gR_t_5, gR_t_7, gR_t_9, gR_t_10, gR_t_11, gR_t_12, gR_t_15, gR_w_2, gR_w_3, gR_w_4, gR_w_5, gR_w_6, gR_w_7, aR_crow, aR_srow, aR_prow, aR_rrow, aI_crow, sI_crow, len_crow, aI_srow, sI_srow, len_srow, aI_prow, sI_prow, len_prow, aI_rrow, sI_rrow, len_rrow, aI_t25, sI_t25, len_t25, aI_t31, sI_t31, len_t31, aI_t32, sI_t32, len_t32, aI_t34, sI_t34, len_t34, aI_t35, sI_t35, len_t35, aI_t36, sI_t36, len_t36, aI_t37, sI_t37, len_t37, aL_t38, sL_t38, len_t38, aL_t39, sL_t39, len_t39, bq_s, bd_s, mp_s, rz_0, rz_1, bI_rz, h2.2, hrv]
  rw [z_one (by omega), aL_224 hw2 (by omega), bq_s, g3 _ p2, pL_222 hw2, bq_s]
  have f3 : Fr Xz ρ1 (ah_wL ρ1 222 0 (iL ((Rst D (2 ^ riv D) : Nat) : Int))) := Fr.rfl.wL (by unfold Xz; omega)
  have h3 := h2.fr f3
  have hmr := mis_riv h.r.t hj
  obtain ⟨ρ2, k1, k2, k3, -⟩ := c_wo22 h3 hj (fun R hR => by rw [rL_ne (Or.inl (by omega))]; exact g3 R hR) (nC D - 1) 0 5000 _ (2 ^ riv D) (by omega) (by omega) Fr.rfl p2 Nat.testBit_two_pow_self (by omega)
  rw [k1, bq_s]
  refine ⟨ρ2, rfl, f0.trans ((f1.mono (fun a j z => by omega)).trans ((g2.mono (fun a j z => by omega)).trans ((f3.mono (fun a j z => by unfold Xz at z; omega)).trans (k2.mono (fun a j z => by omega))))), ?_, fun i hi => ?_⟩
  · rw [k2.L (by omega), rL_eq]
  · rw [k3 i (by omega) hi, Nat.sub_zero]
/-- what stages write -/
def Xst (a _j : Nat) : Prop := 222 ≤ a ∧ a ≤ 224
def CS {α : Type} (σ : ah_H) (t : Nat) (D : DD) (v : α) (r : α × ah_H) : Prop := r.1 = v ∧ Fr Xst σ r.2 ∧ CJ r.2 t D
theorem CS.z {α : Type} (h : CJ σ t D) {v : α} : CS σ t D v (v, σ) := ⟨rfl, Fr.rfl, h⟩
theorem c_stages (h : CJ σ t D) (w : Int32) : Ok (f_X11_stages 0 w σ) (CS σ t D (sStages D w)) := by
  have hw := h.w
  have b1 := h.r.bd
  have htn := h.r.tn
  unfold f_X11_stages f_X11_stages_0 sStages
  simp only [to_bq, l_0, l_1, l_2, l_3, l_4, l_5, l_6, l_7, l_8, l_9, l_10, l_11, l_12, l_13, l_14, l_15, l_16, l_17, l_18, l_19, l_20, l_21, l_22, l_23, l_24, l_25, l_26, l_27, l_28, l_29, l_30, l_31, l_32, l_40, l_41, l_42, l_43, l_44, l_45, l_46, l_47, l_48, l_49, l_50, l_51, l_52, l_53, l_54, l_55, l_56, l_57, l_58, l_59, l_60, l_61, l_62, l_63, l_64, l_72, l_97, l_99, l_100, l_104, l_120, l_122, l_128, l_140, l_255, l_256, l_257, l_258, l_260, l_261, l_262, l_364, l_680, l_700, l_701, l_840, l_999, l_1023, l_1024, l_9999, l_10000, l_1000000, lm]
  simp (disch := first | (with_reducible assumption) | omega | exact ⟨by omega, by omega⟩ | ((with_reducible first | apply Wf.wI | apply Wf.wL | apply Wf.fL | apply Wf.fI | apply Wf.fr); (repeat (with_reducible first | assumption | apply Wf.wI | apply Wf.wL | apply Wf.fL | apply Wf.fI | apply Wf.fr)))) only [ck_0, gI_0, gL_0, pI_0, pZ0_0, pZ1_0, pL_0, gR_0_0, pR_0_2, gR_0_2, pR_0_3, gR_0_3, gR_0_4, gR_0_5, gR_0_6, gR_0_7, gR_0_8, bq_s, bd_s, mp_s, rz_0, rz_1, bI_rz, c_allRunOut h.1, q_m1]
  by_cases qj : jnd D
  · rw [cif_t qj, cI_t qj, if_neg (show ¬ nI 1 = nI 0 by decide)]
    obtain ⟨e1, e2, -⟩ := h.r.t.rv qj.1
    by_cases q1 : w < nI 0
    · rw [if_pos q1, if_pos q1]; exact ⟨_, rfl, CS.z h⟩
    rw [if_neg q1, if_neg q1]
    simp (disch := first | (with_reducible assumption) | omega | exact ⟨by omega, by omega⟩ | ((with_reducible first | apply Wf.wI | apply Wf.wL | apply Wf.fL | apply Wf.fI | apply Wf.fr); (repeat (with_reducible first | assumption | apply Wf.wI | apply Wf.wL | apply Wf.fL | apply Wf.fI | apply Wf.fr)))) only [ck_0, gI_0, gL_0, pI_0, pZ0_0, pZ1_0, pL_0, gR_0_0, pR_0_2, gR_0_2, pR_0_3, gR_0_3, gR_0_4, gR_0_5, gR_0_6, gR_0_7, gR_0_8, ck_t, gI_t, gL_t, pI_t, pZ0_t, pZ1_t, pL_t, ck_w, gI_w, gL_w, pI_w, pZ0_w, pZ1_w, pL_w, gR_t_1, gR_t_5, gR_t_7, gR_t_9, gR_t_10, gR_t_11, gR_t_12, gR_t_15, gR_w_2, gR_w_3, gR_w_4, gR_w_5, gR_w_6, gR_w_7, aR_crow, aR_srow, aR_prow, aR_rrow, aI_crow, sI_crow, len_crow, aI_srow, sI_srow, len_srow, aI_prow, sI_prow, len_prow, aI_rrow, sI_rrow, len_rrow, aI_t25, sI_t25, len_t25, aI_t31, sI_t31, len_t31, aI_t32, sI_t32, len_t32, aI_t34, sI_t34, len_t34, aI_t35, sI_t35, len_t35, aI_t36, sI_t36, len_t36, aI_t37, sI_t37, len_t37, aL_t38, sL_t38, len_t38, aL_t39, sL_t39, len_t39, bq_s, bd_s, mp_s, rz_0, rz_1, bI_rz, h.2.2.1, tr_C h.r]
    by_cases q2 : w ≤ nI (nC D - 1)
    · obtain ⟨j, hj, rfl⟩ := le_rng (by omega) q1 q2
      obtain ⟨ρ, g1, g2, g3, g4⟩ := c_settle h qj
      have h3 := h.fr g2 (fun a j _ => by omega)
      have hw3 := h3.w
      rw [if_pos (by rw [lt_nI (by omega) (by omega)]; omega), if_pos q2, g1, bq_s, ix_nI (by omega)]
      simp (disch := first | (with_reducible assumption) | omega | exact ⟨by omega, by omega⟩ | ((with_reducible first | apply Wf.wI | apply Wf.wL | apply Wf.fL | apply Wf.fI | apply Wf.fr); (repeat (with_reducible first | assumption | apply Wf.wI | apply Wf.wL | apply Wf.fL | apply Wf.fI | apply Wf.fr)))) only [zadd, zmul, zsub, le_nI, lt_nI, eq_nI, neg_nI, gen_nI, neg_lt, neg_le, neg_lt', neg_le', nI_lt0]
      by_cases q3 : j = 0
      · rw [if_pos q3, if_pos q3, gR_0_8 hw3, bq_s, gL_222 hw3, bq_s, g3]; exact ⟨_, rfl, rfl, g2, h3⟩
      · have hgb := grd_b h.r.t (j - 1) (2 ^ riv D)
        rw [if_neg q3, if_neg q3, gR_0_8 hw3, bq_s, gR_222_1 hw3, bq_s, zsub (by omega), aI_223 hw3 (by omega), bq_s, g4 (j - 1) (by omega), toL_n (by omega)]
        exact ⟨_, rfl, rfl, g2, h3⟩
    · rw [if_neg (fun z => q2 (by rw [Int32.le_iff_toInt_le, nI_t (by omega)]; rw [Int32.lt_iff_toInt_lt, nI_t (by omega)] at z; omega)), if_neg q2]; exact ⟨_, rfl, CS.z h⟩
  · rw [cif_f qj, cI_f qj, if_pos rfl]; exact ⟨_, rfl, CS.z h⟩
theorem c_so22 (h : SE σ t D) (o : Int32) {n : Nat} (hnn : n ≤ 6) : ∀ m k fu Q s, k + m = n → m < fu → Q < 2 ^ nC D → f_X6_sumOf_22 fu 222 (nI n) o (nI Q) (iL s) (nI k) σ = some (iL (stw D o m k Q s), σ) := by
  have hw := h.1.w
  have b1 := h.1.r.bd
  have htn := h.1.r.tn
  have p7 : 2 ^ nC D ≤ 128 := Nat.pow_le_pow_right (n := 2) (by omega) b1.1
  have hpos : 0 < 2 ^ nC D := Nat.pow_pos (by omega)
  intro m
  induction m with
  | zero =>
    intro k fu Q s hk hf hQ
    obtain ⟨fu, rfl⟩ : ∃ q, fu = q + 1 := ⟨fu - 1, by omega⟩
    obtain rfl : k = n := by omega
    show f_X6_sumOf_22_b _ _ _ _ _ _ _ _ = some (iL (if _ then _ else _), σ)
    unfold f_X6_sumOf_22_b f_X6_sumOf_92
    simp only [to_bq, l_0, l_1, l_2, l_3, l_4, l_5, l_6, l_7, l_8, l_9, l_10, l_11, l_12, l_13, l_14, l_15, l_16, l_17, l_18, l_19, l_20, l_21, l_22, l_23, l_24, l_25, l_26, l_27, l_28, l_29, l_30, l_31, l_32, l_40, l_41, l_42, l_43, l_44, l_45, l_46, l_47, l_48, l_49, l_50, l_51, l_52, l_53, l_54, l_55, l_56, l_57, l_58, l_59, l_60, l_61, l_62, l_63, l_64, l_72, l_97, l_99, l_100, l_104, l_120, l_122, l_128, l_140, l_255, l_256, l_257, l_258, l_260, l_261, l_262, l_364, l_680, l_700, l_701, l_840, l_999, l_1023, l_1024, l_9999, l_10000, l_1000000, lm]
    simp (disch := first | (with_reducible assumption) | omega | exact ⟨by omega, by omega⟩ | ((with_reducible first | apply Wf.wI | apply Wf.wL | apply Wf.fL | apply Wf.fI | apply Wf.fr); (repeat (with_reducible first | assumption | apply Wf.wI | apply Wf.wL | apply Wf.fL | apply Wf.fI | apply Wf.fr)))) only [ck_222, gI_222, gL_222, pI_222, pZ0_222, pZ1_222, pL_222, gR_222_1, gR_222_2, gR_222_3, pR_222_4, gR_222_4, ck_t, gI_t, gL_t, pI_t, pZ0_t, pZ1_t, pL_t, ck_w, gI_w, gL_w, pI_w, pZ0_w, pZ1_w, pL_w, gR_t_1, gR_t_5, gR_t_7, gR_t_9, gR_t_10, gR_t_11, gR_t_12, gR_t_15, gR_w_2, gR_w_3, gR_w_4, gR_w_5, gR_w_6, gR_w_7, aR_crow, aR_srow, aR_prow, aR_rrow, aI_crow, sI_crow, len_crow, aI_srow, sI_srow, len_srow, aI_prow, sI_prow, len_prow, aI_rrow, sI_rrow, len_rrow, aI_t25, sI_t25, len_t25, aI_t31, sI_t31, len_t31, aI_t32, sI_t32, len_t32, aI_t34, sI_t34, len_t34, aI_t35, sI_t35, len_t35, aI_t36, sI_t36, len_t36, aI_t37, sI_t37, len_t37, aL_t38, sL_t38, len_t38, aL_t39, sL_t39, len_t39, bq_s, bd_s, mp_s, rz_0, rz_1, bI_rz, if_true, if_false, ite_true, ite_false, reduceIte, not_true, not_false, and_true, true_and, and_false, false_and, or_true, true_or, or_false, false_or, eq_self, h.2, tr_C h.1.r, Int32.le_refl, q_m2]
    rw [z_one (by omega), zsub (by omega)]
    simp (disch := first | (with_reducible assumption) | omega | exact ⟨by omega, by omega⟩ | ((with_reducible first | apply Wf.wI | apply Wf.wL | apply Wf.fL | apply Wf.fI | apply Wf.fr); (repeat (with_reducible first | assumption | apply Wf.wI | apply Wf.wL | apply Wf.fL | apply Wf.fI | apply Wf.fr)))) only [zadd, zmul, zsub, le_nI, lt_nI, eq_nI, neg_nI, gen_nI, neg_lt, neg_le, neg_lt', neg_le', nI_lt0]
    by_cases q : Q = 2 ^ nC D - 1
    · rw [if_pos q, if_pos q]
    · rw [if_neg q, if_neg q]
  | succ m ih =>
    intro k fu Q s hk hf hQ
    obtain ⟨fu, rfl⟩ : ∃ q, fu = q + 1 := ⟨fu - 1, by omega⟩
    obtain ⟨d1, d2⟩ := dg_e o k
    have hde : (o >>> ((nI 4 * nI k) &&& nI 31)) &&& nI 15 = nI (dgn o k) := d1
    show f_X6_sumOf_22_b _ _ _ _ _ _ _ _ = some (iL (cif _ _ _), σ)
    unfold f_X6_sumOf_22_b
    simp only [to_bq, l_0, l_1, l_2, l_3, l_4, l_5, l_6, l_7, l_8, l_9, l_10, l_11, l_12, l_13, l_14, l_15, l_16, l_17, l_18, l_19, l_20, l_21, l_22, l_23, l_24, l_25, l_26, l_27, l_28, l_29, l_30, l_31, l_32, l_40, l_41, l_42, l_43, l_44, l_45, l_46, l_47, l_48, l_49, l_50, l_51, l_52, l_53, l_54, l_55, l_56, l_57, l_58, l_59, l_60, l_61, l_62, l_63, l_64, l_72, l_97, l_99, l_100, l_104, l_120, l_122, l_128, l_140, l_255, l_256, l_257, l_258, l_260, l_261, l_262, l_364, l_680, l_700, l_701, l_840, l_999, l_1023, l_1024, l_9999, l_10000, l_1000000, lm]
    rw [hde]
    simp (disch := first | (with_reducible assumption) | omega | exact ⟨by omega, by omega⟩ | ((with_reducible first | apply Wf.wI | apply Wf.wL | apply Wf.fL | apply Wf.fI | apply Wf.fr); (repeat (with_reducible first | assumption | apply Wf.wI | apply Wf.wL | apply Wf.fL | apply Wf.fI | apply Wf.fr)))) only [ck_222, gI_222, gL_222, pI_222, pZ0_222, pZ1_222, pL_222, gR_222_1, gR_222_2, gR_222_3, pR_222_4, gR_222_4, bq_s, bd_s, mp_s, rz_0, rz_1, bI_rz, if_true, if_false, ite_true, ite_false, reduceIte, not_true, not_false, and_true, true_and, and_false, false_and, or_true, true_or, or_false, false_or, eq_self, h.2, c_isCorner' h.1.r, bI_0, ite_n, q_m2, le_nI, show (n ≤ k) = False from eq_false (by omega)]
    by_cases q0 : dgn o k < nC D
    · rw [if_pos (okC_nI h.1.r.t q0), c_canBuild h q0 hQ, bq_s]
      by_cases q : blb D Q (dgn o k)
      · rw [cif_t ⟨q0, q⟩, if_neg (by rw [cI_0]; exact fun z => z q), c_carting h hQ, bq_s, z_set (by omega), iadd, zadd]
        exact ih (k + 1) fu _ _ (by omega) (by omega) (or_b hQ (pw_b q0))
      · rw [cif_f (fun z => q z.2), if_pos (by rw [cI_0]; exact q)]
    · rw [if_neg (fun z => by have := z.2; rw [le_nI (by omega) (by omega)] at this; omega), cif_f (fun z => q0 z.1)]
theorem c_stage (h : CJ σ t D) (n o : Int32) : Ok (f_X11_stage 0 n o σ) (CS σ t D (sStage D n o)) := by
  have hw := h.w
  have b1 := h.r.bd
  have htn := h.r.tn
  unfold f_X11_stage f_X11_stage_0 sStage
  simp only [to_bq, l_0, l_1, l_2, l_3, l_4, l_5, l_6, l_7, l_8, l_9, l_10, l_11, l_12, l_13, l_14, l_15, l_16, l_17, l_18, l_19, l_20, l_21, l_22, l_23, l_24, l_25, l_26, l_27, l_28, l_29, l_30, l_31, l_32, l_40, l_41, l_42, l_43, l_44, l_45, l_46, l_47, l_48, l_49, l_50, l_51, l_52, l_53, l_54, l_55, l_56, l_57, l_58, l_59, l_60, l_61, l_62, l_63, l_64, l_72, l_97, l_99, l_100, l_104, l_120, l_122, l_128, l_140, l_255, l_256, l_257, l_258, l_260, l_261, l_262, l_364, l_680, l_700, l_701, l_840, l_999, l_1023, l_1024, l_9999, l_10000, l_1000000, lm]
  simp (disch := first | (with_reducible assumption) | omega | exact ⟨by omega, by omega⟩ | ((with_reducible first | apply Wf.wI | apply Wf.wL | apply Wf.fL | apply Wf.fI | apply Wf.fr); (repeat (with_reducible first | assumption | apply Wf.wI | apply Wf.wL | apply Wf.fL | apply Wf.fI | apply Wf.fr)))) only [ck_0, gI_0, gL_0, pI_0, pZ0_0, pZ1_0, pL_0, gR_0_0, pR_0_2, gR_0_2, pR_0_3, gR_0_3, gR_0_4, gR_0_5, gR_0_6, gR_0_7, gR_0_8, bq_s, bd_s, mp_s, rz_0, rz_1, bI_rz, c_allRunOut h.1, q_m1]
  by_cases qj : jnd D
  · rw [cif_t qj, cI_t qj, if_neg (show ¬ nI 1 = nI 0 by decide)]
    obtain ⟨e1, e2, -⟩ := h.r.t.rv qj.1
    by_cases q1 : n < nI 0
    · rw [if_pos q1, if_pos q1]; exact ⟨_, rfl, CS.z h⟩
    rw [if_neg q1, if_neg q1]
    by_cases q2 : n ≤ nI 6
    · obtain ⟨j, hj, rfl⟩ := le_rng (by omega) q1 q2
      have hm : (222, 4) ∈ mut0 := by decide
      have f0 : Fr Xst σ (ah_wR σ 222 4 (some t)) := Fr.rfl.wR hm (by unfold Xst; omega)
      have h0 : SE (ah_wR σ 222 4 (some t)) t D := ⟨h.fr f0 (fun a j _ => by unfold Xst; omega), rR_eq⟩
      have hw0 := h0.1.w
      have hrv := tr_riv h0.1.r
      rw [e1] at hrv
      rw [if_pos (by rw [lt_nI (by omega) (by omega)]; omega), if_pos q2, ix_nI (by omega)]
      simp (disch := first | (with_reducible assumption) | omega | exact ⟨by omega, by omega⟩ | ((with_reducible first | apply Wf.wI | apply Wf.wL | apply Wf.fL | apply Wf.fI | apply Wf.fr); (repeat (with_reducible first | assumption | apply Wf.wI | apply Wf.wL | apply Wf.fL | apply Wf.fI | apply Wf.fr)))) only [ck_0, gI_0, gL_0, pI_0, pZ0_0, pZ1_0, pL_0, gR_0_0, pR_0_2, gR_0_2, pR_0_3, gR_0_3, gR_0_4, gR_0_5, gR_0_6, gR_0_7, gR_0_8, bq_s, bd_s, mp_s, rz_0, rz_1, bI_rz, h.2.2.1]
      unfold f_X6_sumOf f_X6_sumOf_0
      simp only [to_bq, l_0, l_1, l_2, l_3, l_4, l_5, l_6, l_7, l_8, l_9, l_10, l_11, l_12, l_13, l_14, l_15, l_16, l_17, l_18, l_19, l_20, l_21, l_22, l_23, l_24, l_25, l_26, l_27, l_28, l_29, l_30, l_31, l_32, l_40, l_41, l_42, l_43, l_44, l_45, l_46, l_47, l_48, l_49, l_50, l_51, l_52, l_53, l_54, l_55, l_56, l_57, l_58, l_59, l_60, l_61, l_62, l_63, l_64, l_72, l_97, l_99, l_100, l_104, l_120, l_122, l_128, l_140, l_255, l_256, l_257, l_258, l_260, l_261, l_262, l_364, l_680, l_700, l_701, l_840, l_999, l_1023, l_1024, l_9999, l_10000, l_1000000, lm]
      simp (disch := first | (with_reducible assumption) | omega | exact ⟨by omega, by omega⟩ | ((with_reducible first | apply Wf.wI | apply Wf.wL | apply Wf.fL | apply Wf.fI | apply Wf.fr); (repeat (with_reducible first | assumption | apply Wf.wI | apply Wf.wL | apply Wf.fL | apply Wf.fI | apply Wf.fr)))) only [ck_222, gI_222, gL_222, pI_222, pZ0_222, pZ1_222, pL_222, gR_222_1, gR_222_2, gR_222_3, pR_222_4, gR_222_4, ck_t, gI_t, gL_t, pI_t, pZ0_t, pZ1_t, pL_t, ck_w, gI_w, gL_w, pI_w, pZ0_w, pZ1_w, pL_w, gR_t_1, gR_t_5, gR_t_7, gR_t_9, gR_t_10, gR_t_11, gR_t_12, gR_t_15, gR_w_2, gR_w_3, gR_w_4, gR_w_5, gR_w_6, gR_w_7, aR_crow, aR_srow, aR_prow, aR_rrow, aI_crow, sI_crow, len_crow, aI_srow, sI_srow, len_srow, aI_prow, sI_prow, len_prow, aI_rrow, sI_rrow, len_rrow, aI_t25, sI_t25, len_t25, aI_t31, sI_t31, len_t31, aI_t32, sI_t32, len_t32, aI_t34, sI_t34, len_t34, aI_t35, sI_t35, len_t35, aI_t36, sI_t36, len_t36, aI_t37, sI_t37, len_t37, aL_t38, sL_t38, len_t38, aL_t39, sL_t39, len_t39, bq_s, bd_s, mp_s, rz_0, rz_1, bI_rz, h0.2, hrv]
      rw [z_one (by omega), q_0, c_so22 h0 o (by omega) j 0 5000 (2 ^ riv D) 0 (by omega) (by omega) (pw_b e2), bq_s]
      exact ⟨_, rfl, rfl, f0, h0.1⟩
    · rw [if_neg (fun z => q2 (by rw [Int32.le_iff_toInt_le, nI_t (by omega)]; rw [Int32.lt_iff_toInt_lt, nI_t (by omega)] at z; omega)), if_neg q2]; exact ⟨_, rfl, CS.z h⟩
  · rw [cif_f qj, cI_f qj, if_pos rfl]; exact ⟨_, rfl, CS.z h⟩
end
