/-! THE CLASS: its laws -/
section
variable {σ : ah_H} {t : Nat} {D : DD}
theorem c_fillL6 {a n : Nat} (x : Int64) (hs : S0[a]? = some (.inl (.long, n))) (hn : n < 4000) : ∀ m k fu (σ : ah_H), k + m = n → m < fu → Wf σ → f_J7_fill_d0a16_6 fu a x (nI k) (nI n) σ = some (ah_fL σ a k n x) := by
  intro m
  induction m with
  | zero =>
    intro k fu σ hk hf hw
    obtain ⟨fu, rfl⟩ : ∃ q, fu = q + 1 := ⟨fu - 1, by omega⟩
    obtain rfl : k = n := by omega
    show f_J7_fill_d0a16_6_b _ _ _ _ _ _ = _
    unfold f_J7_fill_d0a16_6_b
    rw [if_pos (Int32.le_refl _), fL_0]
  | succ m ih =>
    intro k fu σ hk hf hw
    obtain ⟨fu, rfl⟩ : ∃ q, fu = q + 1 := ⟨fu - 1, by omega⟩
    show f_J7_fill_d0a16_6_b _ _ _ _ _ _ = _
    unfold f_J7_fill_d0a16_6_b
    rw [if_neg (by rw [le_nI (by omega) (by omega)]; omega), hw.sL hs (by omega) (by omega), bd_s, l_1, zadd, ih (k + 1) fu _ (by omega) (by omega) (hw.wL _ _ _), fL_s _ _ (by omega)]
theorem c_fillL {a n : Nat} (x : Int64) (hw : Wf σ) (hs : S0[a]? = some (.inl (.long, n))) (hn : n < 4000) : f_J7_fill_d0a16 a x σ = some (ah_fL σ a 0 n x) := by
  unfold f_J7_fill_d0a16 f_J7_fill_d0a16_0
  rw [hw.len hs, bd_s, l_0]
  exact c_fillL6 x hs hn n 0 5000 σ (by omega) (by omega) hw
theorem c_fillI5 {a n : Nat} (x : Int32) (hs : S0[a]? = some (.inl (.int, n))) (hn : n < 4000) : ∀ m k fu (σ : ah_H), k + m = n → m < fu → Wf σ → f_J7_fill_53178_5 fu a x (nI k) (nI n) σ = some (ah_fI σ a k n x) := by
  intro m
  induction m with
  | zero =>
    intro k fu σ hk hf hw
    obtain ⟨fu, rfl⟩ : ∃ q, fu = q + 1 := ⟨fu - 1, by omega⟩
    obtain rfl : k = n := by omega
    show f_J7_fill_53178_5_b _ _ _ _ _ _ = _
    unfold f_J7_fill_53178_5_b
    rw [if_pos (Int32.le_refl _), fI_0]
  | succ m ih =>
    intro k fu σ hk hf hw
    obtain ⟨fu, rfl⟩ : ∃ q, fu = q + 1 := ⟨fu - 1, by omega⟩
    show f_J7_fill_53178_5_b _ _ _ _ _ _ = _
    unfold f_J7_fill_53178_5_b
    rw [if_neg (by rw [le_nI (by omega) (by omega)]; omega), hw.sI hs (by omega) (by omega), bd_s, l_1, zadd, ih (k + 1) fu _ (by omega) (by omega) (hw.wI _ _ _), fI_s _ _ (by omega)]
theorem c_fillI {a n : Nat} (x : Int32) (hw : Wf σ) (hs : S0[a]? = some (.inl (.int, n))) (hn : n < 4000) : f_J7_fill_53178 a x σ = some (ah_fI σ a 0 n x) := by
  unfold f_J7_fill_53178 f_J7_fill_53178_0
  rw [hw.len hs, bd_s, l_0]
  exact c_fillI5 x hs hn n 0 5000 σ (by omega) (by omega) hw
/-- what the work on a law writes -/
def Xl (t a _j : Nat) : Prop := a = t + 38 ∨ a = t + 39
theorem TR.xl {τ : ah_H} (h : TR σ t D) (g : Fr (Xl t) σ τ) : TR τ t D := h.fr g (fun a j _ _ => by unfold Xl; omega)
theorem c_isTold (h : TR σ t D) {k : Nat} (hk : k < 3) : f_X4_isTold (t + 33) (nI k) σ = some (bI (told D k), σ) := by
  have hw := h.w
  have ht := h.tn
  obtain ⟨b1, b2', b3⟩ := h.t.qfrom hk
  unfold f_X4_isTold f_X4_isTold_0
  simp only [to_bq, l_0, l_1, l_2, l_3, l_4, l_5, l_6, l_7, l_8, l_9, l_10, l_11, l_12, l_13, l_14, l_15, l_16, l_17, l_18, l_19, l_20, l_21, l_22, l_23, l_24, l_25, l_26, l_27, l_28, l_29, l_30, l_31, l_32, l_40, l_41, l_42, l_43, l_44, l_45, l_46, l_47, l_48, l_49, l_50, l_51, l_52, l_53, l_54, l_55, l_56, l_57, l_58, l_59, l_60, l_61, l_62, l_63, l_64, l_72, l_97, l_99, l_100, l_104, l_120, l_122, l_128, l_140, l_255, l_256, l_257, l_258, l_260, l_261, l_262, l_364, l_680, l_700, l_701, l_840, l_999, l_1023, l_1024, l_9999, l_10000, l_1000000, lm]
  simp (disch := first | (with_reducible assumption) | omega | exact ⟨by omega, by omega⟩ | ((with_reducible first | apply Wf.wI | apply Wf.wL | apply Wf.fr); (repeat (with_reducible first | assumption | apply Wf.wI | apply Wf.wL | apply Wf.fr)))) only [ck_t, gI_t, gL_t, pI_t, pZ0_t, pZ1_t, pL_t, ck_w, gI_w, gL_w, pI_w, pZ0_w, pZ1_w, pL_w, gR_t_1, gR_t_5, gR_t_7, gR_t_9, gR_t_10, gR_t_11, gR_t_12, gR_t_15, gR_w_2, gR_w_3, gR_w_4, gR_w_5, gR_w_6, gR_w_7, aR_crow, aR_srow, aR_prow, aR_rrow, aI_crow, sI_crow, len_crow, aI_srow, sI_srow, len_srow, aI_prow, sI_prow, len_prow, aI_rrow, sI_rrow, len_rrow, aI_t25, sI_t25, len_t25, aI_t31, sI_t31, len_t31, aI_t32, sI_t32, len_t32, aI_t34, sI_t34, len_t34, aI_t35, sI_t35, len_t35, aI_t36, sI_t36, len_t36, aI_t37, sI_t37, len_t37, aL_t38, sL_t38, len_t38, aL_t39, sL_t39, len_t39, bq_s, bd_s, mp_s, rz_0, rz_1, bI_rz, zadd, zmul, zsub, le_nI, lt_nI, eq_nI, neg_nI, gen_nI, neg_lt, neg_le, neg_lt', neg_le', nI_lt0, tr_from h, tr_to h]
  unfold bI
  by_cases q : lto D k ≤ lfr D k
  · rw [if_pos q, if_neg (fun r => r q)]
  · rw [if_neg q, if_pos q]
theorem chk_MIN : chk (-9223372036854775808 : Int) = none := by unfold chk; rw [if_neg (by unfold LB1; omega)]
theorem c_joined {v : Nat} {x y : Int} (bx : LB1 x) (hb : LB1 y) (hv : isSg (nI v)) (hv1 : v < 1000) (hv2 : v ≠ 260) : ∃ w, f_X4_joined (nI (sgm v)) (iL x) (iL y) σ = some (iL w, σ) ∧ LB w ∧ chk w = jn v x y := by
  have c0 : chk 0 = some 0 := rfl
  have c1 : chk 1 = some 1 := rfl
  have L0 : LB 0 := ⟨by omega, by omega⟩
  have L1 : LB 1 := ⟨by omega, by omega⟩
  have LM : LB (-9223372036854775808 : Int) := ⟨by omega, by omega⟩
  unfold LB1 at bx hb
  unfold isSg at hv
  simp (disch := omega) only [eq_nI] at hv
  unfold f_X4_joined f_X4_joined_0
  simp only [to_bq, l_0, l_1, l_2, l_3, l_4, l_5, l_6, l_7, l_8, l_9, l_10, l_11, l_12, l_13, l_14, l_15, l_16, l_17, l_18, l_19, l_20, l_21, l_22, l_23, l_24, l_25, l_26, l_27, l_28, l_29, l_30, l_31, l_32, l_40, l_41, l_42, l_43, l_44, l_45, l_46, l_47, l_48, l_49, l_50, l_51, l_52, l_53, l_54, l_55, l_56, l_57, l_58, l_59, l_60, l_61, l_62, l_63, l_64, l_72, l_97, l_99, l_100, l_104, l_120, l_122, l_128, l_140, l_255, l_256, l_257, l_258, l_260, l_261, l_262, l_364, l_680, l_700, l_701, l_840, l_999, l_1023, l_1024, l_9999, l_10000, l_1000000, lm]
  rcases hv with rfl | rfl | rfl | rfl | rfl | rfl | rfl | rfl | rfl | rfl | rfl | rfl | rfl
  · simp (disch := first | (with_reducible assumption) | omega | exact ⟨by omega, by omega⟩ | ((with_reducible first | apply Wf.wI | apply Wf.wL | apply Wf.fr); (repeat (with_reducible first | assumption | apply Wf.wI | apply Wf.wL | apply Wf.fr)))) only [show sgm 43 = 11 from rfl, zadd, zmul, zsub, le_nI, lt_nI, eq_nI, neg_nI, gen_nI, neg_lt, neg_le, neg_lt', neg_le', nI_lt0, q_0, q_1, q_100, q_9999, q_1000000000000, q_100000000000000000, q_4000000000000000000, q_4611686018427387903, q_9223372036854775807, iadd, isub, imul, ineg, cmp_e, cmp_le, cmp_lt, cmp_ge, cmp_gt, maxl_i, minl_i, absl_i, toL_n, ldiv_i, Nat.reduceEqDiff, Nat.reduceAdd, Nat.reduceMul, Nat.reduceSub, Nat.reduceLT, Nat.reduceLeDiff, Nat.add_sub_cancel, Nat.zero_add, Nat.add_zero, Nat.mul_zero, Nat.zero_mul, if_true, if_false, ite_true, ite_false, reduceIte, not_true, not_false, and_true, true_and, and_false, false_and, or_true, true_or, or_false, false_or, eq_self]
    exact ⟨_, rfl, ⟨by omega, by omega⟩, rfl⟩
  · simp (disch := first | (with_reducible assumption) | omega | exact ⟨by omega, by omega⟩ | ((with_reducible first | apply Wf.wI | apply Wf.wL | apply Wf.fr); (repeat (with_reducible first | assumption | apply Wf.wI | apply Wf.wL | apply Wf.fr)))) only [show sgm 45 = 12 from rfl, zadd, zmul, zsub, le_nI, lt_nI, eq_nI, neg_nI, gen_nI, neg_lt, neg_le, neg_lt', neg_le', nI_lt0, q_0, q_1, q_100, q_9999, q_1000000000000, q_100000000000000000, q_4000000000000000000, q_4611686018427387903, q_9223372036854775807, iadd, isub, imul, ineg, cmp_e, cmp_le, cmp_lt, cmp_ge, cmp_gt, maxl_i, minl_i, absl_i, toL_n, ldiv_i, Nat.reduceEqDiff, Nat.reduceAdd, Nat.reduceMul, Nat.reduceSub, Nat.reduceLT, Nat.reduceLeDiff, Nat.add_sub_cancel, Nat.zero_add, Nat.add_zero, Nat.mul_zero, Nat.zero_mul, if_true, if_false, ite_true, ite_false, reduceIte, not_true, not_false, and_true, true_and, and_false, false_and, or_true, true_or, or_false, false_or, eq_self]
    exact ⟨_, rfl, ⟨by omega, by omega⟩, rfl⟩
  · simp (disch := first | (with_reducible assumption) | omega | exact ⟨by omega, by omega⟩ | ((with_reducible first | apply Wf.wI | apply Wf.wL | apply Wf.fr); (repeat (with_reducible first | assumption | apply Wf.wI | apply Wf.wL | apply Wf.fr)))) only [show sgm 42 = 13 from rfl, zadd, zmul, zsub, le_nI, lt_nI, eq_nI, neg_nI, gen_nI, neg_lt, neg_le, neg_lt', neg_le', nI_lt0, q_0, q_1, q_100, q_9999, q_1000000000000, q_100000000000000000, q_4000000000000000000, q_4611686018427387903, q_9223372036854775807, iadd, isub, imul, ineg, cmp_e, cmp_le, cmp_lt, cmp_ge, cmp_gt, maxl_i, minl_i, absl_i, toL_n, ldiv_i, Nat.reduceEqDiff, Nat.reduceAdd, Nat.reduceMul, Nat.reduceSub, Nat.reduceLT, Nat.reduceLeDiff, Nat.add_sub_cancel, Nat.zero_add, Nat.add_zero, Nat.mul_zero, Nat.zero_mul, if_true, if_false, ite_true, ite_false, reduceIte, not_true, not_false, and_true, true_and, and_false, false_and, or_true, true_or, or_false, false_or, eq_self]
    by_cases q : y = 0
    · rw [if_pos q]
      refine ⟨x * y, rfl, ?_, rfl⟩
      subst q
      rw [Int.mul_zero]; exact L0
    · rw [if_neg q]
      have hm := mul_ahead (x := y) (y := x) q
      rw [Int.mul_comm] at hm
      have h3 : ((1000000000000 : Int).tdiv (y.natAbs : Int)).natAbs ≤ 1000000000000 := by
        rw [Int.natAbs_tdiv]; exact Nat.div_le_self _ _
      have key : ∀ ax ay : Int, ax = (x.natAbs : Int) → ay = (y.natAbs : Int) → ∃ w, f_X4_joined_217 (iL x) (iL y) (iL ax) (iL 1000000000000) (iL ay) σ = some (iL w, σ) ∧ LB w ∧ chk w = jn 42 x y := by
        intro ax ay e1 e2
        subst e1 e2
        unfold f_X4_joined_217
        rw [ldiv_i (by omega) (by omega) ⟨by omega, by omega⟩ (by omega), bd_s, l_0]
        simp only [cmp_le (show LB (x.natAbs : Int) from ⟨by omega, by omega⟩) (show LB ((1000000000000 : Int).tdiv (y.natAbs : Int)) from ⟨by omega, by omega⟩)]
        by_cases q2 : LB1 (x * y)
        · rw [if_pos (by have : ¬ _ := fun r => hm.mp r q2; omega)]
          exact ⟨_, by rw [imul], ⟨by unfold LB1 at q2; omega, by unfold LB1 at q2; omega⟩, rfl⟩
        · rw [if_neg (by have := hm.mpr q2; omega)]
          refine ⟨(-9223372036854775808 : Int), rfl, LM, ?_⟩
          rw [chk_MIN]
          show none = chk (x * y)
          unfold chk; rw [if_neg q2]
      have key2 : ∀ ax : Int, ax = (x.natAbs : Int) → ∃ w, f_X4_joined_202 (iL x) (iL y) (iL ax) σ = some (iL w, σ) ∧ LB w ∧ chk w = jn 42 x y := by
        intro ax e1
        unfold f_X4_joined_202
        simp (disch := first | (with_reducible assumption) | omega | exact ⟨by omega, by omega⟩ | ((with_reducible first | apply Wf.wI | apply Wf.wL | apply Wf.fr); (repeat (with_reducible first | assumption | apply Wf.wI | apply Wf.wL | apply Wf.fr)))) only [l_0, l_1, l_2, l_3, l_4, l_5, l_6, l_7, l_8, l_9, l_10, l_11, l_12, l_13, l_14, l_15, l_16, l_17, l_18, l_19, l_20, l_21, l_22, l_23, l_24, l_25, l_26, l_27, l_28, l_29, l_30, l_31, l_32, l_40, l_41, l_42, l_43, l_44, l_45, l_46, l_47, l_48, l_49, l_50, l_51, l_52, l_53, l_54, l_55, l_56, l_57, l_58, l_59, l_60, l_61, l_62, l_63, l_64, l_72, l_97, l_99, l_100, l_104, l_120, l_122, l_128, l_140, l_255, l_256, l_257, l_258, l_260, l_261, l_262, l_364, l_680, l_700, l_701, l_840, l_999, l_1023, l_1024, l_9999, l_10000, l_1000000, lm, q_0, q_1, q_100, q_9999, q_1000000000000, q_100000000000000000, q_4000000000000000000, q_4611686018427387903, q_9223372036854775807, iadd, isub, imul, ineg, cmp_e, cmp_le, cmp_lt, cmp_ge, cmp_gt, maxl_i, minl_i, absl_i, toL_n, ldiv_i]
        by_cases q2 : 0 ≤ y
        · rw [if_pos q2]; exact key _ _ e1 (by omega)
        · rw [if_neg q2]; exact key _ _ e1 (by omega)
      by_cases q2 : 0 ≤ x
      · rw [if_pos q2]; exact key2 _ (by omega)
      · rw [if_neg q2]; exact key2 _ (by omega)
  · simp (disch := first | (with_reducible assumption) | omega | exact ⟨by omega, by omega⟩ | ((with_reducible first | apply Wf.wI | apply Wf.wL | apply Wf.fr); (repeat (with_reducible first | assumption | apply Wf.wI | apply Wf.wL | apply Wf.fr)))) only [show sgm 47 = 14 from rfl, zadd, zmul, zsub, le_nI, lt_nI, eq_nI, neg_nI, gen_nI, neg_lt, neg_le, neg_lt', neg_le', nI_lt0, q_0, q_1, q_100, q_9999, q_1000000000000, q_100000000000000000, q_4000000000000000000, q_4611686018427387903, q_9223372036854775807, iadd, isub, imul, ineg, cmp_e, cmp_le, cmp_lt, cmp_ge, cmp_gt, maxl_i, minl_i, absl_i, toL_n, ldiv_i, Nat.reduceEqDiff, Nat.reduceAdd, Nat.reduceMul, Nat.reduceSub, Nat.reduceLT, Nat.reduceLeDiff, Nat.add_sub_cancel, Nat.zero_add, Nat.add_zero, Nat.mul_zero, Nat.zero_mul, if_true, if_false, ite_true, ite_false, reduceIte, not_true, not_false, and_true, true_and, and_false, false_and, or_true, true_or, or_false, false_or, eq_self]
    by_cases q : y = 0
    · rw [if_pos q]
      refine ⟨(-9223372036854775808 : Int), rfl, LM, ?_⟩
      rw [chk_MIN]
      show none = (if y = 0 then none else chk (x.tdiv y))
      rw [if_pos q]
    · rw [if_neg q]
      have h3 : (x.tdiv y).natAbs ≤ x.natAbs := by
        rw [Int.natAbs_tdiv]; exact Nat.div_le_self _ _
      rw [bq_s]
      refine ⟨_, rfl, ⟨by omega, by omega⟩, ?_⟩
      show _ = (if y = 0 then none else chk (x.tdiv y))
      rw [if_neg q]
  · simp (disch := first | (with_reducible assumption) | omega | exact ⟨by omega, by omega⟩ | ((with_reducible first | apply Wf.wI | apply Wf.wL | apply Wf.fr); (repeat (with_reducible first | assumption | apply Wf.wI | apply Wf.wL | apply Wf.fr)))) only [show sgm 60 = 5 from rfl, zadd, zmul, zsub, le_nI, lt_nI, eq_nI, neg_nI, gen_nI, neg_lt, neg_le, neg_lt', neg_le', nI_lt0, q_0, q_1, q_100, q_9999, q_1000000000000, q_100000000000000000, q_4000000000000000000, q_4611686018427387903, q_9223372036854775807, iadd, isub, imul, ineg, cmp_e, cmp_le, cmp_lt, cmp_ge, cmp_gt, maxl_i, minl_i, absl_i, toL_n, ldiv_i, Nat.reduceEqDiff, Nat.reduceAdd, Nat.reduceMul, Nat.reduceSub, Nat.reduceLT, Nat.reduceLeDiff, Nat.add_sub_cancel, Nat.zero_add, Nat.add_zero, Nat.mul_zero, Nat.zero_mul, if_true, if_false, ite_true, ite_false, reduceIte, not_true, not_false, and_true, true_and, and_false, false_and, or_true, true_or, or_false, false_or, eq_self]
    split
    · next q => exact ⟨0, rfl, L0, by rw [c0]; show _ = some (b2 (x < y)); rw [b2_f (by omega)]⟩
    · next q => exact ⟨1, rfl, L1, by rw [c1]; show _ = some (b2 (x < y)); rw [b2_t (by omega)]⟩
  · simp (disch := first | (with_reducible assumption) | omega | exact ⟨by omega, by omega⟩ | ((with_reducible first | apply Wf.wI | apply Wf.wL | apply Wf.fr); (repeat (with_reducible first | assumption | apply Wf.wI | apply Wf.wL | apply Wf.fr)))) only [show sgm 62 = 10 from rfl, zadd, zmul, zsub, le_nI, lt_nI, eq_nI, neg_nI, gen_nI, neg_lt, neg_le, neg_lt', neg_le', nI_lt0, q_0, q_1, q_100, q_9999, q_1000000000000, q_100000000000000000, q_4000000000000000000, q_4611686018427387903, q_9223372036854775807, iadd, isub, imul, ineg, cmp_e, cmp_le, cmp_lt, cmp_ge, cmp_gt, maxl_i, minl_i, absl_i, toL_n, ldiv_i, Nat.reduceEqDiff, Nat.reduceAdd, Nat.reduceMul, Nat.reduceSub, Nat.reduceLT, Nat.reduceLeDiff, Nat.add_sub_cancel, Nat.zero_add, Nat.add_zero, Nat.mul_zero, Nat.zero_mul, if_true, if_false, ite_true, ite_false, reduceIte, not_true, not_false, and_true, true_and, and_false, false_and, or_true, true_or, or_false, false_or, eq_self]
    split
    · next q => exact ⟨0, rfl, L0, by rw [c0]; show _ = some (b2 (y < x)); rw [b2_f (by omega)]⟩
    · next q => exact ⟨1, rfl, L1, by rw [c1]; show _ = some (b2 (y < x)); rw [b2_t (by omega)]⟩
  · simp (disch := first | (with_reducible assumption) | omega | exact ⟨by omega, by omega⟩ | ((with_reducible first | apply Wf.wI | apply Wf.wL | apply Wf.fr); (repeat (with_reducible first | assumption | apply Wf.wI | apply Wf.wL | apply Wf.fr)))) only [show sgm 61 = 7 from rfl, zadd, zmul, zsub, le_nI, lt_nI, eq_nI, neg_nI, gen_nI, neg_lt, neg_le, neg_lt', neg_le', nI_lt0, q_0, q_1, q_100, q_9999, q_1000000000000, q_100000000000000000, q_4000000000000000000, q_4611686018427387903, q_9223372036854775807, iadd, isub, imul, ineg, cmp_e, cmp_le, cmp_lt, cmp_ge, cmp_gt, maxl_i, minl_i, absl_i, toL_n, ldiv_i, Nat.reduceEqDiff, Nat.reduceAdd, Nat.reduceMul, Nat.reduceSub, Nat.reduceLT, Nat.reduceLeDiff, Nat.add_sub_cancel, Nat.zero_add, Nat.add_zero, Nat.mul_zero, Nat.zero_mul, if_true, if_false, ite_true, ite_false, reduceIte, not_true, not_false, and_true, true_and, and_false, false_and, or_true, true_or, or_false, false_or, eq_self]
    split
    · next q => exact ⟨1, rfl, L1, by rw [c1]; show _ = some (b2 (x = y)); rw [b2_t (by omega)]⟩
    · next q => exact ⟨0, rfl, L0, by rw [c0]; show _ = some (b2 (x = y)); rw [b2_f (by omega)]⟩
  · simp (disch := first | (with_reducible assumption) | omega | exact ⟨by omega, by omega⟩ | ((with_reducible first | apply Wf.wI | apply Wf.wL | apply Wf.fr); (repeat (with_reducible first | assumption | apply Wf.wI | apply Wf.wL | apply Wf.fr)))) only [show sgm 256 = 6 from rfl, zadd, zmul, zsub, le_nI, lt_nI, eq_nI, neg_nI, gen_nI, neg_lt, neg_le, neg_lt', neg_le', nI_lt0, q_0, q_1, q_100, q_9999, q_1000000000000, q_100000000000000000, q_4000000000000000000, q_4611686018427387903, q_9223372036854775807, iadd, isub, imul, ineg, cmp_e, cmp_le, cmp_lt, cmp_ge, cmp_gt, maxl_i, minl_i, absl_i, toL_n, ldiv_i, Nat.reduceEqDiff, Nat.reduceAdd, Nat.reduceMul, Nat.reduceSub, Nat.reduceLT, Nat.reduceLeDiff, Nat.add_sub_cancel, Nat.zero_add, Nat.add_zero, Nat.mul_zero, Nat.zero_mul, if_true, if_false, ite_true, ite_false, reduceIte, not_true, not_false, and_true, true_and, and_false, false_and, or_true, true_or, or_false, false_or, eq_self]
    split
    · next q => exact ⟨0, rfl, L0, by rw [c0]; show _ = some (b2 (x ≤ y)); rw [b2_f (by omega)]⟩
    · next q => exact ⟨1, rfl, L1, by rw [c1]; show _ = some (b2 (x ≤ y)); rw [b2_t (by omega)]⟩
  · simp (disch := first | (with_reducible assumption) | omega | exact ⟨by omega, by omega⟩ | ((with_reducible first | apply Wf.wI | apply Wf.wL | apply Wf.fr); (repeat (with_reducible first | assumption | apply Wf.wI | apply Wf.wL | apply Wf.fr)))) only [show sgm 257 = 8 from rfl, zadd, zmul, zsub, le_nI, lt_nI, eq_nI, neg_nI, gen_nI, neg_lt, neg_le, neg_lt', neg_le', nI_lt0, q_0, q_1, q_100, q_9999, q_1000000000000, q_100000000000000000, q_4000000000000000000, q_4611686018427387903, q_9223372036854775807, iadd, isub, imul, ineg, cmp_e, cmp_le, cmp_lt, cmp_ge, cmp_gt, maxl_i, minl_i, absl_i, toL_n, ldiv_i, Nat.reduceEqDiff, Nat.reduceAdd, Nat.reduceMul, Nat.reduceSub, Nat.reduceLT, Nat.reduceLeDiff, Nat.add_sub_cancel, Nat.zero_add, Nat.add_zero, Nat.mul_zero, Nat.zero_mul, if_true, if_false, ite_true, ite_false, reduceIte, not_true, not_false, and_true, true_and, and_false, false_and, or_true, true_or, or_false, false_or, eq_self]
    split
    · next q => exact ⟨0, rfl, L0, by rw [c0]; show _ = some (b2 (¬ x = y)); rw [b2_f (by omega)]⟩
    · next q => exact ⟨1, rfl, L1, by rw [c1]; show _ = some (b2 (¬ x = y)); rw [b2_t (by omega)]⟩
  · simp (disch := first | (with_reducible assumption) | omega | exact ⟨by omega, by omega⟩ | ((with_reducible first | apply Wf.wI | apply Wf.wL | apply Wf.fr); (repeat (with_reducible first | assumption | apply Wf.wI | apply Wf.wL | apply Wf.fr)))) only [show sgm 258 = 9 from rfl, zadd, zmul, zsub, le_nI, lt_nI, eq_nI, neg_nI, gen_nI, neg_lt, neg_le, neg_lt', neg_le', nI_lt0, q_0, q_1, q_100, q_9999, q_1000000000000, q_100000000000000000, q_4000000000000000000, q_4611686018427387903, q_9223372036854775807, iadd, isub, imul, ineg, cmp_e, cmp_le, cmp_lt, cmp_ge, cmp_gt, maxl_i, minl_i, absl_i, toL_n, ldiv_i, Nat.reduceEqDiff, Nat.reduceAdd, Nat.reduceMul, Nat.reduceSub, Nat.reduceLT, Nat.reduceLeDiff, Nat.add_sub_cancel, Nat.zero_add, Nat.add_zero, Nat.mul_zero, Nat.zero_mul, if_true, if_false, ite_true, ite_false, reduceIte, not_true, not_false, and_true, true_and, and_false, false_and, or_true, true_or, or_false, false_or, eq_self]
    split
    · next q => exact ⟨0, rfl, L0, by rw [c0]; show _ = some (b2 (y ≤ x)); rw [b2_f (by omega)]⟩
    · next q => exact ⟨1, rfl, L1, by rw [c1]; show _ = some (b2 (y ≤ x)); rw [b2_t (by omega)]⟩
  · exact absurd rfl hv2
  · simp (disch := first | (with_reducible assumption) | omega | exact ⟨by omega, by omega⟩ | ((with_reducible first | apply Wf.wI | apply Wf.wL | apply Wf.fr); (repeat (with_reducible first | assumption | apply Wf.wI | apply Wf.wL | apply Wf.fr)))) only [show sgm 261 = 3 from rfl, zadd, zmul, zsub, le_nI, lt_nI, eq_nI, neg_nI, gen_nI, neg_lt, neg_le, neg_lt', neg_le', nI_lt0, q_0, q_1, q_100, q_9999, q_1000000000000, q_100000000000000000, q_4000000000000000000, q_4611686018427387903, q_9223372036854775807, iadd, isub, imul, ineg, cmp_e, cmp_le, cmp_lt, cmp_ge, cmp_gt, maxl_i, minl_i, absl_i, toL_n, ldiv_i, Nat.reduceEqDiff, Nat.reduceAdd, Nat.reduceMul, Nat.reduceSub, Nat.reduceLT, Nat.reduceLeDiff, Nat.add_sub_cancel, Nat.zero_add, Nat.add_zero, Nat.mul_zero, Nat.zero_mul, if_true, if_false, ite_true, ite_false, reduceIte, not_true, not_false, and_true, true_and, and_false, false_and, or_true, true_or, or_false, false_or, eq_self]
    split
    · next q => exact ⟨0, rfl, L0, by rw [c0]; show _ = some (b2 (¬ x = 0 ∧ ¬ y = 0)); rw [b2_f (by omega)]⟩
    · split
      · next q => exact ⟨0, rfl, L0, by rw [c0]; show _ = some (b2 (¬ x = 0 ∧ ¬ y = 0)); rw [b2_f (by omega)]⟩
      · next q => exact ⟨1, rfl, L1, by rw [c1]; show _ = some (b2 (¬ x = 0 ∧ ¬ y = 0)); rw [b2_t (by omega)]⟩
  · simp (disch := first | (with_reducible assumption) | omega | exact ⟨by omega, by omega⟩ | ((with_reducible first | apply Wf.wI | apply Wf.wL | apply Wf.fr); (repeat (with_reducible first | assumption | apply Wf.wI | apply Wf.wL | apply Wf.fr)))) only [show sgm 262 = 2 from rfl, zadd, zmul, zsub, le_nI, lt_nI, eq_nI, neg_nI, gen_nI, neg_lt, neg_le, neg_lt', neg_le', nI_lt0, q_0, q_1, q_100, q_9999, q_1000000000000, q_100000000000000000, q_4000000000000000000, q_4611686018427387903, q_9223372036854775807, iadd, isub, imul, ineg, cmp_e, cmp_le, cmp_lt, cmp_ge, cmp_gt, maxl_i, minl_i, absl_i, toL_n, ldiv_i, Nat.reduceEqDiff, Nat.reduceAdd, Nat.reduceMul, Nat.reduceSub, Nat.reduceLT, Nat.reduceLeDiff, Nat.add_sub_cancel, Nat.zero_add, Nat.add_zero, Nat.mul_zero, Nat.zero_mul, if_true, if_false, ite_true, ite_false, reduceIte, not_true, not_false, and_true, true_and, and_false, false_and, or_true, true_or, or_false, false_or, eq_self]
    split
    · split
      · next q => exact ⟨0, rfl, L0, by rw [c0]; show _ = some (b2 (¬ x = 0 ∨ ¬ y = 0)); rw [b2_f (by omega)]⟩
      · next q => exact ⟨1, rfl, L1, by rw [c1]; show _ = some (b2 (¬ x = 0 ∨ ¬ y = 0)); rw [b2_t (by omega)]⟩
    · next q => exact ⟨1, rfl, L1, by rw [c1]; show _ = some (b2 (¬ x = 0 ∨ ¬ y = 0)); rw [b2_t (by omega)]⟩
theorem c_175 (hw : Wf σ) (ht : Tn t) {k i : Nat} {w : Int} (hk : k < 64) (hL : LB w) (K9 : Nat → Int32 → Int32 → Int32 → ah_H → Option (Int64 × ah_H)) (x1 : Int32) : f_X4_work_175 K9 (t + 33) x1 (nI (k + 1)) (nI i) (iL w) σ = if chk w = none then some (iL (-9223372036854775808 : Int), σ) else K9 (t + 33) x1 (nI (k + 1)) (nI (i + 1)) (ah_wL σ (t + 39) k (iL w)) := by
  unfold f_X4_work_175 f_X4_work_209
  simp only [to_bq, l_0, l_1, l_2, l_3, l_4, l_5, l_6, l_7, l_8, l_9, l_10, l_11, l_12, l_13, l_14, l_15, l_16, l_17, l_18, l_19, l_20, l_21, l_22, l_23, l_24, l_25, l_26, l_27, l_28, l_29, l_30, l_31, l_32, l_40, l_41, l_42, l_43, l_44, l_45, l_46, l_47, l_48, l_49, l_50, l_51, l_52, l_53, l_54, l_55, l_56, l_57, l_58, l_59, l_60, l_61, l_62, l_63, l_64, l_72, l_97, l_99, l_100, l_104, l_120, l_122, l_128, l_140, l_255, l_256, l_257, l_258, l_260, l_261, l_262, l_364, l_680, l_700, l_701, l_840, l_999, l_1023, l_1024, l_9999, l_10000, l_1000000, lm]
  simp (disch := first | (with_reducible assumption) | omega | exact ⟨by omega, by omega⟩ | ((with_reducible first | apply Wf.wI | apply Wf.wL | apply Wf.fr); (repeat (with_reducible first | assumption | apply Wf.wI | apply Wf.wL | apply Wf.fr)))) only [q_m1000000000000, q_m9223372036854775808, ck_t, gI_t, gL_t, pI_t, pZ0_t, pZ1_t, pL_t, ck_w, gI_w, gL_w, pI_w, pZ0_w, pZ1_w, pL_w, gR_t_1, gR_t_5, gR_t_7, gR_t_9, gR_t_10, gR_t_11, gR_t_12, gR_t_15, gR_w_2, gR_w_3, gR_w_4, gR_w_5, gR_w_6, gR_w_7, aR_crow, aR_srow, aR_prow, aR_rrow, aI_crow, sI_crow, len_crow, aI_srow, sI_srow, len_srow, aI_prow, sI_prow, len_prow, aI_rrow, sI_rrow, len_rrow, aI_t25, sI_t25, len_t25, aI_t31, sI_t31, len_t31, aI_t32, sI_t32, len_t32, aI_t34, sI_t34, len_t34, aI_t35, sI_t35, len_t35, aI_t36, sI_t36, len_t36, aI_t37, sI_t37, len_t37, aL_t38, sL_t38, len_t38, aL_t39, sL_t39, len_t39, bq_s, bd_s, mp_s, rz_0, rz_1, bI_rz, zadd, zmul, zsub, le_nI, lt_nI, eq_nI, neg_nI, gen_nI, neg_lt, neg_le, neg_lt', neg_le', nI_lt0, q_0, q_1, q_100, q_9999, q_1000000000000, q_100000000000000000, q_4000000000000000000, q_4611686018427387903, q_9223372036854775807, iadd, isub, imul, ineg, cmp_e, cmp_le, cmp_lt, cmp_ge, cmp_gt, maxl_i, minl_i, absl_i, toL_n, ldiv_i, Nat.reduceEqDiff, Nat.reduceAdd, Nat.reduceMul, Nat.reduceSub, Nat.reduceLT, Nat.reduceLeDiff, Nat.add_sub_cancel, Nat.zero_add, Nat.add_zero, Nat.mul_zero, Nat.zero_mul]
  unfold chk
  by_cases h1 : 1000000000000 < w
  · rw [if_pos h1, if_neg (show ¬ LB1 w by unfold LB1; omega), if_pos rfl]
  · rw [if_neg h1]
    by_cases h2 : -1000000000000 ≤ w
    · rw [if_pos h2, if_pos (show LB1 w by unfold LB1; omega), if_neg (fun q => by cases q)]
    · rw [if_neg h2, if_neg (show ¬ LB1 w by unfold LB1; omega), if_pos rfl]
def topE (o : Option (List Int)) : Int := match o with
  | some (v :: _) => v
  | _ => (-9223372036854775808 : Int)
theorem sgm_ne {v : Nat} (hv : isSg (nI v)) (hv1 : v < 1000) : sgm v < 100 ∧ sgm v ≠ 0 ∧ sgm v ≠ 1 ∧ (sgm v = 4 ↔ v = 260) := by
  unfold isSg at hv
  simp (disch := omega) only [eq_nI] at hv
  rcases hv with rfl | rfl | rfl | rfl | rfl | rfl | rfl | rfl | rfl | rfl | rfl | rfl | rfl <;> decide
theorem c_work9 (h0 : TR σ t D) {k : Nat} (hk : k < 3) {nm : Nat → Int} (hnb : ∀ j, j < 6 → LB1 (nm j)) : ∀ m i fu (τ : ah_H) (s : List Int), i + m = lto D k → m < fu → lfr D k ≤ i → s.length ≤ i → stps D i m s.length = some 1 → Fr (Xl t) σ τ → (∀ j, j < 6 → ah_L τ (t + 38) j = iL (nm j)) → Stk τ (t + 39) s → Ok (f_X4_work_9 fu (t + 33) (nI k) (nI s.length) (nI i) τ) (fun r => r.1 = iL (topE (evl D nm i m s)) ∧ Fr (Xl t) σ r.2) := by
  intro m
  induction m with
  | zero =>
    intro i fu τ s hi hf hl hsl hst hfr hnm hs
    obtain ⟨fu, rfl⟩ : ∃ q, fu = q + 1 := ⟨fu - 1, by omega⟩
    have h : TR τ t D := h0.xl hfr
    have hw := h.w
    have ht := h.tn
    obtain ⟨b1, b2', b3⟩ := h.t.qfrom hk
    show Ok (f_X4_work_9_b _ _ _ _ _ _) _
    unfold f_X4_work_9_b f_X4_work_215
    simp only [to_bq, l_0, l_1, l_2, l_3, l_4, l_5, l_6, l_7, l_8, l_9, l_10, l_11, l_12, l_13, l_14, l_15, l_16, l_17, l_18, l_19, l_20, l_21, l_22, l_23, l_24, l_25, l_26, l_27, l_28, l_29, l_30, l_31, l_32, l_40, l_41, l_42, l_43, l_44, l_45, l_46, l_47, l_48, l_49, l_50, l_51, l_52, l_53, l_54, l_55, l_56, l_57, l_58, l_59, l_60, l_61, l_62, l_63, l_64, l_72, l_97, l_99, l_100, l_104, l_120, l_122, l_128, l_140, l_255, l_256, l_257, l_258, l_260, l_261, l_262, l_364, l_680, l_700, l_701, l_840, l_999, l_1023, l_1024, l_9999, l_10000, l_1000000, lm]
    have hl1 : s.length = 1 := by
      have : (some s.length : Option Nat) = some 1 := hst
      exact Option.some.inj this
    match s, hl1 with
    | [v], _ =>
      obtain ⟨e1, e2, -⟩ := hs
      have e1 : ah_L τ (t + 39) 0 = iL v := e1
      simp (disch := first | (with_reducible assumption) | omega | exact ⟨by omega, by omega⟩ | ((with_reducible first | apply Wf.wI | apply Wf.wL | apply Wf.fr); (repeat (with_reducible first | assumption | apply Wf.wI | apply Wf.wL | apply Wf.fr)))) only [ck_t, gI_t, gL_t, pI_t, pZ0_t, pZ1_t, pL_t, ck_w, gI_w, gL_w, pI_w, pZ0_w, pZ1_w, pL_w, gR_t_1, gR_t_5, gR_t_7, gR_t_9, gR_t_10, gR_t_11, gR_t_12, gR_t_15, gR_w_2, gR_w_3, gR_w_4, gR_w_5, gR_w_6, gR_w_7, aR_crow, aR_srow, aR_prow, aR_rrow, aI_crow, sI_crow, len_crow, aI_srow, sI_srow, len_srow, aI_prow, sI_prow, len_prow, aI_rrow, sI_rrow, len_rrow, aI_t25, sI_t25, len_t25, aI_t31, sI_t31, len_t31, aI_t32, sI_t32, len_t32, aI_t34, sI_t34, len_t34, aI_t35, sI_t35, len_t35, aI_t36, sI_t36, len_t36, aI_t37, sI_t37, len_t37, aL_t38, sL_t38, len_t38, aL_t39, sL_t39, len_t39, bq_s, bd_s, mp_s, rz_0, rz_1, bI_rz, zadd, zmul, zsub, le_nI, lt_nI, eq_nI, neg_nI, gen_nI, neg_lt, neg_le, neg_lt', neg_le', nI_lt0, tr_to h, if_true, if_false, ite_true, ite_false, reduceIte, not_true, not_false, and_true, true_and, and_false, false_and, or_true, true_or, or_false, false_or, eq_self, e1, show (lto D k ≤ i) = True from eq_true (by omega), List.length_cons, List.length_nil, Nat.reduceEqDiff, Nat.reduceAdd, Nat.reduceMul, Nat.reduceSub, Nat.reduceLT, Nat.reduceLeDiff, Nat.add_sub_cancel, Nat.zero_add, Nat.add_zero, Nat.mul_zero, Nat.zero_mul]
      exact ⟨_, rfl, rfl, hfr⟩
  | succ m ih =>
    intro i fu τ s hi hf hl hsl hst hfr hnm hs
    obtain ⟨fu, rfl⟩ : ∃ q, fu = q + 1 := ⟨fu - 1, by omega⟩
    have h : TR τ t D := h0.xl hfr
    have hw := h.w
    have ht := h.tn
    obtain ⟨b1, b2', b3⟩ := h.t.qfrom hk
    have b64 := h.t.qk64
    have hin : i < nK D := by omega
    have hkn := h.t.qkn hin
    have hkc := tr_kn h hin
    show Ok (f_X4_work_9_b _ _ _ _ _ _) _
    unfold f_X4_work_9_b f_X4_work_38 f_X4_work_83 f_X4_work_209
    simp only [to_bq, l_0, l_1, l_2, l_3, l_4, l_5, l_6, l_7, l_8, l_9, l_10, l_11, l_12, l_13, l_14, l_15, l_16, l_17, l_18, l_19, l_20, l_21, l_22, l_23, l_24, l_25, l_26, l_27, l_28, l_29, l_30, l_31, l_32, l_40, l_41, l_42, l_43, l_44, l_45, l_46, l_47, l_48, l_49, l_50, l_51, l_52, l_53, l_54, l_55, l_56, l_57, l_58, l_59, l_60, l_61, l_62, l_63, l_64, l_72, l_97, l_99, l_100, l_104, l_120, l_122, l_128, l_140, l_255, l_256, l_257, l_258, l_260, l_261, l_262, l_364, l_680, l_700, l_701, l_840, l_999, l_1023, l_1024, l_9999, l_10000, l_1000000, lm]
    have hst : (stp (D 244 i) (D 245 i) s.length).bind (stps D (i + 1) m) = some 1 := hst
    show Ok _ (fun r : Int64 × ah_H => r.1 = iL (topE ((kst D nm i s).bind (evl D nm (i + 1) m))) ∧ Fr (Xl t) σ r.2)
    simp (disch := first | (with_reducible assumption) | omega | exact ⟨by omega, by omega⟩ | ((with_reducible first | apply Wf.wI | apply Wf.wL | apply Wf.fr); (repeat (with_reducible first | assumption | apply Wf.wI | apply Wf.wL | apply Wf.fr)))) only [ck_t, gI_t, gL_t, pI_t, pZ0_t, pZ1_t, pL_t, ck_w, gI_w, gL_w, pI_w, pZ0_w, pZ1_w, pL_w, gR_t_1, gR_t_5, gR_t_7, gR_t_9, gR_t_10, gR_t_11, gR_t_12, gR_t_15, gR_w_2, gR_w_3, gR_w_4, gR_w_5, gR_w_6, gR_w_7, aR_crow, aR_srow, aR_prow, aR_rrow, aI_crow, sI_crow, len_crow, aI_srow, sI_srow, len_srow, aI_prow, sI_prow, len_prow, aI_rrow, sI_rrow, len_rrow, aI_t25, sI_t25, len_t25, aI_t31, sI_t31, len_t31, aI_t32, sI_t32, len_t32, aI_t34, sI_t34, len_t34, aI_t35, sI_t35, len_t35, aI_t36, sI_t36, len_t36, aI_t37, sI_t37, len_t37, aL_t38, sL_t38, len_t38, aL_t39, sL_t39, len_t39, bq_s, bd_s, mp_s, rz_0, rz_1, bI_rz, zadd, zmul, zsub, le_nI, lt_nI, eq_nI, neg_nI, gen_nI, neg_lt, neg_le, neg_lt', neg_le', nI_lt0, if_true, if_false, ite_true, ite_false, reduceIte, not_true, not_false, and_true, true_and, and_false, false_and, or_true, true_or, or_false, false_or, eq_self, tr_to h, show (lto D k ≤ i) = False from eq_false (by omega)]
    rcases hkn with ⟨g1, g2⟩ | ⟨g1, g2⟩ | ⟨g1, g2⟩
    · have hg := g2.le
      have ⟨c1, c2⟩ : ah_I τ (t + 34) i = nI 0 ∧ ah_I τ (t + 35) i = nI (ix (D 245 i)) := by
        rcases hkc with ⟨-, e2, e3⟩ | ⟨e1, -⟩ | ⟨e1, -⟩
        · exact ⟨e2, e3.trans g2.eq⟩
        · rw [g1] at e1; exact absurd e1 (by decide)
        · rw [g1] at e1; exact absurd e1 (by decide)
      simp (disch := first | (with_reducible assumption) | omega | exact ⟨by omega, by omega⟩ | ((with_reducible first | apply Wf.wI | apply Wf.wL | apply Wf.fr); (repeat (with_reducible first | assumption | apply Wf.wI | apply Wf.wL | apply Wf.fr)))) only [c1, c2, ck_t, gI_t, gL_t, pI_t, pZ0_t, pZ1_t, pL_t, ck_w, gI_w, gL_w, pI_w, pZ0_w, pZ1_w, pL_w, gR_t_1, gR_t_5, gR_t_7, gR_t_9, gR_t_10, gR_t_11, gR_t_12, gR_t_15, gR_w_2, gR_w_3, gR_w_4, gR_w_5, gR_w_6, gR_w_7, aR_crow, aR_srow, aR_prow, aR_rrow, aI_crow, sI_crow, len_crow, aI_srow, sI_srow, len_srow, aI_prow, sI_prow, len_prow, aI_rrow, sI_rrow, len_rrow, aI_t25, sI_t25, len_t25, aI_t31, sI_t31, len_t31, aI_t32, sI_t32, len_t32, aI_t34, sI_t34, len_t34, aI_t35, sI_t35, len_t35, aI_t36, sI_t36, len_t36, aI_t37, sI_t37, len_t37, aL_t38, sL_t38, len_t38, aL_t39, sL_t39, len_t39, zadd, zmul, zsub, le_nI, lt_nI, eq_nI, neg_nI, gen_nI, neg_lt, neg_le, neg_lt', neg_le', nI_lt0, Nat.reduceEqDiff, Nat.reduceAdd, Nat.reduceMul, Nat.reduceSub, Nat.reduceLT, Nat.reduceLeDiff, Nat.add_sub_cancel, Nat.zero_add, Nat.add_zero, Nat.mul_zero, Nat.zero_mul, if_true, if_false, ite_true, ite_false, reduceIte, not_true, not_false, and_true, true_and, and_false, false_and, or_true, true_or, or_false, false_or, eq_self, bq_s, bd_s, mp_s, rz_0, rz_1, bI_rz, q_0, q_1, q_100, q_9999, q_1000000000000, q_100000000000000000, q_4000000000000000000, q_4611686018427387903, q_9223372036854775807, iadd, isub, imul, ineg, cmp_e, cmp_le, cmp_lt, cmp_ge, cmp_gt, maxl_i, minl_i, absl_i, toL_n, ldiv_i, show (s.length < 64) = True from eq_true (by omega)]
      unfold stp at hst
      unfold kst
      rw [g1] at hst ⊢
      simp (disch := first | (with_reducible assumption) | omega | exact ⟨by omega, by omega⟩ | ((with_reducible first | apply Wf.wI | apply Wf.wL | apply Wf.fr); (repeat (with_reducible first | assumption | apply Wf.wI | apply Wf.wL | apply Wf.fr)))) only [zadd, zmul, zsub, le_nI, lt_nI, eq_nI, neg_nI, gen_nI, neg_lt, neg_le, neg_lt', neg_le', nI_lt0, Nat.reduceEqDiff, Nat.reduceAdd, Nat.reduceMul, Nat.reduceSub, Nat.reduceLT, Nat.reduceLeDiff, Nat.add_sub_cancel, Nat.zero_add, Nat.add_zero, Nat.mul_zero, Nat.zero_mul, if_true, if_false, ite_true, ite_false, reduceIte, not_true, not_false, and_true, true_and, and_false, false_and, or_true, true_or, or_false, false_or, eq_self, bd_s] at hst ⊢
      refine (ih (i + 1) fu _ (((ix (D 245 i) : Nat) : Int) :: s) (by omega) (by omega) (by omega) (by simp; omega) hst (hfr.wL (by unfold Xl; omega)) (fun j hj => by rw [rL_ne (Or.inl (by omega))]; exact hnm j hj) ⟨rL_eq, ⟨by omega, by omega⟩, ?_⟩)
      exact hs.fr (fun j hj => by rw [rL_ne (Or.inr (by omega))])
    · have hg := g2.le
      have hnx := hnm (ix (D 245 i)) (by omega)
      have ⟨c1, c2⟩ : ah_I τ (t + 34) i = nI 1 ∧ ah_I τ (t + 35) i = nI (ix (D 245 i)) := by
        rcases hkc with ⟨e1, -⟩ | ⟨-, e2, e3⟩ | ⟨e1, -⟩
        · rw [g1] at e1; exact absurd e1 (by decide)
        · exact ⟨e2, e3.trans g2.eq⟩
        · rw [g1] at e1; exact absurd e1 (by decide)
      simp (disch := first | (with_reducible assumption) | omega | exact ⟨by omega, by omega⟩ | ((with_reducible first | apply Wf.wI | apply Wf.wL | apply Wf.fr); (repeat (with_reducible first | assumption | apply Wf.wI | apply Wf.wL | apply Wf.fr)))) only [c1, c2, ck_t, gI_t, gL_t, pI_t, pZ0_t, pZ1_t, pL_t, ck_w, gI_w, gL_w, pI_w, pZ0_w, pZ1_w, pL_w, gR_t_1, gR_t_5, gR_t_7, gR_t_9, gR_t_10, gR_t_11, gR_t_12, gR_t_15, gR_w_2, gR_w_3, gR_w_4, gR_w_5, gR_w_6, gR_w_7, aR_crow, aR_srow, aR_prow, aR_rrow, aI_crow, sI_crow, len_crow, aI_srow, sI_srow, len_srow, aI_prow, sI_prow, len_prow, aI_rrow, sI_rrow, len_rrow, aI_t25, sI_t25, len_t25, aI_t31, sI_t31, len_t31, aI_t32, sI_t32, len_t32, aI_t34, sI_t34, len_t34, aI_t35, sI_t35, len_t35, aI_t36, sI_t36, len_t36, aI_t37, sI_t37, len_t37, aL_t38, sL_t38, len_t38, aL_t39, sL_t39, len_t39, zadd, zmul, zsub, le_nI, lt_nI, eq_nI, neg_nI, gen_nI, neg_lt, neg_le, neg_lt', neg_le', nI_lt0, Nat.reduceEqDiff, Nat.reduceAdd, Nat.reduceMul, Nat.reduceSub, Nat.reduceLT, Nat.reduceLeDiff, Nat.add_sub_cancel, Nat.zero_add, Nat.add_zero, Nat.mul_zero, Nat.zero_mul, if_true, if_false, ite_true, ite_false, reduceIte, not_true, not_false, and_true, true_and, and_false, false_and, or_true, true_or, or_false, false_or, eq_self, bq_s, bd_s, mp_s, rz_0, rz_1, bI_rz, hnx, show (s.length < 64) = True from eq_true (by omega)]
      unfold stp at hst
      unfold kst
      rw [g1] at hst ⊢
      simp (disch := first | (with_reducible assumption) | omega | exact ⟨by omega, by omega⟩ | ((with_reducible first | apply Wf.wI | apply Wf.wL | apply Wf.fr); (repeat (with_reducible first | assumption | apply Wf.wI | apply Wf.wL | apply Wf.fr)))) only [zadd, zmul, zsub, le_nI, lt_nI, eq_nI, neg_nI, gen_nI, neg_lt, neg_le, neg_lt', neg_le', nI_lt0, Nat.reduceEqDiff, Nat.reduceAdd, Nat.reduceMul, Nat.reduceSub, Nat.reduceLT, Nat.reduceLeDiff, Nat.add_sub_cancel, Nat.zero_add, Nat.add_zero, Nat.mul_zero, Nat.zero_mul, if_true, if_false, ite_true, ite_false, reduceIte, not_true, not_false, and_true, true_and, and_false, false_and, or_true, true_or, or_false, false_or, eq_self, bd_s] at hst ⊢
      refine (ih (i + 1) fu _ (nm (ix (D 245 i)) :: s) (by omega) (by omega) (by omega) (by simp; omega) hst (hfr.wL (by unfold Xl; omega)) (fun j hj => by rw [rL_ne (Or.inl (by omega))]; exact hnm j hj) ⟨rL_eq, hnb _ (by omega), ?_⟩)
      exact hs.fr (fun j hj => by rw [rL_ne (Or.inr (by omega))])
    · obtain ⟨v, hv, ev, hsg⟩ := isSg_n g2
      obtain ⟨s1, s2, s3, s4⟩ := sgm_ne hsg hv
      have c1 : ah_I τ (t + 34) i = nI (sgm v) := by
        rcases hkc with ⟨e1, -⟩ | ⟨e1, -⟩ | ⟨-, e2⟩
        · rw [g1] at e1; exact absurd e1 (by decide)
        · rw [g1] at e1; exact absurd e1 (by decide)
        · rw [e2, ev, ix_nI (by omega)]
      simp (disch := first | (with_reducible assumption) | omega | exact ⟨by omega, by omega⟩ | ((with_reducible first | apply Wf.wI | apply Wf.wL | apply Wf.fr); (repeat (with_reducible first | assumption | apply Wf.wI | apply Wf.wL | apply Wf.fr)))) only [c1, zadd, zmul, zsub, le_nI, lt_nI, eq_nI, neg_nI, gen_nI, neg_lt, neg_le, neg_lt', neg_le', nI_lt0, Nat.reduceEqDiff, Nat.reduceAdd, Nat.reduceMul, Nat.reduceSub, Nat.reduceLT, Nat.reduceLeDiff, Nat.add_sub_cancel, Nat.zero_add, Nat.add_zero, Nat.mul_zero, Nat.zero_mul, if_true, if_false, ite_true, ite_false, reduceIte, not_true, not_false, and_true, true_and, and_false, false_and, or_true, true_or, or_false, false_or, eq_self, bq_s, bd_s, mp_s, rz_0, rz_1, bI_rz, show (sgm v = 0) = False from eq_false s2, show (sgm v = 1) = False from eq_false s3]
      unfold stp at hst
      unfold kst
      rw [g1, ev] at hst ⊢
      rw [ix_nI (by omega)]
      simp (disch := first | (with_reducible assumption) | omega | exact ⟨by omega, by omega⟩ | ((with_reducible first | apply Wf.wI | apply Wf.wL | apply Wf.fr); (repeat (with_reducible first | assumption | apply Wf.wI | apply Wf.wL | apply Wf.fr)))) only [zadd, zmul, zsub, le_nI, lt_nI, eq_nI, neg_nI, gen_nI, neg_lt, neg_le, neg_lt', neg_le', nI_lt0, Nat.reduceEqDiff, Nat.reduceAdd, Nat.reduceMul, Nat.reduceSub, Nat.reduceLT, Nat.reduceLeDiff, Nat.add_sub_cancel, Nat.zero_add, Nat.add_zero, Nat.mul_zero, Nat.zero_mul, if_true, if_false, ite_true, ite_false, reduceIte, not_true, not_false, and_true, true_and, and_false, false_and, or_true, true_or, or_false, false_or, eq_self, bd_s] at hst ⊢
      by_cases q : v = 260
      · simp only [show (sgm v = 4) = True from eq_true (s4.mpr q), q, if_true, if_false, ite_true, ite_false, reduceIte, not_true, not_false, and_true, true_and, and_false, false_and, or_true, true_or, or_false, false_or, eq_self] at hst ⊢
        match s, hs, hst, hsl with
        | [], _, hst, _ => simp at hst
        | y :: s1, ⟨e1, e2, e3⟩, hst, hsl =>
          have hsl' : s1.length + 1 ≤ i := hsl
          have hyb := e2
          unfold LB1 at hyb
          unfold f_X4_work_105 f_X4_work_152 f_X4_truth f_X4_truth_0
          simp only [to_bq, l_0, l_1, l_2, l_3, l_4, l_5, l_6, l_7, l_8, l_9, l_10, l_11, l_12, l_13, l_14, l_15, l_16, l_17, l_18, l_19, l_20, l_21, l_22, l_23, l_24, l_25, l_26, l_27, l_28, l_29, l_30, l_31, l_32, l_40, l_41, l_42, l_43, l_44, l_45, l_46, l_47, l_48, l_49, l_50, l_51, l_52, l_53, l_54, l_55, l_56, l_57, l_58, l_59, l_60, l_61, l_62, l_63, l_64, l_72, l_97, l_99, l_100, l_104, l_120, l_122, l_128, l_140, l_255, l_256, l_257, l_258, l_260, l_261, l_262, l_364, l_680, l_700, l_701, l_840, l_999, l_1023, l_1024, l_9999, l_10000, l_1000000, lm]
          have e1 : ah_L τ (t + 39) s1.length = iL y := e1
          simp (disch := first | (with_reducible assumption) | omega | exact ⟨by omega, by omega⟩ | ((with_reducible first | apply Wf.wI | apply Wf.wL | apply Wf.fr); (repeat (with_reducible first | assumption | apply Wf.wI | apply Wf.wL | apply Wf.fr)))) only [ck_t, gI_t, gL_t, pI_t, pZ0_t, pZ1_t, pL_t, ck_w, gI_w, gL_w, pI_w, pZ0_w, pZ1_w, pL_w, gR_t_1, gR_t_5, gR_t_7, gR_t_9, gR_t_10, gR_t_11, gR_t_12, gR_t_15, gR_w_2, gR_w_3, gR_w_4, gR_w_5, gR_w_6, gR_w_7, aR_crow, aR_srow, aR_prow, aR_rrow, aI_crow, sI_crow, len_crow, aI_srow, sI_srow, len_srow, aI_prow, sI_prow, len_prow, aI_rrow, sI_rrow, len_rrow, aI_t25, sI_t25, len_t25, aI_t31, sI_t31, len_t31, aI_t32, sI_t32, len_t32, aI_t34, sI_t34, len_t34, aI_t35, sI_t35, len_t35, aI_t36, sI_t36, len_t36, aI_t37, sI_t37, len_t37, aL_t38, sL_t38, len_t38, aL_t39, sL_t39, len_t39, bq_s, bd_s, mp_s, rz_0, rz_1, bI_rz, zadd, zmul, zsub, le_nI, lt_nI, eq_nI, neg_nI, gen_nI, neg_lt, neg_le, neg_lt', neg_le', nI_lt0, q_0, q_1, q_100, q_9999, q_1000000000000, q_100000000000000000, q_4000000000000000000, q_4611686018427387903, q_9223372036854775807, iadd, isub, imul, ineg, cmp_e, cmp_le, cmp_lt, cmp_ge, cmp_gt, maxl_i, minl_i, absl_i, toL_n, ldiv_i, Nat.reduceEqDiff, Nat.reduceAdd, Nat.reduceMul, Nat.reduceSub, Nat.reduceLT, Nat.reduceLeDiff, Nat.add_sub_cancel, Nat.zero_add, Nat.add_zero, Nat.mul_zero, Nat.zero_mul, if_true, if_false, ite_true, ite_false, reduceIte, not_true, not_false, and_true, true_and, and_false, false_and, or_true, true_or, or_false, false_or, eq_self, List.length_cons, show (1 ≤ s1.length + 1) = True from eq_true (by omega), e1, Nat.sub_self, Nat.sub_zero, bd_s] at hst ⊢
          have fin : ∀ w : Int, w = b2 (y = 0) → Ok (f_X4_work_175 (f_X4_work_9 fu) (t + 33) (nI k) (nI (s1.length + 1)) (nI i) (iL w) τ) (fun r => r.1 = iL (topE (evl D nm (i + 1) m (b2 (y = 0) :: s1))) ∧ Fr (Xl t) σ r.2) := by
            intro w hw2
            have hb := b2_b (y = 0)
            rw [c_175 hw ht (by omega) (by unfold LB1 at hb; rw [hw2]; exact ⟨by omega, by omega⟩), hw2, chk_t hb, if_neg (fun q => by cases q)]
            refine (ih (i + 1) fu _ (b2 (y = 0) :: s1) (by omega) (by omega) (by omega) (by simp; omega) hst (hfr.wL (by unfold Xl; omega)) (fun j hj => by rw [rL_ne (Or.inl (by omega))]; exact hnm j hj) ⟨rL_eq, hb, ?_⟩)
            exact e3.fr (fun j hj => by rw [rL_ne (Or.inr (by omega))])
          by_cases q2 : y = 0
          · rw [if_pos q2]; exact fin 1 (by rw [b2_t q2])
          · rw [if_neg q2]; exact fin 0 (by rw [b2_f q2])
      · simp only [show (sgm v = 4) = False from eq_false (fun r => q (s4.mp r)), q, if_true, if_false, ite_true, ite_false, reduceIte, not_true, not_false, and_true, true_and, and_false, false_and, or_true, true_or, or_false, false_or, eq_self] at hst ⊢
        match s, hs, hst, hsl with
        | [], _, hst, _ => simp at hst
        | [_], _, hst, _ => simp at hst
        | y :: x :: s2, ⟨e1, e2, e3, e4, e5⟩, hst, hsl =>
          have hsl' : s2.length + 1 + 1 ≤ i := hsl
          obtain ⟨w, hr, hwb, hwc⟩ := c_joined (σ := τ) e4 e2 hsg hv q
          have e1 : ah_L τ (t + 39) (s2.length + 1) = iL y := e1
          unfold f_X4_work_105
          simp only [to_bq, l_0, l_1, l_2, l_3, l_4, l_5, l_6, l_7, l_8, l_9, l_10, l_11, l_12, l_13, l_14, l_15, l_16, l_17, l_18, l_19, l_20, l_21, l_22, l_23, l_24, l_25, l_26, l_27, l_28, l_29, l_30, l_31, l_32, l_40, l_41, l_42, l_43, l_44, l_45, l_46, l_47, l_48, l_49, l_50, l_51, l_52, l_53, l_54, l_55, l_56, l_57, l_58, l_59, l_60, l_61, l_62, l_63, l_64, l_72, l_97, l_99, l_100, l_104, l_120, l_122, l_128, l_140, l_255, l_256, l_257, l_258, l_260, l_261, l_262, l_364, l_680, l_700, l_701, l_840, l_999, l_1023, l_1024, l_9999, l_10000, l_1000000, lm]
          simp (disch := first | (with_reducible assumption) | omega | exact ⟨by omega, by omega⟩ | ((with_reducible first | apply Wf.wI | apply Wf.wL | apply Wf.fr); (repeat (with_reducible first | assumption | apply Wf.wI | apply Wf.wL | apply Wf.fr)))) only [ck_t, gI_t, gL_t, pI_t, pZ0_t, pZ1_t, pL_t, ck_w, gI_w, gL_w, pI_w, pZ0_w, pZ1_w, pL_w, gR_t_1, gR_t_5, gR_t_7, gR_t_9, gR_t_10, gR_t_11, gR_t_12, gR_t_15, gR_w_2, gR_w_3, gR_w_4, gR_w_5, gR_w_6, gR_w_7, aR_crow, aR_srow, aR_prow, aR_rrow, aI_crow, sI_crow, len_crow, aI_srow, sI_srow, len_srow, aI_prow, sI_prow, len_prow, aI_rrow, sI_rrow, len_rrow, aI_t25, sI_t25, len_t25, aI_t31, sI_t31, len_t31, aI_t32, sI_t32, len_t32, aI_t34, sI_t34, len_t34, aI_t35, sI_t35, len_t35, aI_t36, sI_t36, len_t36, aI_t37, sI_t37, len_t37, aL_t38, sL_t38, len_t38, aL_t39, sL_t39, len_t39, bq_s, bd_s, mp_s, rz_0, rz_1, bI_rz, zadd, zmul, zsub, le_nI, lt_nI, eq_nI, neg_nI, gen_nI, neg_lt, neg_le, neg_lt', neg_le', nI_lt0, Nat.reduceEqDiff, Nat.reduceAdd, Nat.reduceMul, Nat.reduceSub, Nat.reduceLT, Nat.reduceLeDiff, Nat.add_sub_cancel, Nat.zero_add, Nat.add_zero, Nat.mul_zero, Nat.zero_mul, if_true, if_false, ite_true, ite_false, reduceIte, not_true, not_false, and_true, true_and, and_false, false_and, or_true, true_or, or_false, false_or, eq_self, List.length_cons, show (2 ≤ s2.length + 1 + 1) = True from eq_true (by omega), show s2.length + 1 + 1 - 1 = s2.length + 1 by omega, e1, e3, c1, hr, bd_s] at hst ⊢
          rw [c_175 hw ht (by omega) hwb, hwc]
          cases hj : jn v x y with
          | none =>
            rw [if_pos rfl]
            (try simp only [hj, Option.map_none, Option.bind_none])
            exact ⟨_, rfl, rfl, hfr⟩
          | some z =>
            rw [if_neg (by intro q; cases q)]
            (try simp only [hj, Option.map_some, bd_s])
            have hz : w = z := by
              rw [hj] at hwc
              unfold chk at hwc
              split at hwc
              · exact Option.some.inj hwc
              · cases hwc
            rw [hz]
            exact ih (i + 1) fu _ (z :: s2) (by omega) (by omega) (by omega) (by simp; omega) hst (hfr.wL (by unfold Xl; omega)) (fun j hj => by rw [rL_ne (Or.inl (by omega))]; exact hnm j hj) ⟨rL_eq, jn_b hj, e5.fr (fun j hj => by rw [rL_ne (Or.inr (by omega))])⟩
theorem c_work (h0 : TR σ t D) {k : Nat} (hk : k < 3) (hT : told D k) {nm : Nat → Int} (hnb : ∀ j, LB1 (nm j)) (er : Int) (τ : ah_H) (hfr : Fr (Xl t) σ τ) (hnm : ∀ j, j < 6 → ah_L τ (t + 38) j = iL (nm j)) : Ok (f_X4_work (t + 33) (nI k) τ) (fun r => (if lg_cmp r.1 (-9223372036854775808) = nI 0 then iL er else op_maxl (iL 0) r.1) = iL (lawv D k nm er) ∧ Fr (Xl t) σ r.2) := by
  have h : TR τ t D := h0.xl hfr
  have hw := h.w
  have ht := h.tn
  obtain ⟨b1, b2', b3⟩ := h.t.qfrom hk
  unfold f_X4_work f_X4_work_0
  simp only [to_bq, l_0, l_1, l_2, l_3, l_4, l_5, l_6, l_7, l_8, l_9, l_10, l_11, l_12, l_13, l_14, l_15, l_16, l_17, l_18, l_19, l_20, l_21, l_22, l_23, l_24, l_25, l_26, l_27, l_28, l_29, l_30, l_31, l_32, l_40, l_41, l_42, l_43, l_44, l_45, l_46, l_47, l_48, l_49, l_50, l_51, l_52, l_53, l_54, l_55, l_56, l_57, l_58, l_59, l_60, l_61, l_62, l_63, l_64, l_72, l_97, l_99, l_100, l_104, l_120, l_122, l_128, l_140, l_255, l_256, l_257, l_258, l_260, l_261, l_262, l_364, l_680, l_700, l_701, l_840, l_999, l_1023, l_1024, l_9999, l_10000, l_1000000, lm]
  simp (disch := first | (with_reducible assumption) | omega | exact ⟨by omega, by omega⟩ | ((with_reducible first | apply Wf.wI | apply Wf.wL | apply Wf.fr); (repeat (with_reducible first | assumption | apply Wf.wI | apply Wf.wL | apply Wf.fr)))) only [ck_t, gI_t, gL_t, pI_t, pZ0_t, pZ1_t, pL_t, ck_w, gI_w, gL_w, pI_w, pZ0_w, pZ1_w, pL_w, gR_t_1, gR_t_5, gR_t_7, gR_t_9, gR_t_10, gR_t_11, gR_t_12, gR_t_15, gR_w_2, gR_w_3, gR_w_4, gR_w_5, gR_w_6, gR_w_7, aR_crow, aR_srow, aR_prow, aR_rrow, aI_crow, sI_crow, len_crow, aI_srow, sI_srow, len_srow, aI_prow, sI_prow, len_prow, aI_rrow, sI_rrow, len_rrow, aI_t25, sI_t25, len_t25, aI_t31, sI_t31, len_t31, aI_t32, sI_t32, len_t32, aI_t34, sI_t34, len_t34, aI_t35, sI_t35, len_t35, aI_t36, sI_t36, len_t36, aI_t37, sI_t37, len_t37, aL_t38, sL_t38, len_t38, aL_t39, sL_t39, len_t39, bq_s, bd_s, mp_s, rz_0, rz_1, bI_rz, zadd, zmul, zsub, le_nI, lt_nI, eq_nI, neg_nI, gen_nI, neg_lt, neg_le, neg_lt', neg_le', nI_lt0, tr_from h]
  refine (c_work9 h0 hk (fun j _ => hnb j) (lto D k - lfr D k) (lfr D k) 5000 τ [] (by omega) (by omega) (Nat.le_refl _) (Nat.zero_le _) (h.t.qst hk (by unfold told at hT; omega)) hfr hnm trivial).mono (fun r q => ⟨?_, q.2⟩)
  rw [q.1]
  unfold lawv
  cases e : evl D nm (lfr D k) (lto D k - lfr D k) [] with
  | none =>
    show (if lg_cmp (iL (-9223372036854775808 : Int)) (iL (-9223372036854775808 : Int)) = nI 0 then _ else _) = iL er
    rw [if_pos (by rw [cmp_e ⟨by omega, by omega⟩ ⟨by omega, by omega⟩])]
  | some s =>
    cases s with
    | nil =>
      show (if lg_cmp (iL (-9223372036854775808 : Int)) (iL (-9223372036854775808 : Int)) = nI 0 then _ else _) = iL er
      rw [if_pos (by rw [cmp_e ⟨by omega, by omega⟩ ⟨by omega, by omega⟩])]
    | cons v s =>
      have hv := evl_b h.t hnb _ _ _ _ (by omega) (fun x hx => by cases hx) e v (List.mem_cons_self ..)
      unfold LB1 at hv
      show _ = iL (max 0 v)
      rw [show topE (some (v :: s)) = v from rfl, q_m9223372036854775808, if_neg (by rw [cmp_e ⟨by omega, by omega⟩ ⟨by omega, by omega⟩]; omega), maxl_i ⟨by omega, by omega⟩ ⟨by omega, by omega⟩]
theorem mul_b {w : Nat} {f : Int} (hw : w ≤ 99) (hf : -3000 ≤ f ∧ f ≤ 3000) : -297000 ≤ (w : Int) * f ∧ (w : Int) * f ≤ 297000 := by
  have h1 : ∀ g : Int, g ≤ 3000 → (w : Int) * g ≤ 99 * 3000 := by
    intro g hg
    by_cases q : 0 ≤ g
    · exact Int.mul_le_mul (by omega) hg q (by omega)
    · have := Int.mul_nonpos_of_nonneg_of_nonpos (show (0 : Int) ≤ w by omega) (show g ≤ 0 by omega)
      omega
  have h2 := h1 f hf.2
  have h3 := h1 (-f) (by omega)
  rw [Int.mul_neg] at h3
  omega
theorem c_carried (h : TR σ t D) {w : Nat} {f : Int} (hw0 : w ≤ 99) (hf0 : -3000 ≤ f ∧ f ≤ 3000) : Ok (f_X4_carried (t + 33) (nI w) (jI f) σ) (fun r => r.1 = iL (carv D w f) ∧ Fr (Xl t) σ r.2) := by
  have hw := h.w
  have ht := h.tn
  obtain ⟨m1, m2⟩ := mul_b hw0 hf0
  unfold f_X4_carried f_X4_carried_0 carv
  simp only [to_bq, l_0, l_1, l_2, l_3, l_4, l_5, l_6, l_7, l_8, l_9, l_10, l_11, l_12, l_13, l_14, l_15, l_16, l_17, l_18, l_19, l_20, l_21, l_22, l_23, l_24, l_25, l_26, l_27, l_28, l_29, l_30, l_31, l_32, l_40, l_41, l_42, l_43, l_44, l_45, l_46, l_47, l_48, l_49, l_50, l_51, l_52, l_53, l_54, l_55, l_56, l_57, l_58, l_59, l_60, l_61, l_62, l_63, l_64, l_72, l_97, l_99, l_100, l_104, l_120, l_122, l_128, l_140, l_255, l_256, l_257, l_258, l_260, l_261, l_262, l_364, l_680, l_700, l_701, l_840, l_999, l_1023, l_1024, l_9999, l_10000, l_1000000, lm]
  simp (disch := first | (with_reducible assumption) | omega | exact ⟨by omega, by omega⟩ | ((with_reducible first | apply Wf.wI | apply Wf.wL | apply Wf.fr); (repeat (with_reducible first | assumption | apply Wf.wI | apply Wf.wL | apply Wf.fr)))) only [ck_t, gI_t, gL_t, pI_t, pZ0_t, pZ1_t, pL_t, ck_w, gI_w, gL_w, pI_w, pZ0_w, pZ1_w, pL_w, gR_t_1, gR_t_5, gR_t_7, gR_t_9, gR_t_10, gR_t_11, gR_t_12, gR_t_15, gR_w_2, gR_w_3, gR_w_4, gR_w_5, gR_w_6, gR_w_7, aR_crow, aR_srow, aR_prow, aR_rrow, aI_crow, sI_crow, len_crow, aI_srow, sI_srow, len_srow, aI_prow, sI_prow, len_prow, aI_rrow, sI_rrow, len_rrow, aI_t25, sI_t25, len_t25, aI_t31, sI_t31, len_t31, aI_t32, sI_t32, len_t32, aI_t34, sI_t34, len_t34, aI_t35, sI_t35, len_t35, aI_t36, sI_t36, len_t36, aI_t37, sI_t37, len_t37, aL_t38, sL_t38, len_t38, aL_t39, sL_t39, len_t39, bq_s, bd_s, mp_s, rz_0, rz_1, bI_rz, zadd, zmul, zsub, le_nI, lt_nI, eq_nI, neg_nI, gen_nI, neg_lt, neg_le, neg_lt', neg_le', nI_lt0, c_isTold h, bI_0]
  by_cases q : told D 0
  · rw [if_neg (fun r => r q), if_pos q, c_fillL _ hw (S0_t38 ht) (by omega), bq_s]
    have hwf : Wf (ah_fL σ (t + 38) 0 6 (iL 0)) := hw.fL _ _ _ _
    simp (disch := first | (with_reducible assumption) | omega | exact ⟨by omega, by omega⟩ | ((with_reducible first | apply Wf.wI | apply Wf.wL | apply Wf.fr); (repeat (with_reducible first | assumption | apply Wf.wI | apply Wf.wL | apply Wf.fr)))) only [ck_t, gI_t, gL_t, pI_t, pZ0_t, pZ1_t, pL_t, ck_w, gI_w, gL_w, pI_w, pZ0_w, pZ1_w, pL_w, gR_t_1, gR_t_5, gR_t_7, gR_t_9, gR_t_10, gR_t_11, gR_t_12, gR_t_15, gR_w_2, gR_w_3, gR_w_4, gR_w_5, gR_w_6, gR_w_7, aR_crow, aR_srow, aR_prow, aR_rrow, aI_crow, sI_crow, len_crow, aI_srow, sI_srow, len_srow, aI_prow, sI_prow, len_prow, aI_rrow, sI_rrow, len_rrow, aI_t25, sI_t25, len_t25, aI_t31, sI_t31, len_t31, aI_t32, sI_t32, len_t32, aI_t34, sI_t34, len_t34, aI_t35, sI_t35, len_t35, aI_t36, sI_t36, len_t36, aI_t37, sI_t37, len_t37, aL_t38, sL_t38, len_t38, aL_t39, sL_t39, len_t39, bq_s, bd_s, mp_s, rz_0, rz_1, bI_rz, toL_n, toL_j2, q_0]
    have hf : Fr (Xl t) σ (ah_wL (ah_wL (ah_fL σ (t + 38) 0 6 (iL 0)) (t + 38) 0 (iL w)) (t + 38) 1 (iL f)) := ((Fr.rfl.fL (fun j _ _ => by unfold Xl; omega)).wL (by unfold Xl; omega)).wL (by unfold Xl; omega)
    have hn : ∀ j, j < 6 → ah_L (ah_wL (ah_wL (ah_fL σ (t + 38) 0 6 (iL 0)) (t + 38) 0 (iL w)) (t + 38) 1 (iL f)) (t + 38) j = iL (nmC w f j) := by
      intro j hj
      simp only [ah_L_wL, L_fL, if_true, if_false, ite_true, ite_false, reduceIte, not_true, not_false, and_true, true_and, and_false, false_and, or_true, true_or, or_false, false_or, eq_self]
      unfold nmC
      (repeat' split) <;> first | rfl | (exfalso; omega)
    obtain ⟨⟨r1, r2⟩, e, hr1, hr2⟩ := c_work h (k := 0) (by omega) q (nm := nmC w f) (nmC_b ⟨by omega, by omega⟩ ⟨by omega, by omega⟩) 0 _ hf hn
    rw [e, bq_s]
    have hr1 : (if lg_cmp r1 (-9223372036854775808) = nI 0 then iL 0 else op_maxl (iL 0) r1) = _ := hr1
    refine ⟨_, iteS _ _ _ _, hr1, hr2⟩
  · rw [if_pos q, if_neg q]
    simp (disch := first | (with_reducible assumption) | omega | exact ⟨by omega, by omega⟩ | ((with_reducible first | apply Wf.wI | apply Wf.wL | apply Wf.fr); (repeat (with_reducible first | assumption | apply Wf.wI | apply Wf.wL | apply Wf.fr)))) only [toL_n, toL_j2, imul, q_0, maxl_i]
    exact ⟨_, rfl, rfl, Fr.rfl⟩
theorem c_digs (h : TR σ t D) {w d r : Nat} (hw0 : w ≤ 99) (hd : d ≤ 12) (hr : r ≤ 12) : Ok (f_X4_digs (t + 33) (nI w) (nI d) (nI r) σ) (fun x => x.1 = iL (digv D w d r) ∧ Fr (Xl t) σ x.2) := by
  have hw := h.w
  have ht := h.tn
  unfold f_X4_digs f_X4_digs_0 digv
  simp only [to_bq, l_0, l_1, l_2, l_3, l_4, l_5, l_6, l_7, l_8, l_9, l_10, l_11, l_12, l_13, l_14, l_15, l_16, l_17, l_18, l_19, l_20, l_21, l_22, l_23, l_24, l_25, l_26, l_27, l_28, l_29, l_30, l_31, l_32, l_40, l_41, l_42, l_43, l_44, l_45, l_46, l_47, l_48, l_49, l_50, l_51, l_52, l_53, l_54, l_55, l_56, l_57, l_58, l_59, l_60, l_61, l_62, l_63, l_64, l_72, l_97, l_99, l_100, l_104, l_120, l_122, l_128, l_140, l_255, l_256, l_257, l_258, l_260, l_261, l_262, l_364, l_680, l_700, l_701, l_840, l_999, l_1023, l_1024, l_9999, l_10000, l_1000000, lm]
  simp (disch := first | (with_reducible assumption) | omega | exact ⟨by omega, by omega⟩ | ((with_reducible first | apply Wf.wI | apply Wf.wL | apply Wf.fr); (repeat (with_reducible first | assumption | apply Wf.wI | apply Wf.wL | apply Wf.fr)))) only [ck_t, gI_t, gL_t, pI_t, pZ0_t, pZ1_t, pL_t, ck_w, gI_w, gL_w, pI_w, pZ0_w, pZ1_w, pL_w, gR_t_1, gR_t_5, gR_t_7, gR_t_9, gR_t_10, gR_t_11, gR_t_12, gR_t_15, gR_w_2, gR_w_3, gR_w_4, gR_w_5, gR_w_6, gR_w_7, aR_crow, aR_srow, aR_prow, aR_rrow, aI_crow, sI_crow, len_crow, aI_srow, sI_srow, len_srow, aI_prow, sI_prow, len_prow, aI_rrow, sI_rrow, len_rrow, aI_t25, sI_t25, len_t25, aI_t31, sI_t31, len_t31, aI_t32, sI_t32, len_t32, aI_t34, sI_t34, len_t34, aI_t35, sI_t35, len_t35, aI_t36, sI_t36, len_t36, aI_t37, sI_t37, len_t37, aL_t38, sL_t38, len_t38, aL_t39, sL_t39, len_t39, bq_s, bd_s, mp_s, rz_0, rz_1, bI_rz, zadd, zmul, zsub, le_nI, lt_nI, eq_nI, neg_nI, gen_nI, neg_lt, neg_le, neg_lt', neg_le', nI_lt0, c_isTold h, bI_0]
  by_cases q : told D 1
  · rw [if_neg (fun r => r q), if_pos q, c_fillL _ hw (S0_t38 ht) (by omega), bq_s]
    have hwf : Wf (ah_fL σ (t + 38) 0 6 (iL 0)) := hw.fL _ _ _ _
    simp (disch := first | (with_reducible assumption) | omega | exact ⟨by omega, by omega⟩ | ((with_reducible first | apply Wf.wI | apply Wf.wL | apply Wf.fr); (repeat (with_reducible first | assumption | apply Wf.wI | apply Wf.wL | apply Wf.fr)))) only [ck_t, gI_t, gL_t, pI_t, pZ0_t, pZ1_t, pL_t, ck_w, gI_w, gL_w, pI_w, pZ0_w, pZ1_w, pL_w, gR_t_1, gR_t_5, gR_t_7, gR_t_9, gR_t_10, gR_t_11, gR_t_12, gR_t_15, gR_w_2, gR_w_3, gR_w_4, gR_w_5, gR_w_6, gR_w_7, aR_crow, aR_srow, aR_prow, aR_rrow, aI_crow, sI_crow, len_crow, aI_srow, sI_srow, len_srow, aI_prow, sI_prow, len_prow, aI_rrow, sI_rrow, len_rrow, aI_t25, sI_t25, len_t25, aI_t31, sI_t31, len_t31, aI_t32, sI_t32, len_t32, aI_t34, sI_t34, len_t34, aI_t35, sI_t35, len_t35, aI_t36, sI_t36, len_t36, aI_t37, sI_t37, len_t37, aL_t38, sL_t38, len_t38, aL_t39, sL_t39, len_t39, bq_s, bd_s, mp_s, rz_0, rz_1, bI_rz, toL_n, q_0, q_9999]
    have hf : Fr (Xl t) σ (ah_wL (ah_wL (ah_wL (ah_fL σ (t + 38) 0 6 (iL 0)) (t + 38) 0 (iL w)) (t + 38) 2 (iL d)) (t + 38) 3 (iL r)) := (((Fr.rfl.fL (fun j _ _ => by unfold Xl; omega)).wL (by unfold Xl; omega)).wL (by unfold Xl; omega)).wL (by unfold Xl; omega)
    have hn : ∀ j, j < 6 → ah_L (ah_wL (ah_wL (ah_wL (ah_fL σ (t + 38) 0 6 (iL 0)) (t + 38) 0 (iL w)) (t + 38) 2 (iL d)) (t + 38) 3 (iL r)) (t + 38) j = iL (nmD w d r j) := by
      intro j hj
      simp only [ah_L_wL, L_fL, if_true, if_false, ite_true, ite_false, reduceIte, not_true, not_false, and_true, true_and, and_false, false_and, or_true, true_or, or_false, false_or, eq_self]
      unfold nmD
      (repeat' split) <;> first | rfl | (exfalso; omega)
    obtain ⟨⟨r1, r2⟩, e, hr1, hr2⟩ := c_work h (k := 1) (by omega) q (nm := nmD w d r) (nmD_b ⟨by omega, by omega⟩ ⟨by omega, by omega⟩ ⟨by omega, by omega⟩) 9999 _ hf hn
    rw [e, bq_s]
    have hr1 : (if lg_cmp r1 (-9223372036854775808) = nI 0 then iL 9999 else op_maxl (iL 0) r1) = _ := hr1
    refine ⟨_, iteS _ _ _ _, hr1, hr2⟩
  · rw [if_pos q, if_neg q]
    simp (disch := first | (with_reducible assumption) | omega | exact ⟨by omega, by omega⟩ | ((with_reducible first | apply Wf.wI | apply Wf.wL | apply Wf.fr); (repeat (with_reducible first | assumption | apply Wf.wI | apply Wf.wL | apply Wf.fr)))) only [toL_n]
    exact ⟨_, rfl, rfl, Fr.rfl⟩
theorem c_pumps (h : TR σ t D) {l : Nat} {f : Int} (hl : l ≤ 12) (hl0 : l ≠ 0) (hf0 : 0 ≤ f) (hf1 : f ≤ 1000000000000) : Ok (f_X4_pumps (t + 33) (nI l) (iL f) σ) (fun x => x.1 = iL (pumpv D l f) ∧ Fr (Xl t) σ x.2) := by
  have hw := h.w
  have ht := h.tn
  unfold f_X4_pumps f_X4_pumps_0 pumpv
  simp only [to_bq, l_0, l_1, l_2, l_3, l_4, l_5, l_6, l_7, l_8, l_9, l_10, l_11, l_12, l_13, l_14, l_15, l_16, l_17, l_18, l_19, l_20, l_21, l_22, l_23, l_24, l_25, l_26, l_27, l_28, l_29, l_30, l_31, l_32, l_40, l_41, l_42, l_43, l_44, l_45, l_46, l_47, l_48, l_49, l_50, l_51, l_52, l_53, l_54, l_55, l_56, l_57, l_58, l_59, l_60, l_61, l_62, l_63, l_64, l_72, l_97, l_99, l_100, l_104, l_120, l_122, l_128, l_140, l_255, l_256, l_257, l_258, l_260, l_261, l_262, l_364, l_680, l_700, l_701, l_840, l_999, l_1023, l_1024, l_9999, l_10000, l_1000000, lm]
  rw [if_neg hl0]
  simp (disch := first | (with_reducible assumption) | omega | exact ⟨by omega, by omega⟩ | ((with_reducible first | apply Wf.wI | apply Wf.wL | apply Wf.fr); (repeat (with_reducible first | assumption | apply Wf.wI | apply Wf.wL | apply Wf.fr)))) only [ck_t, gI_t, gL_t, pI_t, pZ0_t, pZ1_t, pL_t, ck_w, gI_w, gL_w, pI_w, pZ0_w, pZ1_w, pL_w, gR_t_1, gR_t_5, gR_t_7, gR_t_9, gR_t_10, gR_t_11, gR_t_12, gR_t_15, gR_w_2, gR_w_3, gR_w_4, gR_w_5, gR_w_6, gR_w_7, aR_crow, aR_srow, aR_prow, aR_rrow, aI_crow, sI_crow, len_crow, aI_srow, sI_srow, len_srow, aI_prow, sI_prow, len_prow, aI_rrow, sI_rrow, len_rrow, aI_t25, sI_t25, len_t25, aI_t31, sI_t31, len_t31, aI_t32, sI_t32, len_t32, aI_t34, sI_t34, len_t34, aI_t35, sI_t35, len_t35, aI_t36, sI_t36, len_t36, aI_t37, sI_t37, len_t37, aL_t38, sL_t38, len_t38, aL_t39, sL_t39, len_t39, bq_s, bd_s, mp_s, rz_0, rz_1, bI_rz, zadd, zmul, zsub, le_nI, lt_nI, eq_nI, neg_nI, gen_nI, neg_lt, neg_le, neg_lt', neg_le', nI_lt0, c_isTold h, bI_0]
  by_cases q : told D 2
  · rw [if_neg (fun r => r q), if_pos q, c_fillL _ hw (S0_t38 ht) (by omega), bq_s]
    have hwf : Wf (ah_fL σ (t + 38) 0 6 (iL 0)) := hw.fL _ _ _ _
    simp (disch := first | (with_reducible assumption) | omega | exact ⟨by omega, by omega⟩ | ((with_reducible first | apply Wf.wI | apply Wf.wL | apply Wf.fr); (repeat (with_reducible first | assumption | apply Wf.wI | apply Wf.wL | apply Wf.fr)))) only [ck_t, gI_t, gL_t, pI_t, pZ0_t, pZ1_t, pL_t, ck_w, gI_w, gL_w, pI_w, pZ0_w, pZ1_w, pL_w, gR_t_1, gR_t_5, gR_t_7, gR_t_9, gR_t_10, gR_t_11, gR_t_12, gR_t_15, gR_w_2, gR_w_3, gR_w_4, gR_w_5, gR_w_6, gR_w_7, aR_crow, aR_srow, aR_prow, aR_rrow, aI_crow, sI_crow, len_crow, aI_srow, sI_srow, len_srow, aI_prow, sI_prow, len_prow, aI_rrow, sI_rrow, len_rrow, aI_t25, sI_t25, len_t25, aI_t31, sI_t31, len_t31, aI_t32, sI_t32, len_t32, aI_t34, sI_t34, len_t34, aI_t35, sI_t35, len_t35, aI_t36, sI_t36, len_t36, aI_t37, sI_t37, len_t37, aL_t38, sL_t38, len_t38, aL_t39, sL_t39, len_t39, bq_s, bd_s, mp_s, rz_0, rz_1, bI_rz, toL_n, q_0, q_9999]
    have hf : Fr (Xl t) σ (ah_wL (ah_wL (ah_fL σ (t + 38) 0 6 (iL 0)) (t + 38) 4 (iL l)) (t + 38) 5 (iL f)) := ((Fr.rfl.fL (fun j _ _ => by unfold Xl; omega)).wL (by unfold Xl; omega)).wL (by unfold Xl; omega)
    have hn : ∀ j, j < 6 → ah_L (ah_wL (ah_wL (ah_fL σ (t + 38) 0 6 (iL 0)) (t + 38) 4 (iL l)) (t + 38) 5 (iL f)) (t + 38) j = iL (nmP l f j) := by
      intro j hj
      simp only [ah_L_wL, L_fL, if_true, if_false, ite_true, ite_false, reduceIte, not_true, not_false, and_true, true_and, and_false, false_and, or_true, true_or, or_false, false_or, eq_self]
      unfold nmP
      (repeat' split) <;> first | rfl | (exfalso; omega)
    obtain ⟨⟨r1, r2⟩, e, hr1, hr2⟩ := c_work h (k := 2) (by omega) q (nm := nmP l f) (nmP_b ⟨by omega, by omega⟩ ⟨by omega, by omega⟩) 9999 _ hf hn
    rw [e, bq_s]
    have hr1 : (if lg_cmp r1 (-9223372036854775808) = nI 0 then iL 9999 else op_maxl (iL 0) r1) = _ := hr1
    refine ⟨_, iteS _ _ _ _, hr1, hr2⟩
  · rw [if_pos q, if_neg q]
    exact ⟨_, rfl, rfl, Fr.rfl⟩
end
