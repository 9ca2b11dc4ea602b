/-! THE REFERENCE: small methods -/
section
variable {σ : ah_H} {D : DD}
theorem MInv.f1 (h : MInv σ D) : ah_I σ 227 0 = nI (nC D) ∧ ah_I σ 227 1 = nI (nS D) ∧ ah_I σ 227 2 = nI (nP D) ∧ ah_I σ 227 3 = nI (nR D) ∧ ah_I σ 227 4 = D 227 4 ∧ ah_I σ 227 5 = D 227 5 ∧ nC D ≤ 7 ∧ nS D ≤ 10 ∧ nP D ≤ 4 ∧ nR D ≤ 4 :=
  ⟨(h.at (by unfold PM; omega)).trans h.t.qc, (h.at (by unfold PM; omega)).trans h.t.qs, (h.at (by unfold PM; omega)).trans h.t.qp, (h.at (by unfold PM; omega)).trans h.t.qr, h.at (by unfold PM; omega), h.at (by unfold PM; omega), h.t.qc7, h.t.qs10, h.t.qp4, h.t.qr4⟩
theorem bI_two {α : Type} (p q : Prop) [Decidable p] [Decidable q] (s : α) : (if p then some (nI 0, s) else if q then some (nI 0, s) else some (nI 1, s)) = some (bI (¬ p ∧ ¬ q), s) := by
  unfold bI
  by_cases h2 : p
  · rw [if_pos h2, if_neg (fun r => r.1 h2)]
  · by_cases h3 : q
    · rw [if_neg h2, if_pos h3, if_neg (fun r => r.2 h3)]
    · rw [if_neg h2, if_neg h3, if_pos ⟨h2, h3⟩]
theorem m_isCorner (h : MInv σ D) (c : Int32) : f_X12_isCorner 225 c σ = some (bI (¬ c < nI 0 ∧ ¬ nI (nC D) ≤ c), σ) := by
  have hw := h.w
  obtain ⟨h1, -⟩ := h.f1
  unfold f_X12_isCorner f_X12_isCorner_0
  simp (disch := first | (with_reducible assumption) | omega | exact ⟨by omega, by omega⟩ | ((with_reducible first | apply Wf.wI | apply Wf.wL | apply Wf.fr); (repeat (with_reducible first | assumption | apply Wf.wI | apply Wf.wL | apply Wf.fr)))) only [ck_225, gI_225, gL_225, pI_225, pZ0_225, pZ1_225, pL_225, gR_225_1, gR_225_3, gR_225_4, gR_225_5, gR_225_6, gR_225_7, gR_225_8, gR_225_9, gR_225_10, gR_225_11, gR_225_12, gR_225_13, gR_225_14, gR_225_15, gR_225_16, gR_225_17, gR_225_18, gR_225_19, gR_225_20, gR_225_21, gR_225_35, gR_225_36, gR_225_38, gR_225_39, gR_225_40, gR_225_41, gR_225_43, gR_225_44, gR_225_45, gR_225_48, gR_225_49, gR_225_50, gR_225_51, gR_225_53, gR_225_54, gR_225_55, gR_225_56, gR_225_58, gR_225_59, gR_225_60, gR_225_61, gR_225_62, gR_225_63, gR_225_66, gR_225_67, aI_226, sI_226, len_226, aI_227, sI_227, len_227, aI_228, sI_228, len_228, aI_229, sI_229, len_229, aI_230, sI_230, len_230, aI_231, sI_231, len_231, aI_232, sI_232, len_232, aI_233, sI_233, len_233, aI_234, sI_234, len_234, aI_235, sI_235, len_235, aI_236, sI_236, len_236, aI_237, sI_237, len_237, aI_238, sI_238, len_238, aI_239, sI_239, len_239, aI_240, sI_240, len_240, aI_241, sI_241, len_241, aI_242, sI_242, len_242, aI_243, sI_243, len_243, aI_244, sI_244, len_244, aI_245, sI_245, len_245, aL_246, sL_246, len_246, aL_247, sL_247, len_247, aI_248, sI_248, len_248, aI_249, sI_249, len_249, aI_250, sI_250, len_250, aI_251, sI_251, len_251, aL_252, sL_252, len_252, aL_253, sL_253, len_253, aZ_254, sZ_254, len_254, aI_255, sI_255, len_255, aI_256, sI_256, len_256, aI_257, sI_257, len_257, aI_258, sI_258, len_258, aI_259, sI_259, len_259, aI_260, sI_260, len_260, aI_261, sI_261, len_261, aI_262, sI_262, len_262, aI_263, sI_263, len_263, aL_264, sL_264, len_264, aL_265, sL_265, len_265, aI_266, sI_266, len_266, aI_267, sI_267, len_267, aI_268, sI_268, len_268, aI_269, sI_269, len_269, aI_270, sI_270, len_270, aL_271, sL_271, len_271, l_0, l_1, l_2, l_3, l_4, l_5, l_6, l_7, l_8, l_9, l_10, l_11, l_12, l_13, l_14, l_15, l_16, l_17, l_18, l_19, l_20, l_21, l_22, l_23, l_24, l_25, l_26, l_27, l_28, l_29, l_30, l_31, l_32, l_40, l_41, l_42, l_43, l_44, l_45, l_46, l_47, l_48, l_49, l_50, l_51, l_52, l_53, l_54, l_55, l_56, l_57, l_58, l_59, l_60, l_61, l_62, l_63, l_64, l_72, l_97, l_99, l_100, l_104, l_120, l_122, l_128, l_140, l_255, l_256, l_257, l_258, l_260, l_261, l_262, l_364, l_680, l_700, l_701, l_840, l_999, l_1023, l_1024, l_9999, l_10000, l_1000000, lm, bq_s, bd_s, mp_s, rz_0, rz_1, bI_rz, h1]
  exact bI_two _ _ _
theorem m_isStreet (h : MInv σ D) (c : Int32) : f_X12_isStreet 225 c σ = some (bI (¬ c < nI 0 ∧ ¬ nI (nS D) ≤ c), σ) := by
  have hw := h.w
  obtain ⟨-, h1, -⟩ := h.f1
  unfold f_X12_isStreet f_X12_isStreet_0
  simp (disch := first | (with_reducible assumption) | omega | exact ⟨by omega, by omega⟩ | ((with_reducible first | apply Wf.wI | apply Wf.wL | apply Wf.fr); (repeat (with_reducible first | assumption | apply Wf.wI | apply Wf.wL | apply Wf.fr)))) only [ck_225, gI_225, gL_225, pI_225, pZ0_225, pZ1_225, pL_225, gR_225_1, gR_225_3, gR_225_4, gR_225_5, gR_225_6, gR_225_7, gR_225_8, gR_225_9, gR_225_10, gR_225_11, gR_225_12, gR_225_13, gR_225_14, gR_225_15, gR_225_16, gR_225_17, gR_225_18, gR_225_19, gR_225_20, gR_225_21, gR_225_35, gR_225_36, gR_225_38, gR_225_39, gR_225_40, gR_225_41, gR_225_43, gR_225_44, gR_225_45, gR_225_48, gR_225_49, gR_225_50, gR_225_51, gR_225_53, gR_225_54, gR_225_55, gR_225_56, gR_225_58, gR_225_59, gR_225_60, gR_225_61, gR_225_62, gR_225_63, gR_225_66, gR_225_67, aI_226, sI_226, len_226, aI_227, sI_227, len_227, aI_228, sI_228, len_228, aI_229, sI_229, len_229, aI_230, sI_230, len_230, aI_231, sI_231, len_231, aI_232, sI_232, len_232, aI_233, sI_233, len_233, aI_234, sI_234, len_234, aI_235, sI_235, len_235, aI_236, sI_236, len_236, aI_237, sI_237, len_237, aI_238, sI_238, len_238, aI_239, sI_239, len_239, aI_240, sI_240, len_240, aI_241, sI_241, len_241, aI_242, sI_242, len_242, aI_243, sI_243, len_243, aI_244, sI_244, len_244, aI_245, sI_245, len_245, aL_246, sL_246, len_246, aL_247, sL_247, len_247, aI_248, sI_248, len_248, aI_249, sI_249, len_249, aI_250, sI_250, len_250, aI_251, sI_251, len_251, aL_252, sL_252, len_252, aL_253, sL_253, len_253, aZ_254, sZ_254, len_254, aI_255, sI_255, len_255, aI_256, sI_256, len_256, aI_257, sI_257, len_257, aI_258, sI_258, len_258, aI_259, sI_259, len_259, aI_260, sI_260, len_260, aI_261, sI_261, len_261, aI_262, sI_262, len_262, aI_263, sI_263, len_263, aL_264, sL_264, len_264, aL_265, sL_265, len_265, aI_266, sI_266, len_266, aI_267, sI_267, len_267, aI_268, sI_268, len_268, aI_269, sI_269, len_269, aI_270, sI_270, len_270, aL_271, sL_271, len_271, l_0, l_1, l_2, l_3, l_4, l_5, l_6, l_7, l_8, l_9, l_10, l_11, l_12, l_13, l_14, l_15, l_16, l_17, l_18, l_19, l_20, l_21, l_22, l_23, l_24, l_25, l_26, l_27, l_28, l_29, l_30, l_31, l_32, l_40, l_41, l_42, l_43, l_44, l_45, l_46, l_47, l_48, l_49, l_50, l_51, l_52, l_53, l_54, l_55, l_56, l_57, l_58, l_59, l_60, l_61, l_62, l_63, l_64, l_72, l_97, l_99, l_100, l_104, l_120, l_122, l_128, l_140, l_255, l_256, l_257, l_258, l_260, l_261, l_262, l_364, l_680, l_700, l_701, l_840, l_999, l_1023, l_1024, l_9999, l_10000, l_1000000, lm, bq_s, bd_s, mp_s, rz_0, rz_1, bI_rz, h1]
  exact bI_two _ _ _
theorem m_isRain (h : MInv σ D) (c : Int32) : f_X12_isRain 225 c σ = some (bI (¬ c < nI 0 ∧ ¬ nI (nR D) ≤ c), σ) := by
  have hw := h.w
  obtain ⟨-, -, -, h1, -⟩ := h.f1
  unfold f_X12_isRain f_X12_isRain_0
  simp (disch := first | (with_reducible assumption) | omega | exact ⟨by omega, by omega⟩ | ((with_reducible first | apply Wf.wI | apply Wf.wL | apply Wf.fr); (repeat (with_reducible first | assumption | apply Wf.wI | apply Wf.wL | apply Wf.fr)))) only [ck_225, gI_225, gL_225, pI_225, pZ0_225, pZ1_225, pL_225, gR_225_1, gR_225_3, gR_225_4, gR_225_5, gR_225_6, gR_225_7, gR_225_8, gR_225_9, gR_225_10, gR_225_11, gR_225_12, gR_225_13, gR_225_14, gR_225_15, gR_225_16, gR_225_17, gR_225_18, gR_225_19, gR_225_20, gR_225_21, gR_225_35, gR_225_36, gR_225_38, gR_225_39, gR_225_40, gR_225_41, gR_225_43, gR_225_44, gR_225_45, gR_225_48, gR_225_49, gR_225_50, gR_225_51, gR_225_53, gR_225_54, gR_225_55, gR_225_56, gR_225_58, gR_225_59, gR_225_60, gR_225_61, gR_225_62, gR_225_63, gR_225_66, gR_225_67, aI_226, sI_226, len_226, aI_227, sI_227, len_227, aI_228, sI_228, len_228, aI_229, sI_229, len_229, aI_230, sI_230, len_230, aI_231, sI_231, len_231, aI_232, sI_232, len_232, aI_233, sI_233, len_233, aI_234, sI_234, len_234, aI_235, sI_235, len_235, aI_236, sI_236, len_236, aI_237, sI_237, len_237, aI_238, sI_238, len_238, aI_239, sI_239, len_239, aI_240, sI_240, len_240, aI_241, sI_241, len_241, aI_242, sI_242, len_242, aI_243, sI_243, len_243, aI_244, sI_244, len_244, aI_245, sI_245, len_245, aL_246, sL_246, len_246, aL_247, sL_247, len_247, aI_248, sI_248, len_248, aI_249, sI_249, len_249, aI_250, sI_250, len_250, aI_251, sI_251, len_251, aL_252, sL_252, len_252, aL_253, sL_253, len_253, aZ_254, sZ_254, len_254, aI_255, sI_255, len_255, aI_256, sI_256, len_256, aI_257, sI_257, len_257, aI_258, sI_258, len_258, aI_259, sI_259, len_259, aI_260, sI_260, len_260, aI_261, sI_261, len_261, aI_262, sI_262, len_262, aI_263, sI_263, len_263, aL_264, sL_264, len_264, aL_265, sL_265, len_265, aI_266, sI_266, len_266, aI_267, sI_267, len_267, aI_268, sI_268, len_268, aI_269, sI_269, len_269, aI_270, sI_270, len_270, aL_271, sL_271, len_271, l_0, l_1, l_2, l_3, l_4, l_5, l_6, l_7, l_8, l_9, l_10, l_11, l_12, l_13, l_14, l_15, l_16, l_17, l_18, l_19, l_20, l_21, l_22, l_23, l_24, l_25, l_26, l_27, l_28, l_29, l_30, l_31, l_32, l_40, l_41, l_42, l_43, l_44, l_45, l_46, l_47, l_48, l_49, l_50, l_51, l_52, l_53, l_54, l_55, l_56, l_57, l_58, l_59, l_60, l_61, l_62, l_63, l_64, l_72, l_97, l_99, l_100, l_104, l_120, l_122, l_128, l_140, l_255, l_256, l_257, l_258, l_260, l_261, l_262, l_364, l_680, l_700, l_701, l_840, l_999, l_1023, l_1024, l_9999, l_10000, l_1000000, lm, bq_s, bd_s, mp_s, rz_0, rz_1, bI_rz, h1]
  exact bI_two _ _ _
/-- the first place that holds a value -/
def fnd (g : Nat → Int32) (v : Int32) : Nat → Nat → Int32
  | _, 0 => mI 1
  | k, m + 1 => if g k = v then nI k else fnd g v (k + 1) m
theorem fnd_s (g : Nat → Int32) (v : Int32) (k m : Nat) : fnd g v k (m + 1) = if g k = v then nI k else fnd g v (k + 1) m := rfl
theorem m_found {a n : Nat} {b : Nat} (v : Int32) (hr : ∀ k, k < n → op_aI σ a (nI (b + k)) = some (ah_I σ a (b + k))) : ∀ m k fu, k + m = n → m < fu → n < 2147483648 → f_X12_found_3 fu a (nI b) (nI n) v (nI k) σ = some (fnd (fun j => ah_I σ a (b + j)) v k m, σ) := by
  intro m
  induction m with
  | zero =>
    intro k fu hk hf hn
    obtain ⟨fu, rfl⟩ : ∃ q, fu = q + 1 := ⟨fu - 1, by omega⟩
    show f_X12_found_3_b _ _ _ _ _ _ _ = _
    unfold f_X12_found_3_b
    simp (disch := first | (with_reducible assumption) | omega | exact ⟨by omega, by omega⟩ | ((with_reducible first | apply Wf.wI | apply Wf.wL | apply Wf.fr); (repeat (with_reducible first | assumption | apply Wf.wI | apply Wf.wL | apply Wf.fr)))) only [zadd, zmul, zsub, le_nI, lt_nI, eq_nI, neg_nI, gen_nI, neg_lt, neg_le, neg_lt', neg_le', nI_lt0, if_true, if_false, ite_true, ite_false, reduceIte, not_true, not_false, and_true, true_and, and_false, false_and, or_true, true_or, or_false, false_or, eq_self, show (n ≤ k) = True from eq_true (by omega)]
    rfl
  | succ m ih =>
    intro k fu hk hf hn
    obtain ⟨fu, rfl⟩ : ∃ q, fu = q + 1 := ⟨fu - 1, by omega⟩
    show f_X12_found_3_b _ _ _ _ _ _ _ = _
    unfold f_X12_found_3_b
    simp (disch := first | (with_reducible assumption) | omega | exact ⟨by omega, by omega⟩ | ((with_reducible first | apply Wf.wI | apply Wf.wL | apply Wf.fr); (repeat (with_reducible first | assumption | apply Wf.wI | apply Wf.wL | apply Wf.fr)))) only [zadd, zmul, zsub, le_nI, lt_nI, eq_nI, neg_nI, gen_nI, neg_lt, neg_le, neg_lt', neg_le', nI_lt0, if_true, if_false, ite_true, ite_false, reduceIte, not_true, not_false, and_true, true_and, and_false, false_and, or_true, true_or, or_false, false_or, eq_self, l_0, l_1, l_2, l_3, l_4, l_5, l_6, l_7, l_8, l_9, l_10, l_11, l_12, l_13, l_14, l_15, l_16, l_17, l_18, l_19, l_20, l_21, l_22, l_23, l_24, l_25, l_26, l_27, l_28, l_29, l_30, l_31, l_32, l_40, l_41, l_42, l_43, l_44, l_45, l_46, l_47, l_48, l_49, l_50, l_51, l_52, l_53, l_54, l_55, l_56, l_57, l_58, l_59, l_60, l_61, l_62, l_63, l_64, l_72, l_97, l_99, l_100, l_104, l_120, l_122, l_128, l_140, l_255, l_256, l_257, l_258, l_260, l_261, l_262, l_364, l_680, l_700, l_701, l_840, l_999, l_1023, l_1024, l_9999, l_10000, l_1000000, lm, bq_s, bd_s, mp_s, rz_0, rz_1, bI_rz, show (n ≤ k) = False from eq_false (by omega), hr k (by omega), ih (k + 1) fu (by omega) (by omega) hn]
    simp only [fnd_s]
    by_cases h1 : ah_I σ a (b + k) = v
    · rw [if_pos h1, if_pos h1]
    · rw [if_neg h1, if_neg h1]
def sNamed (D : DD) (w v : Int32) : Int32 := if w = nI 0 then fnd (D 228) v 0 (nC D) else if w = nI 1 then fnd (D 239) v 0 (nR D) else mI 1
theorem fnd_eq (g g' : Nat → Int32) (v : Int32) : ∀ m k, (∀ j, k ≤ j → j < k + m → g j = g' j) → fnd g v k m = fnd g' v k m := by
  intro m
  induction m with
  | zero => intro k _; rfl
  | succ m ih =>
    intro k h
    unfold fnd
    rw [h k (by omega) (by omega), ih (k + 1) (fun j a b => h j (by omega) (by omega))]
/-- what the queries write -/
def Xq (a j : Nat) : Prop := a = 225 ∧ j ≠ 2 ∧ j ≠ 31 ∧ j ≠ 32 ∧ j ≠ 52 ∧ j ≠ 57 ∨ 246 ≤ a ∧ a ≤ 247 ∨ 248 ≤ a ∧ a ≤ 251 ∧ 7 ≤ j ∨ 252 ≤ a ∧ a ≤ 254 ∨ 263 ≤ a ∧ a ≤ 270
theorem Xq_PM : ∀ a j, Xq a j → ¬ PM a j := by
  intro a j h; unfold Xq at h; unfold PM; omega
theorem MInv.q {τ : ah_H} (h : MInv σ D) (g : Fr Xq σ τ) : MInv τ D := h.fr g Xq_PM
theorem Fr.q0 {j : Nat} {x : Int32} (hj : j ≠ 2 ∧ j ≠ 31 ∧ j ≠ 32 ∧ j ≠ 52 ∧ j ≠ 57) : Fr Xq σ (ah_wI σ 225 j x) := Fr.rfl.wI (by unfold Xq; omega)
theorem m_named (h : MInv σ D) (w v : Int32) : ∃ τ, f_X12_named 225 w v σ = some (sNamed D w v, τ) ∧ Fr Xq σ τ := by
  have hw := h.w
  obtain ⟨h1, h2, h3, h4, h5, h6, h7, h8, h9, h10⟩ := h.f1
  refine ⟨ah_wI σ 225 0 (nI 0), ?_, Fr.q0 (by omega)⟩
  have hq : MInv (ah_wI σ 225 0 (nI 0)) D := h.q (Fr.q0 (by omega))
  have hw' := hq.w
  have e1 := m_found (σ := ah_wI σ 225 0 (nI 0)) (a := 228) (n := nC D) (b := 0) v (fun k hk => by rw [aI_228 hw' (by omega)]) (nC D) 0 5000 (by omega) (by omega) (by omega)
  have e2 := m_found (σ := ah_wI σ 225 0 (nI 0)) (a := 239) (n := nR D) (b := 0) v (fun k hk => by rw [aI_239 hw' (by omega)]) (nR D) 0 5000 (by omega) (by omega) (by omega)
  unfold f_X12_named f_X12_named_0
  simp (disch := first | (with_reducible assumption) | omega | exact ⟨by omega, by omega⟩ | ((with_reducible first | apply Wf.wI | apply Wf.wL | apply Wf.fr); (repeat (with_reducible first | assumption | apply Wf.wI | apply Wf.wL | apply Wf.fr)))) only [ck_225, gI_225, gL_225, pI_225, pZ0_225, pZ1_225, pL_225, gR_225_1, gR_225_3, gR_225_4, gR_225_5, gR_225_6, gR_225_7, gR_225_8, gR_225_9, gR_225_10, gR_225_11, gR_225_12, gR_225_13, gR_225_14, gR_225_15, gR_225_16, gR_225_17, gR_225_18, gR_225_19, gR_225_20, gR_225_21, gR_225_35, gR_225_36, gR_225_38, gR_225_39, gR_225_40, gR_225_41, gR_225_43, gR_225_44, gR_225_45, gR_225_48, gR_225_49, gR_225_50, gR_225_51, gR_225_53, gR_225_54, gR_225_55, gR_225_56, gR_225_58, gR_225_59, gR_225_60, gR_225_61, gR_225_62, gR_225_63, gR_225_66, gR_225_67, aI_227, l_0, l_1, l_2, l_3, l_4, l_5, l_6, l_7, l_8, l_9, l_10, l_11, l_12, l_13, l_14, l_15, l_16, l_17, l_18, l_19, l_20, l_21, l_22, l_23, l_24, l_25, l_26, l_27, l_28, l_29, l_30, l_31, l_32, l_40, l_41, l_42, l_43, l_44, l_45, l_46, l_47, l_48, l_49, l_50, l_51, l_52, l_53, l_54, l_55, l_56, l_57, l_58, l_59, l_60, l_61, l_62, l_63, l_64, l_72, l_97, l_99, l_100, l_104, l_120, l_122, l_128, l_140, l_255, l_256, l_257, l_258, l_260, l_261, l_262, l_364, l_680, l_700, l_701, l_840, l_999, l_1023, l_1024, l_9999, l_10000, l_1000000, lm, bq_s, bd_s, mp_s, rz_0, rz_1, bI_rz, rI_ne, rI_eq, rL_ne, rL_eq, ah_I_wL, ah_L_wI, ah_R_wI, ah_R_wL, ah_I_wR, ah_L_wR, rR_ne, rR_eq, h1, h4]
  unfold f_X12_found f_X12_found_0
  simp only [l_0, l_1, l_2, l_3, l_4, l_5, l_6, l_7, l_8, l_9, l_10, l_11, l_12, l_13, l_14, l_15, l_16, l_17, l_18, l_19, l_20, l_21, l_22, l_23, l_24, l_25, l_26, l_27, l_28, l_29, l_30, l_31, l_32, l_40, l_41, l_42, l_43, l_44, l_45, l_46, l_47, l_48, l_49, l_50, l_51, l_52, l_53, l_54, l_55, l_56, l_57, l_58, l_59, l_60, l_61, l_62, l_63, l_64, l_72, l_97, l_99, l_100, l_104, l_120, l_122, l_128, l_140, l_255, l_256, l_257, l_258, l_260, l_261, l_262, l_364, l_680, l_700, l_701, l_840, l_999, l_1023, l_1024, l_9999, l_10000, l_1000000, lm, e1, e2, bq_s, bd_s, mp_s, rz_0, rz_1, bI_rz]
  unfold sNamed
  rw [fnd_eq (D 228) (fun j => ah_I (ah_wI σ 225 0 (nI 0)) 228 (0 + j)) v (nC D) 0 (fun j a b => by rw [Nat.zero_add]; exact (hq.at (by unfold PM; omega)).symm), fnd_eq (D 239) (fun j => ah_I (ah_wI σ 225 0 (nI 0)) 239 (0 + j)) v (nR D) 0 (fun j a b => by rw [Nat.zero_add]; exact (hq.at (by unfold PM; omega)).symm)]
  by_cases q1 : w = nI 0
  · simp only [q1, if_true, if_false, ite_true, ite_false, reduceIte, not_true, not_false, and_true, true_and, and_false, false_and, or_true, true_or, or_false, false_or, eq_self]
  · simp only [q1, if_true, if_false, ite_true, ite_false, reduceIte, not_true, not_false, and_true, true_and, and_false, false_and, or_true, true_or, or_false, false_or, eq_self]
    by_cases q2 : w = nI 1
    · simp only [q2, if_true, if_false, ite_true, ite_false, reduceIte, not_true, not_false, and_true, true_and, and_false, false_and, or_true, true_or, or_false, false_or, eq_self]
    · simp only [q2, if_true, if_false, ite_true, ite_false, reduceIte, not_true, not_false, and_true, true_and, and_false, false_and, or_true, true_or, or_false, false_or, eq_self]
end
