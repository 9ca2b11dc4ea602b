/-! THE REFERENCE: small methods, second part -/
theorem iteS {α β : Type} (p : Prop) [Decidable p] (x y : α) (t : β) : (if p then some (x, t) else some (y, t)) = some (if p then x else y, t) := by
  by_cases h : p
  · rw [if_pos h, if_pos h]
  · rw [if_neg h, if_neg h]
theorem ite_n {α : Type} (p : Prop) {i : Decidable (¬ p)} [Decidable p] (x y : α) : (@ite α (¬ p) i x y) = if p then y else x := by
  by_cases h : p
  · rw [if_pos h, if_neg (fun q => q h)]
  · rw [if_neg h, if_pos h]
/-- a street or none, as an int -/
def sv (o : Option Nat) : Int32 := match o with
  | none => mI 1
  | some s => nI s
section
variable {σ : ah_H} {D : DD}
def sFault (D : DD) (w : Int32) : Int32 := if w = nI 0 then D 225 31 else if w = nI 1 then D 225 32 else mI 1
theorem m_fault (h : MInv σ D) (w : Int32) : ∃ τ, f_X12_fault 225 w σ = some (sFault D w, τ) ∧ Fr Xq σ τ := by
  have hw := h.w
  have h1 : ah_I σ 225 31 = D 225 31 := h.at (by unfold PM; omega)
  have h2 : ah_I σ 225 32 = D 225 32 := h.at (by unfold PM; omega)
  refine ⟨ah_wI σ 225 0 (nI 0), ?_, Fr.q0 (by omega)⟩
  unfold f_X12_fault f_X12_fault_0
  simp (disch := first | (with_reducible assumption) | omega | exact ⟨by omega, by omega⟩ | ((with_reducible first | apply Wf.wI | apply Wf.wL | apply Wf.fr); (repeat (with_reducible first | assumption | apply Wf.wI | apply Wf.wL | apply Wf.fr)))) only [ck_225, gI_225, gL_225, pI_225, pZ0_225, pZ1_225, pL_225, gR_225_1, gR_225_3, gR_225_4, gR_225_5, gR_225_6, gR_225_7, gR_225_8, gR_225_9, gR_225_10, gR_225_11, gR_225_12, gR_225_13, gR_225_14, gR_225_15, gR_225_16, gR_225_17, gR_225_18, gR_225_19, gR_225_20, gR_225_21, gR_225_35, gR_225_36, gR_225_38, gR_225_39, gR_225_40, gR_225_41, gR_225_43, gR_225_44, gR_225_45, gR_225_48, gR_225_49, gR_225_50, gR_225_51, gR_225_53, gR_225_54, gR_225_55, gR_225_56, gR_225_58, gR_225_59, gR_225_60, gR_225_61, gR_225_62, gR_225_63, gR_225_66, gR_225_67, l_0, l_1, l_2, l_3, l_4, l_5, l_6, l_7, l_8, l_9, l_10, l_11, l_12, l_13, l_14, l_15, l_16, l_17, l_18, l_19, l_20, l_21, l_22, l_23, l_24, l_25, l_26, l_27, l_28, l_29, l_30, l_31, l_32, l_40, l_41, l_42, l_43, l_44, l_45, l_46, l_47, l_48, l_49, l_50, l_51, l_52, l_53, l_54, l_55, l_56, l_57, l_58, l_59, l_60, l_61, l_62, l_63, l_64, l_72, l_97, l_99, l_100, l_104, l_120, l_122, l_128, l_140, l_255, l_256, l_257, l_258, l_260, l_261, l_262, l_364, l_680, l_700, l_701, l_840, l_999, l_1023, l_1024, l_9999, l_10000, l_1000000, lm, bq_s, bd_s, mp_s, rz_0, rz_1, bI_rz, rI_ne, rI_eq, rL_ne, rL_eq, ah_I_wL, ah_L_wI, ah_R_wI, ah_R_wL, ah_I_wR, ah_L_wR, rR_ne, rR_eq, h1, h2, iteS]
  rfl
theorem m_thrown (h : Wf σ) : f_X12_thrown 225 σ = some (ah_I σ 225 0, σ) := by
  unfold f_X12_thrown f_X12_thrown_0
  simp (disch := first | (with_reducible assumption) | omega | exact ⟨by omega, by omega⟩ | ((with_reducible first | apply Wf.wI | apply Wf.wL | apply Wf.fr); (repeat (with_reducible first | assumption | apply Wf.wI | apply Wf.wL | apply Wf.fr)))) only [ck_225, gI_225, gL_225, pI_225, pZ0_225, pZ1_225, pL_225, gR_225_1, gR_225_3, gR_225_4, gR_225_5, gR_225_6, gR_225_7, gR_225_8, gR_225_9, gR_225_10, gR_225_11, gR_225_12, gR_225_13, gR_225_14, gR_225_15, gR_225_16, gR_225_17, gR_225_18, gR_225_19, gR_225_20, gR_225_21, gR_225_35, gR_225_36, gR_225_38, gR_225_39, gR_225_40, gR_225_41, gR_225_43, gR_225_44, gR_225_45, gR_225_48, gR_225_49, gR_225_50, gR_225_51, gR_225_53, gR_225_54, gR_225_55, gR_225_56, gR_225_58, gR_225_59, gR_225_60, gR_225_61, gR_225_62, gR_225_63, gR_225_66, gR_225_67, bq_s, bd_s, mp_s, rz_0, rz_1, bI_rz]
abbrev okC (D : DD) (c : Int32) : Prop := ¬ c < nI 0 ∧ ¬ nI (nC D) ≤ c
abbrev okS (D : DD) (c : Int32) : Prop := ¬ c < nI 0 ∧ ¬ nI (nS D) ≤ c
abbrev okP (D : DD) (c : Int32) : Prop := ¬ c < nI 0 ∧ ¬ nI (nP D) ≤ c
abbrev okR (D : DD) (c : Int32) : Prop := ¬ c < nI 0 ∧ ¬ nI (nR D) ≤ c
theorem okC_of (h : MT D) {c : Int32} (q : okC D c) : ∃ k, k < nC D ∧ c = nI k := nI_rng (by have := h.qc7; omega) q.1 q.2
theorem okS_of (h : MT D) {c : Int32} (q : okS D c) : ∃ k, k < nS D ∧ c = nI k := nI_rng (by have := h.qs10; omega) q.1 q.2
theorem okP_of (h : MT D) {c : Int32} (q : okP D c) : ∃ k, k < nP D ∧ c = nI k := nI_rng (by have := h.qp4; omega) q.1 q.2
theorem okR_of (h : MT D) {c : Int32} (q : okR D c) : ∃ k, k < nR D ∧ c = nI k := nI_rng (by have := h.qr4; omega) q.1 q.2
theorem okC_nI (h : MT D) {k : Nat} (hk : k < nC D) : okC D (nI k) := by
  have := h.qc7
  unfold okC
  rw [nI_lt0 (by omega), le_nI (by omega) (by omega)]
  exact ⟨fun q => q, by omega⟩

def sStreet (D : DD) (s w : Int32) : Int32 := if okS D s then (if w = nI 0 then D 232 (ix s) else if w = nI 1 then D 233 (ix s) else if w = nI 2 then D 234 (ix s) else if w = nI 3 then D 235 (ix s) else if w = nI 4 then D 236 (ix s) else mI 1) else mI 1
theorem m_street (h : MInv σ D) (s w : Int32) : ∃ τ, f_X12_street 225 s w σ = some (sStreet D s w, τ) ∧ Fr Xq σ τ := by
  have hq : MInv (ah_wI σ 225 0 (nI 0)) D := h.q (Fr.q0 (by omega))
  have hw := h.w
  have hw' := hq.w
  obtain ⟨h1, h2, h3, h4, h5, h6, h7, h8, h9, h10⟩ := h.f1
  refine ⟨ah_wI σ 225 0 (nI 0), ?_, Fr.q0 (by omega)⟩
  unfold f_X12_street f_X12_street_0
  simp (disch := first | (with_reducible assumption) | omega | exact ⟨by omega, by omega⟩ | ((with_reducible first | apply Wf.wI | apply Wf.wL | apply Wf.fr); (repeat (with_reducible first | assumption | apply Wf.wI | apply Wf.wL | apply Wf.fr)))) only [ck_225, gI_225, gL_225, pI_225, pZ0_225, pZ1_225, pL_225, gR_225_1, gR_225_3, gR_225_4, gR_225_5, gR_225_6, gR_225_7, gR_225_8, gR_225_9, gR_225_10, gR_225_11, gR_225_12, gR_225_13, gR_225_14, gR_225_15, gR_225_16, gR_225_17, gR_225_18, gR_225_19, gR_225_20, gR_225_21, gR_225_35, gR_225_36, gR_225_38, gR_225_39, gR_225_40, gR_225_41, gR_225_43, gR_225_44, gR_225_45, gR_225_48, gR_225_49, gR_225_50, gR_225_51, gR_225_53, gR_225_54, gR_225_55, gR_225_56, gR_225_58, gR_225_59, gR_225_60, gR_225_61, gR_225_62, gR_225_63, gR_225_66, gR_225_67, l_0, l_1, l_2, l_3, l_4, l_5, l_6, l_7, l_8, l_9, l_10, l_11, l_12, l_13, l_14, l_15, l_16, l_17, l_18, l_19, l_20, l_21, l_22, l_23, l_24, l_25, l_26, l_27, l_28, l_29, l_30, l_31, l_32, l_40, l_41, l_42, l_43, l_44, l_45, l_46, l_47, l_48, l_49, l_50, l_51, l_52, l_53, l_54, l_55, l_56, l_57, l_58, l_59, l_60, l_61, l_62, l_63, l_64, l_72, l_97, l_99, l_100, l_104, l_120, l_122, l_128, l_140, l_255, l_256, l_257, l_258, l_260, l_261, l_262, l_364, l_680, l_700, l_701, l_840, l_999, l_1023, l_1024, l_9999, l_10000, l_1000000, lm, bq_s, bd_s, mp_s, rz_0, rz_1, bI_rz, m_isStreet hq, bI_0, ite_n]
  unfold sStreet
  by_cases q : okS D s
  · rw [if_pos q, if_pos q]
    obtain ⟨k, hk, rfl⟩ := okS_of h.t q
    rw [ix_nI (by omega)]
    simp (disch := first | (with_reducible assumption) | omega | exact ⟨by omega, by omega⟩ | ((with_reducible first | apply Wf.wI | apply Wf.wL | apply Wf.fr); (repeat (with_reducible first | assumption | apply Wf.wI | apply Wf.wL | apply Wf.fr)))) only [ck_225, gI_225, gL_225, pI_225, pZ0_225, pZ1_225, pL_225, gR_225_1, gR_225_3, gR_225_4, gR_225_5, gR_225_6, gR_225_7, gR_225_8, gR_225_9, gR_225_10, gR_225_11, gR_225_12, gR_225_13, gR_225_14, gR_225_15, gR_225_16, gR_225_17, gR_225_18, gR_225_19, gR_225_20, gR_225_21, gR_225_35, gR_225_36, gR_225_38, gR_225_39, gR_225_40, gR_225_41, gR_225_43, gR_225_44, gR_225_45, gR_225_48, gR_225_49, gR_225_50, gR_225_51, gR_225_53, gR_225_54, gR_225_55, gR_225_56, gR_225_58, gR_225_59, gR_225_60, gR_225_61, gR_225_62, gR_225_63, gR_225_66, gR_225_67, l_0, l_1, l_2, l_3, l_4, l_5, l_6, l_7, l_8, l_9, l_10, l_11, l_12, l_13, l_14, l_15, l_16, l_17, l_18, l_19, l_20, l_21, l_22, l_23, l_24, l_25, l_26, l_27, l_28, l_29, l_30, l_31, l_32, l_40, l_41, l_42, l_43, l_44, l_45, l_46, l_47, l_48, l_49, l_50, l_51, l_52, l_53, l_54, l_55, l_56, l_57, l_58, l_59, l_60, l_61, l_62, l_63, l_64, l_72, l_97, l_99, l_100, l_104, l_120, l_122, l_128, l_140, l_255, l_256, l_257, l_258, l_260, l_261, l_262, l_364, l_680, l_700, l_701, l_840, l_999, l_1023, l_1024, l_9999, l_10000, l_1000000, lm, bq_s, bd_s, mp_s, rz_0, rz_1, bI_rz, aI_232, aI_233, aI_234, aI_235, aI_236, iteS, hq.at (show PM 232 k by unfold PM; omega), hq.at (show PM 233 k by unfold PM; omega), hq.at (show PM 234 k by unfold PM; omega), hq.at (show PM 235 k by unfold PM; omega), hq.at (show PM 236 k by unfold PM; omega)]
  · rw [if_neg q, if_neg q]
def sPipe (D : DD) (s w : Int32) : Int32 := if okP D s then (if w < nI 0 then mI 1 else if w ≤ nI 1 then (if w = nI 0 then D 237 (ix s) else D 238 (ix s)) else mI 1) else mI 1
theorem m_pipe (h : MInv σ D) (s w : Int32) : ∃ τ, f_X12_pipe 225 s w σ = some (sPipe D s w, τ) ∧ Fr Xq σ τ := by
  have hq : MInv (ah_wI σ 225 0 (nI 0)) D := h.q (Fr.q0 (by omega))
  have hw := h.w
  have hw' := hq.w
  obtain ⟨h1, h2, h3, h4, h5, h6, h7, h8, h9, h10⟩ := hq.f1
  refine ⟨ah_wI σ 225 0 (nI 0), ?_, Fr.q0 (by omega)⟩
  unfold f_X12_pipe f_X12_pipe_0
  simp (disch := first | (with_reducible assumption) | omega | exact ⟨by omega, by omega⟩ | ((with_reducible first | apply Wf.wI | apply Wf.wL | apply Wf.fr); (repeat (with_reducible first | assumption | apply Wf.wI | apply Wf.wL | apply Wf.fr)))) only [ck_225, gI_225, gL_225, pI_225, pZ0_225, pZ1_225, pL_225, gR_225_1, gR_225_3, gR_225_4, gR_225_5, gR_225_6, gR_225_7, gR_225_8, gR_225_9, gR_225_10, gR_225_11, gR_225_12, gR_225_13, gR_225_14, gR_225_15, gR_225_16, gR_225_17, gR_225_18, gR_225_19, gR_225_20, gR_225_21, gR_225_35, gR_225_36, gR_225_38, gR_225_39, gR_225_40, gR_225_41, gR_225_43, gR_225_44, gR_225_45, gR_225_48, gR_225_49, gR_225_50, gR_225_51, gR_225_53, gR_225_54, gR_225_55, gR_225_56, gR_225_58, gR_225_59, gR_225_60, gR_225_61, gR_225_62, gR_225_63, gR_225_66, gR_225_67, l_0, l_1, l_2, l_3, l_4, l_5, l_6, l_7, l_8, l_9, l_10, l_11, l_12, l_13, l_14, l_15, l_16, l_17, l_18, l_19, l_20, l_21, l_22, l_23, l_24, l_25, l_26, l_27, l_28, l_29, l_30, l_31, l_32, l_40, l_41, l_42, l_43, l_44, l_45, l_46, l_47, l_48, l_49, l_50, l_51, l_52, l_53, l_54, l_55, l_56, l_57, l_58, l_59, l_60, l_61, l_62, l_63, l_64, l_72, l_97, l_99, l_100, l_104, l_120, l_122, l_128, l_140, l_255, l_256, l_257, l_258, l_260, l_261, l_262, l_364, l_680, l_700, l_701, l_840, l_999, l_1023, l_1024, l_9999, l_10000, l_1000000, lm, bq_s, bd_s, mp_s, rz_0, rz_1, bI_rz, aI_227, h3]
  unfold sPipe
  by_cases q1 : s < nI 0
  · rw [if_pos q1, if_neg (fun q => q.1 q1)]
  · rw [if_neg q1]
    by_cases q2 : nI (nP D) ≤ s
    · rw [if_pos q2, if_neg (fun q => q.2 q2)]
    · rw [if_neg q2, if_pos (show okP D s from ⟨q1, q2⟩)]
      obtain ⟨k, hk, rfl⟩ := okP_of h.t ⟨q1, q2⟩
      rw [ix_nI (by omega)]
      simp (disch := first | (with_reducible assumption) | omega | exact ⟨by omega, by omega⟩ | ((with_reducible first | apply Wf.wI | apply Wf.wL | apply Wf.fr); (repeat (with_reducible first | assumption | apply Wf.wI | apply Wf.wL | apply Wf.fr)))) only [aI_237, aI_238, bq_s, bd_s, mp_s, rz_0, rz_1, bI_rz, iteS, hq.at (show PM 237 k by unfold PM; omega), hq.at (show PM 238 k by unfold PM; omega)]
def sThrown (D : DD) (c w : Int32) : Int32 := if okC D c then (if w < nI 0 then nI 2 else if w ≤ nI 2 then nI 0 else nI 2) else nI 1
def sLook (D : DD) (c w : Int32) : Int32 := if sThrown D c w = nI 0 then (if w = nI 0 then D 229 (ix c) else if w = nI 1 then D 230 (ix c) else D 231 (ix c)) else nI 0
theorem m_look (h : MInv σ D) (c w : Int32) : ∃ τ, f_X12_look 225 c w σ = some (sLook D c w, τ) ∧ Fr Xq σ τ ∧ ah_I τ 225 0 = sThrown D c w := by
  have hw := h.w
  refine ⟨ah_wI σ 225 0 (sThrown D c w), ?_, Fr.q0 (by omega), rI_eq⟩
  have hq : MInv (ah_wI σ 225 0 (sThrown D c w)) D := h.q (Fr.q0 (by omega))
  obtain ⟨h1, h2, h3, h4, h5, h6, h7, h8, h9, h10⟩ := h.f1
  have hw' := hq.w
  have main : ∀ v, v = sThrown D c w → f_X12_look_27 225 c w 225 v σ = some (sLook D c w, ah_wI σ 225 0 (sThrown D c w)) := by
    intro v hv
    unfold f_X12_look_27
    rw [hv]
    simp (disch := first | (with_reducible assumption) | omega | exact ⟨by omega, by omega⟩ | ((with_reducible first | apply Wf.wI | apply Wf.wL | apply Wf.fr); (repeat (with_reducible first | assumption | apply Wf.wI | apply Wf.wL | apply Wf.fr)))) only [ck_225, gI_225, gL_225, pI_225, pZ0_225, pZ1_225, pL_225, gR_225_1, gR_225_3, gR_225_4, gR_225_5, gR_225_6, gR_225_7, gR_225_8, gR_225_9, gR_225_10, gR_225_11, gR_225_12, gR_225_13, gR_225_14, gR_225_15, gR_225_16, gR_225_17, gR_225_18, gR_225_19, gR_225_20, gR_225_21, gR_225_35, gR_225_36, gR_225_38, gR_225_39, gR_225_40, gR_225_41, gR_225_43, gR_225_44, gR_225_45, gR_225_48, gR_225_49, gR_225_50, gR_225_51, gR_225_53, gR_225_54, gR_225_55, gR_225_56, gR_225_58, gR_225_59, gR_225_60, gR_225_61, gR_225_62, gR_225_63, gR_225_66, gR_225_67, l_0, l_1, l_2, l_3, l_4, l_5, l_6, l_7, l_8, l_9, l_10, l_11, l_12, l_13, l_14, l_15, l_16, l_17, l_18, l_19, l_20, l_21, l_22, l_23, l_24, l_25, l_26, l_27, l_28, l_29, l_30, l_31, l_32, l_40, l_41, l_42, l_43, l_44, l_45, l_46, l_47, l_48, l_49, l_50, l_51, l_52, l_53, l_54, l_55, l_56, l_57, l_58, l_59, l_60, l_61, l_62, l_63, l_64, l_72, l_97, l_99, l_100, l_104, l_120, l_122, l_128, l_140, l_255, l_256, l_257, l_258, l_260, l_261, l_262, l_364, l_680, l_700, l_701, l_840, l_999, l_1023, l_1024, l_9999, l_10000, l_1000000, lm, bq_s, bd_s, mp_s, rz_0, rz_1, bI_rz, rI_ne, rI_eq, rL_ne, rL_eq, ah_I_wL, ah_L_wI, ah_R_wI, ah_R_wL, ah_I_wR, ah_L_wR, rR_ne, rR_eq]
    unfold sLook
    by_cases q : sThrown D c w = nI 0
    · rw [if_pos q, if_pos q]
      have hc : okC D c := by
        by_cases hc : okC D c
        · exact hc
        · unfold sThrown at q
          rw [if_neg hc] at q
          exact absurd q (by decide)
      obtain ⟨k, hk, rfl⟩ := okC_of h.t hc
      rw [ix_nI (by omega)]
      simp (disch := first | (with_reducible assumption) | omega | exact ⟨by omega, by omega⟩ | ((with_reducible first | apply Wf.wI | apply Wf.wL | apply Wf.fr); (repeat (with_reducible first | assumption | apply Wf.wI | apply Wf.wL | apply Wf.fr)))) only [aI_229, aI_230, aI_231, bq_s, bd_s, mp_s, rz_0, rz_1, bI_rz, iteS, hq.at (show PM 229 k by unfold PM; omega), hq.at (show PM 230 k by unfold PM; omega), hq.at (show PM 231 k by unfold PM; omega)]
    · rw [if_neg q, if_neg q]
  unfold f_X12_look f_X12_look_0 f_X12_look_22
  simp (disch := first | (with_reducible assumption) | omega | exact ⟨by omega, by omega⟩ | ((with_reducible first | apply Wf.wI | apply Wf.wL | apply Wf.fr); (repeat (with_reducible first | assumption | apply Wf.wI | apply Wf.wL | apply Wf.fr)))) only [ck_225, gI_225, gL_225, pI_225, pZ0_225, pZ1_225, pL_225, gR_225_1, gR_225_3, gR_225_4, gR_225_5, gR_225_6, gR_225_7, gR_225_8, gR_225_9, gR_225_10, gR_225_11, gR_225_12, gR_225_13, gR_225_14, gR_225_15, gR_225_16, gR_225_17, gR_225_18, gR_225_19, gR_225_20, gR_225_21, gR_225_35, gR_225_36, gR_225_38, gR_225_39, gR_225_40, gR_225_41, gR_225_43, gR_225_44, gR_225_45, gR_225_48, gR_225_49, gR_225_50, gR_225_51, gR_225_53, gR_225_54, gR_225_55, gR_225_56, gR_225_58, gR_225_59, gR_225_60, gR_225_61, gR_225_62, gR_225_63, gR_225_66, gR_225_67, l_0, l_1, l_2, l_3, l_4, l_5, l_6, l_7, l_8, l_9, l_10, l_11, l_12, l_13, l_14, l_15, l_16, l_17, l_18, l_19, l_20, l_21, l_22, l_23, l_24, l_25, l_26, l_27, l_28, l_29, l_30, l_31, l_32, l_40, l_41, l_42, l_43, l_44, l_45, l_46, l_47, l_48, l_49, l_50, l_51, l_52, l_53, l_54, l_55, l_56, l_57, l_58, l_59, l_60, l_61, l_62, l_63, l_64, l_72, l_97, l_99, l_100, l_104, l_120, l_122, l_128, l_140, l_255, l_256, l_257, l_258, l_260, l_261, l_262, l_364, l_680, l_700, l_701, l_840, l_999, l_1023, l_1024, l_9999, l_10000, l_1000000, lm, bq_s, bd_s, mp_s, rz_0, rz_1, bI_rz, m_isCorner h, bI_0, ite_n]
  by_cases hc : okC D c
  · rw [if_pos hc]
    by_cases q1 : w < nI 0
    · rw [if_pos q1]
      exact main _ (by unfold sThrown; rw [if_pos hc, if_pos q1])
    · rw [if_neg q1]
      by_cases q2 : w ≤ nI 2
      · rw [if_pos q2]
        exact main _ (by unfold sThrown; rw [if_pos hc, if_neg q1, if_pos q2])
      · rw [if_neg q2]
        exact main _ (by unfold sThrown; rw [if_pos hc, if_neg q1, if_neg q2])
  · rw [if_neg hc]
    exact main _ (by unfold sThrown; rw [if_neg hc])
/-- the net that the reference works on: row e, by streets -/
def StR (σ : ah_H) (D : DD) (e : Nat) (st : Nat → Option Nat) : Prop := ah_I σ 225 42 = nI e ∧ e ≤ 1 ∧ ∀ c, c < nC D → ah_I σ 248 (7 * e + c) = sv (st c) ∧ ∀ s, st c = some s → s < nS D
def nx (D : DD) (st : Nat → Option Nat) (c : Nat) : Option Nat := (st c).map fun s => oth D s c
def stD (D : DD) (c : Nat) : Option Nat := if D 248 c = mI 1 then none else some (ix (D 248 c))
theorem sv_none (s : Option Nat) (h : ∀ k, s = some k → k < 2147483648) : (sv s = mI 1) = (s = none) := by
  cases s with
  | none => exact propext ⟨fun _ => rfl, fun _ => rfl⟩
  | some k => rw [show sv (some k) = nI k from rfl, neg_nI (by omega) (by omega) (h k rfl)]; exact propext ⟨fun q => q.elim, fun q => by cases q⟩
theorem StR.fr {X : Nat → Nat → Prop} {τ : ah_H} {e : Nat} {st : Nat → Option Nat} (h : StR σ D e st) (g : Fr X σ τ) (hC : nC D ≤ 7) (h1 : ¬ X 225 42) (h2 : ∀ c, c < 7 → ¬ X 248 (7 * e + c)) : StR τ D e st :=
  ⟨(g.I h1).trans h.1, h.2.1, fun c hc => ⟨(g.I (h2 c (by omega))).trans (h.2.2 c hc).1, (h.2.2 c hc).2⟩⟩
section
variable {e : Nat} {st : Nat → Option Nat}
theorem m_streetOf (h : MInv σ D) (hs : StR σ D e st) {c : Nat} (hc : c < nC D) : f_X12_streetOf 225 (nI c) σ = some (sv (st c), σ) := by
  have hw := h.w
  have h7 := h.t.qc7
  obtain ⟨h1, h2, h3⟩ := hs
  unfold f_X12_streetOf f_X12_streetOf_0
  simp (disch := first | (with_reducible assumption) | omega | exact ⟨by omega, by omega⟩ | ((with_reducible first | apply Wf.wI | apply Wf.wL | apply Wf.fr); (repeat (with_reducible first | assumption | apply Wf.wI | apply Wf.wL | apply Wf.fr)))) only [ck_225, gI_225, gL_225, pI_225, pZ0_225, pZ1_225, pL_225, gR_225_1, gR_225_3, gR_225_4, gR_225_5, gR_225_6, gR_225_7, gR_225_8, gR_225_9, gR_225_10, gR_225_11, gR_225_12, gR_225_13, gR_225_14, gR_225_15, gR_225_16, gR_225_17, gR_225_18, gR_225_19, gR_225_20, gR_225_21, gR_225_35, gR_225_36, gR_225_38, gR_225_39, gR_225_40, gR_225_41, gR_225_43, gR_225_44, gR_225_45, gR_225_48, gR_225_49, gR_225_50, gR_225_51, gR_225_53, gR_225_54, gR_225_55, gR_225_56, gR_225_58, gR_225_59, gR_225_60, gR_225_61, gR_225_62, gR_225_63, gR_225_66, gR_225_67, l_0, l_1, l_2, l_3, l_4, l_5, l_6, l_7, l_8, l_9, l_10, l_11, l_12, l_13, l_14, l_15, l_16, l_17, l_18, l_19, l_20, l_21, l_22, l_23, l_24, l_25, l_26, l_27, l_28, l_29, l_30, l_31, l_32, l_40, l_41, l_42, l_43, l_44, l_45, l_46, l_47, l_48, l_49, l_50, l_51, l_52, l_53, l_54, l_55, l_56, l_57, l_58, l_59, l_60, l_61, l_62, l_63, l_64, l_72, l_97, l_99, l_100, l_104, l_120, l_122, l_128, l_140, l_255, l_256, l_257, l_258, l_260, l_261, l_262, l_364, l_680, l_700, l_701, l_840, l_999, l_1023, l_1024, l_9999, l_10000, l_1000000, lm, bq_s, bd_s, mp_s, rz_0, rz_1, bI_rz, zadd, zmul, zsub, le_nI, lt_nI, eq_nI, neg_nI, gen_nI, neg_lt, neg_le, neg_lt', neg_le', nI_lt0, aI_248, h1, (h3 c hc).1]
theorem m_isLaid (h : MInv σ D) (hs : StR σ D e st) {c : Nat} (hc : c < nC D) : f_X12_isLaid 225 (nI c) σ = some (bI (st c ≠ none), σ) := by
  have hw := h.w
  have h7 := h.t.qc7
  have h10 := h.t.qs10
  obtain ⟨h1, h2, h3⟩ := hs
  unfold f_X12_isLaid f_X12_isLaid_0
  simp (disch := first | (with_reducible assumption) | omega | exact ⟨by omega, by omega⟩ | ((with_reducible first | apply Wf.wI | apply Wf.wL | apply Wf.fr); (repeat (with_reducible first | assumption | apply Wf.wI | apply Wf.wL | apply Wf.fr)))) only [ck_225, gI_225, gL_225, pI_225, pZ0_225, pZ1_225, pL_225, gR_225_1, gR_225_3, gR_225_4, gR_225_5, gR_225_6, gR_225_7, gR_225_8, gR_225_9, gR_225_10, gR_225_11, gR_225_12, gR_225_13, gR_225_14, gR_225_15, gR_225_16, gR_225_17, gR_225_18, gR_225_19, gR_225_20, gR_225_21, gR_225_35, gR_225_36, gR_225_38, gR_225_39, gR_225_40, gR_225_41, gR_225_43, gR_225_44, gR_225_45, gR_225_48, gR_225_49, gR_225_50, gR_225_51, gR_225_53, gR_225_54, gR_225_55, gR_225_56, gR_225_58, gR_225_59, gR_225_60, gR_225_61, gR_225_62, gR_225_63, gR_225_66, gR_225_67, l_0, l_1, l_2, l_3, l_4, l_5, l_6, l_7, l_8, l_9, l_10, l_11, l_12, l_13, l_14, l_15, l_16, l_17, l_18, l_19, l_20, l_21, l_22, l_23, l_24, l_25, l_26, l_27, l_28, l_29, l_30, l_31, l_32, l_40, l_41, l_42, l_43, l_44, l_45, l_46, l_47, l_48, l_49, l_50, l_51, l_52, l_53, l_54, l_55, l_56, l_57, l_58, l_59, l_60, l_61, l_62, l_63, l_64, l_72, l_97, l_99, l_100, l_104, l_120, l_122, l_128, l_140, l_255, l_256, l_257, l_258, l_260, l_261, l_262, l_364, l_680, l_700, l_701, l_840, l_999, l_1023, l_1024, l_9999, l_10000, l_1000000, lm, bq_s, bd_s, mp_s, rz_0, rz_1, bI_rz, zadd, zmul, zsub, le_nI, lt_nI, eq_nI, neg_nI, gen_nI, neg_lt, neg_le, neg_lt', neg_le', nI_lt0, aI_248, h1, (h3 c hc).1, sv_none _ (fun k hk => Nat.lt_trans ((h3 c hc).2 k hk) (by omega)), iteS]
  unfold bI
  rw [ite_n]
theorem m_otherEnd (h : MInv σ D) {s c : Nat} (hs : s < nS D) (hc : c < 7) : f_X12_otherEnd 225 (nI s) (nI c) σ = some (nI (oth D s c), σ) := by
  have hw := h.w
  have h10 := h.t.qs10
  have hA := h.t.qsAc hs
  have hB := h.t.qsBc hs
  have h7 := h.t.qc7
  unfold f_X12_otherEnd f_X12_otherEnd_0
  simp (disch := first | (with_reducible assumption) | omega | exact ⟨by omega, by omega⟩ | ((with_reducible first | apply Wf.wI | apply Wf.wL | apply Wf.fr); (repeat (with_reducible first | assumption | apply Wf.wI | apply Wf.wL | apply Wf.fr)))) only [ck_225, gI_225, gL_225, pI_225, pZ0_225, pZ1_225, pL_225, gR_225_1, gR_225_3, gR_225_4, gR_225_5, gR_225_6, gR_225_7, gR_225_8, gR_225_9, gR_225_10, gR_225_11, gR_225_12, gR_225_13, gR_225_14, gR_225_15, gR_225_16, gR_225_17, gR_225_18, gR_225_19, gR_225_20, gR_225_21, gR_225_35, gR_225_36, gR_225_38, gR_225_39, gR_225_40, gR_225_41, gR_225_43, gR_225_44, gR_225_45, gR_225_48, gR_225_49, gR_225_50, gR_225_51, gR_225_53, gR_225_54, gR_225_55, gR_225_56, gR_225_58, gR_225_59, gR_225_60, gR_225_61, gR_225_62, gR_225_63, gR_225_66, gR_225_67, l_0, l_1, l_2, l_3, l_4, l_5, l_6, l_7, l_8, l_9, l_10, l_11, l_12, l_13, l_14, l_15, l_16, l_17, l_18, l_19, l_20, l_21, l_22, l_23, l_24, l_25, l_26, l_27, l_28, l_29, l_30, l_31, l_32, l_40, l_41, l_42, l_43, l_44, l_45, l_46, l_47, l_48, l_49, l_50, l_51, l_52, l_53, l_54, l_55, l_56, l_57, l_58, l_59, l_60, l_61, l_62, l_63, l_64, l_72, l_97, l_99, l_100, l_104, l_120, l_122, l_128, l_140, l_255, l_256, l_257, l_258, l_260, l_261, l_262, l_364, l_680, l_700, l_701, l_840, l_999, l_1023, l_1024, l_9999, l_10000, l_1000000, lm, bq_s, bd_s, mp_s, rz_0, rz_1, bI_rz, zadd, zmul, zsub, le_nI, lt_nI, eq_nI, neg_nI, gen_nI, neg_lt, neg_le, neg_lt', neg_le', nI_lt0, aI_232, aI_233, h.at (show PM 232 s by unfold PM; omega), h.at (show PM 233 s by unfold PM; omega), h.t.qsA hs, h.t.qsB hs, iteS]
  unfold oth
  by_cases q : sA D s = c
  · rw [if_pos q, if_pos q]
  · rw [if_neg q, if_neg q]
theorem m_to (h : MInv σ D) (hs : StR σ D e st) {c s : Nat} (hc : c < nC D) (hx : st c = some s) : f_X12_to 225 (nI c) σ = some (nI (oth D s c), σ) := by
  have hw := h.w
  have h7 := h.t.qc7
  have := (hs.2.2 c hc).2 s hx
  unfold f_X12_to f_X12_to_0
  simp (disch := first | (with_reducible assumption) | omega | exact ⟨by omega, by omega⟩ | ((with_reducible first | apply Wf.wI | apply Wf.wL | apply Wf.fr); (repeat (with_reducible first | assumption | apply Wf.wI | apply Wf.wL | apply Wf.fr)))) only [ck_225, gI_225, gL_225, pI_225, pZ0_225, pZ1_225, pL_225, gR_225_1, gR_225_3, gR_225_4, gR_225_5, gR_225_6, gR_225_7, gR_225_8, gR_225_9, gR_225_10, gR_225_11, gR_225_12, gR_225_13, gR_225_14, gR_225_15, gR_225_16, gR_225_17, gR_225_18, gR_225_19, gR_225_20, gR_225_21, gR_225_35, gR_225_36, gR_225_38, gR_225_39, gR_225_40, gR_225_41, gR_225_43, gR_225_44, gR_225_45, gR_225_48, gR_225_49, gR_225_50, gR_225_51, gR_225_53, gR_225_54, gR_225_55, gR_225_56, gR_225_58, gR_225_59, gR_225_60, gR_225_61, gR_225_62, gR_225_63, gR_225_66, gR_225_67, bq_s, bd_s, mp_s, rz_0, rz_1, bI_rz, m_streetOf h hs hc, hx, show sv (some s) = nI s from rfl, m_otherEnd h this (show c < 7 by omega)]
theorem nx_lt (h : MT D) {c k : Nat} (hs : ∀ s, st c = some s → s < nS D) (hx : nx D st c = some k) : k < nC D := by
  unfold nx at hx
  cases hc : st c with
  | none => rw [hc] at hx; cases hx
  | some s =>
    rw [hc] at hx
    cases hx
    exact h.qoth (hs s hc)
theorem m_runsTo (h : MInv σ D) (hs : StR σ D e st) {o c : Nat} (ho : o < nC D) (hc : c < nC D) : f_X12_runsTo 225 (nI o) (nI c) σ = some (bI (nx D st o = some c), σ) := by
  have hw := h.w
  have h7 := h.t.qc7
  unfold f_X12_runsTo f_X12_runsTo_0
  simp (disch := first | (with_reducible assumption) | omega | exact ⟨by omega, by omega⟩ | ((with_reducible first | apply Wf.wI | apply Wf.wL | apply Wf.fr); (repeat (with_reducible first | assumption | apply Wf.wI | apply Wf.wL | apply Wf.fr)))) only [ck_225, gI_225, gL_225, pI_225, pZ0_225, pZ1_225, pL_225, gR_225_1, gR_225_3, gR_225_4, gR_225_5, gR_225_6, gR_225_7, gR_225_8, gR_225_9, gR_225_10, gR_225_11, gR_225_12, gR_225_13, gR_225_14, gR_225_15, gR_225_16, gR_225_17, gR_225_18, gR_225_19, gR_225_20, gR_225_21, gR_225_35, gR_225_36, gR_225_38, gR_225_39, gR_225_40, gR_225_41, gR_225_43, gR_225_44, gR_225_45, gR_225_48, gR_225_49, gR_225_50, gR_225_51, gR_225_53, gR_225_54, gR_225_55, gR_225_56, gR_225_58, gR_225_59, gR_225_60, gR_225_61, gR_225_62, gR_225_63, gR_225_66, gR_225_67, l_0, l_1, l_2, l_3, l_4, l_5, l_6, l_7, l_8, l_9, l_10, l_11, l_12, l_13, l_14, l_15, l_16, l_17, l_18, l_19, l_20, l_21, l_22, l_23, l_24, l_25, l_26, l_27, l_28, l_29, l_30, l_31, l_32, l_40, l_41, l_42, l_43, l_44, l_45, l_46, l_47, l_48, l_49, l_50, l_51, l_52, l_53, l_54, l_55, l_56, l_57, l_58, l_59, l_60, l_61, l_62, l_63, l_64, l_72, l_97, l_99, l_100, l_104, l_120, l_122, l_128, l_140, l_255, l_256, l_257, l_258, l_260, l_261, l_262, l_364, l_680, l_700, l_701, l_840, l_999, l_1023, l_1024, l_9999, l_10000, l_1000000, lm, bq_s, bd_s, mp_s, rz_0, rz_1, bI_rz, m_isLaid h hs ho, bI_0, ite_n]
  unfold nx
  cases hx : st o with
  | none => simp only [if_true, if_false, ite_true, ite_false, reduceIte, not_true, not_false, and_true, true_and, and_false, false_and, or_true, true_or, or_false, false_or, eq_self, Option.map_none]; rfl
  | some s =>
    have hk := h.t.qoth (c := o) ((hs.2.2 o ho).2 s hx)
    simp (disch := first | (with_reducible assumption) | omega | exact ⟨by omega, by omega⟩ | ((with_reducible first | apply Wf.wI | apply Wf.wL | apply Wf.fr); (repeat (with_reducible first | assumption | apply Wf.wI | apply Wf.wL | apply Wf.fr)))) only [m_to h hs ho hx, bq_s, bd_s, mp_s, rz_0, rz_1, bI_rz, zadd, zmul, zsub, le_nI, lt_nI, eq_nI, neg_nI, gen_nI, neg_lt, neg_le, neg_lt', neg_le', nI_lt0, if_true, if_false, ite_true, ite_false, reduceIte, not_true, not_false, and_true, true_and, and_false, false_and, or_true, true_or, or_false, false_or, eq_self, iteS, Option.map_some, Option.some.injEq, reduceCtorEq]
    rfl
end
end
