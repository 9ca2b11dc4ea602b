/-! THE CLASS: signs, and a token whole -/
section
variable {σ τ : ah_H} {T : Nat → Nat} {n p q e : Nat}
theorem c_goesOn (h : LxC σ T n) {c : Nat} (h6 : ah_I σ 83 6 = nI p) (hp : p ≤ n) (hc : c < 128) : f_X8_goesOn 83 (nI c) σ = some (cI (p < n ∧ T p = c), cif (p < n ∧ T p = c) (ah_wI σ 83 6 (nI (p + 1))) σ) := by
  have hW := h.1
  have h7 := h.2.1
  have h5 := h.2.2.1
  unfold f_X8_goesOn f_X8_goesOn_0
  simp only [to_bq, l_0, l_1, l_2, l_3, l_4, l_5, l_6, l_7, l_8, l_9, l_10, l_11, l_12, l_13, l_14, l_15, l_16, l_17, l_18, l_19, l_20, l_21, l_22, l_23, l_24, l_25, l_26, l_27, l_28, l_29, l_30, l_31, l_32, l_40, l_41, l_42, l_43, l_44, l_45, l_46, l_47, l_48, l_49, l_50, l_51, l_52, l_53, l_54, l_55, l_56, l_57, l_58, l_59, l_60, l_61, l_62, l_63, l_64, l_72, l_97, l_99, l_100, l_104, l_120, l_122, l_128, l_140, l_255, l_256, l_257, l_258, l_260, l_261, l_262, l_364, l_680, l_700, l_701, l_840, l_999, l_1023, l_1024, l_9999, l_10000, l_1000000, lm]
  simp (disch := first | (with_reducible assumption) | omega | exact ⟨by omega, by omega⟩ | ((with_reducible first | apply Wf.wI | apply Wf.wL | apply Wf.fL | apply Wf.fI | apply Wf.fr); (repeat (with_reducible first | assumption | apply Wf.wI | apply Wf.wL | apply Wf.fL | apply Wf.fI | apply Wf.fr)))) only [ck_83, gI_83, gL_83, pI_83, pZ0_83, pZ1_83, pL_83, gR_83_0, gR_83_1, gR_83_2, gR_83_3, gR_83_4, bq_n, bd_s, mp_s, rz_0, rz_1, bI_rz, h6, h5, le_nI]
  by_cases z : n ≤ p
  · rw [if_pos z, cI_f (fun w => by omega), cif_f (fun w => by omega)]
  · rw [if_neg z]
    obtain ⟨b1, b2⟩ := h.2.2.2.1 p (by omega)
    simp (disch := first | (with_reducible assumption) | omega | exact ⟨by omega, by omega⟩ | ((with_reducible first | apply Wf.wI | apply Wf.wL | apply Wf.fL | apply Wf.fI | apply Wf.fr); (repeat (with_reducible first | assumption | apply Wf.wI | apply Wf.wL | apply Wf.fL | apply Wf.fI | apply Wf.fr)))) only [ck_83, gI_83, gL_83, pI_83, pZ0_83, pZ1_83, pL_83, gR_83_0, gR_83_1, gR_83_2, gR_83_3, gR_83_4, aB_1, sB_1, len_1, bq_n, bd_s, mp_s, rz_0, rz_1, bI_rz, h6, b1, bvt_n b2 hc]
    by_cases y : T p = c
    · rw [if_pos y, cI_t ⟨by omega, y⟩, cif_t ⟨by omega, y⟩]
      simp (disch := first | (with_reducible assumption) | omega | exact ⟨by omega, by omega⟩ | ((with_reducible first | apply Wf.wI | apply Wf.wL | apply Wf.fL | apply Wf.fI | apply Wf.fr); (repeat (with_reducible first | assumption | apply Wf.wI | apply Wf.wL | apply Wf.fL | apply Wf.fI | apply Wf.fr)))) only [ck_83, gI_83, gL_83, pI_83, pZ0_83, pZ1_83, pL_83, gR_83_0, gR_83_1, gR_83_2, gR_83_3, gR_83_4, bq_n, bd_s, mp_s, rz_0, rz_1, bI_rz, h6, zadd]
    · rw [if_neg y, cI_f (fun w => y w.2), cif_f (fun w => y w.2)]
theorem c_cutSign (h : LxC σ T n) (h6 : ah_I σ 83 6 = nI q) (hq : q < n) : ∃ τ, f_X8_cutSign 83 σ = some τ ∧ Fr (fun a j => a = 83 ∧ (j = 6 ∨ j = 8 ∨ j = 9)) σ τ ∧ CTk (sgn T n q) (ah_I τ 83 8) (ah_I τ 83 9) ∧ ah_I τ 83 6 = nI (tN (sgn T n q)) := by
  have hW := h.1
  have h7 := h.2.1
  obtain ⟨b1, b2⟩ := h.2.2.2.1 q hq
  have bn : ∀ k, k < 128 → (bvt (T q) = nI k ↔ T q = k) := fun k hk => by rw [bvt_n b2 hk]
  have f1 : Fr (fun a j => a = 83 ∧ (j = 6 ∨ j = 8 ∨ j = 9)) σ (ah_wI (ah_wI σ 83 6 (nI (q + 1))) 83 8 (nI 4)) := (Fr.rfl.wI ⟨rfl, by omega⟩).wI ⟨rfl, by omega⟩
  have v6 : ah_I (ah_wI (ah_wI σ 83 6 (nI (q + 1))) 83 8 (nI 4)) 83 6 = nI (q + 1) := by rw [rI_ne (by omega), rI_eq]
  have v8 : ah_I (ah_wI (ah_wI σ 83 6 (nI (q + 1))) 83 8 (nI 4)) 83 8 = nI 4 := rI_eq
  have hW2 : Wf (ah_wI σ 83 6 (nI (q + 1))) := hW.wI _ _ _
  have z61 : ah_I σ 83 6 + (1 : Int32) = nI (q + 1) := by rw [h6]; exact zadd _ _
  unfold f_X8_cutSign f_X8_cutSign_0
  rw [ck_83 hW, gR_83_0 hW, bd_s, gI_83 hW, bd_s, h6, aB_1 hW (by omega), bd_s, bd_s, pI_83 hW, bd_s, show nI q + (1 : Int32) = nI (q + 1) from zadd _ _, pI_83 hW2, bd_s, b1, show (4 : Int32) = nI 4 from rfl]
  generalize ah_wI (ah_wI σ 83 6 (nI (q + 1))) 83 8 (nI 4) = ρ at *
  have hρ : LxC ρ T n := h.fr (f1.mono (fun a j z => by unfold Xct; omega))
  have hWρ := hρ.1
  -- a plain sign
  have pl : ∀ v, T q ≠ 60 → T q ≠ 62 → sgS (T q) → sgc (T q) = v → ∃ τ, (op_pI 8 9 ρ 83 (nI v)).bind (fun σ1 => some σ1) = some τ ∧ Fr (fun a j => a = 83 ∧ (j = 6 ∨ j = 8 ∨ j = 9)) σ τ ∧ CTk (sgn T n q) (ah_I τ 83 8) (ah_I τ 83 9) ∧ ah_I τ 83 6 = nI (tN (sgn T n q)) := by
    intro v n60 n62 hs hv
    have es : sgn T n q = (3, T q, q, q + 1) := by
      unfold sgn
      rw [if_neg (fun w => n60 w.1), if_neg (fun w => n60 w.1), if_neg (fun w => n62 w.1), if_pos hs]
    rw [es]
    refine ⟨ah_wI ρ 83 9 (nI v), by rw [pI_83 hWρ, bd_s], f1.wI ⟨rfl, by omega⟩, Or.inr (Or.inr (Or.inr (Or.inl ⟨rfl, by rw [rI_ne (by omega)]; exact v8, by rw [rI_eq, ← hv]; rfl⟩))), by rw [rI_ne (by omega)]; exact v6⟩
  have bd : T q ≠ 60 → T q ≠ 62 → ¬ sgS (T q) → ∃ τ, (op_pI 8 8 ρ 83 (nI 5)).bind (fun σ1 => some σ1) = some τ ∧ Fr (fun a j => a = 83 ∧ (j = 6 ∨ j = 8 ∨ j = 9)) σ τ ∧ CTk (sgn T n q) (ah_I τ 83 8) (ah_I τ 83 9) ∧ ah_I τ 83 6 = nI (tN (sgn T n q)) := by
    intro n60 n62 hs
    have es : sgn T n q = (5, T q, q, q + 1) := by
      unfold sgn
      rw [if_neg (fun w => n60 w.1), if_neg (fun w => n60 w.1), if_neg (fun w => n62 w.1), if_neg hs]
    rw [es]
    refine ⟨ah_wI ρ 83 8 (nI 5), by rw [pI_83 hWρ, bd_s], f1.wI ⟨rfl, by omega⟩, Or.inr (Or.inr (Or.inr (Or.inr (Or.inr ⟨rfl, rI_eq⟩)))), by rw [rI_ne (by omega)]; exact v6⟩
  by_cases c40 : T q = 40
  · rw [if_pos (show bvt (T q) = (40 : Int32) from (bn 40 (by omega)).mpr c40)]
    exact pl 31 (by omega) (by omega) (by omega) (by rw [c40]; decide)
  rw [if_neg (show ¬ bvt (T q) = (40 : Int32) from fun w => c40 ((bn 40 (by omega)).mp w))]
  by_cases c41 : T q = 41
  · rw [if_pos (show bvt (T q) = (41 : Int32) from (bn 41 (by omega)).mpr c41)]
    exact pl 32 (by omega) (by omega) (by omega) (by rw [c41]; decide)
  rw [if_neg (show ¬ bvt (T q) = (41 : Int32) from fun w => c41 ((bn 41 (by omega)).mp w))]
  by_cases c42 : T q = 42
  · rw [if_pos (show bvt (T q) = (42 : Int32) from (bn 42 (by omega)).mpr c42)]
    exact pl 13 (by omega) (by omega) (by omega) (by rw [c42]; decide)
  rw [if_neg (show ¬ bvt (T q) = (42 : Int32) from fun w => c42 ((bn 42 (by omega)).mp w))]
  by_cases c43 : T q = 43
  · rw [if_pos (show bvt (T q) = (43 : Int32) from (bn 43 (by omega)).mpr c43)]
    exact pl 11 (by omega) (by omega) (by omega) (by rw [c43]; decide)
  rw [if_neg (show ¬ bvt (T q) = (43 : Int32) from fun w => c43 ((bn 43 (by omega)).mp w))]
  by_cases c44 : T q = 44
  · rw [if_pos (show bvt (T q) = (44 : Int32) from (bn 44 (by omega)).mpr c44)]
    exact bd (by omega) (by omega) (by omega)
  rw [if_neg (show ¬ bvt (T q) = (44 : Int32) from fun w => c44 ((bn 44 (by omega)).mp w))]
  by_cases c45 : T q = 45
  · rw [if_pos (show bvt (T q) = (45 : Int32) from (bn 45 (by omega)).mpr c45)]
    exact pl 12 (by omega) (by omega) (by omega) (by rw [c45]; decide)
  rw [if_neg (show ¬ bvt (T q) = (45 : Int32) from fun w => c45 ((bn 45 (by omega)).mp w))]
  by_cases c46 : T q = 46
  · rw [if_pos (show bvt (T q) = (46 : Int32) from (bn 46 (by omega)).mpr c46)]
    exact bd (by omega) (by omega) (by omega)
  rw [if_neg (show ¬ bvt (T q) = (46 : Int32) from fun w => c46 ((bn 46 (by omega)).mp w))]
  by_cases c47 : T q = 47
  · rw [if_pos (show bvt (T q) = (47 : Int32) from (bn 47 (by omega)).mpr c47)]
    exact pl 14 (by omega) (by omega) (by omega) (by rw [c47]; decide)
  rw [if_neg (show ¬ bvt (T q) = (47 : Int32) from fun w => c47 ((bn 47 (by omega)).mp w))]
  by_cases c48 : T q = 48
  · rw [if_pos (show bvt (T q) = (48 : Int32) from (bn 48 (by omega)).mpr c48)]
    exact bd (by omega) (by omega) (by omega)
  rw [if_neg (show ¬ bvt (T q) = (48 : Int32) from fun w => c48 ((bn 48 (by omega)).mp w))]
  by_cases c49 : T q = 49
  · rw [if_pos (show bvt (T q) = (49 : Int32) from (bn 49 (by omega)).mpr c49)]
    exact bd (by omega) (by omega) (by omega)
  rw [if_neg (show ¬ bvt (T q) = (49 : Int32) from fun w => c49 ((bn 49 (by omega)).mp w))]
  by_cases c50 : T q = 50
  · rw [if_pos (show bvt (T q) = (50 : Int32) from (bn 50 (by omega)).mpr c50)]
    exact bd (by omega) (by omega) (by omega)
  rw [if_neg (show ¬ bvt (T q) = (50 : Int32) from fun w => c50 ((bn 50 (by omega)).mp w))]
  by_cases c51 : T q = 51
  · rw [if_pos (show bvt (T q) = (51 : Int32) from (bn 51 (by omega)).mpr c51)]
    exact bd (by omega) (by omega) (by omega)
  rw [if_neg (show ¬ bvt (T q) = (51 : Int32) from fun w => c51 ((bn 51 (by omega)).mp w))]
  by_cases c52 : T q = 52
  · rw [if_pos (show bvt (T q) = (52 : Int32) from (bn 52 (by omega)).mpr c52)]
    exact bd (by omega) (by omega) (by omega)
  rw [if_neg (show ¬ bvt (T q) = (52 : Int32) from fun w => c52 ((bn 52 (by omega)).mp w))]
  by_cases c53 : T q = 53
  · rw [if_pos (show bvt (T q) = (53 : Int32) from (bn 53 (by omega)).mpr c53)]
    exact bd (by omega) (by omega) (by omega)
  rw [if_neg (show ¬ bvt (T q) = (53 : Int32) from fun w => c53 ((bn 53 (by omega)).mp w))]
  by_cases c54 : T q = 54
  · rw [if_pos (show bvt (T q) = (54 : Int32) from (bn 54 (by omega)).mpr c54)]
    exact bd (by omega) (by omega) (by omega)
  rw [if_neg (show ¬ bvt (T q) = (54 : Int32) from fun w => c54 ((bn 54 (by omega)).mp w))]
  by_cases c55 : T q = 55
  · rw [if_pos (show bvt (T q) = (55 : Int32) from (bn 55 (by omega)).mpr c55)]
    exact bd (by omega) (by omega) (by omega)
  rw [if_neg (show ¬ bvt (T q) = (55 : Int32) from fun w => c55 ((bn 55 (by omega)).mp w))]
  by_cases c56 : T q = 56
  · rw [if_pos (show bvt (T q) = (56 : Int32) from (bn 56 (by omega)).mpr c56)]
    exact bd (by omega) (by omega) (by omega)
  rw [if_neg (show ¬ bvt (T q) = (56 : Int32) from fun w => c56 ((bn 56 (by omega)).mp w))]
  by_cases c57 : T q = 57
  · rw [if_pos (show bvt (T q) = (57 : Int32) from (bn 57 (by omega)).mpr c57)]
    exact bd (by omega) (by omega) (by omega)
  rw [if_neg (show ¬ bvt (T q) = (57 : Int32) from fun w => c57 ((bn 57 (by omega)).mp w))]
  by_cases c58 : T q = 58
  · rw [if_pos (show bvt (T q) = (58 : Int32) from (bn 58 (by omega)).mpr c58)]
    exact bd (by omega) (by omega) (by omega)
  rw [if_neg (show ¬ bvt (T q) = (58 : Int32) from fun w => c58 ((bn 58 (by omega)).mp w))]
  by_cases c59 : T q = 59
  · rw [if_pos (show bvt (T q) = (59 : Int32) from (bn 59 (by omega)).mpr c59)]
    exact pl 30 (by omega) (by omega) (by omega) (by rw [c59]; decide)
  rw [if_neg (show ¬ bvt (T q) = (59 : Int32) from fun w => c59 ((bn 59 (by omega)).mp w))]
  by_cases c60 : T q = 60
  · rw [if_pos (show bvt (T q) = (60 : Int32) from (bn 60 (by omega)).mpr c60), show f_X8_goesOn 83 (61 : Int32) ρ = _ from c_goesOn (p := q + 1) (c := 61) hρ v6 (by omega) (by omega), bd_s]
    by_cases z1 : q + 1 < n ∧ T (q + 1) = 61
    · have es : sgn T n q = (3, 256, q, q + 2) := by unfold sgn; rw [if_pos ⟨c60, z1⟩]
      rw [cI_t z1, cif_t z1, es]
      refine ⟨ah_wI (ah_wI ρ 83 6 (nI (q + 1 + 1))) 83 9 (nI 6), ?_, (f1.wI ⟨rfl, by omega⟩).wI ⟨rfl, by omega⟩, Or.inr (Or.inr (Or.inr (Or.inl ⟨rfl, by rw [rI_ne (by omega), rI_ne (by omega)]; exact v8, by rw [rI_eq]; rfl⟩))), by rw [rI_ne (by omega), rI_eq]; rfl⟩
      unfold f_X8_cutSign_234
      simp only [to_bq, l_0, l_1, l_2, l_3, l_4, l_5, l_6, l_7, l_8, l_9, l_10, l_11, l_12, l_13, l_14, l_15, l_16, l_17, l_18, l_19, l_20, l_21, l_22, l_23, l_24, l_25, l_26, l_27, l_28, l_29, l_30, l_31, l_32, l_40, l_41, l_42, l_43, l_44, l_45, l_46, l_47, l_48, l_49, l_50, l_51, l_52, l_53, l_54, l_55, l_56, l_57, l_58, l_59, l_60, l_61, l_62, l_63, l_64, l_72, l_97, l_99, l_100, l_104, l_120, l_122, l_128, l_140, l_255, l_256, l_257, l_258, l_260, l_261, l_262, l_364, l_680, l_700, l_701, l_840, l_999, l_1023, l_1024, l_9999, l_10000, l_1000000, lm]
      simp (disch := first | (with_reducible assumption) | omega | exact ⟨by omega, by omega⟩ | ((with_reducible first | apply Wf.wI | apply Wf.wL | apply Wf.fL | apply Wf.fI | apply Wf.fr); (repeat (with_reducible first | assumption | apply Wf.wI | apply Wf.wL | apply Wf.fL | apply Wf.fI | apply Wf.fr)))) only [ck_83, gI_83, gL_83, pI_83, pZ0_83, pZ1_83, pL_83, gR_83_0, gR_83_1, gR_83_2, gR_83_3, gR_83_4, bq_n, bd_s, mp_s, rz_0, rz_1, bI_rz, show (nI 1 = nI 0) = False from eq_false (by decide), if_true, if_false, ite_true, ite_false, reduceIte, not_true, not_false, and_true, true_and, and_false, false_and, or_true, true_or, or_false, false_or, eq_self]
    · rw [cI_f z1, cif_f z1]
      show ∃ τ, (if nI 0 = nI 0 then (f_X8_goesOn 83 (62 : Int32) ρ).bind _ else _) = _ ∧ _
      rw [if_pos rfl, show f_X8_goesOn 83 (62 : Int32) ρ = _ from c_goesOn (p := q + 1) (c := 62) hρ v6 (by omega) (by omega), bd_s]
      by_cases z2 : q + 1 < n ∧ T (q + 1) = 62
      · have es : sgn T n q = (3, 257, q, q + 2) := by unfold sgn; rw [if_neg (fun w => z1 w.2), if_pos ⟨c60, z2⟩]
        rw [cI_t z2, cif_t z2, es]
        refine ⟨ah_wI (ah_wI ρ 83 6 (nI (q + 1 + 1))) 83 9 (nI 8), ?_, (f1.wI ⟨rfl, by omega⟩).wI ⟨rfl, by omega⟩, Or.inr (Or.inr (Or.inr (Or.inl ⟨rfl, by rw [rI_ne (by omega), rI_ne (by omega)]; exact v8, by rw [rI_eq]; rfl⟩))), by rw [rI_ne (by omega), rI_eq]; rfl⟩
        unfold f_X8_cutSign_234
        simp only [to_bq, l_0, l_1, l_2, l_3, l_4, l_5, l_6, l_7, l_8, l_9, l_10, l_11, l_12, l_13, l_14, l_15, l_16, l_17, l_18, l_19, l_20, l_21, l_22, l_23, l_24, l_25, l_26, l_27, l_28, l_29, l_30, l_31, l_32, l_40, l_41, l_42, l_43, l_44, l_45, l_46, l_47, l_48, l_49, l_50, l_51, l_52, l_53, l_54, l_55, l_56, l_57, l_58, l_59, l_60, l_61, l_62, l_63, l_64, l_72, l_97, l_99, l_100, l_104, l_120, l_122, l_128, l_140, l_255, l_256, l_257, l_258, l_260, l_261, l_262, l_364, l_680, l_700, l_701, l_840, l_999, l_1023, l_1024, l_9999, l_10000, l_1000000, lm]
        simp (disch := first | (with_reducible assumption) | omega | exact ⟨by omega, by omega⟩ | ((with_reducible first | apply Wf.wI | apply Wf.wL | apply Wf.fL | apply Wf.fI | apply Wf.fr); (repeat (with_reducible first | assumption | apply Wf.wI | apply Wf.wL | apply Wf.fL | apply Wf.fI | apply Wf.fr)))) only [ck_83, gI_83, gL_83, pI_83, pZ0_83, pZ1_83, pL_83, gR_83_0, gR_83_1, gR_83_2, gR_83_3, gR_83_4, bq_n, bd_s, mp_s, rz_0, rz_1, bI_rz, show (nI 1 = nI 0) = False from eq_false (by decide), if_true, if_false, ite_true, ite_false, reduceIte, not_true, not_false, and_true, true_and, and_false, false_and, or_true, true_or, or_false, false_or, eq_self]
      · have es : sgn T n q = (3, T q, q, q + 1) := by unfold sgn; rw [if_neg (fun w => z1 w.2), if_neg (fun w => z2 w.2), if_neg (by omega), if_pos (by omega)]
        rw [cI_f z2, cif_f z2, es]
        refine ⟨ah_wI ρ 83 9 (nI 5), ?_, f1.wI ⟨rfl, by omega⟩, Or.inr (Or.inr (Or.inr (Or.inl ⟨rfl, by rw [rI_ne (by omega)]; exact v8, by rw [rI_eq, show tV (3, T q, q, q + 1) = T q from rfl, c60]; rfl⟩))), by rw [rI_ne (by omega)]; exact v6⟩
        unfold f_X8_cutSign_234
        simp only [to_bq, l_0, l_1, l_2, l_3, l_4, l_5, l_6, l_7, l_8, l_9, l_10, l_11, l_12, l_13, l_14, l_15, l_16, l_17, l_18, l_19, l_20, l_21, l_22, l_23, l_24, l_25, l_26, l_27, l_28, l_29, l_30, l_31, l_32, l_40, l_41, l_42, l_43, l_44, l_45, l_46, l_47, l_48, l_49, l_50, l_51, l_52, l_53, l_54, l_55, l_56, l_57, l_58, l_59, l_60, l_61, l_62, l_63, l_64, l_72, l_97, l_99, l_100, l_104, l_120, l_122, l_128, l_140, l_255, l_256, l_257, l_258, l_260, l_261, l_262, l_364, l_680, l_700, l_701, l_840, l_999, l_1023, l_1024, l_9999, l_10000, l_1000000, lm]
        simp (disch := first | (with_reducible assumption) | omega | exact ⟨by omega, by omega⟩ | ((with_reducible first | apply Wf.wI | apply Wf.wL | apply Wf.fL | apply Wf.fI | apply Wf.fr); (repeat (with_reducible first | assumption | apply Wf.wI | apply Wf.wL | apply Wf.fL | apply Wf.fI | apply Wf.fr)))) only [ck_83, gI_83, gL_83, pI_83, pZ0_83, pZ1_83, pL_83, gR_83_0, gR_83_1, gR_83_2, gR_83_3, gR_83_4, bq_n, bd_s, mp_s, rz_0, rz_1, bI_rz, if_true, if_false, ite_true, ite_false, reduceIte, not_true, not_false, and_true, true_and, and_false, false_and, or_true, true_or, or_false, false_or, eq_self]
  rw [if_neg (show ¬ bvt (T q) = (60 : Int32) from fun w => c60 ((bn 60 (by omega)).mp w))]
  by_cases c61 : T q = 61
  · rw [if_pos (show bvt (T q) = (61 : Int32) from (bn 61 (by omega)).mpr c61)]
    exact pl 7 (by omega) (by omega) (by omega) (by rw [c61]; decide)
  rw [if_neg (show ¬ bvt (T q) = (61 : Int32) from fun w => c61 ((bn 61 (by omega)).mp w))]
  by_cases c62 : T q = 62
  · rw [if_pos (show bvt (T q) = (62 : Int32) from (bn 62 (by omega)).mpr c62), show f_X8_goesOn 83 (61 : Int32) ρ = _ from c_goesOn (p := q + 1) (c := 61) hρ v6 (by omega) (by omega), bd_s]
    by_cases z1 : q + 1 < n ∧ T (q + 1) = 61
    · have es : sgn T n q = (3, 258, q, q + 2) := by unfold sgn; rw [if_neg (by omega), if_neg (by omega), if_pos ⟨c62, z1⟩]
      rw [cI_t z1, cif_t z1, es]
      refine ⟨ah_wI (ah_wI ρ 83 6 (nI (q + 1 + 1))) 83 9 (nI 9), ?_, (f1.wI ⟨rfl, by omega⟩).wI ⟨rfl, by omega⟩, Or.inr (Or.inr (Or.inr (Or.inl ⟨rfl, by rw [rI_ne (by omega), rI_ne (by omega)]; exact v8, by rw [rI_eq]; rfl⟩))), by rw [rI_ne (by omega), rI_eq]; rfl⟩
      unfold f_X8_cutSign_257
      simp only [to_bq, l_0, l_1, l_2, l_3, l_4, l_5, l_6, l_7, l_8, l_9, l_10, l_11, l_12, l_13, l_14, l_15, l_16, l_17, l_18, l_19, l_20, l_21, l_22, l_23, l_24, l_25, l_26, l_27, l_28, l_29, l_30, l_31, l_32, l_40, l_41, l_42, l_43, l_44, l_45, l_46, l_47, l_48, l_49, l_50, l_51, l_52, l_53, l_54, l_55, l_56, l_57, l_58, l_59, l_60, l_61, l_62, l_63, l_64, l_72, l_97, l_99, l_100, l_104, l_120, l_122, l_128, l_140, l_255, l_256, l_257, l_258, l_260, l_261, l_262, l_364, l_680, l_700, l_701, l_840, l_999, l_1023, l_1024, l_9999, l_10000, l_1000000, lm]
      simp (disch := first | (with_reducible assumption) | omega | exact ⟨by omega, by omega⟩ | ((with_reducible first | apply Wf.wI | apply Wf.wL | apply Wf.fL | apply Wf.fI | apply Wf.fr); (repeat (with_reducible first | assumption | apply Wf.wI | apply Wf.wL | apply Wf.fL | apply Wf.fI | apply Wf.fr)))) only [ck_83, gI_83, gL_83, pI_83, pZ0_83, pZ1_83, pL_83, gR_83_0, gR_83_1, gR_83_2, gR_83_3, gR_83_4, bq_n, bd_s, mp_s, rz_0, rz_1, bI_rz, show (nI 1 = nI 0) = False from eq_false (by decide), if_true, if_false, ite_true, ite_false, reduceIte, not_true, not_false, and_true, true_and, and_false, false_and, or_true, true_or, or_false, false_or, eq_self]
    · have es : sgn T n q = (3, T q, q, q + 1) := by unfold sgn; rw [if_neg (by omega), if_neg (by omega), if_neg (fun w => z1 w.2), if_pos (by omega)]
      rw [cI_f z1, cif_f z1, es]
      refine ⟨ah_wI ρ 83 9 (nI 10), ?_, f1.wI ⟨rfl, by omega⟩, Or.inr (Or.inr (Or.inr (Or.inl ⟨rfl, by rw [rI_ne (by omega)]; exact v8, by rw [rI_eq, show tV (3, T q, q, q + 1) = T q from rfl, c62]; rfl⟩))), by rw [rI_ne (by omega)]; exact v6⟩
      unfold f_X8_cutSign_257
      simp only [to_bq, l_0, l_1, l_2, l_3, l_4, l_5, l_6, l_7, l_8, l_9, l_10, l_11, l_12, l_13, l_14, l_15, l_16, l_17, l_18, l_19, l_20, l_21, l_22, l_23, l_24, l_25, l_26, l_27, l_28, l_29, l_30, l_31, l_32, l_40, l_41, l_42, l_43, l_44, l_45, l_46, l_47, l_48, l_49, l_50, l_51, l_52, l_53, l_54, l_55, l_56, l_57, l_58, l_59, l_60, l_61, l_62, l_63, l_64, l_72, l_97, l_99, l_100, l_104, l_120, l_122, l_128, l_140, l_255, l_256, l_257, l_258, l_260, l_261, l_262, l_364, l_680, l_700, l_701, l_840, l_999, l_1023, l_1024, l_9999, l_10000, l_1000000, lm]
      simp (disch := first | (with_reducible assumption) | omega | exact ⟨by omega, by omega⟩ | ((with_reducible first | apply Wf.wI | apply Wf.wL | apply Wf.fL | apply Wf.fI | apply Wf.fr); (repeat (with_reducible first | assumption | apply Wf.wI | apply Wf.wL | apply Wf.fL | apply Wf.fI | apply Wf.fr)))) only [ck_83, gI_83, gL_83, pI_83, pZ0_83, pZ1_83, pL_83, gR_83_0, gR_83_1, gR_83_2, gR_83_3, gR_83_4, bq_n, bd_s, mp_s, rz_0, rz_1, bI_rz, if_true, if_false, ite_true, ite_false, reduceIte, not_true, not_false, and_true, true_and, and_false, false_and, or_true, true_or, or_false, false_or, eq_self]
  rw [if_neg (show ¬ bvt (T q) = (62 : Int32) from fun w => c62 ((bn 62 (by omega)).mp w))]
  exact bd (by omega) (by omega) (by omega)
theorem c_cut52 (h : LxC σ T n) (h6 : ah_I σ 83 6 = nI q) (hq : q ≤ n) : ∃ τ, f_X8_cut_52 83 σ = some τ ∧ Fr Xct σ τ ∧ CCt τ (lexq T n q) := by
  have hW := h.1
  have h7 := h.2.1
  have f1 : Fr Xct σ (ah_wI σ 83 10 (nI q)) := Fr.rfl.wI (by unfold Xct; omega)
  have v6 : ah_I (ah_wI σ 83 10 (nI q)) 83 6 = nI q := by rw [rI_ne (by omega)]; exact h6
  have v10 : ah_I (ah_wI σ 83 10 (nI q)) 83 10 = nI q := rI_eq
  have hρ := h.fr f1
  have h5 : ah_I (ah_wI σ 83 10 (nI q)) 83 5 = nI n := hρ.2.2.1
  have hb := hρ.2.2.2.1
  have hWρ := hρ.1
  unfold f_X8_cut_52 lexq
  simp only [to_bq, l_0, l_1, l_2, l_3, l_4, l_5, l_6, l_7, l_8, l_9, l_10, l_11, l_12, l_13, l_14, l_15, l_16, l_17, l_18, l_19, l_20, l_21, l_22, l_23, l_24, l_25, l_26, l_27, l_28, l_29, l_30, l_31, l_32, l_40, l_41, l_42, l_43, l_44, l_45, l_46, l_47, l_48, l_49, l_50, l_51, l_52, l_53, l_54, l_55, l_56, l_57, l_58, l_59, l_60, l_61, l_62, l_63, l_64, l_72, l_97, l_99, l_100, l_104, l_120, l_122, l_128, l_140, l_255, l_256, l_257, l_258, l_260, l_261, l_262, l_364, l_680, l_700, l_701, l_840, l_999, l_1023, l_1024, l_9999, l_10000, l_1000000, lm]
  simp (disch := first | (with_reducible assumption) | omega | exact ⟨by omega, by omega⟩ | ((with_reducible first | apply Wf.wI | apply Wf.wL | apply Wf.fL | apply Wf.fI | apply Wf.fr); (repeat (with_reducible first | assumption | apply Wf.wI | apply Wf.wL | apply Wf.fL | apply Wf.fI | apply Wf.fr)))) only [ck_83, gI_83, gL_83, pI_83, pZ0_83, pZ1_83, pL_83, gR_83_0, gR_83_1, gR_83_2, gR_83_3, gR_83_4, bq_n, bd_s, mp_s, rz_0, rz_1, bI_rz, h6]
  generalize ah_wI σ 83 10 (nI q) = ρ at *
  simp (disch := first | (with_reducible assumption) | omega | exact ⟨by omega, by omega⟩ | ((with_reducible first | apply Wf.wI | apply Wf.wL | apply Wf.fL | apply Wf.fI | apply Wf.fr); (repeat (with_reducible first | assumption | apply Wf.wI | apply Wf.wL | apply Wf.fL | apply Wf.fI | apply Wf.fr)))) only [ck_83, gI_83, gL_83, pI_83, pZ0_83, pZ1_83, pL_83, gR_83_0, gR_83_1, gR_83_2, gR_83_3, gR_83_4, bq_n, bd_s, mp_s, rz_0, rz_1, bI_rz, v6, h5, lt_nI]
  by_cases z : n ≤ q
  · rw [if_neg (by omega), if_pos z]
    refine ⟨ah_wI ρ 83 8 (nI 0), by simp (disch := first | (with_reducible assumption) | omega | exact ⟨by omega, by omega⟩ | ((with_reducible first | apply Wf.wI | apply Wf.wL | apply Wf.fL | apply Wf.fI | apply Wf.fr); (repeat (with_reducible first | assumption | apply Wf.wI | apply Wf.wL | apply Wf.fL | apply Wf.fI | apply Wf.fr)))) only [ck_83, gI_83, gL_83, pI_83, pZ0_83, pZ1_83, pL_83, gR_83_0, gR_83_1, gR_83_2, gR_83_3, gR_83_4, bq_n, bd_s, mp_s, rz_0, rz_1, bI_rz], f1.wI (by unfold Xct; omega), Or.inr (Or.inr (Or.inr (Or.inr (Or.inl ⟨rfl, rI_eq⟩)))), by rw [rI_ne (by omega)]; exact v10, by rw [rI_ne (by omega)]; exact v6⟩
  rw [if_pos (by omega), if_neg z]
  obtain ⟨b1, b2⟩ := hb q (by omega)
  simp (disch := first | (with_reducible assumption) | omega | exact ⟨by omega, by omega⟩ | ((with_reducible first | apply Wf.wI | apply Wf.wL | apply Wf.fL | apply Wf.fI | apply Wf.fr); (repeat (with_reducible first | assumption | apply Wf.wI | apply Wf.wL | apply Wf.fL | apply Wf.fI | apply Wf.fr)))) only [ck_83, gI_83, gL_83, pI_83, pZ0_83, pZ1_83, pL_83, gR_83_0, gR_83_1, gR_83_2, gR_83_3, gR_83_4, aB_1, sB_1, len_1, bq_n, bd_s, mp_s, rz_0, rz_1, bI_rz, v6, b1, c_isLetter b2]
  by_cases zs : isSm (T q)
  · rw [cI_t zs, cif_t zs, if_neg (by decide : ¬ nI 1 = nI 0)]
    obtain ⟨τ, e1, e2, e3, e4⟩ := c_cutWord hρ v6 (by omega) zs
    refine ⟨τ, by rw [e1, bq_n], f1.trans (e2.mono (fun a j z => by unfold Xct; omega)), e3, ?_, ?_⟩
    · rw [e2.I (by omega), v10]
      unfold wdt
      split
      · rfl
      · split <;> rfl
    · rw [e4]
      unfold wdt
      split
      · rfl
      · split <;> rfl
  · rw [cI_f zs, cif_f zs, if_pos rfl]
    simp (disch := first | (with_reducible assumption) | omega | exact ⟨by omega, by omega⟩ | ((with_reducible first | apply Wf.wI | apply Wf.wL | apply Wf.fL | apply Wf.fI | apply Wf.fr); (repeat (with_reducible first | assumption | apply Wf.wI | apply Wf.wL | apply Wf.fL | apply Wf.fI | apply Wf.fr)))) only [ck_83, gI_83, gL_83, pI_83, pZ0_83, pZ1_83, pL_83, gR_83_0, gR_83_1, gR_83_2, gR_83_3, gR_83_4, aB_1, sB_1, len_1, bq_n, bd_s, mp_s, rz_0, rz_1, bI_rz, v6, b1, c_isDigitL b2]
    by_cases zd : isDg (T q)
    · rw [cI_t zd, cif_t zd, if_neg (by decide : ¬ nI 1 = nI 0)]
      obtain ⟨τ, e1, e2, e3, e4⟩ := c_cutNumber hρ v6 (by omega)
      exact ⟨τ, by rw [e1, bq_n], f1.trans (e2.mono (fun a j z => by unfold Xct; omega)), e3, by rw [e2.I (by omega)]; exact v10, e4⟩
    · rw [cI_f zd, cif_f zd, if_pos rfl]
      obtain ⟨τ, e1, e2, e3, e4⟩ := c_cutSign hρ v6 (by omega)
      refine ⟨τ, by rw [e1, bq_n], f1.trans (e2.mono (fun a j z => by unfold Xct; omega)), e3, ?_, e4⟩
      rw [e2.I (by omega), v10]
      unfold sgn
      split
      · rfl
      · split
        · rfl
        · split
          · rfl
          · split <;> rfl
theorem c_cut0 : ∀ f p fu τ, n - p ≤ f → f < fu → LxC τ T n → ah_I τ 83 6 = nI p → p ≤ n → ∃ τ', f_X8_cut_0 fu 83 τ = f_X8_cut_52 83 τ' ∧ Fr (fun a j => a = 83 ∧ j = 6) τ τ' ∧ ah_I τ' 83 6 = nI (gon T n isWs p) := by
  intro f
  induction f with
  | zero =>
    intro p fu τ hp hf h h6 hpn
    obtain ⟨fu, rfl⟩ : ∃ q, fu = q + 1 := ⟨fu - 1, by omega⟩
    have hW := h.1
    have h7 := h.2.1
    have h5 := h.2.2.1
    have hn : ¬ (p < n ∧ isWs (T p)) := fun z => by omega
    refine ⟨τ, ?_, Fr.rfl, by rw [gon_f hn]; exact h6⟩
    show f_X8_cut_0_b _ _ _ = _
    unfold f_X8_cut_0_b
    simp only [to_bq, l_0, l_1, l_2, l_3, l_4, l_5, l_6, l_7, l_8, l_9, l_10, l_11, l_12, l_13, l_14, l_15, l_16, l_17, l_18, l_19, l_20, l_21, l_22, l_23, l_24, l_25, l_26, l_27, l_28, l_29, l_30, l_31, l_32, l_40, l_41, l_42, l_43, l_44, l_45, l_46, l_47, l_48, l_49, l_50, l_51, l_52, l_53, l_54, l_55, l_56, l_57, l_58, l_59, l_60, l_61, l_62, l_63, l_64, l_72, l_97, l_99, l_100, l_104, l_120, l_122, l_128, l_140, l_255, l_256, l_257, l_258, l_260, l_261, l_262, l_364, l_680, l_700, l_701, l_840, l_999, l_1023, l_1024, l_9999, l_10000, l_1000000, lm]
    simp (disch := first | (with_reducible assumption) | omega | exact ⟨by omega, by omega⟩ | ((with_reducible first | apply Wf.wI | apply Wf.wL | apply Wf.fL | apply Wf.fI | apply Wf.fr); (repeat (with_reducible first | assumption | apply Wf.wI | apply Wf.wL | apply Wf.fL | apply Wf.fI | apply Wf.fr)))) only [ck_83, gI_83, gL_83, pI_83, pZ0_83, pZ1_83, pL_83, gR_83_0, gR_83_1, gR_83_2, gR_83_3, gR_83_4, bq_n, bd_s, mp_s, rz_0, rz_1, bI_rz, h6, h5, le_nI, show (n ≤ p) = True from eq_true (by omega), if_true, if_false, ite_true, ite_false, reduceIte, not_true, not_false, and_true, true_and, and_false, false_and, or_true, true_or, or_false, false_or, eq_self]
  | succ f ih =>
    intro p fu τ hp hf h h6 hpn
    obtain ⟨fu, rfl⟩ : ∃ q, fu = q + 1 := ⟨fu - 1, by omega⟩
    have hW := h.1
    have h7 := h.2.1
    have h5 := h.2.2.1
    show ∃ τ', f_X8_cut_0_b (f_X8_cut_0 fu) 83 τ = _ ∧ _
    by_cases z : n ≤ p
    · have hn : ¬ (p < n ∧ isWs (T p)) := fun z => by omega
      refine ⟨τ, ?_, Fr.rfl, by rw [gon_f hn]; exact h6⟩
      unfold f_X8_cut_0_b
      simp only [to_bq, l_0, l_1, l_2, l_3, l_4, l_5, l_6, l_7, l_8, l_9, l_10, l_11, l_12, l_13, l_14, l_15, l_16, l_17, l_18, l_19, l_20, l_21, l_22, l_23, l_24, l_25, l_26, l_27, l_28, l_29, l_30, l_31, l_32, l_40, l_41, l_42, l_43, l_44, l_45, l_46, l_47, l_48, l_49, l_50, l_51, l_52, l_53, l_54, l_55, l_56, l_57, l_58, l_59, l_60, l_61, l_62, l_63, l_64, l_72, l_97, l_99, l_100, l_104, l_120, l_122, l_128, l_140, l_255, l_256, l_257, l_258, l_260, l_261, l_262, l_364, l_680, l_700, l_701, l_840, l_999, l_1023, l_1024, l_9999, l_10000, l_1000000, lm]
      simp (disch := first | (with_reducible assumption) | omega | exact ⟨by omega, by omega⟩ | ((with_reducible first | apply Wf.wI | apply Wf.wL | apply Wf.fL | apply Wf.fI | apply Wf.fr); (repeat (with_reducible first | assumption | apply Wf.wI | apply Wf.wL | apply Wf.fL | apply Wf.fI | apply Wf.fr)))) only [ck_83, gI_83, gL_83, pI_83, pZ0_83, pZ1_83, pL_83, gR_83_0, gR_83_1, gR_83_2, gR_83_3, gR_83_4, bq_n, bd_s, mp_s, rz_0, rz_1, bI_rz, h6, h5, le_nI, show (n ≤ p) = True from eq_true (by omega), if_true, if_false, ite_true, ite_false, reduceIte, not_true, not_false, and_true, true_and, and_false, false_and, or_true, true_or, or_false, false_or, eq_self]
    obtain ⟨b1, b2⟩ := h.2.2.2.1 p (by omega)
    have bn : ∀ k, k < 128 → (bvt (T p) = nI k) = (T p = k) := fun k hk => bvt_n b2 hk
    by_cases hn : p < n ∧ isWs (T p)
    · have f1 : Fr (fun a j => a = 83 ∧ j = 6) τ (ah_wI τ 83 6 (nI (p + 1))) := Fr.rfl.wI ⟨rfl, rfl⟩
      obtain ⟨τ', e1, e2, e3⟩ := ih (p + 1) fu (ah_wI τ 83 6 (nI (p + 1))) (by omega) (by omega) (h.fr (f1.mono (fun a j z => by unfold Xct; omega))) rI_eq (by omega)
      refine ⟨τ', ?_, f1.trans e2, by rw [gon_t hn.1 hn.2]; exact e3⟩
      rw [← e1]
      have hw := hn.2
      unfold isWs at hw
      unfold f_X8_cut_0_b f_X8_cut_39
      simp only [to_bq, l_0, l_1, l_2, l_3, l_4, l_5, l_6, l_7, l_8, l_9, l_10, l_11, l_12, l_13, l_14, l_15, l_16, l_17, l_18, l_19, l_20, l_21, l_22, l_23, l_24, l_25, l_26, l_27, l_28, l_29, l_30, l_31, l_32, l_40, l_41, l_42, l_43, l_44, l_45, l_46, l_47, l_48, l_49, l_50, l_51, l_52, l_53, l_54, l_55, l_56, l_57, l_58, l_59, l_60, l_61, l_62, l_63, l_64, l_72, l_97, l_99, l_100, l_104, l_120, l_122, l_128, l_140, l_255, l_256, l_257, l_258, l_260, l_261, l_262, l_364, l_680, l_700, l_701, l_840, l_999, l_1023, l_1024, l_9999, l_10000, l_1000000, lm]
      by_cases y : T p = 10
      · simp (disch := first | (with_reducible assumption) | omega | exact ⟨by omega, by omega⟩ | ((with_reducible first | apply Wf.wI | apply Wf.wL | apply Wf.fL | apply Wf.fI | apply Wf.fr); (repeat (with_reducible first | assumption | apply Wf.wI | apply Wf.wL | apply Wf.fL | apply Wf.fI | apply Wf.fr)))) only [ck_83, gI_83, gL_83, pI_83, pZ0_83, pZ1_83, pL_83, gR_83_0, gR_83_1, gR_83_2, gR_83_3, gR_83_4, aB_1, sB_1, len_1, bq_n, bd_s, mp_s, rz_0, rz_1, bI_rz, h6, h5, le_nI, show (n ≤ p) = False from eq_false z, if_true, if_false, ite_true, ite_false, reduceIte, not_true, not_false, and_true, true_and, and_false, false_and, or_true, true_or, or_false, false_or, eq_self, b1, bn, eq_true y, zadd]
      · simp (disch := first | (with_reducible assumption) | omega | exact ⟨by omega, by omega⟩ | ((with_reducible first | apply Wf.wI | apply Wf.wL | apply Wf.fL | apply Wf.fI | apply Wf.fr); (repeat (with_reducible first | assumption | apply Wf.wI | apply Wf.wL | apply Wf.fL | apply Wf.fI | apply Wf.fr)))) only [ck_83, gI_83, gL_83, pI_83, pZ0_83, pZ1_83, pL_83, gR_83_0, gR_83_1, gR_83_2, gR_83_3, gR_83_4, aB_1, sB_1, len_1, bq_n, bd_s, mp_s, rz_0, rz_1, bI_rz, h6, h5, le_nI, show (n ≤ p) = False from eq_false z, if_true, if_false, ite_true, ite_false, reduceIte, not_true, not_false, and_true, true_and, and_false, false_and, or_true, true_or, or_false, false_or, eq_self, b1, bn, eq_false y, show (T p = 32) = True from eq_true (by omega), zadd]
    · refine ⟨τ, ?_, Fr.rfl, by rw [gon_f hn]; exact h6⟩
      unfold isWs at hn
      unfold f_X8_cut_0_b
      simp only [to_bq, l_0, l_1, l_2, l_3, l_4, l_5, l_6, l_7, l_8, l_9, l_10, l_11, l_12, l_13, l_14, l_15, l_16, l_17, l_18, l_19, l_20, l_21, l_22, l_23, l_24, l_25, l_26, l_27, l_28, l_29, l_30, l_31, l_32, l_40, l_41, l_42, l_43, l_44, l_45, l_46, l_47, l_48, l_49, l_50, l_51, l_52, l_53, l_54, l_55, l_56, l_57, l_58, l_59, l_60, l_61, l_62, l_63, l_64, l_72, l_97, l_99, l_100, l_104, l_120, l_122, l_128, l_140, l_255, l_256, l_257, l_258, l_260, l_261, l_262, l_364, l_680, l_700, l_701, l_840, l_999, l_1023, l_1024, l_9999, l_10000, l_1000000, lm]
      simp (disch := first | (with_reducible assumption) | omega | exact ⟨by omega, by omega⟩ | ((with_reducible first | apply Wf.wI | apply Wf.wL | apply Wf.fL | apply Wf.fI | apply Wf.fr); (repeat (with_reducible first | assumption | apply Wf.wI | apply Wf.wL | apply Wf.fL | apply Wf.fI | apply Wf.fr)))) only [ck_83, gI_83, gL_83, pI_83, pZ0_83, pZ1_83, pL_83, gR_83_0, gR_83_1, gR_83_2, gR_83_3, gR_83_4, aB_1, sB_1, len_1, bq_n, bd_s, mp_s, rz_0, rz_1, bI_rz, h6, h5, le_nI, show (n ≤ p) = False from eq_false z, if_true, if_false, ite_true, ite_false, reduceIte, not_true, not_false, and_true, true_and, and_false, false_and, or_true, true_or, or_false, false_or, eq_self, b1, bn, show (T p = 10) = False from eq_false (by omega), show (T p = 32) = False from eq_false (by omega)]
theorem c_cut (h : LxC σ T n) (h6 : ah_I σ 83 6 = nI p) (hp : p ≤ n) : ∃ τ, f_X8_cut 83 σ = some τ ∧ Fr Xct σ τ ∧ CCt τ (lex T n p) := by
  have h7 := h.2.1
  obtain ⟨τ1, e1, e2, e3⟩ := c_cut0 (n - p) p 5000 σ (Nat.le_refl _) (by omega) h h6 hp
  have f1 := e2.mono (Y := Xct) (fun a j z => by unfold Xct; omega)
  obtain ⟨τ2, g1, g2, g3⟩ := c_cut52 (h.fr f1) e3 (gon_le hp)
  refine ⟨τ2, ?_, f1.trans g2, g3⟩
  unfold f_X8_cut
  rw [ck_83 h.1, e1, g1]
end
