/-! THE CLASS: is a branch another one -/
def Xnw (c a j : Nat) : Prop := (a = 166 ∨ a = 167) ∧ j = c
/-- the streets of a branch -/
def orB (nx : Nat → Option Nat) (c s : Nat) (B : Nat → Nat) : Nat → Nat
  | 0 => 2 ^ s
  | k + 1 => if nx k = some c then orB nx c s B k ||| B k else orB nx c s B k
theorem orB_b {nx : Nat → Option Nat} {c s n : Nat} {B : Nat → Nat} (hs : s < 10) (hB : ∀ o, o < n → nx o = some c → B o < 1024) : ∀ k, k ≤ n → orB nx c s B k < 1024 := by
  intro k
  induction k with
  | zero => intro _; exact pw_b (k := 10) hs
  | succ k ih =>
    intro hk
    show (if nx k = some c then orB nx c s B k ||| B k else orB nx c s B k) < 1024
    by_cases q : nx k = some c
    · rw [if_pos q]; exact or_b (k := 10) (ih (by omega)) (hB k (by omega) q)
    · rw [if_neg q]; exact ih (by omega)
theorem sh_10 {s : Nat} (hs : s < 10) : nI s <<< (nI 10 &&& nI 31) = nI (s * 1024) := (by decide +kernel : ∀ s, s < 10 → nI s <<< (nI 10 &&& nI 31) = nI (s * 1024)) s hs
section
variable {σ : ah_H} {D : DD} {st : Nat → Option Nat} {c s : Nat} {B : Nat → Nat}
theorem c_nw11 (hW : Wf σ) (h7 : nC D ≤ 7) (hg : GaR σ D st c (nC D)) (hB : ∀ o, o < nC D → nx D st o = some c → ah_I σ 166 o = nI (B o)) : ∀ i k fu, k + i = nC D → nC D - k < fu → f_X0_isNew_11 fu 163 (nI c) (nI (orB (nx D st) c s B k)) (nI (cnt (kd (nx D st) c) k)) σ = f_X0_isNew_39 163 (nI c) (nI (orB (nx D st) c s B (nC D))) σ := by
  have hcl := cnt_le (kd (nx D st) c) (nC D)
  intro i
  induction i with
  | zero =>
    intro k fu hk hf
    obtain ⟨fu, rfl⟩ : ∃ q, fu = q + 1 := ⟨fu - 1, by omega⟩
    obtain rfl : k = nC D := by omega
    show f_X0_isNew_11_b _ _ _ _ _ _ = _
    unfold f_X0_isNew_11_b
    simp only [to_bq, l_0, l_1, l_2, l_3, l_4, l_5, l_6, l_7, l_8, l_9, l_10, l_11, l_12, l_13, l_14, l_15, l_16, l_17, l_18, l_19, l_20, l_21, l_22, l_23, l_24, l_25, l_26, l_27, l_28, l_29, l_30, l_31, l_32, l_40, l_41, l_42, l_43, l_44, l_45, l_46, l_47, l_48, l_49, l_50, l_51, l_52, l_53, l_54, l_55, l_56, l_57, l_58, l_59, l_60, l_61, l_62, l_63, l_64, l_72, l_97, l_99, l_100, l_104, l_120, l_122, l_128, l_140, l_255, l_256, l_257, l_258, l_260, l_261, l_262, l_364, l_680, l_700, l_701, l_840, l_999, l_1023, l_1024, l_9999, l_10000, l_1000000, lm]
    simp (disch := first | (with_reducible assumption) | omega | exact ⟨by omega, by omega⟩ | ((with_reducible first | apply Wf.wI | apply Wf.wL | apply Wf.fL | apply Wf.fI | apply Wf.fr); (repeat (with_reducible first | assumption | apply Wf.wI | apply Wf.wL | apply Wf.fL | apply Wf.fI | apply Wf.fr)))) only [ck_163, gI_163, gL_163, pI_163, pZ0_163, pZ1_163, pL_163, gR_163_1, gR_163_2, gR_163_3, gR_163_5, gR_163_6, gR_163_7, gR_163_9, gR_163_10, gR_163_11, gR_163_12, gR_163_13, gR_163_14, gR_163_15, pR_163_17, gR_163_17, bq_n, bd_s, mp_s, rz_0, rz_1, bI_rz, zadd, zmul, zsub, le_nI, lt_nI, eq_nI, neg_nI, gen_nI, neg_lt, neg_le, neg_lt', neg_le', nI_lt0, if_true, if_false, ite_true, ite_false, reduceIte, not_true, not_false, and_true, true_and, and_false, false_and, or_true, true_or, or_false, false_or, eq_self, hg.1, Nat.le_refl]
  | succ i ih =>
    intro k fu hk hf
    by_cases q : nx D st k = some c
    · obtain ⟨fu, rfl⟩ : ∃ q, fu = q + 1 := ⟨fu - 1, by omega⟩
      have hck := cnt_kt q
      have hcu := cnt_up (kd (nx D st) c) (show k + 1 ≤ nC D by omega)
      have e168 := hg.2 k (by omega) q
      have e166 := hB k (by omega) q
      have he : f_X0_isNew_11 (fu + 1) 163 (nI c) (nI (orB (nx D st) c s B k)) (nI (cnt (kd (nx D st) c) k)) σ = f_X0_isNew_11 fu 163 (nI c) (nI (orB (nx D st) c s B (k + 1))) (nI (cnt (kd (nx D st) c) (k + 1))) σ := by
        show f_X0_isNew_11_b _ _ _ _ _ _ = _
        unfold f_X0_isNew_11_b
        simp only [to_bq, l_0, l_1, l_2, l_3, l_4, l_5, l_6, l_7, l_8, l_9, l_10, l_11, l_12, l_13, l_14, l_15, l_16, l_17, l_18, l_19, l_20, l_21, l_22, l_23, l_24, l_25, l_26, l_27, l_28, l_29, l_30, l_31, l_32, l_40, l_41, l_42, l_43, l_44, l_45, l_46, l_47, l_48, l_49, l_50, l_51, l_52, l_53, l_54, l_55, l_56, l_57, l_58, l_59, l_60, l_61, l_62, l_63, l_64, l_72, l_97, l_99, l_100, l_104, l_120, l_122, l_128, l_140, l_255, l_256, l_257, l_258, l_260, l_261, l_262, l_364, l_680, l_700, l_701, l_840, l_999, l_1023, l_1024, l_9999, l_10000, l_1000000, lm]
        simp (disch := first | (with_reducible assumption) | omega | exact ⟨by omega, by omega⟩ | ((with_reducible first | apply Wf.wI | apply Wf.wL | apply Wf.fL | apply Wf.fI | apply Wf.fr); (repeat (with_reducible first | assumption | apply Wf.wI | apply Wf.wL | apply Wf.fL | apply Wf.fI | apply Wf.fr)))) only [ck_163, gI_163, gL_163, pI_163, pZ0_163, pZ1_163, pL_163, gR_163_1, gR_163_2, gR_163_3, gR_163_5, gR_163_6, gR_163_7, gR_163_9, gR_163_10, gR_163_11, gR_163_12, gR_163_13, gR_163_14, gR_163_15, pR_163_17, gR_163_17, aI_168, sI_168, len_168, aI_166, sI_166, len_166, bq_n, bd_s, mp_s, rz_0, rz_1, bI_rz, zadd, zmul, zsub, le_nI, lt_nI, eq_nI, neg_nI, gen_nI, neg_lt, neg_le, neg_lt', neg_le', nI_lt0, if_true, if_false, ite_true, ite_false, reduceIte, not_true, not_false, and_true, true_and, and_false, false_and, or_true, true_or, or_false, false_or, eq_self, hg.1, show (cnt (kd (nx D st) c) (nC D) ≤ cnt (kd (nx D st) c) k) = False from eq_false (by omega), e168, e166, z_or]
        rw [hck, show orB (nx D st) c s B (k + 1) = orB (nx D st) c s B k ||| B k from if_pos q]
      rw [he]
      exact ih (k + 1) fu (by omega) (by omega)
    · have e0 : orB (nx D st) c s B (k + 1) = orB (nx D st) c s B k := if_neg q
      rw [← cnt_kf q, ← e0]
      exact ih (k + 1) fu (by omega) (by omega)
theorem c_isNew (hW : Wf σ) (h7 : nC D ≤ 7) (hc : c < nC D) (hss : s < 10) (hst : ah_I σ 164 c = nI s) (hg : GaR σ D st c (nC D)) (hB : ∀ o, o < nC D → nx D st o = some c → ah_I σ 166 o = nI (B o)) : ∃ τ, f_X0_isNew 163 (nI c) σ = some (cI (ah_I σ 167 c ≠ nI (s * 1024 ||| orB (nx D st) c s B (nC D))), τ) ∧ Fr (Xnw c) σ τ ∧ ah_I τ 166 c = nI (orB (nx D st) c s B (nC D)) ∧ ah_I τ 167 c = nI (s * 1024 ||| orB (nx D st) c s B (nC D)) := by
  have e1 := c_nw11 (s := s) hW h7 hg hB (nC D) 0 5000 (by omega) (by omega)
  have f1 : Fr (Xnw c) σ (ah_wI σ 166 c (nI (orB (nx D st) c s B (nC D)))) := (Fr.rfl (X := Xnw c) (σ := σ)).wI ⟨Or.inl rfl, rfl⟩
  have hstart : f_X0_isNew 163 (nI c) σ = f_X0_isNew_39 163 (nI c) (nI (orB (nx D st) c s B (nC D))) σ := by
    rw [← e1]
    unfold f_X0_isNew f_X0_isNew_0
    simp only [to_bq, l_0, l_1, l_2, l_3, l_4, l_5, l_6, l_7, l_8, l_9, l_10, l_11, l_12, l_13, l_14, l_15, l_16, l_17, l_18, l_19, l_20, l_21, l_22, l_23, l_24, l_25, l_26, l_27, l_28, l_29, l_30, l_31, l_32, l_40, l_41, l_42, l_43, l_44, l_45, l_46, l_47, l_48, l_49, l_50, l_51, l_52, l_53, l_54, l_55, l_56, l_57, l_58, l_59, l_60, l_61, l_62, l_63, l_64, l_72, l_97, l_99, l_100, l_104, l_120, l_122, l_128, l_140, l_255, l_256, l_257, l_258, l_260, l_261, l_262, l_364, l_680, l_700, l_701, l_840, l_999, l_1023, l_1024, l_9999, l_10000, l_1000000, lm]
    simp (disch := first | (with_reducible assumption) | omega | exact ⟨by omega, by omega⟩ | ((with_reducible first | apply Wf.wI | apply Wf.wL | apply Wf.fL | apply Wf.fI | apply Wf.fr); (repeat (with_reducible first | assumption | apply Wf.wI | apply Wf.wL | apply Wf.fL | apply Wf.fI | apply Wf.fr)))) only [ck_163, gI_163, gL_163, pI_163, pZ0_163, pZ1_163, pL_163, gR_163_1, gR_163_2, gR_163_3, gR_163_5, gR_163_6, gR_163_7, gR_163_9, gR_163_10, gR_163_11, gR_163_12, gR_163_13, gR_163_14, gR_163_15, pR_163_17, gR_163_17, aI_164, sI_164, len_164, bq_n, bd_s, mp_s, rz_0, rz_1, bI_rz, hst, z_one (show s < 31 by omega)]
    rfl
  rw [hstart]
  unfold f_X0_isNew_39
  simp only [to_bq, l_0, l_1, l_2, l_3, l_4, l_5, l_6, l_7, l_8, l_9, l_10, l_11, l_12, l_13, l_14, l_15, l_16, l_17, l_18, l_19, l_20, l_21, l_22, l_23, l_24, l_25, l_26, l_27, l_28, l_29, l_30, l_31, l_32, l_40, l_41, l_42, l_43, l_44, l_45, l_46, l_47, l_48, l_49, l_50, l_51, l_52, l_53, l_54, l_55, l_56, l_57, l_58, l_59, l_60, l_61, l_62, l_63, l_64, l_72, l_97, l_99, l_100, l_104, l_120, l_122, l_128, l_140, l_255, l_256, l_257, l_258, l_260, l_261, l_262, l_364, l_680, l_700, l_701, l_840, l_999, l_1023, l_1024, l_9999, l_10000, l_1000000, lm]
  by_cases q : ah_I σ 167 c = nI (s * 1024 ||| orB (nx D st) c s B (nC D))
  · refine ⟨ah_wI σ 166 c (nI (orB (nx D st) c s B (nC D))), ?_, f1, rI_eq, by rw [rI_ne (by omega)]; exact q⟩
    simp (disch := first | (with_reducible assumption) | omega | exact ⟨by omega, by omega⟩ | ((with_reducible first | apply Wf.wI | apply Wf.wL | apply Wf.fL | apply Wf.fI | apply Wf.fr); (repeat (with_reducible first | assumption | apply Wf.wI | apply Wf.wL | apply Wf.fL | apply Wf.fI | apply Wf.fr)))) only [ck_163, gI_163, gL_163, pI_163, pZ0_163, pZ1_163, pL_163, gR_163_1, gR_163_2, gR_163_3, gR_163_5, gR_163_6, gR_163_7, gR_163_9, gR_163_10, gR_163_11, gR_163_12, gR_163_13, gR_163_14, gR_163_15, pR_163_17, gR_163_17, aI_166, sI_166, len_166, aI_164, sI_164, len_164, aI_167, sI_167, len_167, bq_n, bd_s, mp_s, rz_0, rz_1, bI_rz, if_true, if_false, ite_true, ite_false, reduceIte, not_true, not_false, and_true, true_and, and_false, false_and, or_true, true_or, or_false, false_or, eq_self, rI_ne, rI_eq, rL_ne, rL_eq, ah_I_wL, ah_L_wI, ah_R_wI, ah_R_wL, ah_I_wR, ah_L_wR, rR_ne, rR_eq, hst, sh_10 hss, z_or, q]
    rw [cI_f (fun z => z rfl)]
  · refine ⟨ah_wI (ah_wI σ 166 c (nI (orB (nx D st) c s B (nC D)))) 167 c (nI (s * 1024 ||| orB (nx D st) c s B (nC D))), ?_, f1.wI ⟨Or.inr rfl, rfl⟩, by rw [rI_ne (by omega), rI_eq], rI_eq⟩
    simp (disch := first | (with_reducible assumption) | omega | exact ⟨by omega, by omega⟩ | ((with_reducible first | apply Wf.wI | apply Wf.wL | apply Wf.fL | apply Wf.fI | apply Wf.fr); (repeat (with_reducible first | assumption | apply Wf.wI | apply Wf.wL | apply Wf.fL | apply Wf.fI | apply Wf.fr)))) only [ck_163, gI_163, gL_163, pI_163, pZ0_163, pZ1_163, pL_163, gR_163_1, gR_163_2, gR_163_3, gR_163_5, gR_163_6, gR_163_7, gR_163_9, gR_163_10, gR_163_11, gR_163_12, gR_163_13, gR_163_14, gR_163_15, pR_163_17, gR_163_17, aI_166, sI_166, len_166, aI_164, sI_164, len_164, aI_167, sI_167, len_167, bq_n, bd_s, mp_s, rz_0, rz_1, bI_rz, if_true, if_false, ite_true, ite_false, reduceIte, not_true, not_false, and_true, true_and, and_false, false_and, or_true, true_or, or_false, false_or, eq_self, rI_ne, rI_eq, rL_ne, rL_eq, ah_I_wL, ah_L_wI, ah_R_wI, ah_R_wL, ah_I_wR, ah_L_wR, rR_ne, rR_eq, hst, sh_10 hss, z_or, q]
    rw [cI_t q]
end
