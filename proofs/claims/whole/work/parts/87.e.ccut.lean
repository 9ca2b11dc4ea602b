/-! THE CLASS: a token is cut -/
section
variable {σ τ : ah_H} {T : Nat → Nat} {n p q e : Nat}
theorem p32 (k : Nat) : (32 : Nat) ^ k = 2 ^ (5 * k) := by rw [Nat.pow_mul]
theorem z_smod5 {c : Nat} (hc : c < 32) : ((nI c &&& nI 31).toBitVec.smod 32).toNat = c := by rw [sh31 hc]; exact z_smod hc
/-- one more letter -/
theorem cw_or {A d k : Nat} (hk : k < 6) (hA : A < 32 ^ k) (hd : d < 32) : nI (A * 32 ^ (6 - k)) ||| (nI d <<< ((nI 5 * (nI 5 - nI k)) &&& nI 31)) = nI ((A * 32 + d) * 32 ^ (6 - (k + 1))) := by
  have e1 : nI 5 * (nI 5 - nI k) = nI (5 * (5 - k)) := by rw [zsub (by omega), zmul]
  have hp : d * 2 ^ (5 * (5 - k)) < 2147483648 := by
    have h1 : 2 ^ (5 * (5 - k)) ≤ 2 ^ 25 := Nat.pow_le_pow_right (by omega) (by omega)
    have h2 : d * 2 ^ (5 * (5 - k)) ≤ 31 * 2 ^ 25 := Nat.mul_le_mul (by omega) h1
    omega
  have e2 : nI d <<< (nI (5 * (5 - k)) &&& nI 31) = nI (d * 2 ^ (5 * (5 - k))) := pk_shlN (n := d) _ (5 * (5 - k)) (z_smod5 (by omega)) (by omega)
  rw [e1, e2, z_or]
  congr 1
  rw [p32, p32, show 6 - (k + 1) = 5 - k by omega]
  have hb : d * 2 ^ (5 * (5 - k)) < 2 ^ (5 * (6 - k)) := by
    rw [show 5 * (6 - k) = 5 + 5 * (5 - k) by omega, Nat.pow_add]
    exact Nat.mul_lt_mul_of_pos_right hd (Nat.pow_pos (by omega))
  have := Nat.two_pow_add_eq_or_of_lt hb A
  rw [Nat.mul_comm A, ← this, Nat.add_mul, show 5 * (6 - k) = 5 + 5 * (5 - k) by omega, Nat.pow_add, Nat.mul_comm (2 ^ 5 * 2 ^ (5 * (5 - k))) A, Nat.mul_assoc A 32]
theorem pkf_pad {k : Nat} (hk : e - q ≤ k) (hqe : q ≤ e) : ∀ j, pkf T q e (k + j) = pkf T q e k * 32 ^ j := by
  intro j
  induction j with
  | zero => rw [Nat.add_zero, Nat.pow_zero, Nat.mul_one]
  | succ j ih =>
    show pkf T q e (k + j) * 32 + pkd T q e (k + j) = _
    have : pkd T q e (k + j) = 0 := by unfold pkd; rw [if_neg (by omega)]
    rw [ih, this, Nat.pow_succ, Nat.mul_assoc, Nat.add_zero]
theorem c_cw7 (hl : ∀ j, q ≤ j → j < e → isSm (T j)) (hqe : q ≤ e) (hen : e ≤ n) (hend : ¬ (e < n ∧ isSm (T e))) : ∀ f x fu τ, e - q - x ≤ f → f < fu → x ≤ e - q → LxC τ T n → ah_I τ 83 6 = nI (q + x) → ah_I τ 83 9 = nI (pkf T q e (min x 6) * 32 ^ (6 - min x 6)) → ∃ τ', f_X8_cutWord_7 fu 83 (nI x) τ = f_X8_cutWord_84 83 (nI (e - q)) τ' ∧ Fr (fun a j => a = 83 ∧ (j = 6 ∨ j = 9)) τ τ' ∧ ah_I τ' 83 6 = nI e ∧ ah_I τ' 83 9 = nI (pkf T q e (min (e - q) 6) * 32 ^ (6 - min (e - q) 6)) := by
  intro f
  induction f with
  | zero =>
    intro x fu τ hp hf hx h h6 h9
    obtain ⟨fu, rfl⟩ : ∃ q, fu = q + 1 := ⟨fu - 1, by omega⟩
    have hW := h.1
    have h7 := h.2.1
    have h5 := h.2.2.1
    obtain rfl : x = e - q := by omega
    have eq1 : q + (e - q) = e := by omega
    rw [eq1] at h6
    refine ⟨τ, ?_, Fr.rfl, h6, h9⟩
    show f_X8_cutWord_7_b _ _ _ _ = _
    unfold f_X8_cutWord_7_b
    simp only [to_bq, l_0, l_1, l_2, l_3, l_4, l_5, l_6, l_7, l_8, l_9, l_10, l_11, l_12, l_13, l_14, l_15, l_16, l_17, l_18, l_19, l_20, l_21, l_22, l_23, l_24, l_25, l_26, l_27, l_28, l_29, l_30, l_31, l_32, l_40, l_41, l_42, l_43, l_44, l_45, l_46, l_47, l_48, l_49, l_50, l_51, l_52, l_53, l_54, l_55, l_56, l_57, l_58, l_59, l_60, l_61, l_62, l_63, l_64, l_72, l_97, l_99, l_100, l_104, l_120, l_122, l_128, l_140, l_255, l_256, l_257, l_258, l_260, l_261, l_262, l_364, l_680, l_700, l_701, l_840, l_999, l_1023, l_1024, l_9999, l_10000, l_1000000, lm]
    simp (disch := first | (with_reducible assumption) | omega | exact ⟨by omega, by omega⟩ | ((with_reducible first | apply Wf.wI | apply Wf.wL | apply Wf.fL | apply Wf.fI | apply Wf.fr); (repeat (with_reducible first | assumption | apply Wf.wI | apply Wf.wL | apply Wf.fL | apply Wf.fI | apply Wf.fr)))) only [ck_83, gI_83, gL_83, pI_83, pZ0_83, pZ1_83, pL_83, gR_83_0, gR_83_1, gR_83_2, gR_83_3, gR_83_4, bq_n, bd_s, mp_s, rz_0, rz_1, bI_rz, h6, h5, le_nI]
    by_cases z : n ≤ e
    · rw [if_pos z]
    · rw [if_neg z]
      obtain ⟨b1, b2⟩ := h.2.2.2.1 e (by omega)
      simp (disch := first | (with_reducible assumption) | omega | exact ⟨by omega, by omega⟩ | ((with_reducible first | apply Wf.wI | apply Wf.wL | apply Wf.fL | apply Wf.fI | apply Wf.fr); (repeat (with_reducible first | assumption | apply Wf.wI | apply Wf.wL | apply Wf.fL | apply Wf.fI | apply Wf.fr)))) only [ck_83, gI_83, gL_83, pI_83, pZ0_83, pZ1_83, pL_83, gR_83_0, gR_83_1, gR_83_2, gR_83_3, gR_83_4, aB_1, sB_1, len_1, bq_n, bd_s, mp_s, rz_0, rz_1, bI_rz, h6, b1, c_isLetter b2, cI_f (fun w => hend ⟨by omega, w⟩), if_true, if_false, ite_true, ite_false, reduceIte, not_true, not_false, and_true, true_and, and_false, false_and, or_true, true_or, or_false, false_or, eq_self]
  | succ f ih =>
    intro x fu τ hp hf hx h h6 h9
    by_cases z : x = e - q
    · obtain ⟨fu, rfl⟩ : ∃ q, fu = q + 1 := ⟨fu - 1, by omega⟩
      have hW := h.1
      have h7 := h.2.1
      have h5 := h.2.2.1
      subst z
      have eq1 : q + (e - q) = e := by omega
      rw [eq1] at h6
      refine ⟨τ, ?_, Fr.rfl, h6, h9⟩
      show f_X8_cutWord_7_b _ _ _ _ = _
      unfold f_X8_cutWord_7_b
      simp only [to_bq, l_0, l_1, l_2, l_3, l_4, l_5, l_6, l_7, l_8, l_9, l_10, l_11, l_12, l_13, l_14, l_15, l_16, l_17, l_18, l_19, l_20, l_21, l_22, l_23, l_24, l_25, l_26, l_27, l_28, l_29, l_30, l_31, l_32, l_40, l_41, l_42, l_43, l_44, l_45, l_46, l_47, l_48, l_49, l_50, l_51, l_52, l_53, l_54, l_55, l_56, l_57, l_58, l_59, l_60, l_61, l_62, l_63, l_64, l_72, l_97, l_99, l_100, l_104, l_120, l_122, l_128, l_140, l_255, l_256, l_257, l_258, l_260, l_261, l_262, l_364, l_680, l_700, l_701, l_840, l_999, l_1023, l_1024, l_9999, l_10000, l_1000000, lm]
      simp (disch := first | (with_reducible assumption) | omega | exact ⟨by omega, by omega⟩ | ((with_reducible first | apply Wf.wI | apply Wf.wL | apply Wf.fL | apply Wf.fI | apply Wf.fr); (repeat (with_reducible first | assumption | apply Wf.wI | apply Wf.wL | apply Wf.fL | apply Wf.fI | apply Wf.fr)))) only [ck_83, gI_83, gL_83, pI_83, pZ0_83, pZ1_83, pL_83, gR_83_0, gR_83_1, gR_83_2, gR_83_3, gR_83_4, bq_n, bd_s, mp_s, rz_0, rz_1, bI_rz, h6, h5, le_nI]
      by_cases z : n ≤ e
      · rw [if_pos z]
      · rw [if_neg z]
        obtain ⟨b1, b2⟩ := h.2.2.2.1 e (by omega)
        simp (disch := first | (with_reducible assumption) | omega | exact ⟨by omega, by omega⟩ | ((with_reducible first | apply Wf.wI | apply Wf.wL | apply Wf.fL | apply Wf.fI | apply Wf.fr); (repeat (with_reducible first | assumption | apply Wf.wI | apply Wf.wL | apply Wf.fL | apply Wf.fI | apply Wf.fr)))) only [ck_83, gI_83, gL_83, pI_83, pZ0_83, pZ1_83, pL_83, gR_83_0, gR_83_1, gR_83_2, gR_83_3, gR_83_4, aB_1, sB_1, len_1, bq_n, bd_s, mp_s, rz_0, rz_1, bI_rz, h6, b1, c_isLetter b2, cI_f (fun w => hend ⟨by omega, w⟩), if_true, if_false, ite_true, ite_false, reduceIte, not_true, not_false, and_true, true_and, and_false, false_and, or_true, true_or, or_false, false_or, eq_self]
    · obtain ⟨fu, rfl⟩ : ∃ q, fu = q + 1 := ⟨fu - 1, by omega⟩
      have hW := h.1
      have h7 := h.2.1
      have h5 := h.2.2.1
      have hs := hl (q + x) (by omega) (by omega)
      obtain ⟨b1, b2⟩ := h.2.2.2.1 (q + x) (by omega)
      have b3 : bvt (T (q + x)) = nI (T (q + x)) := bvt_s (by unfold isSm at hs; omega)
      show ∃ τ', f_X8_cutWord_7_b (f_X8_cutWord_7 fu) 83 (nI x) τ = _ ∧ _
      by_cases z6 : 6 ≤ x
      · have f1 : Fr (fun a j => a = 83 ∧ (j = 6 ∨ j = 9)) τ (ah_wI τ 83 6 (nI (q + x + 1))) := Fr.rfl.wI ⟨rfl, Or.inl rfl⟩
        obtain ⟨τ', e1, e2, e3⟩ := ih (x + 1) fu (ah_wI τ 83 6 (nI (q + x + 1))) (by omega) (by omega) (by omega) (h.fr (f1.mono (fun a j z => by unfold Xct; omega))) rI_eq (by rw [rI_ne (by omega), h9, show min x 6 = 6 by omega, show min (x + 1) 6 = 6 by omega])
        refine ⟨τ', ?_, f1.trans e2, e3⟩
        rw [← e1]
        unfold f_X8_cutWord_7_b f_X8_cutWord_68
        simp only [to_bq, l_0, l_1, l_2, l_3, l_4, l_5, l_6, l_7, l_8, l_9, l_10, l_11, l_12, l_13, l_14, l_15, l_16, l_17, l_18, l_19, l_20, l_21, l_22, l_23, l_24, l_25, l_26, l_27, l_28, l_29, l_30, l_31, l_32, l_40, l_41, l_42, l_43, l_44, l_45, l_46, l_47, l_48, l_49, l_50, l_51, l_52, l_53, l_54, l_55, l_56, l_57, l_58, l_59, l_60, l_61, l_62, l_63, l_64, l_72, l_97, l_99, l_100, l_104, l_120, l_122, l_128, l_140, l_255, l_256, l_257, l_258, l_260, l_261, l_262, l_364, l_680, l_700, l_701, l_840, l_999, l_1023, l_1024, l_9999, l_10000, l_1000000, lm]
        simp (disch := first | (with_reducible assumption) | omega | exact ⟨by omega, by omega⟩ | ((with_reducible first | apply Wf.wI | apply Wf.wL | apply Wf.fL | apply Wf.fI | apply Wf.fr); (repeat (with_reducible first | assumption | apply Wf.wI | apply Wf.wL | apply Wf.fL | apply Wf.fI | apply Wf.fr)))) only [ck_83, gI_83, gL_83, pI_83, pZ0_83, pZ1_83, pL_83, gR_83_0, gR_83_1, gR_83_2, gR_83_3, gR_83_4, aB_1, sB_1, len_1, bq_n, bd_s, mp_s, rz_0, rz_1, bI_rz, h6, h5, le_nI, show (n ≤ q + x) = False from eq_false (by omega), if_true, if_false, ite_true, ite_false, reduceIte, not_true, not_false, and_true, true_and, and_false, false_and, or_true, true_or, or_false, false_or, eq_self, b1, c_isLetter b2, cI_t hs, show (nI 1 = nI 0) = False from eq_false (by decide), eq_true z6, zadd]
      · have hd : T (q + x) - 96 < 32 := by unfold isSm at hs; omega
        have hA := pkf_b hl x
        have hor := cw_or (A := pkf T q e x) (d := T (q + x) - 96) (k := x) (by omega) hA hd
        have hpk : pkf T q e (x + 1) = pkf T q e x * 32 + (T (q + x) - 96) := by
          show pkf T q e x * 32 + pkd T q e x = _
          unfold pkd
          rw [if_pos (by omega)]
        rw [← hpk] at hor
        have il : f_X8_isLetter (nI (T (q + x))) τ = some (cI (isSm (T (q + x))), τ) := by rw [← b3]; exact c_isLetter b2
        have ev : nI (T (q + x)) - nI 97 + nI 1 = nI (T (q + x) - 96) := by
          unfold isSm at hs
          rw [zsub (by omega), zadd]
          congr 1; omega
        have h9' : ah_I τ 83 9 = nI (pkf T q e x * 32 ^ (6 - x)) := by rw [h9, show min x 6 = x by omega]
        have f1 : Fr (fun a j => a = 83 ∧ (j = 6 ∨ j = 9)) τ (ah_wI (ah_wI τ 83 9 (nI (pkf T q e (x + 1) * 32 ^ (6 - (x + 1))))) 83 6 (nI (q + x + 1))) := (Fr.rfl.wI ⟨rfl, Or.inr rfl⟩).wI ⟨rfl, Or.inl rfl⟩
        obtain ⟨τ', e1, e2, e3⟩ := ih (x + 1) fu (ah_wI (ah_wI τ 83 9 (nI (pkf T q e (x + 1) * 32 ^ (6 - (x + 1))))) 83 6 (nI (q + x + 1))) (by omega) (by omega) (by omega) (h.fr (f1.mono (fun a j z => by unfold Xct; omega))) rI_eq (by rw [rI_ne (by omega), rI_eq, show min (x + 1) 6 = x + 1 by omega])
        refine ⟨τ', ?_, f1.trans e2, e3⟩
        rw [← e1]
        unfold f_X8_cutWord_7_b f_X8_cutWord_68
        simp only [to_bq, l_0, l_1, l_2, l_3, l_4, l_5, l_6, l_7, l_8, l_9, l_10, l_11, l_12, l_13, l_14, l_15, l_16, l_17, l_18, l_19, l_20, l_21, l_22, l_23, l_24, l_25, l_26, l_27, l_28, l_29, l_30, l_31, l_32, l_40, l_41, l_42, l_43, l_44, l_45, l_46, l_47, l_48, l_49, l_50, l_51, l_52, l_53, l_54, l_55, l_56, l_57, l_58, l_59, l_60, l_61, l_62, l_63, l_64, l_72, l_97, l_99, l_100, l_104, l_120, l_122, l_128, l_140, l_255, l_256, l_257, l_258, l_260, l_261, l_262, l_364, l_680, l_700, l_701, l_840, l_999, l_1023, l_1024, l_9999, l_10000, l_1000000, lm]
        simp (disch := first | (with_reducible assumption) | omega | exact ⟨by omega, by omega⟩ | ((with_reducible first | apply Wf.wI | apply Wf.wL | apply Wf.fL | apply Wf.fI | apply Wf.fr); (repeat (with_reducible first | assumption | apply Wf.wI | apply Wf.wL | apply Wf.fL | apply Wf.fI | apply Wf.fr)))) only [ck_83, gI_83, gL_83, pI_83, pZ0_83, pZ1_83, pL_83, gR_83_0, gR_83_1, gR_83_2, gR_83_3, gR_83_4, aB_1, sB_1, len_1, bq_n, bd_s, mp_s, rz_0, rz_1, bI_rz, h6, h5, le_nI, show (n ≤ q + x) = False from eq_false (by omega), if_true, if_false, ite_true, ite_false, reduceIte, not_true, not_false, and_true, true_and, and_false, false_and, or_true, true_or, or_false, false_or, eq_self, b1, b3, il, cI_t hs, show (nI 1 = nI 0) = False from eq_false (by decide), eq_false z6, h9', ev, hor, rI_ne, zadd]
theorem c_cutWord (h : LxC σ T n) (h6 : ah_I σ 83 6 = nI q) (hq : q < n) (hs : isSm (T q)) : ∃ τ, f_X8_cutWord 83 σ = some τ ∧ Fr (fun a j => a = 83 ∧ (j = 6 ∨ j = 8 ∨ j = 9)) σ τ ∧ CTk (wdt T q (gon T n isSm q)) (ah_I τ 83 8) (ah_I τ 83 9) ∧ ah_I τ 83 6 = nI (gon T n isSm q) := by
  have hW := h.1
  have h7 := h.2.1
  have hge : q ≤ gon T n isSm q := gon_ge
  have hle : gon T n isSm q ≤ n := gon_le (by omega)
  have hall : ∀ j, q ≤ j → j < gon T n isSm q → isSm (T j) := fun j h1 h2 => (gon_all j h1 h2).2
  have hend : ¬ (gon T n isSm q < n ∧ isSm (T (gon T n isSm q))) := gon_end
  generalize gon T n isSm q = e at *
  have f0 : Fr (fun a j => a = 83 ∧ (j = 6 ∨ j = 9)) σ (ah_wI σ 83 9 (nI 0)) := Fr.rfl.wI ⟨rfl, Or.inr rfl⟩
  obtain ⟨τ1, e1, e2, e3, e4⟩ := c_cw7 (q := q) (e := e) hall hge hle hend (e - q) 0 5000 (ah_wI σ 83 9 (nI 0)) (by omega) (by omega) (by omega) (h.fr (f0.mono (fun a j z => by unfold Xct; omega))) (by rw [rI_ne (by omega)]; exact h6) (by rw [rI_eq]; show nI 0 = nI (0 * _); rw [Nat.zero_mul])
  have f1 := f0.trans e2
  have hτ1 : LxC τ1 T n := h.fr (f1.mono (fun a j z => by unfold Xct; omega))
  have hW1 := hτ1.1
  have hstart : f_X8_cutWord 83 σ = f_X8_cutWord_84 83 (nI (e - q)) τ1 := by
    rw [← e1]
    unfold f_X8_cutWord f_X8_cutWord_0
    simp only [to_bq, l_0, l_1, l_2, l_3, l_4, l_5, l_6, l_7, l_8, l_9, l_10, l_11, l_12, l_13, l_14, l_15, l_16, l_17, l_18, l_19, l_20, l_21, l_22, l_23, l_24, l_25, l_26, l_27, l_28, l_29, l_30, l_31, l_32, l_40, l_41, l_42, l_43, l_44, l_45, l_46, l_47, l_48, l_49, l_50, l_51, l_52, l_53, l_54, l_55, l_56, l_57, l_58, l_59, l_60, l_61, l_62, l_63, l_64, l_72, l_97, l_99, l_100, l_104, l_120, l_122, l_128, l_140, l_255, l_256, l_257, l_258, l_260, l_261, l_262, l_364, l_680, l_700, l_701, l_840, l_999, l_1023, l_1024, l_9999, l_10000, l_1000000, lm]
    simp (disch := first | (with_reducible assumption) | omega | exact ⟨by omega, by omega⟩ | ((with_reducible first | apply Wf.wI | apply Wf.wL | apply Wf.fL | apply Wf.fI | apply Wf.fr); (repeat (with_reducible first | assumption | apply Wf.wI | apply Wf.wL | apply Wf.fL | apply Wf.fI | apply Wf.fr)))) only [ck_83, gI_83, gL_83, pI_83, pZ0_83, pZ1_83, pL_83, gR_83_0, gR_83_1, gR_83_2, gR_83_3, gR_83_4, bq_n, bd_s, mp_s, rz_0, rz_1, bI_rz]
  rw [hstart]
  by_cases z : e - q ≤ 6
  · have hpk : ah_I τ1 83 9 = nI (pkf T q e 6) := by
      rw [e4, show min (e - q) 6 = e - q by omega]
      have := pkf_pad (T := T) (k := e - q) (Nat.le_refl _) hge (6 - (e - q))
      rw [show e - q + (6 - (e - q)) = 6 by omega] at this
      rw [this]
    have hV : pkf T q e 6 < 1073741824 := Nat.lt_of_lt_of_eq (pkf_b hall 6) (by decide)
    have f2 : Fr (fun a j => a = 83 ∧ j = 8) τ1 (ah_wI τ1 83 8 (nI 1)) := Fr.rfl.wI ⟨rfl, rfl⟩
    have hk := c_cw101 hV (hτ1.fr (f2.mono (fun a j z => by unfold Xct; omega))) rI_eq (show ah_I (ah_wI τ1 83 8 (nI 1)) 83 9 = nI (pkf T q e 6) by rw [rI_ne (by omega)]; exact hpk) 24 0 5000 (by omega) (by omega)
    rw [kfd_wdx hall z hge] at hk
    have he : f_X8_cutWord_84 83 (nI (e - q)) τ1 = f_X8_cutWord_101 5000 83 (nI 0) (ah_wI τ1 83 8 (nI 1)) := by
      unfold f_X8_cutWord_84 f_X8_cutWord_96
      simp only [to_bq, l_0, l_1, l_2, l_3, l_4, l_5, l_6, l_7, l_8, l_9, l_10, l_11, l_12, l_13, l_14, l_15, l_16, l_17, l_18, l_19, l_20, l_21, l_22, l_23, l_24, l_25, l_26, l_27, l_28, l_29, l_30, l_31, l_32, l_40, l_41, l_42, l_43, l_44, l_45, l_46, l_47, l_48, l_49, l_50, l_51, l_52, l_53, l_54, l_55, l_56, l_57, l_58, l_59, l_60, l_61, l_62, l_63, l_64, l_72, l_97, l_99, l_100, l_104, l_120, l_122, l_128, l_140, l_255, l_256, l_257, l_258, l_260, l_261, l_262, l_364, l_680, l_700, l_701, l_840, l_999, l_1023, l_1024, l_9999, l_10000, l_1000000, lm]
      rw [if_pos (by rw [le_nI (by omega) (by omega)]; exact z)]
      simp (disch := first | (with_reducible assumption) | omega | exact ⟨by omega, by omega⟩ | ((with_reducible first | apply Wf.wI | apply Wf.wL | apply Wf.fL | apply Wf.fI | apply Wf.fr); (repeat (with_reducible first | assumption | apply Wf.wI | apply Wf.wL | apply Wf.fL | apply Wf.fI | apply Wf.fr)))) only [ck_83, gI_83, gL_83, pI_83, pZ0_83, pZ1_83, pL_83, gR_83_0, gR_83_1, gR_83_2, gR_83_3, gR_83_4, bq_n, bd_s, mp_s, rz_0, rz_1, bI_rz]
    rw [he, hk]
    unfold wdt
    cases ew : wdx T q e with
    | some w =>
      refine ⟨_, rfl, (((f1.mono (fun a j z => ⟨z.1, z.2.imp (fun z => z) (fun z => Or.inr z)⟩)).trans (f2.mono (fun a j z => ⟨z.1, Or.inr (Or.inl z.2)⟩))).wI ⟨rfl, by omega⟩).wI ⟨rfl, by omega⟩, Or.inl ⟨rfl, ?_, ?_⟩, ?_⟩
      · show ah_I (ah_wI (ah_wI (ah_wI τ1 83 8 (nI 1)) 83 8 (nI 2)) 83 9 (nI (ckw w))) 83 8 = _
        rw [rI_ne (by omega), rI_eq]
      · show ah_I (ah_wI (ah_wI (ah_wI τ1 83 8 (nI 1)) 83 8 (nI 2)) 83 9 (nI (ckw w))) 83 9 = _
        rw [rI_eq]; rfl
      · show ah_I (ah_wI (ah_wI (ah_wI τ1 83 8 (nI 1)) 83 8 (nI 2)) 83 9 (nI (ckw w))) 83 6 = _
        rw [rI_ne (by omega), rI_ne (by omega), rI_ne (by omega)]; exact e3
    | none =>
      refine ⟨_, rfl, (f1.mono (fun a j z => ⟨z.1, z.2.imp (fun z => z) (fun z => Or.inr z)⟩)).trans (f2.mono (fun a j z => ⟨z.1, Or.inr (Or.inl z.2)⟩)), ?_, ?_⟩
      · show CTk (if e - q ≤ 6 then _ else _) (ah_I (ah_wI τ1 83 8 (nI 1)) 83 8) (ah_I (ah_wI τ1 83 8 (nI 1)) 83 9)
        rw [if_pos z]
        exact Or.inr (Or.inl ⟨rfl, rI_eq, by rw [rI_ne (by omega)]; exact hpk⟩)
      · show ah_I (ah_wI τ1 83 8 (nI 1)) 83 6 = _
        rw [rI_ne (by omega)]; exact e3
  · have f2 : Fr (fun a j => a = 83 ∧ j = 8) τ1 (ah_wI τ1 83 8 (nI 5)) := Fr.rfl.wI ⟨rfl, rfl⟩
    refine ⟨ah_wI τ1 83 8 (nI 5), ?_, (f1.mono (fun a j z => ⟨z.1, z.2.imp (fun z => z) (fun z => Or.inr z)⟩)).trans (f2.mono (fun a j z => ⟨z.1, Or.inr (Or.inl z.2)⟩)), ?_, by rw [rI_ne (by omega)]; exact e3⟩
    · unfold f_X8_cutWord_84 f_X8_cutWord_96
      simp only [to_bq, l_0, l_1, l_2, l_3, l_4, l_5, l_6, l_7, l_8, l_9, l_10, l_11, l_12, l_13, l_14, l_15, l_16, l_17, l_18, l_19, l_20, l_21, l_22, l_23, l_24, l_25, l_26, l_27, l_28, l_29, l_30, l_31, l_32, l_40, l_41, l_42, l_43, l_44, l_45, l_46, l_47, l_48, l_49, l_50, l_51, l_52, l_53, l_54, l_55, l_56, l_57, l_58, l_59, l_60, l_61, l_62, l_63, l_64, l_72, l_97, l_99, l_100, l_104, l_120, l_122, l_128, l_140, l_255, l_256, l_257, l_258, l_260, l_261, l_262, l_364, l_680, l_700, l_701, l_840, l_999, l_1023, l_1024, l_9999, l_10000, l_1000000, lm]
      rw [if_neg (by rw [le_nI (by omega) (by omega)]; exact z)]
      simp (disch := first | (with_reducible assumption) | omega | exact ⟨by omega, by omega⟩ | ((with_reducible first | apply Wf.wI | apply Wf.wL | apply Wf.fL | apply Wf.fI | apply Wf.fr); (repeat (with_reducible first | assumption | apply Wf.wI | apply Wf.wL | apply Wf.fL | apply Wf.fI | apply Wf.fr)))) only [ck_83, gI_83, gL_83, pI_83, pZ0_83, pZ1_83, pL_83, gR_83_0, gR_83_1, gR_83_2, gR_83_3, gR_83_4, bq_n, bd_s, mp_s, rz_0, rz_1, bI_rz]
      show f_X8_cutWord_101_b _ _ _ _ = _
      unfold f_X8_cutWord_101_b
      simp only [to_bq, l_0, l_1, l_2, l_3, l_4, l_5, l_6, l_7, l_8, l_9, l_10, l_11, l_12, l_13, l_14, l_15, l_16, l_17, l_18, l_19, l_20, l_21, l_22, l_23, l_24, l_25, l_26, l_27, l_28, l_29, l_30, l_31, l_32, l_40, l_41, l_42, l_43, l_44, l_45, l_46, l_47, l_48, l_49, l_50, l_51, l_52, l_53, l_54, l_55, l_56, l_57, l_58, l_59, l_60, l_61, l_62, l_63, l_64, l_72, l_97, l_99, l_100, l_104, l_120, l_122, l_128, l_140, l_255, l_256, l_257, l_258, l_260, l_261, l_262, l_364, l_680, l_700, l_701, l_840, l_999, l_1023, l_1024, l_9999, l_10000, l_1000000, lm]
      simp (disch := first | (with_reducible assumption) | omega | exact ⟨by omega, by omega⟩ | ((with_reducible first | apply Wf.wI | apply Wf.wL | apply Wf.fL | apply Wf.fI | apply Wf.fr); (repeat (with_reducible first | assumption | apply Wf.wI | apply Wf.wL | apply Wf.fL | apply Wf.fI | apply Wf.fr)))) only [ck_83, gI_83, gL_83, pI_83, pZ0_83, pZ1_83, pL_83, gR_83_0, gR_83_1, gR_83_2, gR_83_3, gR_83_4, bq_n, bd_s, mp_s, rz_0, rz_1, bI_rz, rI_ne, rI_eq, rL_ne, rL_eq, ah_I_wL, ah_L_wI, ah_R_wI, ah_R_wL, ah_I_wR, ah_L_wR, rR_ne, rR_eq, show (nI 5 = nI 1) = False from eq_false (by decide), if_true, if_false, ite_true, ite_false, reduceIte, not_true, not_false, and_true, true_and, and_false, false_and, or_true, true_or, or_false, false_or, eq_self]
    · unfold wdt
      rw [wdx_long z]
      show CTk (if e - q ≤ 6 then _ else _) _ _
      rw [if_neg z]
      exact Or.inr (Or.inr (Or.inr (Or.inr (Or.inr ⟨rfl, rI_eq⟩))))
/-! numbers -/
def cnv (T : Nat → Nat) (q : Nat) : Nat → Nat
  | 0 => 0
  | k + 1 => min 1000000 (cnv T q k * 10 + (T (q + k) - 48))
theorem cnv_r {k0 : Nat} (hl : ∀ j, j < k0 → isDg (T (q + j))) : ∀ k, k ≤ k0 → cnv T q k ≤ 1000000 ∧ (cnv T q k = nuv T q k ∨ 9999 < cnv T q k ∧ 9999 < nuv T q k) := by
  intro k
  induction k with
  | zero => intro _; exact ⟨Nat.zero_le _, Or.inl rfl⟩
  | succ k ih =>
    intro hk
    obtain ⟨h1, h2⟩ := ih (by omega)
    have h3 := hl k (by omega)
    unfold isDg at h3
    have e1 : cnv T q (k + 1) = min 1000000 (cnv T q k * 10 + (T (q + k) - 48)) := rfl
    have e2 : nuv T q (k + 1) = if nuv T q k ≤ 9999 then 10 * nuv T q k + (T (q + k) - 48) else nuv T q k := rfl
    rw [e1, e2]
    by_cases z : nuv T q k ≤ 9999
    · rw [if_pos z]; omega
    · rw [if_neg z]; omega
theorem c_cn10 : ∀ f p fu τ, n - p ≤ f → f < fu → LxC τ T n → ah_I τ 83 6 = nI p → q ≤ p → p ≤ n → (∀ j, q ≤ j → j < p → isDg (T j)) → ah_I τ 83 9 = nI (cnv T q (p - q)) → ∃ τ', f_X8_cutNumber_10 fu 83 τ = some τ' ∧ Fr (fun a j => a = 83 ∧ (j = 6 ∨ j = 9)) τ τ' ∧ ah_I τ' 83 6 = nI (gon T n isDg p) ∧ ah_I τ' 83 9 = nI (cnv T q (gon T n isDg p - q)) := by
  intro f
  induction f with
  | zero =>
    intro p fu τ hp hf h h6 hqp hpn hl hv
    obtain ⟨fu, rfl⟩ : ∃ q, fu = q + 1 := ⟨fu - 1, by omega⟩
    have h7 := h.2.1
    have hW := h.1
    have h5 := h.2.2.1
    have hn : ¬ (p < n ∧ isDg (T p)) := fun z => by omega
    refine ⟨τ, ?_, Fr.rfl, by rw [gon_f hn]; exact h6, by rw [gon_f hn]; exact hv⟩
    show f_X8_cutNumber_10_b _ _ _ = _
    unfold f_X8_cutNumber_10_b
    simp only [to_bq, l_0, l_1, l_2, l_3, l_4, l_5, l_6, l_7, l_8, l_9, l_10, l_11, l_12, l_13, l_14, l_15, l_16, l_17, l_18, l_19, l_20, l_21, l_22, l_23, l_24, l_25, l_26, l_27, l_28, l_29, l_30, l_31, l_32, l_40, l_41, l_42, l_43, l_44, l_45, l_46, l_47, l_48, l_49, l_50, l_51, l_52, l_53, l_54, l_55, l_56, l_57, l_58, l_59, l_60, l_61, l_62, l_63, l_64, l_72, l_97, l_99, l_100, l_104, l_120, l_122, l_128, l_140, l_255, l_256, l_257, l_258, l_260, l_261, l_262, l_364, l_680, l_700, l_701, l_840, l_999, l_1023, l_1024, l_9999, l_10000, l_1000000, lm]
    simp (disch := first | (with_reducible assumption) | omega | exact ⟨by omega, by omega⟩ | ((with_reducible first | apply Wf.wI | apply Wf.wL | apply Wf.fL | apply Wf.fI | apply Wf.fr); (repeat (with_reducible first | assumption | apply Wf.wI | apply Wf.wL | apply Wf.fL | apply Wf.fI | apply Wf.fr)))) only [ck_83, gI_83, gL_83, pI_83, pZ0_83, pZ1_83, pL_83, gR_83_0, gR_83_1, gR_83_2, gR_83_3, gR_83_4, bq_n, bd_s, mp_s, rz_0, rz_1, bI_rz, h6, h5, le_nI, show (n ≤ p) = True from eq_true (by omega), if_true, if_false, ite_true, ite_false, reduceIte, not_true, not_false, and_true, true_and, and_false, false_and, or_true, true_or, or_false, false_or, eq_self]
  | succ f ih =>
    intro p fu τ hp hf h h6 hqp hpn hl hv
    obtain ⟨fu, rfl⟩ : ∃ q, fu = q + 1 := ⟨fu - 1, by omega⟩
    have h7 := h.2.1
    have hW := h.1
    have h5 := h.2.2.1
    show ∃ τ', f_X8_cutNumber_10_b (f_X8_cutNumber_10 fu) 83 τ = _ ∧ _
    by_cases hn : p < n ∧ isDg (T p)
    · obtain ⟨cb, -⟩ := cnv_r (T := T) (q := q) (k0 := p - q) (fun j hj => hl (q + j) (by omega) (by omega)) (p - q) (Nat.le_refl _)
      obtain ⟨b1, b2⟩ := h.2.2.2.1 p hn.1
      have hd := hn.2
      unfold isDg at hd
      have b3 : bvt (T p) = nI (T p) := bvt_s (by omega)
      have il : f_X8_isDigit (nI (T p)) τ = some (cI (isDg (T p)), τ) := by rw [← b3]; exact c_isDigitL b2
      have hs : cnv T q (p + 1 - q) = min 1000000 (cnv T q (p - q) * 10 + (T p - 48)) := by
        rw [show p + 1 - q = (p - q) + 1 by omega]
        show min 1000000 (cnv T q (p - q) * 10 + (T (q + (p - q)) - 48)) = _
        rw [show q + (p - q) = p by omega]
      have ev : op_mini (nI 1000000) (nI (cnv T q (p - q)) * nI 10 + nI (T p) - nI 48) = nI (cnv T q (p + 1 - q)) := by
        rw [hs, zmul, zadd, zsub (by omega), jI_n, jI_n, mini_j ⟨by omega, by omega⟩ ⟨by omega, by omega⟩, jI_n]
        congr 1
        omega
      have f1 : Fr (fun a j => a = 83 ∧ (j = 6 ∨ j = 9)) τ (ah_wI (ah_wI τ 83 9 (nI (cnv T q (p + 1 - q)))) 83 6 (nI (p + 1))) := (Fr.rfl.wI ⟨rfl, Or.inr rfl⟩).wI ⟨rfl, Or.inl rfl⟩
      obtain ⟨τ', e1, e2, e3, e4⟩ := ih (p + 1) fu (ah_wI (ah_wI τ 83 9 (nI (cnv T q (p + 1 - q)))) 83 6 (nI (p + 1))) (by omega) (by omega) (h.fr (f1.mono (fun a j z => by unfold Xct; omega))) rI_eq (by omega) (by omega) (fun j h1 h2 => by
        by_cases z : j = p
        · rw [z]; exact hn.2
        · exact hl j h1 (by omega)) (by rw [rI_ne (by omega), rI_eq])
      refine ⟨τ', ?_, f1.trans e2, by rw [gon_t hn.1 hn.2]; exact e3, by rw [gon_t hn.1 hn.2]; exact e4⟩
      rw [← e1]
      unfold f_X8_cutNumber_10_b
      simp only [to_bq, l_0, l_1, l_2, l_3, l_4, l_5, l_6, l_7, l_8, l_9, l_10, l_11, l_12, l_13, l_14, l_15, l_16, l_17, l_18, l_19, l_20, l_21, l_22, l_23, l_24, l_25, l_26, l_27, l_28, l_29, l_30, l_31, l_32, l_40, l_41, l_42, l_43, l_44, l_45, l_46, l_47, l_48, l_49, l_50, l_51, l_52, l_53, l_54, l_55, l_56, l_57, l_58, l_59, l_60, l_61, l_62, l_63, l_64, l_72, l_97, l_99, l_100, l_104, l_120, l_122, l_128, l_140, l_255, l_256, l_257, l_258, l_260, l_261, l_262, l_364, l_680, l_700, l_701, l_840, l_999, l_1023, l_1024, l_9999, l_10000, l_1000000, lm]
      simp (disch := first | (with_reducible assumption) | omega | exact ⟨by omega, by omega⟩ | ((with_reducible first | apply Wf.wI | apply Wf.wL | apply Wf.fL | apply Wf.fI | apply Wf.fr); (repeat (with_reducible first | assumption | apply Wf.wI | apply Wf.wL | apply Wf.fL | apply Wf.fI | apply Wf.fr)))) only [ck_83, gI_83, gL_83, pI_83, pZ0_83, pZ1_83, pL_83, gR_83_0, gR_83_1, gR_83_2, gR_83_3, gR_83_4, aB_1, sB_1, len_1, bq_n, bd_s, mp_s, rz_0, rz_1, bI_rz, h6, h5, le_nI, show (n ≤ p) = False from eq_false (by omega), if_true, if_false, ite_true, ite_false, reduceIte, not_true, not_false, and_true, true_and, and_false, false_and, or_true, true_or, or_false, false_or, eq_self, b1, b3, il, cI_t hn.2, show (nI 1 = nI 0) = False from eq_false (by decide), hv, ev, rI_ne, zadd]
    · refine ⟨τ, ?_, Fr.rfl, by rw [gon_f hn]; exact h6, by rw [gon_f hn]; exact hv⟩
      unfold f_X8_cutNumber_10_b
      simp only [to_bq, l_0, l_1, l_2, l_3, l_4, l_5, l_6, l_7, l_8, l_9, l_10, l_11, l_12, l_13, l_14, l_15, l_16, l_17, l_18, l_19, l_20, l_21, l_22, l_23, l_24, l_25, l_26, l_27, l_28, l_29, l_30, l_31, l_32, l_40, l_41, l_42, l_43, l_44, l_45, l_46, l_47, l_48, l_49, l_50, l_51, l_52, l_53, l_54, l_55, l_56, l_57, l_58, l_59, l_60, l_61, l_62, l_63, l_64, l_72, l_97, l_99, l_100, l_104, l_120, l_122, l_128, l_140, l_255, l_256, l_257, l_258, l_260, l_261, l_262, l_364, l_680, l_700, l_701, l_840, l_999, l_1023, l_1024, l_9999, l_10000, l_1000000, lm]
      by_cases z : n ≤ p
      · simp (disch := first | (with_reducible assumption) | omega | exact ⟨by omega, by omega⟩ | ((with_reducible first | apply Wf.wI | apply Wf.wL | apply Wf.fL | apply Wf.fI | apply Wf.fr); (repeat (with_reducible first | assumption | apply Wf.wI | apply Wf.wL | apply Wf.fL | apply Wf.fI | apply Wf.fr)))) only [ck_83, gI_83, gL_83, pI_83, pZ0_83, pZ1_83, pL_83, gR_83_0, gR_83_1, gR_83_2, gR_83_3, gR_83_4, bq_n, bd_s, mp_s, rz_0, rz_1, bI_rz, h6, h5, le_nI, show (n ≤ p) = True from eq_true z, if_true, if_false, ite_true, ite_false, reduceIte, not_true, not_false, and_true, true_and, and_false, false_and, or_true, true_or, or_false, false_or, eq_self]
      · obtain ⟨b1, b2⟩ := h.2.2.2.1 p (by omega)
        simp (disch := first | (with_reducible assumption) | omega | exact ⟨by omega, by omega⟩ | ((with_reducible first | apply Wf.wI | apply Wf.wL | apply Wf.fL | apply Wf.fI | apply Wf.fr); (repeat (with_reducible first | assumption | apply Wf.wI | apply Wf.wL | apply Wf.fL | apply Wf.fI | apply Wf.fr)))) only [ck_83, gI_83, gL_83, pI_83, pZ0_83, pZ1_83, pL_83, gR_83_0, gR_83_1, gR_83_2, gR_83_3, gR_83_4, aB_1, sB_1, len_1, bq_n, bd_s, mp_s, rz_0, rz_1, bI_rz, h6, h5, le_nI, show (n ≤ p) = False from eq_false z, if_true, if_false, ite_true, ite_false, reduceIte, not_true, not_false, and_true, true_and, and_false, false_and, or_true, true_or, or_false, false_or, eq_self, b1, c_isDigitL b2, cI_f (fun w => hn ⟨by omega, w⟩)]
theorem c_cutNumber (h : LxC σ T n) (h6 : ah_I σ 83 6 = nI q) (hq : q < n) : ∃ τ, f_X8_cutNumber 83 σ = some τ ∧ Fr (fun a j => a = 83 ∧ (j = 6 ∨ j = 8 ∨ j = 9)) σ τ ∧ CTk (2, nuv T q (gon T n isDg q - q), q, gon T n isDg q) (ah_I τ 83 8) (ah_I τ 83 9) ∧ ah_I τ 83 6 = nI (gon T n isDg q) := by
  have hW := h.1
  have h7 := h.2.1
  have f0 : Fr (fun a j => a = 83 ∧ (j = 6 ∨ j = 8 ∨ j = 9)) σ (ah_wI (ah_wI σ 83 8 (nI 3)) 83 9 (nI 0)) := (Fr.rfl.wI ⟨rfl, by omega⟩).wI ⟨rfl, by omega⟩
  obtain ⟨τ1, e1, e2, e3, e4⟩ := c_cn10 (q := q) (n - q) q 5000 (ah_wI (ah_wI σ 83 8 (nI 3)) 83 9 (nI 0)) (Nat.le_refl _) (by omega) (h.fr (f0.mono (fun a j z => by unfold Xct; omega))) (by rw [rI_ne (by omega), rI_ne (by omega)]; exact h6) (Nat.le_refl _) (by omega) (fun j h1 h2 => by omega) (by rw [rI_eq, Nat.sub_self]; rfl)
  refine ⟨τ1, ?_, f0.trans (e2.mono (fun a j z => ⟨z.1, z.2.imp (fun z => z) (fun z => Or.inr z)⟩)), ?_, e3⟩
  · rw [← e1]
    unfold f_X8_cutNumber f_X8_cutNumber_0
    simp only [to_bq, l_0, l_1, l_2, l_3, l_4, l_5, l_6, l_7, l_8, l_9, l_10, l_11, l_12, l_13, l_14, l_15, l_16, l_17, l_18, l_19, l_20, l_21, l_22, l_23, l_24, l_25, l_26, l_27, l_28, l_29, l_30, l_31, l_32, l_40, l_41, l_42, l_43, l_44, l_45, l_46, l_47, l_48, l_49, l_50, l_51, l_52, l_53, l_54, l_55, l_56, l_57, l_58, l_59, l_60, l_61, l_62, l_63, l_64, l_72, l_97, l_99, l_100, l_104, l_120, l_122, l_128, l_140, l_255, l_256, l_257, l_258, l_260, l_261, l_262, l_364, l_680, l_700, l_701, l_840, l_999, l_1023, l_1024, l_9999, l_10000, l_1000000, lm]
    simp (disch := first | (with_reducible assumption) | omega | exact ⟨by omega, by omega⟩ | ((with_reducible first | apply Wf.wI | apply Wf.wL | apply Wf.fL | apply Wf.fI | apply Wf.fr); (repeat (with_reducible first | assumption | apply Wf.wI | apply Wf.wL | apply Wf.fL | apply Wf.fI | apply Wf.fr)))) only [ck_83, gI_83, gL_83, pI_83, pZ0_83, pZ1_83, pL_83, gR_83_0, gR_83_1, gR_83_2, gR_83_3, gR_83_4, bq_n, bd_s, mp_s, rz_0, rz_1, bI_rz]
  · obtain ⟨c1, c2⟩ := cnv_r (T := T) (q := q) (k0 := gon T n isDg q - q) (fun j hj => (gon_all (P := isDg) (n := n) (p := q) (q + j) (by omega) (by omega)).2) (gon T n isDg q - q) (Nat.le_refl _)
    refine Or.inr (Or.inr (Or.inl ⟨rfl, ?_, _, c1, e4, c2⟩))
    rw [e2.I (by omega), rI_ne (by omega), rI_eq]
end
