/-! LINES OF THE CLASS: what they read -/
def Xrn (a j : Nat) : Prop := a = 83 ∧ 7 ≤ j ∧ j ≤ 10 ∨ a = 82 ∧ (j = 3 ∨ j = 4)
def CFl (σ : ah_H) (T : Nat → Nat) (n f j : Nat) : Prop := Wf σ ∧ ah_I σ 82 3 = nI f ∧ ah_I σ 82 4 = nI (tP (tks T n j))
/-- a value is read, or nothing -/
def CNo (r : Option (Int32 × ah_H)) (τ : ah_H) (T : Nat → Nat) (n N : Nat) (s : LnS) (v : Nat) : Prop := match s with
  | (i, none) => r = some (nI v, τ) ∧ CAt τ T n N i
  | (_, some (f, j)) => r = some (mI 1, τ) ∧ CFl τ T n f j
/-- yes, or a fault -/
def CYo (r : Option (Int32 × ah_H)) (τ : ah_H) (T : Nat → Nat) (n N : Nat) (s : LnS) : Prop := match s with
  | (i, none) => r = some (nI 1, τ) ∧ CAt τ T n N i
  | (_, some (f, j)) => r = some (nI 0, τ) ∧ CFl τ T n f j
section
variable {σ τ : ah_H} {T : Nat → Nat} {n N i t : Nat} {s : LnS} {E : DD}
theorem Xs8_r : ∀ a j, Xs8 a j → Xrn a j := by
  intro a j h; unfold Xs8 at h; unfold Xrn; omega
theorem c_fail (h : CAt σ T n N i) {f : Nat} : ∃ τ, f_X7_fail 82 (nI f) σ = some (nI 0, τ) ∧ Fr Xrn σ τ ∧ CFl τ T n f i := by
  have hW := h.w
  have h10 := h.2.2.2.2.2.1
  refine ⟨ah_wI (ah_wI σ 82 3 (nI f)) 82 4 (nI (tP (tks T n i))), ?_, (Fr.rfl.wI (by unfold Xrn; omega)).wI (by unfold Xrn; omega), (hW.wI _ _ _).wI _ _ _, by rw [rI_ne (by omega), rI_eq], rI_eq⟩
  unfold f_X7_fail f_X7_fail_0
  simp only [to_bq, l_0, l_1, l_2, l_3, l_4, l_5, l_6, l_7, l_8, l_9, l_10, l_11, l_12, l_13, l_14, l_15, l_16, l_17, l_18, l_19, l_20, l_21, l_22, l_23, l_24, l_25, l_26, l_27, l_28, l_29, l_30, l_31, l_32, l_40, l_41, l_42, l_43, l_44, l_45, l_46, l_47, l_48, l_49, l_50, l_51, l_52, l_53, l_54, l_55, l_56, l_57, l_58, l_59, l_60, l_61, l_62, l_63, l_64, l_72, l_97, l_99, l_100, l_104, l_120, l_122, l_128, l_140, l_255, l_256, l_257, l_258, l_260, l_261, l_262, l_364, l_680, l_700, l_701, l_840, l_999, l_1023, l_1024, l_9999, l_10000, l_1000000, lm]
  simp (disch := first | (with_reducible assumption) | omega | exact ⟨by omega, by omega⟩ | ((with_reducible first | apply Wf.wI | apply Wf.wL | apply Wf.fL | apply Wf.fI | apply Wf.fr); (repeat (with_reducible first | assumption | apply Wf.wI | apply Wf.wL | apply Wf.fL | apply Wf.fI | apply Wf.fr)))) only [ck_82, gI_82, gL_82, pI_82, pZ0_82, pZ1_82, pL_82, gR_82_0, gR_82_1, pR_82_2, gR_82_2, ck_83, gI_83, gL_83, pI_83, pZ0_83, pZ1_83, pL_83, gR_83_0, gR_83_1, gR_83_2, gR_83_3, gR_83_4, bq_n, bd_s, mp_s, rz_0, rz_1, bI_rz, rI_ne, rI_eq, rL_ne, rL_eq, ah_I_wL, ah_L_wI, ah_R_wI, ah_R_wL, ah_I_wR, ah_L_wR, rR_ne, rR_eq]
  rw [show ah_I σ 83 10 = nI (tP (tks T n i)) from h10]
theorem CTk.num {k : TK} {ki va : Int32} (h : CTk k ki va) : (ki = nI 3) ↔ tS k = 2 := by
  rcases h with ⟨a, b, -⟩ | ⟨a, b, -⟩ | ⟨a, b, -⟩ | ⟨a, b, -⟩ | ⟨a, b⟩ | ⟨a, b⟩ <;> rw [a, b] <;> decide
theorem CTk.nam {k : TK} {ki va : Int32} (h : CTk k ki va) : (ki = nI 1) ↔ tS k = 1 := by
  rcases h with ⟨a, b, -⟩ | ⟨a, b, -⟩ | ⟨a, b, -⟩ | ⟨a, b, -⟩ | ⟨a, b⟩ | ⟨a, b⟩ <;> rw [a, b] <;> decide
theorem CTk.key {k : TK} {ki va : Int32} (h : CTk k ki va) : (ki = nI 2) ↔ tS k = 0 := by
  rcases h with ⟨a, b, -⟩ | ⟨a, b, -⟩ | ⟨a, b, -⟩ | ⟨a, b, -⟩ | ⟨a, b⟩ | ⟨a, b⟩ <;> rw [a, b] <;> decide
theorem CTk.vnum {k : TK} {ki va : Int32} (h : CTk k ki va) (hs : tS k = 2) : ∃ v, v ≤ 1000000 ∧ va = nI v ∧ (v = tV k ∨ 9999 < v ∧ 9999 < tV k) := by
  rcases h with ⟨a, -⟩ | ⟨a, -⟩ | ⟨-, -, h⟩ | ⟨a, -⟩ | ⟨a, -⟩ | ⟨a, -⟩
  · omega
  · omega
  · exact h
  · omega
  · omega
  · omega
theorem CTk.vnam {k : TK} {ki va : Int32} (h : CTk k ki va) (hs : tS k = 1) : va = nI (tV k) := by
  rcases h with ⟨a, -⟩ | ⟨-, -, h⟩ | ⟨a, -⟩ | ⟨a, -⟩ | ⟨a, -⟩ | ⟨a, -⟩
  · omega
  · exact h
  · omega
  · omega
  · omega
  · omega
theorem CTk.vkey {k : TK} {ki va : Int32} (h : CTk k ki va) (hs : tS k = 0) : va = nI (ckw (tV k)) := by
  rcases h with ⟨-, -, h⟩ | ⟨a, -⟩ | ⟨a, -⟩ | ⟨a, -⟩ | ⟨a, -⟩ | ⟨a, -⟩
  · exact h
  · omega
  · omega
  · omega
  · omega
  · omega
theorem c_num (h : CAt σ T n N i) {lo hi : Nat} (hlo : lo ≤ 9999) (hhi : hi ≤ 9999) : ∃ τ, Fr Xrn σ τ ∧ CNo (f_X7_readNumber 82 (nI lo) (nI hi) σ) τ T n N (sNumS (tks T n) (i, none) lo hi) (sNumV (tks T n) (i, none) lo hi) := by
  have hW := h.w
  have hk := h.2.2.2.2.1
  have eS : sNumS (tks T n) (i, none) lo hi = if tS (tks T n i) = 2 then (if lo ≤ tV (tks T n i) ∧ tV (tks T n i) ≤ hi then (i + 1, none) else (i, some (2, i))) else (i, some (1, i)) := rfl
  have eV : sNumV (tks T n) (i, none) lo hi = if tS (tks T n i) = 2 ∧ lo ≤ tV (tks T n i) ∧ tV (tks T n i) ≤ hi then tV (tks T n i) else lo := rfl
  unfold f_X7_readNumber f_X7_readNumber_0 f_X7_readNumber_37
  simp only [to_bq, l_0, l_1, l_2, l_3, l_4, l_5, l_6, l_7, l_8, l_9, l_10, l_11, l_12, l_13, l_14, l_15, l_16, l_17, l_18, l_19, l_20, l_21, l_22, l_23, l_24, l_25, l_26, l_27, l_28, l_29, l_30, l_31, l_32, l_40, l_41, l_42, l_43, l_44, l_45, l_46, l_47, l_48, l_49, l_50, l_51, l_52, l_53, l_54, l_55, l_56, l_57, l_58, l_59, l_60, l_61, l_62, l_63, l_64, l_72, l_97, l_99, l_100, l_104, l_120, l_122, l_128, l_140, l_255, l_256, l_257, l_258, l_260, l_261, l_262, l_364, l_680, l_700, l_701, l_840, l_999, l_1023, l_1024, l_9999, l_10000, l_1000000, lm]
  simp (disch := first | (with_reducible assumption) | omega | exact ⟨by omega, by omega⟩ | ((with_reducible first | apply Wf.wI | apply Wf.wL | apply Wf.fL | apply Wf.fI | apply Wf.fr); (repeat (with_reducible first | assumption | apply Wf.wI | apply Wf.wL | apply Wf.fL | apply Wf.fI | apply Wf.fr)))) only [ck_82, gI_82, gL_82, pI_82, pZ0_82, pZ1_82, pL_82, gR_82_0, gR_82_1, pR_82_2, gR_82_2, ck_83, gI_83, gL_83, pI_83, pZ0_83, pZ1_83, pL_83, gR_83_0, gR_83_1, gR_83_2, gR_83_3, gR_83_4, bq_n, bd_s, mp_s, rz_0, rz_1, bI_rz]
  by_cases z : tS (tks T n i) = 2
  · rw [if_pos (hk.num.mpr z)]
    obtain ⟨v, v1, v2, v3⟩ := hk.vnum z
    rw [v2]
    by_cases y : lo ≤ tV (tks T n i) ∧ tV (tks T n i) ≤ hi
    · rw [if_neg (by rw [lt_nI (by omega) (by omega)]; omega), if_pos (by rw [le_nI (by omega) (by omega)]; omega)]
      obtain ⟨τ, w1, w2, w3⟩ := c_step h (by omega)
      refine ⟨τ, w2.mono Xs8_r, ?_⟩
      rw [eS, if_pos z, if_pos y, eV, if_pos ⟨z, y⟩, w1]
      refine ⟨?_, w3⟩
      simp only [bq_n, bd_s, mp_s, rz_0, rz_1, bI_rz]
      rw [show v = tV (tks T n i) by omega]
    · obtain ⟨τ, w1, w2, w3⟩ := c_fail h (f := 2)
      refine ⟨τ, w2, ?_⟩
      rw [eS, if_pos z, if_neg y, w1]
      simp only [bq_n, bd_s, mp_s, rz_0, rz_1, bI_rz]
      refine ⟨?_, w3⟩
      by_cases y1 : v < lo
      · rw [if_pos (by rw [lt_nI (by omega) (by omega)]; exact y1)]
      · rw [if_neg (by rw [lt_nI (by omega) (by omega)]; exact y1), if_neg (by rw [le_nI (by omega) (by omega)]; omega)]
  · rw [if_neg (fun w => z (hk.num.mp w))]
    obtain ⟨τ, w1, w2, w3⟩ := c_fail h (f := 1)
    refine ⟨τ, w2, ?_⟩
    rw [eS, if_neg z, w1]
    simp only [bq_n, bd_s, mp_s, rz_0, rz_1, bI_rz]
    exact ⟨rfl, w3⟩
theorem c_nam (h : CAt σ T n N i) (hT : TR σ t E) (hr : ah_R σ 82 2 = some t) {w a m : Nat} (hw : w = 0 ∧ a = 228 ∧ m = nC E ∨ w = 1 ∧ a = 239 ∧ m = nR E) : ∃ τ, Fr Xrn σ τ ∧ CNo (f_X7_readNewName 82 (nI w) σ) τ T n N (sNamS (tks T n) (i, none) (E a) m) (sNamV (tks T n) (i, none) (E a) m) := by
  have hW := h.w
  have hk := h.2.2.2.2.1
  have ef : ∀ v, f_X9_find t (nI w) v σ = some (fnd (E a) v 0 m, σ) := fun v => by
    rw [c_find hT]
    unfold sNamed
    rcases hw with ⟨rfl, rfl, rfl⟩ | ⟨rfl, rfl, rfl⟩
    · rw [if_pos rfl]
    · rw [if_neg (by decide), if_pos rfl]
  have eS : sNamS (tks T n) (i, none) (E a) m = if tS (tks T n i) = 1 then (if fnd (E a) (nI (tV (tks T n i))) 0 m = mI 1 then (i + 1, none) else (i, some (3, i))) else (i, some (1, i)) := rfl
  have eV : sNamV (tks T n) (i, none) (E a) m = if tS (tks T n i) = 1 ∧ fnd (E a) (nI (tV (tks T n i))) 0 m = mI 1 then tV (tks T n i) else 0 := rfl
  unfold f_X7_readNewName f_X7_readNewName_0
  simp only [to_bq, l_0, l_1, l_2, l_3, l_4, l_5, l_6, l_7, l_8, l_9, l_10, l_11, l_12, l_13, l_14, l_15, l_16, l_17, l_18, l_19, l_20, l_21, l_22, l_23, l_24, l_25, l_26, l_27, l_28, l_29, l_30, l_31, l_32, l_40, l_41, l_42, l_43, l_44, l_45, l_46, l_47, l_48, l_49, l_50, l_51, l_52, l_53, l_54, l_55, l_56, l_57, l_58, l_59, l_60, l_61, l_62, l_63, l_64, l_72, l_97, l_99, l_100, l_104, l_120, l_122, l_128, l_140, l_255, l_256, l_257, l_258, l_260, l_261, l_262, l_364, l_680, l_700, l_701, l_840, l_999, l_1023, l_1024, l_9999, l_10000, l_1000000, lm]
  simp (disch := first | (with_reducible assumption) | omega | exact ⟨by omega, by omega⟩ | ((with_reducible first | apply Wf.wI | apply Wf.wL | apply Wf.fL | apply Wf.fI | apply Wf.fr); (repeat (with_reducible first | assumption | apply Wf.wI | apply Wf.wL | apply Wf.fL | apply Wf.fI | apply Wf.fr)))) only [ck_82, gI_82, gL_82, pI_82, pZ0_82, pZ1_82, pL_82, gR_82_0, gR_82_1, pR_82_2, gR_82_2, ck_83, gI_83, gL_83, pI_83, pZ0_83, pZ1_83, pL_83, gR_83_0, gR_83_1, gR_83_2, gR_83_3, gR_83_4, bq_n, bd_s, mp_s, rz_0, rz_1, bI_rz, hr]
  by_cases z : tS (tks T n i) = 1
  · rw [if_pos (hk.nam.mpr z), hk.vnam z, ef]
    simp (disch := first | (with_reducible assumption) | omega | exact ⟨by omega, by omega⟩ | ((with_reducible first | apply Wf.wI | apply Wf.wL | apply Wf.fL | apply Wf.fI | apply Wf.fr); (repeat (with_reducible first | assumption | apply Wf.wI | apply Wf.wL | apply Wf.fL | apply Wf.fI | apply Wf.fr)))) only [bq_n, bd_s, mp_s, rz_0, rz_1, bI_rz, ck_82, gI_82, gL_82, pI_82, pZ0_82, pZ1_82, pL_82, gR_82_0, gR_82_1, pR_82_2, gR_82_2]
    by_cases y : fnd (E a) (nI (tV (tks T n i))) 0 m = mI 1
    · rw [if_pos y]
      obtain ⟨τ, w1, w2, w3⟩ := c_step h (by omega)
      refine ⟨τ, w2.mono Xs8_r, ?_⟩
      rw [eS, if_pos z, if_pos y, eV, if_pos ⟨z, y⟩, w1]
      refine ⟨?_, w3⟩
      simp only [bq_n, bd_s, mp_s, rz_0, rz_1, bI_rz]
    · rw [if_neg y]
      obtain ⟨τ, w1, w2, w3⟩ := c_fail h (f := 3)
      refine ⟨τ, w2, ?_⟩
      rw [eS, if_pos z, if_neg y, w1]
      simp only [bq_n, bd_s, mp_s, rz_0, rz_1, bI_rz]
      exact ⟨rfl, w3⟩
  · rw [if_neg (fun w => z (hk.nam.mp w))]
    obtain ⟨τ, w1, w2, w3⟩ := c_fail h (f := 1)
    refine ⟨τ, w2, ?_⟩
    rw [eS, if_neg z, w1]
    simp only [bq_n, bd_s, mp_s, rz_0, rz_1, bI_rz]
    exact ⟨rfl, w3⟩
theorem c_cor (h : CAt σ T n N i) (hT : TR σ t E) (hr : ah_R σ 82 2 = some t) : ∃ τ, Fr Xrn σ τ ∧ CNo (f_X7_findCorner 82 σ) τ T n N (sCorS (tks T n) (i, none) (E 228) (nC E)) (sCorV (tks T n) (i, none) (E 228) (nC E)) := by
  have hW := h.w
  have hk := h.2.2.2.2.1
  have b0 : nC E ≤ 7 := hT.2.2.1.1.1.2
  have ef : ∀ v, f_X9_find t (nI 0) v σ = some (fnd (E 228) v 0 (nC E), σ) := fun v => by
    rw [c_find hT]
    unfold sNamed
    rw [if_pos rfl]
  have eS : sCorS (tks T n) (i, none) (E 228) (nC E) = if tS (tks T n i) = 1 then (if fnd (E 228) (nI (tV (tks T n i))) 0 (nC E) = mI 1 then (i, some (4, i)) else (i, none)) else (i, some (1, i)) := rfl
  have eV : sCorV (tks T n) (i, none) (E 228) (nC E) = if tS (tks T n i) = 1 ∧ fnd (E 228) (nI (tV (tks T n i))) 0 (nC E) ≠ mI 1 then ix (fnd (E 228) (nI (tV (tks T n i))) 0 (nC E)) else 0 := rfl
  unfold f_X7_findCorner f_X7_findCorner_0
  simp only [to_bq, l_0, l_1, l_2, l_3, l_4, l_5, l_6, l_7, l_8, l_9, l_10, l_11, l_12, l_13, l_14, l_15, l_16, l_17, l_18, l_19, l_20, l_21, l_22, l_23, l_24, l_25, l_26, l_27, l_28, l_29, l_30, l_31, l_32, l_40, l_41, l_42, l_43, l_44, l_45, l_46, l_47, l_48, l_49, l_50, l_51, l_52, l_53, l_54, l_55, l_56, l_57, l_58, l_59, l_60, l_61, l_62, l_63, l_64, l_72, l_97, l_99, l_100, l_104, l_120, l_122, l_128, l_140, l_255, l_256, l_257, l_258, l_260, l_261, l_262, l_364, l_680, l_700, l_701, l_840, l_999, l_1023, l_1024, l_9999, l_10000, l_1000000, lm]
  simp (disch := first | (with_reducible assumption) | omega | exact ⟨by omega, by omega⟩ | ((with_reducible first | apply Wf.wI | apply Wf.wL | apply Wf.fL | apply Wf.fI | apply Wf.fr); (repeat (with_reducible first | assumption | apply Wf.wI | apply Wf.wL | apply Wf.fL | apply Wf.fI | apply Wf.fr)))) only [ck_82, gI_82, gL_82, pI_82, pZ0_82, pZ1_82, pL_82, gR_82_0, gR_82_1, pR_82_2, gR_82_2, ck_83, gI_83, gL_83, pI_83, pZ0_83, pZ1_83, pL_83, gR_83_0, gR_83_1, gR_83_2, gR_83_3, gR_83_4, bq_n, bd_s, mp_s, rz_0, rz_1, bI_rz, hr]
  by_cases z : tS (tks T n i) = 1
  · rw [if_pos (hk.nam.mpr z), hk.vnam z, ef]
    simp (disch := first | (with_reducible assumption) | omega | exact ⟨by omega, by omega⟩ | ((with_reducible first | apply Wf.wI | apply Wf.wL | apply Wf.fL | apply Wf.fI | apply Wf.fr); (repeat (with_reducible first | assumption | apply Wf.wI | apply Wf.wL | apply Wf.fL | apply Wf.fI | apply Wf.fr)))) only [bq_n, bd_s, mp_s, rz_0, rz_1, bI_rz, ck_82, gI_82, gL_82, pI_82, pZ0_82, pZ1_82, pL_82, gR_82_0, gR_82_1, pR_82_2, gR_82_2]
    by_cases y : fnd (E 228) (nI (tV (tks T n i))) 0 (nC E) = mI 1
    · rw [if_pos y]
      obtain ⟨τ, w1, w2, w3⟩ := c_fail h (f := 4)
      refine ⟨τ, w2, ?_⟩
      rw [eS, if_pos z, if_pos y, w1, y]
      simp only [bq_n, bd_s, mp_s, rz_0, rz_1, bI_rz]
      exact ⟨rfl, w3⟩
    · rw [if_neg y]
      refine ⟨σ, Fr.rfl, ?_⟩
      rw [eS, if_pos z, if_neg y, eV, if_pos ⟨z, y⟩]
      obtain ⟨c, c1, c2, -⟩ := fnd_ix (by omega) y
      rw [c2, ix_nI (by omega)]
      exact ⟨rfl, h⟩
  · rw [if_neg (fun w => z (hk.nam.mp w))]
    obtain ⟨τ, w1, w2, w3⟩ := c_fail h (f := 1)
    refine ⟨τ, w2, ?_⟩
    rw [eS, if_neg z, w1]
    simp only [bq_n, bd_s, mp_s, rz_0, rz_1, bI_rz]
    exact ⟨rfl, w3⟩
theorem nI_ne1 {v : Nat} (h : v < 2147483648) : nI v ≠ mI 1 := by
  intro z
  have := congrArg Int32.toInt z
  rw [nI_t h, mI_t (by omega)] at this
  omega
theorem c_corN (h : CAt σ T n N i) (hT : TR σ t E) (hr : ah_R σ 82 2 = some t) : ∃ τ, Fr Xrn σ τ ∧ CNo (f_X7_readCornerName 82 σ) τ T n N (sGo (sCorS (tks T n) (i, none) (E 228) (nC E))) (sCorV (tks T n) (i, none) (E 228) (nC E)) := by
  have hW := h.w
  have b0 : nC E ≤ 7 := hT.2.2.1.1.1.2
  obtain ⟨τ, a1, a2⟩ := c_cor h hT hr
  have hsc := sCor_n (k := tks T n) (s := (i, none)) (g := E 228) (m := nC E)
  have hsv := sCor_v (k := tks T n) (s := (i, none)) (g := E 228) (m := nC E) b0
  generalize hS : sCorS (tks T n) (i, none) (E 228) (nC E) = S at *
  generalize hV : sCorV (tks T n) (i, none) (E 228) (nC E) = V at *
  unfold f_X7_readCornerName f_X7_readCornerName_0
  simp only [to_bq, l_0, l_1, l_2, l_3, l_4, l_5, l_6, l_7, l_8, l_9, l_10, l_11, l_12, l_13, l_14, l_15, l_16, l_17, l_18, l_19, l_20, l_21, l_22, l_23, l_24, l_25, l_26, l_27, l_28, l_29, l_30, l_31, l_32, l_40, l_41, l_42, l_43, l_44, l_45, l_46, l_47, l_48, l_49, l_50, l_51, l_52, l_53, l_54, l_55, l_56, l_57, l_58, l_59, l_60, l_61, l_62, l_63, l_64, l_72, l_97, l_99, l_100, l_104, l_120, l_122, l_128, l_140, l_255, l_256, l_257, l_258, l_260, l_261, l_262, l_364, l_680, l_700, l_701, l_840, l_999, l_1023, l_1024, l_9999, l_10000, l_1000000, lm]
  simp (disch := first | (with_reducible assumption) | omega | exact ⟨by omega, by omega⟩ | ((with_reducible first | apply Wf.wI | apply Wf.wL | apply Wf.fL | apply Wf.fI | apply Wf.fr); (repeat (with_reducible first | assumption | apply Wf.wI | apply Wf.wL | apply Wf.fL | apply Wf.fI | apply Wf.fr)))) only [ck_82, gI_82, gL_82, pI_82, pZ0_82, pZ1_82, pL_82, gR_82_0, gR_82_1, pR_82_2, gR_82_2]
  obtain ⟨i1, _ | ⟨f, j⟩⟩ := S
  · obtain ⟨a2, a3⟩ := a2
    obtain ⟨-, w2, w3, -⟩ := hsc rfl
    have hV := (hsv rfl).1
    have w2 : i1 = i := congrArg (fun x : LnS => x.1) w2
    have w3 : tS (tks T n i) = 1 := w3
    obtain ⟨υ, u1, u2, u3⟩ := c_step a3 (by rw [w2]; omega)
    have aW := a3.w
    refine ⟨υ, a1.trans (u2.mono Xs8_r), ?_, u3⟩
    rw [a2]
    simp (disch := first | (with_reducible assumption) | omega | exact ⟨by omega, by omega⟩ | ((with_reducible first | apply Wf.wI | apply Wf.wL | apply Wf.fL | apply Wf.fI | apply Wf.fr); (repeat (with_reducible first | assumption | apply Wf.wI | apply Wf.wL | apply Wf.fL | apply Wf.fI | apply Wf.fr)))) only [bq_n, bd_s, mp_s, rz_0, rz_1, bI_rz]
    rw [if_neg (nI_ne1 (by omega))]
    simp (disch := first | (with_reducible assumption) | omega | exact ⟨by omega, by omega⟩ | ((with_reducible first | apply Wf.wI | apply Wf.wL | apply Wf.fL | apply Wf.fI | apply Wf.fr); (repeat (with_reducible first | assumption | apply Wf.wI | apply Wf.wL | apply Wf.fL | apply Wf.fI | apply Wf.fr)))) only [ck_82, gI_82, gL_82, pI_82, pZ0_82, pZ1_82, pL_82, gR_82_0, gR_82_1, pR_82_2, gR_82_2, bq_n, bd_s, mp_s, rz_0, rz_1, bI_rz]
    rw [u1]
    simp only [bq_n, bd_s, mp_s, rz_0, rz_1, bI_rz]
  · obtain ⟨a2, a3⟩ := a2
    refine ⟨τ, a1, ?_, a3⟩
    rw [a2]
    simp (disch := first | (with_reducible assumption) | omega | exact ⟨by omega, by omega⟩ | ((with_reducible first | apply Wf.wI | apply Wf.wL | apply Wf.fL | apply Wf.fI | apply Wf.fr); (repeat (with_reducible first | assumption | apply Wf.wI | apply Wf.wL | apply Wf.fL | apply Wf.fI | apply Wf.fr)))) only [bq_n, bd_s, mp_s, rz_0, rz_1, bI_rz]
    rw [if_pos trivial]
def Xin (a k : Nat) (x y : Nat) : Prop := Xrn x y ∨ x = a ∧ y = k
theorem sNum_v {k : Nat → TK} {s : LnS} {lo hi : Nat} (h : lo ≤ 9999) (h2 : hi ≤ 9999) : sNumV k s lo hi ≤ 9999 := by
  obtain ⟨i, _ | x⟩ := s
  · show (if _ then _ else lo) ≤ 9999
    split
    · rename_i z; omega
    · exact h
  · exact h
theorem CFl.fr {X : Nat → Nat → Prop} {f j : Nat} (h : CFl σ T n f j) (g : Fr X σ τ) (hX : ¬ X 82 3 ∧ ¬ X 82 4) : CFl τ T n f j := ⟨h.1.fr g, (g.I hX.1).trans h.2.1, (g.I hX.2).trans h.2.2⟩
theorem c_into (h : CAt σ T n N i) {a k L lo hi : Nat} (ha : a < 82 ∨ 88 < a) (hk : k < L) (hL : L ≤ 100) (hlo : lo ≤ 9999) (hhi : hi ≤ 9999) (ql : ∀ σ, Wf σ → op_len .int σ a = some L) (qs : ∀ σ v, Wf σ → op_sI σ a (nI k) v = some (ah_wI σ a k v)) (qa : ∀ σ, Wf σ → op_aI σ a (nI k) = some (ah_I σ a k)) : ∃ τ, Fr (Xin a k) σ τ ∧ CYo (f_X7_readInto 82 a (nI k) (nI lo) (nI hi) σ) τ T n N (sNumS (tks T n) (i, none) lo hi) ∧ ((sNumS (tks T n) (i, none) lo hi).2 = none → ah_I τ a k = nI (sNumV (tks T n) (i, none) lo hi)) := by
  have hW := h.w
  obtain ⟨τ, a1, a2⟩ := c_num h hlo hhi
  have hvb := sNum_v (k := tks T n) (s := (i, none)) hlo hhi
  generalize hS : sNumS (tks T n) (i, none) lo hi = S at *
  generalize hV : sNumV (tks T n) (i, none) lo hi = V at *
  have hd : f_X7_readInto 82 a (nI k) (nI lo) (nI hi) σ = (f_X7_readNumber 82 (nI lo) (nI hi) σ).bind fun r2 => (op_sI r2.2 a (nI k) r2.1).bind fun σ3 => (op_aI σ3 a (nI k)).bind fun v4 => if v4 = mI 1 then ((op_rz (nI 0)).map fun q => (q, σ3)) else ((op_rz (nI 1)).map fun q => (q, σ3)) := by
    unfold f_X7_readInto f_X7_readInto_0
    rw [ck_82 hW, ql _ hW, if_neg (by rw [l_0, lt_nI (by omega) (by omega)]; omega)]
    rw [bd_s, if_pos (show nI k < Int32.ofNat L from (show nI k < nI L by rw [lt_nI (by omega) (by omega)]; exact hk))]
    rfl
  rw [hd]
  obtain ⟨i1, _ | ⟨f, j⟩⟩ := S
  · obtain ⟨a2, a3⟩ := a2
    have aW := a3.w
    refine ⟨ah_wI τ a k (nI V), (a1.mono (fun x y z => Or.inl z)).wI (Or.inr ⟨rfl, rfl⟩), ⟨?_, a3.fr (X := fun x y => x = a ∧ y = k) (Fr.rfl.wI ⟨rfl, rfl⟩) (fun x y z q => by omega)⟩, fun _ => rI_eq⟩
    rw [a2, bd_s, qs _ _ aW, bd_s, qa _ (aW.wI _ _ _), bd_s, rI_eq, if_neg (nI_ne1 (by omega)), rz_1]
    rfl
  · obtain ⟨a2, a3⟩ := a2
    have aW := a3.1
    refine ⟨ah_wI τ a k (mI 1), (a1.mono (fun x y z => Or.inl z)).wI (Or.inr ⟨rfl, rfl⟩), ⟨?_, a3.fr (X := fun x y => x = a ∧ y = k) (Fr.rfl.wI ⟨rfl, rfl⟩) (by omega)⟩, fun w => nomatch w⟩
    rw [a2, bd_s, qs _ _ aW, bd_s, qa _ (aW.wI _ _ _), bd_s, rI_eq, if_pos rfl, rz_0]
    rfl
theorem c_opt (h : CAt σ T n N i) (hv : TVb (tks T n i)) {a k L w hi d : Nat} (hw : w < 15) (ha : a < 82 ∨ 88 < a) (hk : k < L) (hL : L ≤ 100) (hhi : hi ≤ 9999) (ql : ∀ σ, Wf σ → op_len .int σ a = some L) (qs : ∀ σ v, Wf σ → op_sI σ a (nI k) v = some (ah_wI σ a k v)) (qa : ∀ σ, Wf σ → op_aI σ a (nI k) = some (ah_I σ a k)) : ∃ τ, Fr (Xin a k) σ τ ∧ CYo (f_X7_readOption 82 (nI w) a (nI k) (nI hi) (nI d) σ) τ T n N (sOptS (tks T n) (i, none) w hi) ∧ ((sOptS (tks T n) (i, none) w hi).2 = none → ah_I τ a k = nI (sOptV (tks T n) (i, none) w hi d)) := by
  have hW := h.w
  have ik := c_isKey h hv (k := w) (by omega)
  have hd : f_X7_readOption 82 (nI w) a (nI k) (nI hi) (nI d) σ = (f_X8_isKey 83 (nI w) σ).bind fun r3 => if r3.1 = nI 0 then ((op_sI r3.2 a (nI k) (nI d)).bind fun σ7 => (op_rz (nI 1)).map fun q => (q, σ7)) else ((op_gR 7 0 r3.2 82).bind fun v4 => (f_X8_step v4 r3.2).bind fun r5 => (f_X7_readInto 82 a (nI k) (nI 0) (nI hi) r5).bind fun r6 => (op_rz r6.1).map fun q => (q, r6.2)) := by
    unfold f_X7_readOption f_X7_readOption_0
    rw [ck_82 hW, ql _ hW, if_neg (by rw [l_0, lt_nI (by omega) (by omega)]; omega)]
    rw [bd_s, if_pos (show nI k < Int32.ofNat L from (show nI k < nI L by rw [lt_nI (by omega) (by omega)]; exact hk)), gR_82_0 hW]
    rfl
  rw [hd, ik, bd_s]
  by_cases z : tS (tks T n i) = 0 ∧ tV (tks T n i) = w
  · have z' : tS (tks T n i) = 0 ∧ ckw (tV (tks T n i)) = w := ⟨z.1, by unfold ckw; rw [z.2, if_pos hw]⟩
    have eS : sOptS (tks T n) (i, none) w hi = sNumS (tks T n) (i + 1, none) 0 hi := if_pos ⟨rfl, z⟩
    have eV : sOptV (tks T n) (i, none) w hi d = sNumV (tks T n) (i + 1, none) 0 hi := if_pos ⟨rfl, z⟩
    obtain ⟨σ1, w1, w2, w3⟩ := c_step h (by omega)
    obtain ⟨τ, u1, u2, u3⟩ := c_into w3 (a := a) (k := k) (L := L) (lo := 0) (hi := hi) ha hk hL (by omega) hhi ql qs qa
    rw [eS, eV, if_neg (show ¬ cI (tS (tks T n i) = 0 ∧ ckw (tV (tks T n i)) = w) = nI 0 by rw [cI_t z']; decide), gR_82_0 hW, bd_s, w1, bd_s]
    refine ⟨τ, (w2.mono (fun x y z => Or.inl (Xs8_r x y z))).trans u1, ?_, u3⟩
    generalize sNumS (tks T n) (i + 1, none) 0 hi = S at *
    obtain ⟨i1, _ | ⟨f, j⟩⟩ := S
    · exact ⟨by rw [u2.1, bd_s, rz_1]; rfl, u2.2⟩
    · exact ⟨by rw [u2.1, bd_s, rz_0]; rfl, u2.2⟩
  · have z' : ¬ (tS (tks T n i) = 0 ∧ ckw (tV (tks T n i)) = w) := fun q => z ⟨q.1, by
      have := q.2
      unfold ckw at this
      split at this
      · exact this
      · split at this
        · omega
        · omega⟩
    have eS : sOptS (tks T n) (i, none) w hi = (i, none) := if_neg (fun q => z q.2)
    have eV : sOptV (tks T n) (i, none) w hi d = d := if_neg (fun q => z q.2)
    rw [eS, eV, if_pos (cI_f z'), qs _ _ hW, bd_s, rz_1]
    exact ⟨ah_wI σ a k (nI d), Fr.rfl.wI (Or.inr ⟨rfl, rfl⟩), ⟨rfl, h.fr (X := fun x y => x = a ∧ y = k) (Fr.rfl.wI ⟨rfl, rfl⟩) (fun x y z q => by omega)⟩, fun _ => rI_eq⟩
end
