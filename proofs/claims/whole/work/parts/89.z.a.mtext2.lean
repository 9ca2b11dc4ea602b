/-! TEXT OF THE REFERENCE: all of it -/
section
variable {σ τ : ah_H} {n i N : Nat} {E D D' : DD} {td : Nat} {o : List (Nat × Nat)}
def tpT (D : DD) (j : Nat) : Nat := ix (D 226 j)
theorem stps_k (e4 : ∀ j, j < nK E → D' 244 j = E 244 j ∧ D' 245 j = E 245 j) : ∀ k i m, i + k ≤ nK E → stps D' i k m = stps E i k m := by
  intro k
  induction k with
  | zero => intro i m _; rfl
  | succ k ih =>
    intro i m h
    have e1 : ∀ D : DD, stps D i (k + 1) m = (stp (D 244 i) (D 245 i) m).bind (stps D (i + 1) k) := fun D => rfl
    rw [e1, e1, (e4 i (by omega)).1, (e4 i (by omega)).2]
    congr 1
    funext m'
    exact ih (i + 1) m' (by omega)
theorem MT.ck (h : MT E) (e : ∀ a, 227 ≤ a → a ≤ 243 → D' a = E a) (e4 : ∀ j, j < nK E → D' 244 j = E 244 j ∧ D' 245 j = E 245 j) : MT D' := by
  obtain ⟨h1, h2, h3, h4, h5, h6, h7⟩ := h
  have r227 := e 227 (by omega) (by omega)
  have eC : nC D' = nC E := by unfold nC; rw [r227]
  have eS : nS D' = nS E := by unfold nS; rw [r227]
  have eP : nP D' = nP E := by unfold nP; rw [r227]
  have eR : nR D' = nR E := by unfold nR; rw [r227]
  have eK : nK D' = nK E := by unfold nK; rw [r227]
  refine ⟨?_, fun c hc => ?_, fun s hs => ?_, fun p hp => ?_, fun r hr => ?_, fun i hi => ?_, fun k hk => ?_⟩
  · unfold MB1 nC lf mf lc mc at *
    rw [r227]; exact h1
  · have := h2 c (eC ▸ hc)
    unfold MBc at *
    rw [e 229 (by omega) (by omega), e 230 (by omega) (by omega), e 231 (by omega) (by omega)]; exact this
  · have := h3 s (eS ▸ hs)
    unfold MBs sA sB len at *
    rw [eC, e 232 (by omega) (by omega), e 233 (by omega) (by omega), e 234 (by omega) (by omega), e 235 (by omega) (by omega), e 236 (by omega) (by omega)]; exact this
  · have := h4 p (eP ▸ hp)
    unfold MBp wid at *
    rw [e 237 (by omega) (by omega), e 238 (by omega) (by omega)]; exact this
  · have := h5 r (eR ▸ hr)
    unfold MBr rnh at *
    rw [e 240 (by omega) (by omega), e 241 (by omega) (by omega)]; exact this
  · have hi : i < nK E := eK ▸ hi
    rw [(e4 i hi).1, (e4 i hi).2]; exact h6 i hi
  · have := h7 k hk
    unfold LawOK at *
    rw [eK, e 242 (by omega) (by omega), e 243 (by omega) (by omega)]
    exact ⟨this.1, this.2.1, this.2.2.1, this.2.2.2.1, fun z => by rw [stps_k e4 _ _ _ (by omega)]; exact this.2.2.2.2 z⟩
theorem TR.ck {t : Nat} (h : TR σ t E) (e : ∀ a, 227 ≤ a → a ≤ 243 → D' a = E a) (e4 : ∀ j, j < nK E → D' 244 j = E 244 j ∧ D' 245 j = E 245 j) : TR σ t D' := by
  obtain ⟨h1, h2, h3, h4, h5⟩ := h
  have r227 := e 227 (by omega) (by omega)
  have eK : nK D' = nK E := by unfold nK; rw [r227]
  refine ⟨h1, h2, h3.ck e e4, ?_, ?_⟩
  · unfold TF nC nS nP nR ct lf mf lc mc nK at *
    rw [r227]; exact h4
  · obtain ⟨q1, q2, q3, q4, q5, q6⟩ := h5
    refine ⟨?_, ?_, ?_, ?_, ?_, ?_⟩
    · unfold nC hgt are rck at *
      rw [r227, e 228 (by omega) (by omega), e 229 (by omega) (by omega), e 230 (by omega) (by omega), e 231 (by omega) (by omega)]; exact q1
    · unfold nS sA sB len hrs rsk at *
      rw [r227, e 232 (by omega) (by omega), e 233 (by omega) (by omega), e 234 (by omega) (by omega), e 235 (by omega) (by omega), e 236 (by omega) (by omega)]; exact q2
    · unfold nP wid pri at *
      rw [r227, e 237 (by omega) (by omega), e 238 (by omega) (by omega)]; exact q3
    · unfold nR rnh rnv at *
      rw [r227, e 239 (by omega) (by omega), e 240 (by omega) (by omega), e 241 (by omega) (by omega)]; exact q4
    · unfold lfr lto at *
      rw [e 242 (by omega) (by omega), e 243 (by omega) (by omega)]; exact q5
    · intro i hi
      have hi : i < nK E := eK ▸ hi
      rw [(e4 i hi).1, (e4 i hi).2]; exact q6 i hi
/-- what a text that is taken leaves -/
def dTx (D E hp : DD) : DD := fun a j => if 227 ≤ a ∧ a ≤ 243 then E a j else if a = 244 ∨ a = 245 then (if j < nK E then E a j else hp a j) else if a = 248 then mI 1 else if a = 225 then (if j = 32 then mI 1 else nI 0) else D a j
/-- what a text with a fault leaves -/
def dTf (D : DD) (f p : Nat) : DD := fun a j => if a = 225 ∧ j = 2 then nI 0 else if a = 225 ∧ j = 31 then nI f else if a = 225 ∧ j = 32 then nI p else D a j
theorem dTx_t {hp : DD} : ∀ a, 227 ≤ a → a ≤ 243 → dTx D E hp a = E a := fun a h1 h2 => funext fun j => if_pos ⟨h1, h2⟩
theorem dTx_k {hp : DD} : ∀ j, j < nK E → dTx D E hp 244 j = E 244 j ∧ dTx D E hp 245 j = E 245 j := fun j hj => by
  unfold dTx
  rw [if_neg (by omega), if_pos (by omega), if_pos hj, if_neg (by omega), if_pos (by omega), if_pos hj]
  exact ⟨rfl, rfl⟩
theorem dTx_o {hp : DD} {a j : Nat} (h : ¬ (227 ≤ a ∧ a ≤ 245)) (h2 : a ≠ 248) (h3 : a ≠ 225) : dTx D E hp a j = D a j := by
  unfold dTx; rw [if_neg (by omega), if_neg (by omega), if_neg h2, if_neg h3]
theorem dTx_5 {hp : DD} {j : Nat} : dTx D E hp 225 j = if j = 32 then mI 1 else nI 0 := by
  unfold dTx; rw [if_neg (by omega), if_neg (by omega), if_neg (by omega), if_pos rfl]
theorem dTx_8 {hp : DD} {j : Nat} : dTx D E hp 248 j = mI 1 := by
  unfold dTx; rw [if_neg (by omega), if_neg (by omega), if_pos rfl]
theorem dTf_o {f p a : Nat} (h : a ≠ 225) : dTf D f p a = D a := funext fun j => by
  unfold dTf; rw [if_neg (by omega), if_neg (by omega), if_neg (by omega)]
theorem dTf_n {f p j : Nat} (h : j ≠ 2 ∧ j ≠ 31 ∧ j ≠ 32) : dTf D f p 225 j = D 225 j := by
  unfold dTf; rw [if_neg (by omega), if_neg (by omega), if_neg (by omega)]
theorem dTf_T {f p : Nat} : SameT (dTf D f p) D := fun a h1 h2 => dTf_o (by omega)
theorem MB_dTf (h : MB D) {f p : Nat} : MB (dTf D f p) := by
  obtain ⟨h0, ⟨h1, h2, h3, h4, h5⟩, h6, h7⟩ := h
  refine ⟨dTf_T.mt h0, ⟨?_, ?_, ?_, ?_, ?_⟩, ?_, ?_⟩
  · rw [dTf_o (by omega), dTf_o (by omega), dTf_o (by omega), dTf_o (by omega)]; exact dTf_T.net h1
  · rw [dTf_n (by omega)]; exact h2
  · unfold km
    rw [dTf_n (by omega), dTf_o (by omega), dTf_o (by omega), dTf_o (by omega), dTf_o (by omega)]
    exact fun i hi => dTf_T.net (h3 i hi)
  · rw [dTf_n (by omega)]; exact h4
  · rw [dTf_n (by omega), dTf_o (by omega), dTf_o (by omega), dTf_o (by omega), dTf_o (by omega)]; exact fun z => dTf_T.net (h5 z)
  · unfold dTf; rw [if_pos ⟨rfl, rfl⟩]; exact ⟨by decide, by decide⟩
  · rw [dTf_o (by omega)]; exact h7
theorem MN_dTx {hp : DD} : MN (dTx D E hp) := by
  have e52 : dTx D E hp 225 52 = nI 0 := by rw [dTx_5, if_neg (by omega)]
  have e57 : dTx D E hp 225 57 = nI 0 := by rw [dTx_5, if_neg (by omega)]
  refine ⟨fun c hc => Or.inl dTx_8, ?_, ?_, ?_, ?_⟩
  · rw [e52]; exact ⟨by decide, by decide⟩
  · unfold km; rw [e52]; intro i hi; exact absurd hi (Nat.not_lt_zero i)
  · rw [e57]; exact Or.inl rfl
  · rw [e57]; intro z; exact absurd z (by decide)
theorem MB_dTx (h : MB D) {hp : DD} (ht : MT E) : MB (dTx D E hp) := by
  refine ⟨ht.ck dTx_t dTx_k, MN_dTx, ?_, ?_⟩
  · rw [dTx_5, if_neg (by omega)]; exact ⟨by decide, by decide⟩
  · intro j hj; rw [dTx_o (by omega) (by omega) (by omega)]; exact h.2.2.2 j hj
/-- the reference gets ready for a text -/
theorem m_init (h : MInv σ D) (hn : n ≤ tpd D) (hE : IsE0 E) (hE2 : ∀ a j, 228 ≤ a → a ≤ 241 → j < hf a → E a j = ah_I σ a (hf a + j)) : ∃ ρ, f_X12_text 225 (nI n) σ = f_X12_text_179 5000 225 ρ ∧ Fr Xti σ ρ ∧ RLs ρ (tpT D) n 0 E 0 [] ∧ ah_I ρ 225 23 = nI 0 ∧ ah_I ρ 225 2 = nI 0 := by
  have hW := h.w
  obtain ⟨q2, q7⟩ := h.2.1.qtp
  have v2 : ah_I σ 225 2 = nI (tpd D) := (h.at (Or.inl ⟨rfl, by omega⟩)).trans q2
  have x5 : ∀ a j, a = 225 ∧ (j = 0 ∨ j = 2 ∨ 22 ≤ j ∧ j ≤ 34) → Xti a j := fun a j z => Or.inl z
  generalize hS : ah_wI (ah_wI (ah_wI (ah_wI (ah_wI (ah_wI σ 225 0 (nI 0)) 225 24 (nI n)) 225 2 (nI 0)) 225 25 (nI 0)) 225 29 (nI 0)) 225 30 (mI 1) = σ7
  have g7 : Fr (fun a j => a = 225 ∧ (j = 0 ∨ j = 2 ∨ 22 ≤ j ∧ j ≤ 34)) σ σ7 := by
    rw [← hS]
    exact (((((Fr.rfl.wI (by omega)).wI (by omega)).wI (by omega)).wI (by omega)).wI (by omega)).wI (by omega)
  have w24 : ah_I σ7 225 24 = nI n := by rw [← hS]; simp (disch := first | (with_reducible assumption) | omega | exact ⟨by omega, by omega⟩ | ((with_reducible first | apply Wf.wI | apply Wf.wL | apply Wf.fL | apply Wf.fI | apply Wf.fr); (repeat (with_reducible first | assumption | apply Wf.wI | apply Wf.wL | apply Wf.fL | apply Wf.fI | apply Wf.fr)))) only [rI_ne, rI_eq, rL_ne, rL_eq, ah_I_wL, ah_L_wI, ah_R_wI, ah_R_wL, ah_I_wR, ah_L_wR, rR_ne, rR_eq]
  have w2 : ah_I σ7 225 2 = nI 0 := by rw [← hS]; simp (disch := first | (with_reducible assumption) | omega | exact ⟨by omega, by omega⟩ | ((with_reducible first | apply Wf.wI | apply Wf.wL | apply Wf.fL | apply Wf.fI | apply Wf.fr); (repeat (with_reducible first | assumption | apply Wf.wI | apply Wf.wL | apply Wf.fL | apply Wf.fI | apply Wf.fr)))) only [rI_ne, rI_eq, rL_ne, rL_eq, ah_I_wL, ah_L_wI, ah_R_wI, ah_R_wL, ah_I_wR, ah_L_wR, rR_ne, rR_eq]
  have w25 : ah_I σ7 225 25 = nI 0 := by rw [← hS]; simp (disch := first | (with_reducible assumption) | omega | exact ⟨by omega, by omega⟩ | ((with_reducible first | apply Wf.wI | apply Wf.wL | apply Wf.fL | apply Wf.fI | apply Wf.fr); (repeat (with_reducible first | assumption | apply Wf.wI | apply Wf.wL | apply Wf.fL | apply Wf.fI | apply Wf.fr)))) only [rI_ne, rI_eq, rL_ne, rL_eq, ah_I_wL, ah_L_wI, ah_R_wI, ah_R_wL, ah_I_wR, ah_L_wR, rR_ne, rR_eq]
  have w29 : ah_I σ7 225 29 = nI 0 := by rw [← hS]; simp (disch := first | (with_reducible assumption) | omega | exact ⟨by omega, by omega⟩ | ((with_reducible first | apply Wf.wI | apply Wf.wL | apply Wf.fL | apply Wf.fI | apply Wf.fr); (repeat (with_reducible first | assumption | apply Wf.wI | apply Wf.wL | apply Wf.fL | apply Wf.fI | apply Wf.fr)))) only [rI_ne, rI_eq, rL_ne, rL_eq, ah_I_wL, ah_L_wI, ah_R_wI, ah_R_wL, ah_I_wR, ah_L_wR, rR_ne, rR_eq]
  have w30 : ah_I σ7 225 30 = mI 1 := by rw [← hS]; simp (disch := first | (with_reducible assumption) | omega | exact ⟨by omega, by omega⟩ | ((with_reducible first | apply Wf.wI | apply Wf.wL | apply Wf.fL | apply Wf.fI | apply Wf.fr); (repeat (with_reducible first | assumption | apply Wf.wI | apply Wf.wL | apply Wf.fL | apply Wf.fI | apply Wf.fr)))) only [rI_ne, rI_eq, rL_ne, rL_eq, ah_I_wL, ah_L_wI, ah_R_wI, ah_R_wL, ah_I_wR, ah_L_wR, rR_ne, rR_eq]
  have hW7 := hW.fr g7
  obtain ⟨υ1, a1, a2, a3⟩ := m_47 12 0 5000 σ7 (by omega) (by omega) hW7 (fun j hj => by omega)
  have hW1 := hW7.fr a2
  obtain ⟨υ2, b1, b2, b3⟩ := m_129 3 3 5000 υ1 (by omega) (by omega) (by omega) hW1 (fun j h1 h2 => by omega)
  have hW2 := hW1.fr b2
  generalize hS3 : ah_wI (ah_wI (ah_wI (ah_wI υ2 225 22 (nI 0)) 225 23 (nI 0)) 225 33 (nI 0)) 225 34 (nI 0) = υ3
  have c2 : Fr (fun a j => a = 225 ∧ (j = 22 ∨ j = 23 ∨ j = 33 ∨ j = 34)) υ2 υ3 := by
    rw [← hS3]
    exact (((Fr.rfl.wI (by omega)).wI (by omega)).wI (by omega)).wI (by omega)
  have w22 : ah_I υ3 225 22 = nI 0 := by rw [← hS3]; simp (disch := first | (with_reducible assumption) | omega | exact ⟨by omega, by omega⟩ | ((with_reducible first | apply Wf.wI | apply Wf.wL | apply Wf.fL | apply Wf.fI | apply Wf.fr); (repeat (with_reducible first | assumption | apply Wf.wI | apply Wf.wL | apply Wf.fL | apply Wf.fI | apply Wf.fr)))) only [rI_ne, rI_eq, rL_ne, rL_eq, ah_I_wL, ah_L_wI, ah_R_wI, ah_R_wL, ah_I_wR, ah_L_wR, rR_ne, rR_eq]
  have w23 : ah_I υ3 225 23 = nI 0 := by rw [← hS3]; simp (disch := first | (with_reducible assumption) | omega | exact ⟨by omega, by omega⟩ | ((with_reducible first | apply Wf.wI | apply Wf.wL | apply Wf.fL | apply Wf.fI | apply Wf.fr); (repeat (with_reducible first | assumption | apply Wf.wI | apply Wf.wL | apply Wf.fL | apply Wf.fI | apply Wf.fr)))) only [rI_ne, rI_eq, rL_ne, rL_eq, ah_I_wL, ah_L_wI, ah_R_wI, ah_R_wL, ah_I_wR, ah_L_wR, rR_ne, rR_eq]
  have w33 : ah_I υ3 225 33 = nI 0 := by rw [← hS3]; simp (disch := first | (with_reducible assumption) | omega | exact ⟨by omega, by omega⟩ | ((with_reducible first | apply Wf.wI | apply Wf.wL | apply Wf.fL | apply Wf.fI | apply Wf.fr); (repeat (with_reducible first | assumption | apply Wf.wI | apply Wf.wL | apply Wf.fL | apply Wf.fI | apply Wf.fr)))) only [rI_ne, rI_eq, rL_ne, rL_eq, ah_I_wL, ah_L_wI, ah_R_wI, ah_R_wL, ah_I_wR, ah_L_wR, rR_ne, rR_eq]
  have w34 : ah_I υ3 225 34 = nI 0 := by rw [← hS3]; simp (disch := first | (with_reducible assumption) | omega | exact ⟨by omega, by omega⟩ | ((with_reducible first | apply Wf.wI | apply Wf.wL | apply Wf.fL | apply Wf.fI | apply Wf.fr); (repeat (with_reducible first | assumption | apply Wf.wI | apply Wf.wL | apply Wf.fL | apply Wf.fI | apply Wf.fr)))) only [rI_ne, rI_eq, rL_ne, rL_eq, ah_I_wL, ah_L_wI, ah_R_wI, ah_R_wL, ah_I_wR, ah_L_wR, rR_ne, rR_eq]
  have hW3 := hW2.fr c2
  have f5 : ∀ j, j ≠ 22 → j ≠ 23 → j ≠ 33 → j ≠ 34 → ah_I υ3 225 j = ah_I σ7 225 j := fun j y1 y2 y3 y4 => by rw [c2.I (by omega), b2.I (by omega), a2.I (by omega)]
  have hL : LxR υ3 (tpT D) n := by
    refine ⟨hW3, by omega, (f5 24 (by omega) (by omega) (by omega) (by omega)).trans w24, fun j hj => ?_, (f5 30 (by omega) (by omega) (by omega) (by omega)).trans w30⟩
    obtain ⟨d1, d2⟩ := h.2.1.2.2.2 j hj
    refine ⟨?_, d2⟩
    rw [c2.I (by omega), b2.I (by omega), a2.I (by omega), g7.I (by omega), h.at (Or.inr (Or.inl rfl))]
    exact d1
  obtain ⟨ρ, d1, d2, d3⟩ := m_tok0 hL ((f5 25 (by omega) (by omega) (by omega) (by omega)).trans w25)
  have d5 : ∀ a j, ¬ (a = 225 ∧ 25 ≤ j ∧ j ≤ 28) → ah_I ρ a j = ah_I υ3 a j := fun a j z => d2.I z
  refine ⟨ρ, ?_, ?_, ⟨⟨d3, ?_⟩, ?_, ?_, hE.ln, ?_, ?_, fun j hj => absurd hj (Nat.not_lt_zero j)⟩, ?_, ?_⟩
  · unfold f_X12_text f_X12_text_0
    simp only [to_bq, l_0, l_1, l_2, l_3, l_4, l_5, l_6, l_7, l_8, l_9, l_10, l_11, l_12, l_13, l_14, l_15, l_16, l_17, l_18, l_19, l_20, l_21, l_22, l_23, l_24, l_25, l_26, l_27, l_28, l_29, l_30, l_31, l_32, l_40, l_41, l_42, l_43, l_44, l_45, l_46, l_47, l_48, l_49, l_50, l_51, l_52, l_53, l_54, l_55, l_56, l_57, l_58, l_59, l_60, l_61, l_62, l_63, l_64, l_72, l_97, l_99, l_100, l_104, l_120, l_122, l_128, l_140, l_255, l_256, l_257, l_258, l_260, l_261, l_262, l_364, l_680, l_700, l_701, l_840, l_999, l_1023, l_1024, l_9999, l_10000, l_1000000, lm]
    simp (disch := first | (with_reducible assumption) | omega | exact ⟨by omega, by omega⟩ | ((with_reducible first | apply Wf.wI | apply Wf.wL | apply Wf.fL | apply Wf.fI | apply Wf.fr); (repeat (with_reducible first | assumption | apply Wf.wI | apply Wf.wL | apply Wf.fL | apply Wf.fI | apply Wf.fr)))) only [ck_225, gI_225, gL_225, pI_225, pZ0_225, pZ1_225, pL_225, gR_225_1, gR_225_3, gR_225_4, gR_225_5, gR_225_6, gR_225_7, gR_225_8, gR_225_9, gR_225_10, gR_225_11, gR_225_12, gR_225_13, gR_225_14, gR_225_15, gR_225_16, gR_225_17, gR_225_18, gR_225_19, gR_225_20, gR_225_21, gR_225_35, gR_225_36, gR_225_38, gR_225_39, gR_225_40, gR_225_41, gR_225_43, gR_225_44, gR_225_45, gR_225_48, gR_225_49, gR_225_50, gR_225_51, gR_225_53, gR_225_54, gR_225_55, gR_225_56, gR_225_58, gR_225_59, gR_225_60, gR_225_61, gR_225_62, gR_225_63, gR_225_66, gR_225_67, bq_n, bd_s, mp_s, rz_0, rz_1, bI_rz, rI_ne, rI_eq, rL_ne, rL_eq, ah_I_wL, ah_L_wI, ah_R_wI, ah_R_wL, ah_I_wR, ah_L_wR, rR_ne, rR_eq, v2, hS]
    rw [if_neg (by rw [lt_nI (by omega) (by omega)]; omega), if_pos (by rw [le_nI (by omega) (by omega)]; exact hn), a1]
    unfold f_X12_text_127
    rw [show (3 : Int32) = nI 3 from l_3, b1]
    unfold f_X12_text_155
    simp only [to_bq, l_0, l_1, l_2, l_3, l_4, l_5, l_6, l_7, l_8, l_9, l_10, l_11, l_12, l_13, l_14, l_15, l_16, l_17, l_18, l_19, l_20, l_21, l_22, l_23, l_24, l_25, l_26, l_27, l_28, l_29, l_30, l_31, l_32, l_40, l_41, l_42, l_43, l_44, l_45, l_46, l_47, l_48, l_49, l_50, l_51, l_52, l_53, l_54, l_55, l_56, l_57, l_58, l_59, l_60, l_61, l_62, l_63, l_64, l_72, l_97, l_99, l_100, l_104, l_120, l_122, l_128, l_140, l_255, l_256, l_257, l_258, l_260, l_261, l_262, l_364, l_680, l_700, l_701, l_840, l_999, l_1023, l_1024, l_9999, l_10000, l_1000000, lm]
    simp (disch := first | (with_reducible assumption) | omega | exact ⟨by omega, by omega⟩ | ((with_reducible first | apply Wf.wI | apply Wf.wL | apply Wf.fL | apply Wf.fI | apply Wf.fr); (repeat (with_reducible first | assumption | apply Wf.wI | apply Wf.wL | apply Wf.fL | apply Wf.fI | apply Wf.fr)))) only [ck_225, gI_225, gL_225, pI_225, pZ0_225, pZ1_225, pL_225, gR_225_1, gR_225_3, gR_225_4, gR_225_5, gR_225_6, gR_225_7, gR_225_8, gR_225_9, gR_225_10, gR_225_11, gR_225_12, gR_225_13, gR_225_14, gR_225_15, gR_225_16, gR_225_17, gR_225_18, gR_225_19, gR_225_20, gR_225_21, gR_225_35, gR_225_36, gR_225_38, gR_225_39, gR_225_40, gR_225_41, gR_225_43, gR_225_44, gR_225_45, gR_225_48, gR_225_49, gR_225_50, gR_225_51, gR_225_53, gR_225_54, gR_225_55, gR_225_56, gR_225_58, gR_225_59, gR_225_60, gR_225_61, gR_225_62, gR_225_63, gR_225_66, gR_225_67, bq_n, bd_s, mp_s, rz_0, rz_1, bI_rz, hS3, d1]
  · refine (((g7.mono x5).trans (a2.mono ?_)).trans (b2.mono ?_)).trans ((c2.mono ?_).trans (d2.mono ?_))
    · intro a j z; exact Or.inr ⟨by omega, by omega, by rw [z.1]; exact z.2⟩
    · intro a j z
      refine Or.inr ⟨by omega, by omega, ?_⟩
      rcases z.1 with y | y
      · rw [y]; exact z.2
      · rw [y]; exact z.2
    · intro a j z; exact Or.inl ⟨z.1, by omega⟩
    · intro a j z; unfold Xtk at z; exact Or.inl ⟨z.1, by omega⟩
  · rw [d5 _ _ (by omega), f5 _ (by omega) (by omega) (by omega) (by omega)]; exact w29
  · intro a j h1 h2 h3
    rw [d5 _ _ (by omega), c2.I (by omega)]
    by_cases z : a = 227
    · subst z
      have h3 : j < 12 := h3
      rw [b2.I (by omega), hE.1 j h3]
      exact a3 j h3
    · by_cases z2 : a = 242
      · subst z2
        have h3 : j < 3 := h3
        rw [(hE.2 j h3).1]
        exact (b3 (3 + j) (by omega) (by omega)).1
      · by_cases z3 : a = 243
        · subst z3
          have h3 : j < 3 := h3
          rw [(hE.2 j h3).2]
          exact (b3 (3 + j) (by omega) (by omega)).2
        · rw [b2.I (by omega), a2.I (by omega), g7.I (by omega)]
          exact (hE2 a j (by omega) (by omega) h3).symm
  · rw [d5 _ _ (by omega)]; exact w22
  · rw [d5 _ _ (by omega)]; exact w33
  · rw [d5 _ _ (by omega)]; exact w34
  · rw [d5 _ _ (by omega)]; exact w23
  · rw [d5 _ _ (by omega), f5 _ (by omega) (by omega) (by omega) (by omega)]; exact w2
def ansT (r : LnZ) : Int32 := match r with
  | .inl _ => mI 1
  | .inr (_, _, _, ls) => nI ls
def MTo (τ : ah_H) (n : Nat) (D : DD) (r : LnZ) : Prop := match r with
  | .inl x => MInv τ (dTf D x.1 (tP (tks (tpT D) n x.2)))
  | .inr (E, _, _, _) => ∃ hp, MInv τ (dTx D E hp)
theorem Xln_i : ∀ a j, Xln a j → Xti a j := by
  intro a j z
  rcases z with (z | z) | z
  · exact Or.inl ⟨z.1, by omega⟩
  · exact Or.inr z
  · exact Or.inl ⟨z.1, by omega⟩
theorem PM_ti {a j : Nat} (p : PM a j) (z : Xti a j) : a = 225 ∧ (j = 2 ∨ j = 31 ∨ j = 32) := by
  unfold Xti at z
  unfold PM at p
  unfold hf at z
  rcases z with z | z
  · omega
  · exfalso
    obtain ⟨z1, z2, z3⟩ := z
    repeat' split at z3
    all_goals omega
theorem m_text (h : MInv σ D) (hn : n ≤ tpd D) (hE : IsE0 E) (hE2 : ∀ a j, 228 ≤ a → a ≤ 241 → j < hf a → E a j = ah_I σ a (hf a + j)) : ∃ τ, f_X12_text 225 (nI n) σ = some (ansT (lns (tks (tpT D) n) 701 0 E 0 [] 0), τ) ∧ Fr (fun a _ => 225 ≤ a) σ τ ∧ MTo τ n D (lns (tks (tpT D) n) 701 0 E 0 [] 0) := by
  have hW := h.w
  have q7 := h.2.1.qtp.2
  obtain ⟨ρ, i1, i2, i3, i4, i5⟩ := m_init h hn hE hE2
  obtain ⟨N, hN, hNe, -⟩ := tks_end (T := tpT D) (n := n)
  obtain ⟨τ, t1, t2, t3⟩ := m_lns hNe 701 0 E 0 [] 0 5000 ρ (by omega) (by omega) (by omega) i3 i4
  have g0 : Fr Xti σ τ := i2.trans (t2.mono Xln_i)
  have x225 : ∀ a j, Xti a j → 225 ≤ a := fun a j z => by unfold Xti at z; omega
  have e2 : ah_I τ 225 2 = nI 0 := (t2.I (by unfold Xln Xtx; omega)).trans i5
  have hWt := hW.fr g0
  rw [i1, t1]
  generalize lns (tks (tpT D) n) 701 0 E 0 [] 0 = r at *
  cases r with
  | inl x =>
    obtain ⟨f, j⟩ := x
    have t3 : XpF τ (tpT D) n f j := t3
    obtain ⟨-, y1, y2, y3, y4⟩ := id t3
    have gT : Fr Xti σ (ah_wI (ah_wI τ 225 31 (nI f)) 225 32 (nI (tP (tks (tpT D) n j)))) := (g0.wI (Or.inl (by omega))).wI (Or.inl (by omega))
    refine ⟨ah_wI (ah_wI τ 225 31 (nI f)) 225 32 (nI (tP (tks (tpT D) n j))), ?_, gT.mono x225, hW.fr gT, MB_dTf h.2.1, fun a b p => ?_⟩
    · unfold f_X12_text_201
      simp only [to_bq, l_0, l_1, l_2, l_3, l_4, l_5, l_6, l_7, l_8, l_9, l_10, l_11, l_12, l_13, l_14, l_15, l_16, l_17, l_18, l_19, l_20, l_21, l_22, l_23, l_24, l_25, l_26, l_27, l_28, l_29, l_30, l_31, l_32, l_40, l_41, l_42, l_43, l_44, l_45, l_46, l_47, l_48, l_49, l_50, l_51, l_52, l_53, l_54, l_55, l_56, l_57, l_58, l_59, l_60, l_61, l_62, l_63, l_64, l_72, l_97, l_99, l_100, l_104, l_120, l_122, l_128, l_140, l_255, l_256, l_257, l_258, l_260, l_261, l_262, l_364, l_680, l_700, l_701, l_840, l_999, l_1023, l_1024, l_9999, l_10000, l_1000000, lm]
      simp (disch := first | (with_reducible assumption) | omega | exact ⟨by omega, by omega⟩ | ((with_reducible first | apply Wf.wI | apply Wf.wL | apply Wf.fL | apply Wf.fI | apply Wf.fr); (repeat (with_reducible first | assumption | apply Wf.wI | apply Wf.wL | apply Wf.fL | apply Wf.fI | apply Wf.fr)))) only [ck_225, gI_225, gL_225, pI_225, pZ0_225, pZ1_225, pL_225, gR_225_1, gR_225_3, gR_225_4, gR_225_5, gR_225_6, gR_225_7, gR_225_8, gR_225_9, gR_225_10, gR_225_11, gR_225_12, gR_225_13, gR_225_14, gR_225_15, gR_225_16, gR_225_17, gR_225_18, gR_225_19, gR_225_20, gR_225_21, gR_225_35, gR_225_36, gR_225_38, gR_225_39, gR_225_40, gR_225_41, gR_225_43, gR_225_44, gR_225_45, gR_225_48, gR_225_49, gR_225_50, gR_225_51, gR_225_53, gR_225_54, gR_225_55, gR_225_56, gR_225_58, gR_225_59, gR_225_60, gR_225_61, gR_225_62, gR_225_63, gR_225_66, gR_225_67, bq_n, bd_s, mp_s, rz_0, rz_1, bI_rz, rI_ne, rI_eq, rL_ne, rL_eq, ah_I_wL, ah_L_wI, ah_R_wI, ah_R_wL, ah_I_wR, ah_L_wR, rR_ne, rR_eq, y1, y4]
      rw [if_neg (by rw [eq_nI (by omega) (by omega)]; omega)]
      rfl
    · by_cases z : Xti a b
      · obtain ⟨rfl, z | z | z⟩ := PM_ti p z
        · subst z
          rw [rI_ne (by omega), rI_ne (by omega), e2]; rfl
        · subst z
          rw [rI_ne (by omega), rI_eq]; rfl
        · subst z
          rw [rI_eq]; rfl
      · rw [gT.I z, h.at p]
        unfold dTf
        rw [if_neg (fun y => z (Or.inl (by omega))), if_neg (fun y => z (Or.inl (by omega))), if_neg (fun y => z (Or.inl (by omega)))]
  | inr q =>
    obtain ⟨E', td', o', ls⟩ := q
    obtain ⟨-, u1, u2, u3, u4, u5, u6⟩ := t3
    have g4 : Fr (fun a j => a = 225 ∧ (j = 31 ∨ j = 32)) τ (ah_wI (ah_wI τ 225 31 (nI 0)) 225 32 (mI 1)) := (Fr.rfl.wI (by omega)).wI (by omega)
    have w31 : ah_I (ah_wI (ah_wI τ 225 31 (nI 0)) 225 32 (mI 1)) 225 31 = nI 0 := by rw [rI_ne (by omega), rI_eq]
    have w32 : ah_I (ah_wI (ah_wI τ 225 31 (nI 0)) 225 32 (mI 1)) 225 32 = mI 1 := rI_eq
    have e201 : f_X12_text_201 225 τ = (op_gR 12 3 (ah_wI (ah_wI τ 225 31 (nI 0)) 225 32 (mI 1)) 225).bind fun v6 => (f_X12_half v6 (ah_wI (ah_wI τ 225 31 (nI 0)) 225 32 (mI 1))).bind fun r7 => (op_gR 12 4 r7 225).bind fun v8 => (f_X12_half v8 r7).bind fun r9 => (op_gR 12 5 r9 225).bind fun v10 => (f_X12_half v10 r9).bind fun r11 => (op_gR 12 6 r11 225).bind fun v12 => (f_X12_half v12 r11).bind fun r13 => (op_gR 12 7 r13 225).bind fun v14 => (f_X12_half v14 r13).bind fun r15 => (op_gR 12 8 r15 225).bind fun v16 => (f_X12_half v16 r15).bind fun r17 => (op_gR 12 9 r17 225).bind fun v18 => (f_X12_half v18 r17).bind fun r19 => (op_gR 12 10 r19 225).bind fun v20 => (f_X12_half v20 r19).bind fun r21 => (op_gR 12 11 r21 225).bind fun v22 => (f_X12_half v22 r21).bind fun r23 => (op_gR 12 12 r23 225).bind fun v24 => (f_X12_half v24 r23).bind fun r25 => (op_gR 12 13 r25 225).bind fun v26 => (f_X12_half v26 r25).bind fun r27 => (op_gR 12 14 r27 225).bind fun v28 => (f_X12_half v28 r27).bind fun r29 => (op_gR 12 15 r29 225).bind fun v30 => (f_X12_half v30 r29).bind fun r31 => (op_gR 12 16 r31 225).bind fun v32 => (f_X12_half v32 r31).bind fun r33 => (op_gR 12 17 r33 225).bind fun v34 => (f_X12_half v34 r33).bind fun r35 => (op_gR 12 18 r35 225).bind fun v36 => (f_X12_half v36 r35).bind fun r37 => (op_gR 12 19 r37 225).bind fun v38 => (f_X12_half v38 r37).bind fun r39 => (op_gR 12 20 r39 225).bind fun v40 => (f_X12_half v40 r39).bind fun r41 => (op_gR 12 21 r41 225).bind fun v42 => (f_X12_half v42 r41).bind fun r43 => f_X12_text_361 5000 225 (0 : Int32) r43 := by
      unfold f_X12_text_201
      rw [gI_225 hWt, bd_s, u5, pI_225 hWt, bd_s, gI_225 (hWt.wI _ _ _), bd_s, rI_ne (by omega), u6, pI_225 (hWt.wI _ _ _), bd_s, gI_225 ((hWt.wI _ _ _).wI _ _ _), bd_s, rI_ne (by omega), rI_ne (by omega), u5, if_pos (show nI 0 = (0 : Int32) from rfl)]
    generalize ah_wI (ah_wI τ 225 31 (nI 0)) 225 32 (mI 1) = σ4 at *
    have hW4 := hWt.fr g4
    have v0 : HvS σ4 227 σ4 := ⟨Fr.rfl, fun a h1 h2 => by omega⟩
    obtain ⟨υ1, x1, v1, y1⟩ := m_hv hW4 v0 (a := 227) (by omega) (by omega)
    obtain ⟨υ2, x2, v2, y2⟩ := m_hv hW4 v1 (a := 228) (by omega) (by omega)
    obtain ⟨υ3, x3, v3, y3⟩ := m_hv hW4 v2 (a := 229) (by omega) (by omega)
    obtain ⟨υ4, x4, v4, y4⟩ := m_hv hW4 v3 (a := 230) (by omega) (by omega)
    obtain ⟨υ5, x5, v5, y5⟩ := m_hv hW4 v4 (a := 231) (by omega) (by omega)
    obtain ⟨υ6, x6, v6, y6⟩ := m_hv hW4 v5 (a := 232) (by omega) (by omega)
    obtain ⟨υ7, x7, v7, y7⟩ := m_hv hW4 v6 (a := 233) (by omega) (by omega)
    obtain ⟨υ8, x8, v8, y8⟩ := m_hv hW4 v7 (a := 234) (by omega) (by omega)
    obtain ⟨υ9, x9, v9, y9⟩ := m_hv hW4 v8 (a := 235) (by omega) (by omega)
    obtain ⟨υ10, x10, v10, y10⟩ := m_hv hW4 v9 (a := 236) (by omega) (by omega)
    obtain ⟨υ11, x11, v11, y11⟩ := m_hv hW4 v10 (a := 237) (by omega) (by omega)
    obtain ⟨υ12, x12, v12, y12⟩ := m_hv hW4 v11 (a := 238) (by omega) (by omega)
    obtain ⟨υ13, x13, v13, y13⟩ := m_hv hW4 v12 (a := 239) (by omega) (by omega)
    obtain ⟨υ14, x14, v14, y14⟩ := m_hv hW4 v13 (a := 240) (by omega) (by omega)
    obtain ⟨υ15, x15, v15, y15⟩ := m_hv hW4 v14 (a := 241) (by omega) (by omega)
    obtain ⟨υ16, x16, v16, y16⟩ := m_hv hW4 v15 (a := 242) (by omega) (by omega)
    obtain ⟨υ17, x17, v17, y17⟩ := m_hv hW4 v16 (a := 243) (by omega) (by omega)
    obtain ⟨υ18, x18, v18, y18⟩ := m_hv hW4 v17 (a := 244) (by omega) (by omega)
    obtain ⟨υ19, x19, v19, y19⟩ := m_hv hW4 v18 (a := 245) (by omega) (by omega)
    have hp : Fr Xhv σ4 υ19 := v19.1
    have gz : Fr (fun a j => a = 225 ∧ (j = 31 ∨ j = 32 ∨ j = 52 ∨ j = 57) ∨ Xhv a j ∨ a = 248 ∧ j < 7) τ (ah_wI (ah_wI (ah_fI υ19 248 0 7 (mI 1)) 225 52 (nI 0)) 225 57 (nI 0)) := by
      refine (((g4.mono (fun a j z => ?_)).trans (hp.mono (fun a j z => ?_))).fI (fun j y1 y2 => ?_)).wI ?_ |>.wI ?_
      · omega
      · exact Or.inr (Or.inl z)
      · omega
      · omega
      · omega
    have wz : ∀ a j, ¬ (a = 225 ∧ (j = 52 ∨ j = 57)) → a ≠ 248 → ah_I (ah_wI (ah_wI (ah_fI υ19 248 0 7 (mI 1)) 225 52 (nI 0)) 225 57 (nI 0)) a j = ah_I υ19 a j := fun a j y1 y2 => by
      rw [rI_ne (by omega), rI_ne (by omega)]
      exact if_neg (by omega)
    refine ⟨ah_wI (ah_wI (ah_fI υ19 248 0 7 (mI 1)) 225 52 (nI 0)) 225 57 (nI 0), ?_, (g0.mono x225).trans (gz.mono (fun a j z => by unfold Xhv at z; omega)), fun a j => ah_I υ19 a j, hWt.fr gz, MB_dTx h.2.1 u2.1, fun a j p => ?_⟩
    · rw [e201]
      rw [gR_225_3 hW4, bd_s, x1, bd_s]
      rw [gR_225_4 y1, bd_s, x2, bd_s]
      rw [gR_225_5 y2, bd_s, x3, bd_s]
      rw [gR_225_6 y3, bd_s, x4, bd_s]
      rw [gR_225_7 y4, bd_s, x5, bd_s]
      rw [gR_225_8 y5, bd_s, x6, bd_s]
      rw [gR_225_9 y6, bd_s, x7, bd_s]
      rw [gR_225_10 y7, bd_s, x8, bd_s]
      rw [gR_225_11 y8, bd_s, x9, bd_s]
      rw [gR_225_12 y9, bd_s, x10, bd_s]
      rw [gR_225_13 y10, bd_s, x11, bd_s]
      rw [gR_225_14 y11, bd_s, x12, bd_s]
      rw [gR_225_15 y12, bd_s, x13, bd_s]
      rw [gR_225_16 y13, bd_s, x14, bd_s]
      rw [gR_225_17 y14, bd_s, x15, bd_s]
      rw [gR_225_18 y15, bd_s, x16, bd_s]
      rw [gR_225_19 y16, bd_s, x17, bd_s]
      rw [gR_225_20 y17, bd_s, x18, bd_s]
      rw [gR_225_21 y18, bd_s, x19, bd_s]
      rw [l_0, m_361 7 0 5000 υ19 (by omega) (by omega) y19]
      have hWf : Wf (ah_fI υ19 248 0 7 (mI 1)) := y19.fr (X := fun a j => a = 248 ∧ j < 7) (Fr.rfl.fI (fun j _ y2 => ⟨rfl, y2⟩))
      have e23 : ah_I υ19 225 23 = nI ls := by rw [hp.I (by unfold Xhv; omega), g4.I (by omega)]; exact u4
      unfold f_X12_text_380
      simp only [to_bq, l_0, l_1, l_2, l_3, l_4, l_5, l_6, l_7, l_8, l_9, l_10, l_11, l_12, l_13, l_14, l_15, l_16, l_17, l_18, l_19, l_20, l_21, l_22, l_23, l_24, l_25, l_26, l_27, l_28, l_29, l_30, l_31, l_32, l_40, l_41, l_42, l_43, l_44, l_45, l_46, l_47, l_48, l_49, l_50, l_51, l_52, l_53, l_54, l_55, l_56, l_57, l_58, l_59, l_60, l_61, l_62, l_63, l_64, l_72, l_97, l_99, l_100, l_104, l_120, l_122, l_128, l_140, l_255, l_256, l_257, l_258, l_260, l_261, l_262, l_364, l_680, l_700, l_701, l_840, l_999, l_1023, l_1024, l_9999, l_10000, l_1000000, lm]
      rw [pI_225 hWf, bq_s, pZ0_225 (hWf.wI _ _ _), bq_s, gI_225 ((hWf.wI _ _ _).wI _ _ _), bq_s, wz 225 23 (by omega) (by omega), e23]
      rfl
    · have z225 : ∀ j, j ≠ 52 → j ≠ 57 → j ≠ 31 → j ≠ 32 → ah_I (ah_wI (ah_wI (ah_fI υ19 248 0 7 (mI 1)) 225 52 (nI 0)) 225 57 (nI 0)) 225 j = ah_I τ 225 j := fun j y1 y2 y3 y4 => gz.I (by unfold Xhv; omega)
      have hb : 227 ≤ a → a ≤ 245 → j < hf a := fun y1 y2 => by
        unfold PM at p
        unfold hf
        repeat' split
        all_goals omega
      by_cases c1 : 227 ≤ a ∧ a ≤ 245
      · have hj := hb c1.1 c1.2
        have ev : ah_I υ19 a j = ah_I τ a (hf a + j) := by
          rw [v19.2 a c1.1 (by omega) j hj, g4.I (by omega)]
        rw [wz a j (by omega) (by omega)]
        by_cases c2 : a ≤ 243
        · rw [ev, u1 a j c1.1 c2 hj, dTx_t a c1.1 c2]
        · have ck : j < nK E' → ah_I υ19 a j = E' a j := fun y => by
            have kk : nK E' = o'.length := by unfold nK; rw [u2.2.2.1.2.1, ix_nI (by have := u2.2.2.1.1; omega)]
            rw [ev]
            obtain ⟨k1, k2⟩ := u3.2.2 j (by omega)
            obtain ⟨k3, k4⟩ := u2.2.2.1.2.2 j (by omega)
            have ca : a = 244 ∨ a = 245 := by omega
            rcases ca with rfl | rfl
            · exact k1.trans k3.symm
            · exact k2.trans k4.symm
          unfold dTx
          rw [if_neg (by omega), if_pos (by omega)]
          by_cases y : j < nK E'
          · rw [if_pos y]; exact ck y
          · rw [if_neg y]
      · by_cases c3 : a = 248
        · subst c3
          rw [dTx_8, rI_ne (by omega), rI_ne (by omega)]
          exact if_pos ⟨rfl, Nat.zero_le _, by unfold PM at p; omega⟩
        · by_cases c4 : a = 225
          · subst c4
            rw [dTx_5]
            have cj : j = 2 ∨ j = 31 ∨ j = 32 ∨ j = 52 ∨ j = 57 := by unfold PM at p; omega
            rcases cj with rfl | rfl | rfl | rfl | rfl
            · rw [z225 _ (by omega) (by omega) (by omega) (by omega), e2]; rfl
            · rw [wz _ _ (by omega) (by omega), hp.I (by unfold Xhv; omega), w31]; rfl
            · rw [wz _ _ (by omega) (by omega), hp.I (by unfold Xhv; omega), w32]; rfl
            · rw [rI_ne (by omega), rI_eq]; rfl
            · rw [rI_eq]; rfl
          · rw [gz.I (by unfold Xhv; omega), g0.I (by unfold Xti; omega), h.at p, dTx_o c1 c3 c4]
end
