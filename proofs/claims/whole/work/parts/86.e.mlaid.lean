/-! THE REFERENCE: the cheapest net is laid -/
def dgt (D : DD) (k c : Nat) : Nat := k / uD D c % 1024
noncomputable def dLaid (D : DD) (m k : Nat) : DD := fun a j => if a = 248 ∧ j < 7 then sv (ost D m j) else if a = 249 ∧ j < 7 then (if j < nC D ∧ j ≠ riv D then nI (dgt D k j / 256) else mI 1) else if a = 250 ∧ j < 7 then (if j < nC D ∧ j ≠ riv D then nI (dgt D k j / 16 % 16) else mI 1) else if a = 251 ∧ j < 7 then (if j < nC D ∧ j ≠ riv D then nI (dgt D k j % 16) else mI 1) else dKeep D a j
section
variable {σ τ : ah_H} {D : DD} {m c k : Nat} {l : Lay} {x : Nat × Nat}
theorem dLaid_o {a j : Nat} (h : a < 248 ∨ 251 < a) : dLaid D m k a j = dKeep D a j := by
  unfold dLaid
  rw [if_neg (by omega), if_neg (by omega), if_neg (by omega), if_neg (by omega)]
theorem dLaid_8 (h : c < 7) : dLaid D m k 248 c = sv (ost D m c) := if_pos ⟨rfl, h⟩
theorem dLaid_9 (h : c < 7) : dLaid D m k 249 c = if c < nC D ∧ c ≠ riv D then nI (dgt D k c / 256) else mI 1 := by
  unfold dLaid
  rw [if_neg (by omega), if_pos ⟨rfl, h⟩]
theorem dLaid_10 (h : c < 7) : dLaid D m k 250 c = if c < nC D ∧ c ≠ riv D then nI (dgt D k c / 16 % 16) else mI 1 := by
  unfold dLaid
  rw [if_neg (by omega), if_neg (by omega), if_pos ⟨rfl, h⟩]
theorem dLaid_11 (h : c < 7) : dLaid D m k 251 c = if c < nC D ∧ c ≠ riv D then nI (dgt D k c % 16) else mI 1 := by
  unfold dLaid
  rw [if_neg (by omega), if_neg (by omega), if_neg (by omega), if_pos ⟨rfl, h⟩]
theorem dLaid_t : SameT (dLaid D m k) (dKeep D) := fun a _ _ => funext fun j => dLaid_o (by omega)
theorem MN.net {D' : DD} (h : MN D) (hT : SameT D' D) (o : ∀ a, (a < 248 ∨ 251 < a) → D' a = D a) (hn : NetOK D (D' 248) (D' 249) (D' 250) (D' 251)) : MN D' := by
  obtain ⟨h1, h2, h3, h4, h5⟩ := h
  refine ⟨hT.net hn, ?_, ?_, ?_, ?_⟩
  · rw [o 225 (by omega)]; exact h2
  · unfold km
    rw [o 225 (by omega), o 255 (by omega), o 256 (by omega), o 257 (by omega), o 258 (by omega)]
    exact fun i hi => hT.net (h3 i hi)
  · rw [o 225 (by omega)]; exact h4
  · rw [o 225 (by omega), o 259 (by omega), o 260 (by omega), o 261 (by omega), o 262 (by omega)]
    exact fun q => hT.net (h5 q)
/-- the digits are the layout -/
theorem dgt_l (ht : MT D) {st : Nat → Option Nat} (h : OrP D m (riv D) st) (hl : LyT D (dpD D st noF noF noF) l x) (hc : c < nC D) (hcr : c ≠ riv D) : dgt D x.2 c / 256 = lyw l c ∧ dgt D x.2 c / 16 % 16 = lya l c ∧ dgt D x.2 c % 16 = lyb l c ∧ lyw l c < nP D ∧ lya l c ≤ 12 ∧ lyb l c ≤ 12 := by
  have b4 := ht.qp4
  have b12 := ht.qmc12
  have e : dgt D x.2 c = cde l c := by
    unfold dgt
    rw [LyT_key ht h hl]
    exact key_dig ht.qc7 h.2.2.1 hc hcr (LyT_cd ht h hl)
  obtain ⟨h1, h2, h3, -⟩ := LyT_in ht h hl hc hcr
  rw [e]
  unfold cde
  refine ⟨?_, ?_, ?_, h1, by omega, by omega⟩ <;> omega
theorem MB.laid (h : MB D) (hr4 : D 227 4 ≠ mI 1) (hos : OrS D m (ost D m)) (hl : LyT D (dpD D (ost D m) noF noF noF) l x) : MB (dLaid D m x.2) := by
  have ht := h.1
  have b7 := ht.qc7
  have hk := h.keep
  have hT := dLaid_t (D := D) (m := m) (k := x.2)
  obtain ⟨r1, r2, -⟩ := ht.rv hr4
  have o : ∀ a, (a < 248 ∨ 251 < a) → dLaid D m x.2 a = dKeep D a := fun a ha => funext fun j => dLaid_o ha
  refine ⟨hT.mt hk.1, hk.2.1.net hT o ?_, ?_, ?_⟩
  · refine (dKeep_t D).net (fun c hc => ?_)
    rw [dLaid_8 hc, dLaid_9 hc, dLaid_10 hc, dLaid_11 hc]
    cases e : ost D m c with
    | none => exact Or.inl rfl
    | some s =>
      have hcn : c < nC D := by
        apply Classical.byContradiction
        intro z
        rw [hos.2 c (by omega)] at e; cases e
      have hcr : c ≠ riv D := fun z => by rw [z, hos.1.2.1] at e; cases e
      obtain ⟨s', s1, s2, s3, s4⟩ := hos.1.1 c hcn hcr
      rw [e] at s1; cases s1
      obtain ⟨d1, d2, d3, d4, d5, d6⟩ := dgt_l ht hos.1 hl hcn hcr
      rw [if_pos ⟨hcn, hcr⟩, if_pos ⟨hcn, hcr⟩, if_pos ⟨hcn, hcr⟩]
      refine Or.inr ⟨hcn, fun z => ?_, ⟨s, s2, rfl, s4⟩, ⟨_, by rw [d1]; exact d4, rfl⟩, ⟨_, by rw [d2]; exact d5, rfl⟩, ⟨_, by rw [d3]; exact d6, rfl⟩⟩
      rw [r1, eq_nI (by omega) (by omega)] at z
      exact hcr z.symm
  · rw [o 225 (by omega)]; exact hk.2.2.1
  · rw [hT 226 (by omega) (by omega)]; exact hk.2.2.2
theorem m_ld76 : ∀ i k fu τ, k + i = 7 → i < fu → Wf τ → ∃ τ', f_X12_laid_76 fu 225 (nI k) τ = some (nI 1, τ') ∧ Fr (fun a j => 248 ≤ a ∧ a ≤ 251 ∧ j < 7) τ τ' ∧ ∀ c, c < 7 → (k ≤ c → ah_I τ' 248 c = ah_I τ 248 (7 + c) ∧ ah_I τ' 249 c = ah_I τ 266 c ∧ ah_I τ' 250 c = ah_I τ 267 c ∧ ah_I τ' 251 c = ah_I τ 268 c) ∧ (c < k → ah_I τ' 248 c = ah_I τ 248 c ∧ ah_I τ' 249 c = ah_I τ 249 c ∧ ah_I τ' 250 c = ah_I τ 250 c ∧ ah_I τ' 251 c = ah_I τ 251 c) := by
  intro i
  induction i with
  | zero =>
    intro k fu τ hk hf hW
    obtain ⟨fu, rfl⟩ : ∃ q, fu = q + 1 := ⟨fu - 1, by omega⟩
    refine ⟨τ, ?_, Fr.rfl, fun c hc => ⟨fun z => by omega, fun _ => ⟨rfl, rfl, rfl, rfl⟩⟩⟩
    show f_X12_laid_76_b _ _ _ _ = _
    unfold f_X12_laid_76_b
    simp only [to_bq, l_0, l_1, l_2, l_3, l_4, l_5, l_6, l_7, l_8, l_9, l_10, l_11, l_12, l_13, l_14, l_15, l_16, l_17, l_18, l_19, l_20, l_21, l_22, l_23, l_24, l_25, l_26, l_27, l_28, l_29, l_30, l_31, l_32, l_40, l_41, l_42, l_43, l_44, l_45, l_46, l_47, l_48, l_49, l_50, l_51, l_52, l_53, l_54, l_55, l_56, l_57, l_58, l_59, l_60, l_61, l_62, l_63, l_64, l_72, l_97, l_99, l_100, l_104, l_120, l_122, l_128, l_140, l_255, l_256, l_257, l_258, l_260, l_261, l_262, l_364, l_680, l_700, l_701, l_840, l_999, l_1023, l_1024, l_9999, l_10000, l_1000000, lm]
    rw [if_pos (by rw [le_nI (by omega) (by omega)]; omega)]
    rfl
  | succ i ih =>
    intro k fu τ hk hf hW
    obtain ⟨fu, rfl⟩ : ∃ q, fu = q + 1 := ⟨fu - 1, by omega⟩
    have he : f_X12_laid_76 (fu + 1) 225 (nI k) τ = f_X12_laid_76 fu 225 (nI (k + 1)) (ah_wI (ah_wI (ah_wI (ah_wI τ 248 k (ah_I τ 248 (7 + k))) 249 k (ah_I τ 266 k)) 250 k (ah_I τ 267 k)) 251 k (ah_I τ 268 k)) := by
      show f_X12_laid_76_b _ _ _ _ = _
      unfold f_X12_laid_76_b
      simp only [to_bq, l_0, l_1, l_2, l_3, l_4, l_5, l_6, l_7, l_8, l_9, l_10, l_11, l_12, l_13, l_14, l_15, l_16, l_17, l_18, l_19, l_20, l_21, l_22, l_23, l_24, l_25, l_26, l_27, l_28, l_29, l_30, l_31, l_32, l_40, l_41, l_42, l_43, l_44, l_45, l_46, l_47, l_48, l_49, l_50, l_51, l_52, l_53, l_54, l_55, l_56, l_57, l_58, l_59, l_60, l_61, l_62, l_63, l_64, l_72, l_97, l_99, l_100, l_104, l_120, l_122, l_128, l_140, l_255, l_256, l_257, l_258, l_260, l_261, l_262, l_364, l_680, l_700, l_701, l_840, l_999, l_1023, l_1024, l_9999, l_10000, l_1000000, lm]
      rw [if_neg (by rw [le_nI (by omega) (by omega)]; omega)]
      simp (disch := first | (with_reducible assumption) | omega | exact ⟨by omega, by omega⟩ | ((with_reducible first | apply Wf.wI | apply Wf.wL | apply Wf.fL | apply Wf.fI | apply Wf.fr); (repeat (with_reducible first | assumption | apply Wf.wI | apply Wf.wL | apply Wf.fL | apply Wf.fI | apply Wf.fr)))) only [ck_225, gI_225, gL_225, pI_225, pZ0_225, pZ1_225, pL_225, gR_225_1, gR_225_3, gR_225_4, gR_225_5, gR_225_6, gR_225_7, gR_225_8, gR_225_9, gR_225_10, gR_225_11, gR_225_12, gR_225_13, gR_225_14, gR_225_15, gR_225_16, gR_225_17, gR_225_18, gR_225_19, gR_225_20, gR_225_21, gR_225_35, gR_225_36, gR_225_38, gR_225_39, gR_225_40, gR_225_41, gR_225_43, gR_225_44, gR_225_45, gR_225_48, gR_225_49, gR_225_50, gR_225_51, gR_225_53, gR_225_54, gR_225_55, gR_225_56, gR_225_58, gR_225_59, gR_225_60, gR_225_61, gR_225_62, gR_225_63, gR_225_66, gR_225_67, bq_n, bd_s, mp_s, rz_0, rz_1, bI_rz, zadd, aI_248, sI_248, len_248, aI_249, sI_249, len_249, aI_250, sI_250, len_250, aI_251, sI_251, len_251, aI_266, sI_266, len_266, aI_267, sI_267, len_267, aI_268, sI_268, len_268, rI_ne, rI_eq, rL_ne, rL_eq, ah_I_wL, ah_L_wI, ah_R_wI, ah_R_wL, ah_I_wR, ah_L_wR, rR_ne, rR_eq]
    have f1 : Fr (fun a j => 248 ≤ a ∧ a ≤ 251 ∧ j = k) τ (ah_wI (ah_wI (ah_wI (ah_wI τ 248 k (ah_I τ 248 (7 + k))) 249 k (ah_I τ 266 k)) 250 k (ah_I τ 267 k)) 251 k (ah_I τ 268 k)) := (((Fr.rfl.wI ⟨by omega, by omega, rfl⟩).wI ⟨by omega, by omega, rfl⟩).wI ⟨by omega, by omega, rfl⟩).wI ⟨by omega, by omega, rfl⟩
    have v1 : ah_I (ah_wI (ah_wI (ah_wI (ah_wI τ 248 k (ah_I τ 248 (7 + k))) 249 k (ah_I τ 266 k)) 250 k (ah_I τ 267 k)) 251 k (ah_I τ 268 k)) 248 k = ah_I τ 248 (7 + k) := by rw [rI_ne (by omega), rI_ne (by omega), rI_ne (by omega), rI_eq]
    have v2 : ah_I (ah_wI (ah_wI (ah_wI (ah_wI τ 248 k (ah_I τ 248 (7 + k))) 249 k (ah_I τ 266 k)) 250 k (ah_I τ 267 k)) 251 k (ah_I τ 268 k)) 249 k = ah_I τ 266 k := by rw [rI_ne (by omega), rI_ne (by omega), rI_eq]
    have v3 : ah_I (ah_wI (ah_wI (ah_wI (ah_wI τ 248 k (ah_I τ 248 (7 + k))) 249 k (ah_I τ 266 k)) 250 k (ah_I τ 267 k)) 251 k (ah_I τ 268 k)) 250 k = ah_I τ 267 k := by rw [rI_ne (by omega), rI_eq]
    have v4 : ah_I (ah_wI (ah_wI (ah_wI (ah_wI τ 248 k (ah_I τ 248 (7 + k))) 249 k (ah_I τ 266 k)) 250 k (ah_I τ 267 k)) 251 k (ah_I τ 268 k)) 251 k = ah_I τ 268 k := rI_eq
    rw [he]
    generalize ah_wI (ah_wI (ah_wI (ah_wI τ 248 k (ah_I τ 248 (7 + k))) 249 k (ah_I τ 266 k)) 250 k (ah_I τ 267 k)) 251 k (ah_I τ 268 k) = ρ at *
    obtain ⟨τ', e1, e2, e3⟩ := ih (k + 1) fu ρ (by omega) (by omega) (hW.fr f1)
    refine ⟨τ', e1, (f1.mono (fun a j z => ⟨z.1, z.2.1, by have := z.2.2; omega⟩)).trans e2, fun c hc => ⟨fun z => ?_, fun z => ?_⟩⟩
    · by_cases q : c = k
      · subst q
        obtain ⟨w1, w2, w3, w4⟩ := (e3 c hc).2 (by omega)
        exact ⟨w1.trans v1, w2.trans v2, w3.trans v3, w4.trans v4⟩
      · obtain ⟨w1, w2, w3, w4⟩ := (e3 c hc).1 (by omega)
        rw [f1.I (by omega)] at w1 w2 w3 w4
        exact ⟨w1, w2, w3, w4⟩
    · obtain ⟨w1, w2, w3, w4⟩ := (e3 c hc).2 (by omega)
      rw [f1.I (by omega)] at w1 w2 w3 w4
      exact ⟨w1, w2, w3, w4⟩
theorem m_ld34 {st : Nat → Option Nat} {dp : Nat → Nat} (hx : FxH D m st l x) : ∀ i c fu τ F1 F2 F3, c + i = nC D → i < fu → Fr (Xfx (nC D)) σ τ → LF τ D st F1 F2 F3 dp → FxS D l F1 F2 F3 c → ∃ τ' G1 G2 G3, f_X12_laid_34 fu 225 (iL (x.1 : Int)) (nI c) τ = f_X12_laid_69 225 τ' ∧ Fr (Xfx (nC D)) σ τ' ∧ LF τ' D st G1 G2 G3 dp ∧ FxS D l G1 G2 G3 (nC D) := by
  have b7 := hx.1.qc7
  obtain ⟨r1, r2, -⟩ := hx.1.rv hx.2.2.1
  intro i
  induction i with
  | zero =>
    intro c fu τ F1 F2 F3 hc hf g hL hS
    obtain ⟨fu, rfl⟩ : ∃ q, fu = q + 1 := ⟨fu - 1, by omega⟩
    obtain rfl : c = nC D := by omega
    have hW := hL.1.w
    refine ⟨τ, F1, F2, F3, ?_, g, hL, hS⟩
    show f_X12_laid_34_b _ _ _ _ _ = _
    unfold f_X12_laid_34_b
    simp only [to_bq, l_0, l_1, l_2, l_3, l_4, l_5, l_6, l_7, l_8, l_9, l_10, l_11, l_12, l_13, l_14, l_15, l_16, l_17, l_18, l_19, l_20, l_21, l_22, l_23, l_24, l_25, l_26, l_27, l_28, l_29, l_30, l_31, l_32, l_40, l_41, l_42, l_43, l_44, l_45, l_46, l_47, l_48, l_49, l_50, l_51, l_52, l_53, l_54, l_55, l_56, l_57, l_58, l_59, l_60, l_61, l_62, l_63, l_64, l_72, l_97, l_99, l_100, l_104, l_120, l_122, l_128, l_140, l_255, l_256, l_257, l_258, l_260, l_261, l_262, l_364, l_680, l_700, l_701, l_840, l_999, l_1023, l_1024, l_9999, l_10000, l_1000000, lm]
    simp (disch := first | (with_reducible assumption) | omega | exact ⟨by omega, by omega⟩ | ((with_reducible first | apply Wf.wI | apply Wf.wL | apply Wf.fL | apply Wf.fI | apply Wf.fr); (repeat (with_reducible first | assumption | apply Wf.wI | apply Wf.wL | apply Wf.fL | apply Wf.fI | apply Wf.fr)))) only [ck_225, gI_225, gL_225, pI_225, pZ0_225, pZ1_225, pL_225, gR_225_1, gR_225_3, gR_225_4, gR_225_5, gR_225_6, gR_225_7, gR_225_8, gR_225_9, gR_225_10, gR_225_11, gR_225_12, gR_225_13, gR_225_14, gR_225_15, gR_225_16, gR_225_17, gR_225_18, gR_225_19, gR_225_20, gR_225_21, gR_225_35, gR_225_36, gR_225_38, gR_225_39, gR_225_40, gR_225_41, gR_225_43, gR_225_44, gR_225_45, gR_225_48, gR_225_49, gR_225_50, gR_225_51, gR_225_53, gR_225_54, gR_225_55, gR_225_56, gR_225_58, gR_225_59, gR_225_60, gR_225_61, gR_225_62, gR_225_63, gR_225_66, gR_225_67, bq_n, bd_s, mp_s, rz_0, rz_1, bI_rz, zadd, zmul, zsub, le_nI, lt_nI, eq_nI, neg_nI, gen_nI, neg_lt, neg_le, neg_lt', neg_le', nI_lt0, if_true, if_false, ite_true, ite_false, reduceIte, not_true, not_false, and_true, true_and, and_false, false_and, or_true, true_or, or_false, false_or, eq_self, aI_227, rd_C hL.1, Nat.le_refl]
  | succ i ih =>
    intro c fu τ F1 F2 F3 hc hf g hL hS
    obtain ⟨fu, rfl⟩ : ∃ q, fu = q + 1 := ⟨fu - 1, by omega⟩
    have hW := hL.1.w
    have hcl : c < nC D := by omega
    have hrv := rd_riv hL.1
    rw [r1] at hrv
    by_cases q : c = riv D
    · have he : f_X12_laid_34 (fu + 1) 225 (iL (x.1 : Int)) (nI c) τ = f_X12_laid_34 fu 225 (iL (x.1 : Int)) (nI (c + 1)) τ := by
        show f_X12_laid_34_b _ _ _ _ _ = _
        unfold f_X12_laid_34_b f_X12_laid_63
        simp only [to_bq, l_0, l_1, l_2, l_3, l_4, l_5, l_6, l_7, l_8, l_9, l_10, l_11, l_12, l_13, l_14, l_15, l_16, l_17, l_18, l_19, l_20, l_21, l_22, l_23, l_24, l_25, l_26, l_27, l_28, l_29, l_30, l_31, l_32, l_40, l_41, l_42, l_43, l_44, l_45, l_46, l_47, l_48, l_49, l_50, l_51, l_52, l_53, l_54, l_55, l_56, l_57, l_58, l_59, l_60, l_61, l_62, l_63, l_64, l_72, l_97, l_99, l_100, l_104, l_120, l_122, l_128, l_140, l_255, l_256, l_257, l_258, l_260, l_261, l_262, l_364, l_680, l_700, l_701, l_840, l_999, l_1023, l_1024, l_9999, l_10000, l_1000000, lm]
        simp (disch := first | (with_reducible assumption) | omega | exact ⟨by omega, by omega⟩ | ((with_reducible first | apply Wf.wI | apply Wf.wL | apply Wf.fL | apply Wf.fI | apply Wf.fr); (repeat (with_reducible first | assumption | apply Wf.wI | apply Wf.wL | apply Wf.fL | apply Wf.fI | apply Wf.fr)))) only [ck_225, gI_225, gL_225, pI_225, pZ0_225, pZ1_225, pL_225, gR_225_1, gR_225_3, gR_225_4, gR_225_5, gR_225_6, gR_225_7, gR_225_8, gR_225_9, gR_225_10, gR_225_11, gR_225_12, gR_225_13, gR_225_14, gR_225_15, gR_225_16, gR_225_17, gR_225_18, gR_225_19, gR_225_20, gR_225_21, gR_225_35, gR_225_36, gR_225_38, gR_225_39, gR_225_40, gR_225_41, gR_225_43, gR_225_44, gR_225_45, gR_225_48, gR_225_49, gR_225_50, gR_225_51, gR_225_53, gR_225_54, gR_225_55, gR_225_56, gR_225_58, gR_225_59, gR_225_60, gR_225_61, gR_225_62, gR_225_63, gR_225_66, gR_225_67, bq_n, bd_s, mp_s, rz_0, rz_1, bI_rz, zadd, zmul, zsub, le_nI, lt_nI, eq_nI, neg_nI, gen_nI, neg_lt, neg_le, neg_lt', neg_le', nI_lt0, if_true, if_false, ite_true, ite_false, reduceIte, not_true, not_false, and_true, true_and, and_false, false_and, or_true, true_or, or_false, false_or, eq_self, aI_227, rd_C hL.1, show (nC D ≤ c) = False from eq_false (by omega), hrv, show (c = riv D) = True from eq_true q]
      rw [he]
      exact ih (c + 1) fu τ F1 F2 F3 (by omega) (by omega) g hL ⟨fun o ho hor => hS.1 o (by omega) hor, fun o ho => hS.2 o (by omega)⟩
    · obtain ⟨τ1, e1, f1, G1, G2, G3, hL1, hS1⟩ := m_fixes hx hcl q hS hL
      have he : f_X12_laid_34 (fu + 1) 225 (iL (x.1 : Int)) (nI c) τ = f_X12_laid_34 fu 225 (iL (x.1 : Int)) (nI (c + 1)) τ1 := by
        show f_X12_laid_34_b _ _ _ _ _ = _
        unfold f_X12_laid_34_b f_X12_laid_63
        simp only [to_bq, l_0, l_1, l_2, l_3, l_4, l_5, l_6, l_7, l_8, l_9, l_10, l_11, l_12, l_13, l_14, l_15, l_16, l_17, l_18, l_19, l_20, l_21, l_22, l_23, l_24, l_25, l_26, l_27, l_28, l_29, l_30, l_31, l_32, l_40, l_41, l_42, l_43, l_44, l_45, l_46, l_47, l_48, l_49, l_50, l_51, l_52, l_53, l_54, l_55, l_56, l_57, l_58, l_59, l_60, l_61, l_62, l_63, l_64, l_72, l_97, l_99, l_100, l_104, l_120, l_122, l_128, l_140, l_255, l_256, l_257, l_258, l_260, l_261, l_262, l_364, l_680, l_700, l_701, l_840, l_999, l_1023, l_1024, l_9999, l_10000, l_1000000, lm]
        simp (disch := first | (with_reducible assumption) | omega | exact ⟨by omega, by omega⟩ | ((with_reducible first | apply Wf.wI | apply Wf.wL | apply Wf.fL | apply Wf.fI | apply Wf.fr); (repeat (with_reducible first | assumption | apply Wf.wI | apply Wf.wL | apply Wf.fL | apply Wf.fI | apply Wf.fr)))) only [ck_225, gI_225, gL_225, pI_225, pZ0_225, pZ1_225, pL_225, gR_225_1, gR_225_3, gR_225_4, gR_225_5, gR_225_6, gR_225_7, gR_225_8, gR_225_9, gR_225_10, gR_225_11, gR_225_12, gR_225_13, gR_225_14, gR_225_15, gR_225_16, gR_225_17, gR_225_18, gR_225_19, gR_225_20, gR_225_21, gR_225_35, gR_225_36, gR_225_38, gR_225_39, gR_225_40, gR_225_41, gR_225_43, gR_225_44, gR_225_45, gR_225_48, gR_225_49, gR_225_50, gR_225_51, gR_225_53, gR_225_54, gR_225_55, gR_225_56, gR_225_58, gR_225_59, gR_225_60, gR_225_61, gR_225_62, gR_225_63, gR_225_66, gR_225_67, bq_n, bd_s, mp_s, rz_0, rz_1, bI_rz, zadd, zmul, zsub, le_nI, lt_nI, eq_nI, neg_nI, gen_nI, neg_lt, neg_le, neg_lt', neg_le', nI_lt0, if_true, if_false, ite_true, ite_false, reduceIte, not_true, not_false, and_true, true_and, and_false, false_and, or_true, true_or, or_false, false_or, eq_self, aI_227, rd_C hL.1, show (nC D ≤ c) = False from eq_false (by omega), hrv, show (c = riv D) = False from eq_false q, e1]
      rw [he]
      exact ih (c + 1) fu τ1 G1 G2 G3 (by omega) (by omega) (g.trans f1) hL1 hS1
/-- is there a net to lay? -/
def ldQ (D : DD) (x : Int32) : Prop := ¬ (x < nI 0 ∨ nI (2 ^ nS D) ≤ x) ∧ TrQ D (ix x) ∧ cpv D (ix x) ≠ none
noncomputable def dLdQ (D : DD) (x : Int32) : DD := cif (ldQ D x) (dLaid D (ix x) ((cpv D (ix x)).getD (0, 0)).2) D
theorem cpv_F (hr4 : D 227 4 ≠ mI 1) : cpv D m = topF D (ost D m) noF noF noF := by
  unfold cpv
  rw [if_neg hr4]; rfl
theorem cpv_r {y : Nat × Nat} (e : cpv D m = some y) : D 227 4 ≠ mI 1 := fun z => by
  unfold cpv at e
  rw [if_pos z] at e; cases e
theorem m_laid (h : MInv σ D) (z : Int32) : Ok (f_X12_laid 225 z σ) (fun r => r.1 = cI (ldQ D z) ∧ Fr Xch σ r.2 ∧ MInv r.2 (dLdQ D z)) := by
  have hW := h.w
  have b7 := h.t.qc7
  have h2 := p2S h.t
  have f0 : Fr Xq σ (ah_wI σ 225 0 (nI 0)) := Fr.q0 (by omega)
  have hq := h.q f0
  have no : ∀ τ, Fr Xq σ τ → ¬ ldQ D z → Ok (some (nI 0, τ)) (fun r => r.1 = cI (ldQ D z) ∧ Fr Xch σ r.2 ∧ MInv r.2 (dLdQ D z)) := fun τ g w => ⟨_, rfl, by rw [cI_f w], g.mono Xq_ch, by unfold dLdQ; rw [cif_f w]; exact h.q g⟩
  unfold f_X12_laid f_X12_laid_0
  simp only [to_bq, l_0, l_1, l_2, l_3, l_4, l_5, l_6, l_7, l_8, l_9, l_10, l_11, l_12, l_13, l_14, l_15, l_16, l_17, l_18, l_19, l_20, l_21, l_22, l_23, l_24, l_25, l_26, l_27, l_28, l_29, l_30, l_31, l_32, l_40, l_41, l_42, l_43, l_44, l_45, l_46, l_47, l_48, l_49, l_50, l_51, l_52, l_53, l_54, l_55, l_56, l_57, l_58, l_59, l_60, l_61, l_62, l_63, l_64, l_72, l_97, l_99, l_100, l_104, l_120, l_122, l_128, l_140, l_255, l_256, l_257, l_258, l_260, l_261, l_262, l_364, l_680, l_700, l_701, l_840, l_999, l_1023, l_1024, l_9999, l_10000, l_1000000, lm]
  simp (disch := first | (with_reducible assumption) | omega | exact ⟨by omega, by omega⟩ | ((with_reducible first | apply Wf.wI | apply Wf.wL | apply Wf.fL | apply Wf.fI | apply Wf.fr); (repeat (with_reducible first | assumption | apply Wf.wI | apply Wf.wL | apply Wf.fL | apply Wf.fI | apply Wf.fr)))) only [ck_225, gI_225, gL_225, pI_225, pZ0_225, pZ1_225, pL_225, gR_225_1, gR_225_3, gR_225_4, gR_225_5, gR_225_6, gR_225_7, gR_225_8, gR_225_9, gR_225_10, gR_225_11, gR_225_12, gR_225_13, gR_225_14, gR_225_15, gR_225_16, gR_225_17, gR_225_18, gR_225_19, gR_225_20, gR_225_21, gR_225_35, gR_225_36, gR_225_38, gR_225_39, gR_225_40, gR_225_41, gR_225_43, gR_225_44, gR_225_45, gR_225_48, gR_225_49, gR_225_50, gR_225_51, gR_225_53, gR_225_54, gR_225_55, gR_225_56, gR_225_58, gR_225_59, gR_225_60, gR_225_61, gR_225_62, gR_225_63, gR_225_66, gR_225_67, bq_n, bd_s, mp_s, rz_0, rz_1, bI_rz, q_4000000000000000000]
  by_cases q : z < nI 0 ∨ nI (2 ^ nS D) ≤ z
  · rw [m_isTree_o hq q, bq_n, if_pos rfl]
    exact no _ f0 (fun w => w.1 q)
  obtain ⟨m, hm, rfl⟩ := nI_set (by omega) (fun z => q (Or.inl z)) (fun z => q (Or.inr z))
  have em : ix (nI m) = m := ix_nI (by omega)
  obtain ⟨τ, e1, e2⟩ := m_isTree_n hq hm
  have f1 : Fr Xq σ τ := f0.trans (e2.mono Xjf_q)
  have h3 := hq.q (e2.mono Xjf_q)
  rw [e1, bq_n]
  by_cases qt : TrQ D m
  · rw [cI_t qt, if_neg (show ¬ (nI 1, τ).1 = nI 0 from (by decide : ¬ nI 1 = nI 0))]
    have cb := cpv_b h qt
    have lb := lv_b cb (by decide)
    cases e : cpv D m with
    | none =>
      obtain ⟨τ2, g1, g2, -⟩ := m_cheapestOf h3 qt
      show Ok (bq _ _ (f_X12_cheapestOf 225 (nI m) τ)) _
      rw [g1, bq_n, e]
      show Ok (if lg_cmp (iL (lv none)) (iL 4000000000000000000) < nI 0 then _ else _) _
      rw [if_neg (by decide)]
      exact no _ (f1.trans (g2.mono (fun a j z => z.1))) (fun w => w.2.2 (by rw [em]; exact e))
    | some y =>
      have hr4 := cpv_r e
      obtain ⟨r1, r2, -⟩ := h.t.rv hr4
      have hy := cb y e
      obtain ⟨τ2, dp, g1, g2, os, ls, nn⟩ := m_cheapestOf2 h3 qt hr4
      have hQ : ldQ D (nI m) := ⟨q, by rw [em]; exact qt, by rw [em, e]; intro w; cases w⟩
      show Ok (bq _ _ (f_X12_cheapestOf 225 (nI m) τ)) _
      rw [g1, bq_n, e]
      show Ok (if lg_cmp (iL (y.1 : Int)) (iL 4000000000000000000) < nI 0 then f_X12_laid_34 5000 225 (iL (y.1 : Int)) (nI 0) τ2 else _) _
      rw [if_pos (by rw [cmp_lt ⟨by omega, by omega⟩ ⟨by omega, by omega⟩]; omega)]
      have hx0 : topF D (ost D m) noF noF noF = some y := by rw [← cpv_F hr4]; exact e
      obtain ⟨l, hl⟩ := LyT_at h.t os.1 hx0
      have hX : FxH D m (ost D m) l y := ⟨h.t, os.1, hr4, hy, hx0, hl⟩
      obtain ⟨τ3, G1, G2, G3, k1, k2, k3, k4⟩ := m_ld34 (σ := τ2) hX (nC D) 0 5000 τ2 noF noF noF (by omega) (by omega) Fr.rfl ls ⟨fun o ho => by omega, fun o _ => ⟨rfl, rfl, rfl⟩⟩
      rw [k1]
      have h4 : MInv τ3 D := k3.1
      obtain ⟨ρ, n1, n2, n3⟩ := m_keepNow h4
      have hWρ := n3.w
      obtain ⟨τ4, j1, j2, j3⟩ := m_ld76 7 0 5000 ρ (by omega) (by omega) hWρ
      have he : f_X12_laid_69 225 τ3 = some (nI 1, τ4) := by
        unfold f_X12_laid_69
        simp only [to_bq, l_0, l_1, l_2, l_3, l_4, l_5, l_6, l_7, l_8, l_9, l_10, l_11, l_12, l_13, l_14, l_15, l_16, l_17, l_18, l_19, l_20, l_21, l_22, l_23, l_24, l_25, l_26, l_27, l_28, l_29, l_30, l_31, l_32, l_40, l_41, l_42, l_43, l_44, l_45, l_46, l_47, l_48, l_49, l_50, l_51, l_52, l_53, l_54, l_55, l_56, l_57, l_58, l_59, l_60, l_61, l_62, l_63, l_64, l_72, l_97, l_99, l_100, l_104, l_120, l_122, l_128, l_140, l_255, l_256, l_257, l_258, l_260, l_261, l_262, l_364, l_680, l_700, l_701, l_840, l_999, l_1023, l_1024, l_9999, l_10000, l_1000000, lm]
        rw [n1, bq_n]
        exact j1
      rw [he]
      refine ⟨_, rfl, by rw [cI_t hQ], ?_, ?_⟩
      · refine ((((f1.mono Xq_ch).trans (g2.mono (fun a j z => Xq_ch a j z.1))).trans (k2.mono (fun a j z => ?_))).trans (n2.mono Xkn_ch)).trans (j2.mono (fun a j z => by unfold Xch; omega))
        unfold Xfx at z
        rcases z with z | z
        · exact Xq_ch a j (Xlo_q a j z)
        · unfold Xch; omega
      · unfold dLdQ
        rw [cif_t hQ, em, e]
        show MInv τ4 (dLaid D m y.2)
        refine ⟨hWρ.fr j2, h.2.1.laid hr4 os hl, fun a j hp => ?_⟩
        by_cases qa : 248 ≤ a ∧ a ≤ 251
        · have hj : j < 7 := by unfold PM at hp; omega
          obtain ⟨w1, w2, w3, w4⟩ := (j3 j hj).1 (by omega)
          have s8 : ah_I ρ 248 (7 + j) = sv (ost D m j) := by
            rw [n2.I (by unfold Xkn; omega)]
            by_cases qj : j < nC D
            · exact (k3.2.1.2.2 j qj).1
            · rw [k2.I (by unfold Xfx Xlo Xv; omega), (nn j (by omega) hj).1, os.2 j (by omega)]; rfl
          have sF : ah_I ρ 266 j = (if j < nC D ∧ j ≠ riv D then nI (dgt D y.2 j / 256) else mI 1) ∧ ah_I ρ 267 j = (if j < nC D ∧ j ≠ riv D then nI (dgt D y.2 j / 16 % 16) else mI 1) ∧ ah_I ρ 268 j = (if j < nC D ∧ j ≠ riv D then nI (dgt D y.2 j % 16) else mI 1) := by
            rw [n2.I (by unfold Xkn; omega), n2.I (by unfold Xkn; omega), n2.I (by unfold Xkn; omega)]
            by_cases qj : j < nC D
            · obtain ⟨u1, u2, u3⟩ := k3.fx qj
              rw [u1, u2, u3]
              by_cases qr : j = riv D
              · rw [if_neg (fun w => w.2 qr), if_neg (fun w => w.2 qr), if_neg (fun w => w.2 qr)]
                exact k4.2 j (Or.inr qr)
              · obtain ⟨d1, d2, d3, -⟩ := dgt_l h.t os.1 hl qj qr
                rw [if_pos ⟨qj, qr⟩, if_pos ⟨qj, qr⟩, if_pos ⟨qj, qr⟩, d1, d2, d3]
                exact k4.1 j qj qr
            · rw [if_neg (fun w => qj w.1), if_neg (fun w => qj w.1), if_neg (fun w => qj w.1)]
              obtain ⟨-, u1, u2, u3⟩ := nn j (by omega) hj
              have xx : ∀ a, 266 ≤ a → a ≤ 268 → ¬ Xfx (nC D) a j := fun a _ _ => by unfold Xfx Xlo Xv; omega
              rw [k2.I (xx _ (by omega) (by omega)), k2.I (xx _ (by omega) (by omega)), k2.I (xx _ (by omega) (by omega))]
              exact ⟨u1, u2, u3⟩
          have ha : a = 248 ∨ a = 249 ∨ a = 250 ∨ a = 251 := by omega
          rcases ha with rfl | rfl | rfl | rfl
          · rw [dLaid_8 hj, w1]; exact s8
          · rw [dLaid_9 hj, w2]; exact sF.1
          · rw [dLaid_10 hj, w3]; exact sF.2.1
          · rw [dLaid_11 hj, w4]; exact sF.2.2
        · rw [dLaid_o (by omega), j2.I (by omega)]
          exact n3.at hp
  · rw [cI_f qt, if_pos rfl]
    exact no _ f1 (fun w => qt (by have := w.2.1; rw [em] at this; exact this))
end
